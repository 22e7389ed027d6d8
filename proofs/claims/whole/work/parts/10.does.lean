/-! 10: contracts by values; layouts -/
def DoI (g : Gm) (Y : Ym) (V : Vw) (args : List Value) (mi : Mi) (ml : Ml) (r : Int32) (mi' : Mi) (ml' : Ml) : Prop := Does g Y V args mi ml (fun v V1 m1 l1 => v = some (.int r) ∧ V1 = V ∧ m1 = mi' ∧ l1 = ml')
def DoV (g : Gm) (Y : Ym) (V : Vw) (args : List Value) (mi : Mi) (ml : Ml) (mi' : Mi) (ml' : Ml) : Prop := Does g Y V args mi ml (fun v V1 m1 l1 => v = none ∧ V1 = V ∧ m1 = mi' ∧ l1 = ml')
def pI (V : Vw) (r : Int32) (mi' : Mi) (ml' : Ml) : Ps := fun v V1 m1 l1 => v = some (.int r) ∧ V1 = V ∧ m1 = mi' ∧ l1 = ml'
def pV (V : Vw) (mi' : Mi) (ml' : Ml) : Ps := fun v V1 m1 l1 => v = none ∧ V1 = V ∧ m1 = mi' ∧ l1 = ml'
theorem og {α : Type} {c : Prop} [Decidable c] {A : Option α} {r : α} (h : (if c then A else none) = some r) : c ∧ A = some r := by
  by_cases hc : c
  · rw [if_pos hc] at h; exact ⟨hc, h⟩
  · rw [if_neg hc] at h; cases h
theorem ob {α β : Type} {o : Option α} {k : α → Option β} {r : β} (h : o.bind k = some r) : ∃ a, o = some a ∧ k a = some r := by
  cases o with
  | none => cases h
  | some a => exact ⟨a, rfl, h⟩
theorem ot {α : Type} {c : Prop} [Decidable c] {A B : Option α} {r : α} (hc : c) (h : (if c then A else B) = some r) : A = some r := by rw [if_pos hc] at h; exact h
theorem oe {α : Type} {c : Prop} [Decidable c] {A B : Option α} {r : α} (hc : ¬ c) (h : (if c then A else B) = some r) : B = some r := by rw [if_neg hc] at h; exact h
theorem oz {α : Type} {r : α} {P : Prop} (h : (none : Option α) = some r) : P := by cases h
/-- an index is in a row of n -/
abbrev inb (x : Int32) (n : Nat) : Prop := ¬ x < 0 ∧ x.toNatClampNeg < n
theorem inb_vp {x : Int32} {n : Nat} (h : inb x n) : vp_in x n := fun q => q.elim h.1 (fun q => absurd h.2 (Nat.not_lt.mpr q))
def subP : List (Option Value) → List (Option Value) → Prop
  | [], _ => True
  | none :: a, b => subP a b.tail
  | some v :: a, b => b.head? = some (some v) ∧ subP a b.tail
theorem subP_get : ∀ (a b : List (Option Value)), subP a b → ∀ (i : Nat) (v : Value), a[i]? = some (some v) → b[i]? = some (some v)
  | [], _, _, i, v, h => by simp at h
  | none :: a, b, hs, 0, v, h => by simp at h
  | some w :: a, b, hs, 0, v, h => by
    have e : w = v := by simpa using h
    subst e
    rw [← List.head?_eq_getElem?]
    exact hs.1
  | none :: a, b, hs, i + 1, v, h => by
    have h1 := subP_get a b.tail hs i v (by simpa using h)
    rw [List.getElem?_tail] at h1
    exact h1
  | some w :: a, b, hs, i + 1, v, h => by
    have h1 := subP_get a b.tail hs.2 i v (by simpa using h)
    rw [List.getElem?_tail] at h1
    exact h1
section Do
variable {g : Gm} {Y Y' : Ym} {E : Ex} {QF : Qf} {V : Vw} {k : Nat × Nat} {pc pc' tgt : Nat} {L L' : List (Option Value)} {st st0 : List Value} {mi mi' : Mi} {ml ml' : Ml} {r : Int32}
theorem a_sub (h : subP L' L) (kk : At g Y E QF V k pc L' st mi ml) : At g Y E QF V k pc L st mi ml :=
  fun p e s m args below meth c H locs ls C hE hW hS hL => kk p e s m args below meth c H locs ls C hE hW hS ⟨hL.1, hL.2.1, fun i v hi => hL.2.2 i v (subP_get _ _ h i v hi)⟩
def noA (Y : Ym) : Prop := Y.2.2.2.2.cells = 0 ∧ Y.2.2.2.2.slots = 0
theorem a_cVi {i kd n : Nat} {As : List Value} (ct : c_V Y pc Y' pc' ∧ fitR Y Y') (hm : m_ok Y' n) (hi : m_in Y' kd) (h0 : noA Y') (hs : V.2.1 i = (kd, 0)) (hM : DoI g Y' V (rf g i :: As) mi ml r mi' ml') (hn : As.length = n) (hst : st0 = As.reverse ++ rf g i :: st) (hw : (st.map fun v => v.category).sum ≤ 8) (hf : fitE k Y)
    (kk : At g Y E QF V k pc' L (.int r :: st) mi' ml') : At g Y E QF V k pc L st0 mi ml :=
  a_callV ct.1 hm hi ct.2 hs hM hn hst hw (by unfold fitK; rw [h0.1, h0.2]; exact hf) (fun v V1 m1 l1 hp => by obtain ⟨rfl, rfl, rfl, rfl⟩ := hp; rw [h0.1, h0.2]; exact kk)
theorem a_cVv {i kd n : Nat} {As : List Value} (ct : c_V Y pc Y' pc' ∧ fitR Y Y') (hm : m_ok Y' n) (hi : m_in Y' kd) (h0 : noA Y') (hs : V.2.1 i = (kd, 0)) (hM : DoV g Y' V (rf g i :: As) mi ml mi' ml') (hn : As.length = n) (hst : st0 = As.reverse ++ rf g i :: st) (hw : (st.map fun v => v.category).sum ≤ 8) (hf : fitE k Y)
    (kk : At g Y E QF V k pc' L st mi' ml') : At g Y E QF V k pc L st0 mi ml :=
  a_callV ct.1 hm hi ct.2 hs hM hn hst hw (by unfold fitK; rw [h0.1, h0.2]; exact hf) (fun v V1 m1 l1 hp => by obtain ⟨rfl, rfl, rfl, rfl⟩ := hp; rw [h0.1, h0.2]; exact kk)
theorem a_cSi {n : Nat} {As : List Value} (ct : c_S Y pc Y' pc' ∧ fitR Y Y') (hm : m_ok Y' n) (hi : Cond.static Y'.1 ∈ TW) (h0 : noA Y') (hM : DoI g Y' V As mi ml r mi' ml') (hn : As.length = n) (hst : st0 = As.reverse ++ st) (hw : (st.map fun v => v.category).sum ≤ 8) (hf : fitE k Y)
    (kk : At g Y E QF V k pc' L (.int r :: st) mi' ml') : At g Y E QF V k pc L st0 mi ml :=
  a_callS ct.1 hm hi ct.2 hM hn hst hw (by unfold fitK; rw [h0.1, h0.2]; exact hf) (fun v V1 m1 l1 hp => by obtain ⟨rfl, rfl, rfl, rfl⟩ := hp; rw [h0.1, h0.2]; exact kk)
theorem a_tbv {lo hi : Int} {dt : Nat} {ts : List Nat} {x v : Int32} (ct : c_tb Y pc lo hi dt ts) (hx : x = v) (hv : (¬ v.toInt < lo ∧ ¬ hi < v.toInt) ∧ ts[(v.toInt - lo).toNat]? = some tgt) (kk : At g Y E QF V k tgt L st mi ml) : At g Y E QF V k pc L (.int x :: st) mi ml := by
  subst hx; exact a_tb ct hv.1.1 hv.1.2 hv.2 kk
def alne (x : Int32) : Nat → Prop
  | 0 => True
  | n + 1 => alne x n ∧ ¬ x = Int32.ofNat n
theorem alne_get {x : Int32} : ∀ (n : Nat), alne x n → ∀ j, j < n → ¬ x = Int32.ofNat j
  | 0, _, j, h => absurd h (by omega)
  | n + 1, h, j, hj => by
    rcases (show j < n ∨ j = n by omega) with q | q
    · exact alne_get n h.1 j q
    · subst q; exact h.2
theorem tb_out {x : Int32} {n : Nat} (hn : n < 1000) (h : alne x n) : x.toInt < 0 ∨ ((n : Int) - 1) < x.toInt := by
  rcases Int.lt_or_le x.toInt 0 with q | q
  · exact Or.inl q
  · right
    rcases Int.lt_or_le ((n : Int) - 1) x.toInt with q2 | q2
    · exact q2
    · exfalso
      refine alne_get n h x.toInt.toNat (by omega) ?_
      apply Int32.toInt_inj.mp
      have h1 : (nI x.toInt.toNat).toInt = (x.toInt.toNat : Int) := nI_toInt (by omega)
      have h2 : (Int32.ofNat x.toInt.toNat).toInt = (x.toInt.toNat : Int) := h1
      rw [h2]; omega
theorem a_tbd {hi : Int} {dt n : Nat} {ts : List Nat} {x : Int32} (ct : c_tb Y pc 0 hi dt ts) (hn : n < 1000 ∧ hi = (n : Int) - 1) (h : alne x n) (kk : At g Y E QF V k dt L st mi ml) : At g Y E QF V k pc L (.int x :: st) mi ml :=
  a_tbo ct (by rw [hn.2]; exact tb_out hn.1 h) kk
theorem a_lwv {dt : Nat} {ts : List (Int × Nat)} {x v : Int32} (ct : c_lw Y pc dt ts) (hx : x = v) (hv : lkT ts dt v.toInt = tgt) (kk : At g Y E QF V k tgt L st mi ml) : At g Y E QF V k pc L (.int x :: st) mi ml := by
  subst hx; subst hv; exact a_lw ct kk
theorem lkT_d {dt : Nat} {x : Int} : ∀ (ts : List (Int × Nat)), (∀ q ∈ ts, ¬ x = q.1) → lkT ts dt x = dt
  | [], _ => rfl
  | (a, t) :: r, h => by
    simp only [lkT]
    rw [if_neg (h (a, t) List.mem_cons_self)]
    exact lkT_d r (fun q hq => h q (List.mem_cons_of_mem _ hq))
theorem a_lwd {dt : Nat} {ts : List (Int × Nat)} {x : Int32} (ct : c_lw Y pc dt ts) (h : ∀ q ∈ ts, ¬ x.toInt = q.1) (kk : At g Y E QF V k dt L st mi ml) : At g Y E QF V k pc L (.int x :: st) mi ml := by
  refine a_lw ct ?_
  rw [lkT_d ts h]; exact kk
end Do
def FU : Nat := 100000
def LayC (V : Vw) (c : Nat) : Prop := V.2.1 c = (1, 0) ∧ V.2.1 (c + 1) = (9, 12) ∧ V.2.1 (c + 2) = (9, 8) ∧ V.2.1 (c + 3) = (9, 8) ∧ V.2.1 (c + 4) = (9, 10) ∧ V.2.1 (c + 5) = (9, 10) ∧ V.2.1 (c + 6) = (9, 10) ∧
  V.2.2.1 c 8 = some (c + 1) ∧ V.2.2.1 c 9 = some (c + 2) ∧ V.2.2.1 c 10 = some (c + 3) ∧ V.2.2.1 c 11 = some (c + 4) ∧ V.2.2.1 c 12 = some (c + 5) ∧ V.2.2.1 c 13 = some (c + 6)
def LayE (V : Vw) (e : Nat) : Prop := V.2.1 e = (2, 0) ∧ V.2.1 (e + 1) = (9, 3) ∧ V.2.1 (e + 2) = (9, 3) ∧ V.2.1 (e + 3) = (9, 8) ∧ V.2.1 (e + 4) = (9, 24) ∧ V.2.1 (e + 5) = (9, 80) ∧
  V.2.2.1 e 3 = some (e + 1) ∧ V.2.2.1 e 4 = some (e + 2) ∧ V.2.2.1 e 5 = some (e + 3) ∧ V.2.2.1 e 6 = some (e + 4) ∧ V.2.2.1 e 7 = some (e + 5)
