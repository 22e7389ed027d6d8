/-! 03: a small machine over the kit's: memory by cell and slot, one judgement At, rows -/
def TW : List Cond := lw_tbl.filter goodWord
def isNest : Cond → Bool
  | .fieldLinkNest _ _ _ _ _ _ => true
  | .methodLinkNest _ _ _ _ => true
  | _ => false
def NW : List Cond := lw_tbl.filter isNest
theorem tw {w : Cond} (i : Nat) (h : lw_tbl[i]? = some w) (hg : goodWord w = true) : w ∈ TW := List.mem_filter.mpr ⟨List.mem_of_getElem? h, hg⟩
theorem nw {w : Cond} (i : Nat) (h : lw_tbl[i]? = some w) (hg : isNest w = true) : w ∈ NW := List.mem_filter.mpr ⟨List.mem_of_getElem? h, hg⟩
theorem TW_goodIn {big : List Cond} (hb : ∀ w ∈ TW, w ∈ big) : GoodIn big TW := fun w hw => ⟨hb w hw, good_of_word (List.mem_filter.mp hw).2⟩
theorem TW_code {big : List Cond} {y : MethodName} {b : ByteArray} {n : Nat} {r : Option FieldType} (hb : ∀ w ∈ TW, w ∈ big) (h : Cond.code y b n r ∈ TW) : GoodIn big (Cond.code y b n r :: TW) := fun w hw => by
  rcases List.mem_cons.mp hw with e | h1
  · rw [e]; exact TW_goodIn hb _ h
  · exact TW_goodIn hb _ h1
theorem NW_warm {s U : State} (hW : s.WarmedH U.vm) (h : ∀ w ∈ NW, va_Nw w s) : ∀ w ∈ NW, va_Nw w U := by
  intro w hw
  have hn := (List.mem_filter.mp hw).2
  have h1 := h w hw
  cases w <;> first | exact va_Nw.warmF hW h1 | exact va_Nw.warmM hW h1 | (exfalso; revert hn; simp [isNest])
theorem NW_same {u U : State} (hv : u.vm = U.vm) (h : ∀ w ∈ NW, va_Nw w u) : ∀ w ∈ NW, va_Nw w U := by
  intro w hw
  have hn := (List.mem_filter.mp hw).2
  have h1 := h w hw
  cases w <;> first | exact va_Nw.same rfl hv h1 | (exfalso; revert hn; simp [isNest])
abbrev Gm : Type := Launch × Nat × va_G × (Nat → ClassId)
abbrev Mi : Type := Nat → Nat → Int32
abbrev Ml : Type := Nat → Nat → Int64
/-- how many cells, their kinds and lengths, their references, whether the heap ends with them -/
abbrev Vw : Type := Nat × (Nat → Nat × Nat) × (Nat → Nat → Option Nat) × Bool
abbrev Ym : Type := MethodName × ByteArray × Nat × Option FieldType × Room
abbrev Ps : Type := Option Value → Vw → Mi → Ml → Prop
def rf (g : Gm) (i : Nat) : Value := .ref (g.2.1 + i)
def ov (g : Gm) (r : Option Nat) : Value := va_rf (r.map (fun i => g.2.1 + i))
def u2 {α : Type} (f : Nat → Nat → α) (i j : Nat) (x : α) : Nat → Nat → α := fun a b => if a = i ∧ b = j then x else f a b
theorem u2_s {α : Type} {f : Nat → Nat → α} {i j : Nat} {x : α} : u2 f i j x i j = x := by simp [u2]
theorem u2_ne {α : Type} {f : Nat → Nat → α} {i j a b : Nat} {x : α} (h : ¬ (a = i ∧ b = j)) : u2 f i j x a b = f a b := by simp [u2, h]
theorem u2_row {α : Type} {f : Nat → Nat → α} {i j a : Nat} {x : α} (h : a ≠ i) : u2 f i j x a = f a := by funext b; simp [u2, h]
/-- a whole row is put -/
def ur {α : Type} (f : Nat → Nat → α) (i : Nat) (r : Nat → α) : Nat → Nat → α := fun a b => if a = i then r b else f a b
theorem ur_s {α : Type} {f : Nat → Nat → α} {i : Nat} {r : Nat → α} : ur f i r i = r := by funext b; simp [ur]
theorem ur_ne {α : Type} {f : Nat → Nat → α} {i a : Nat} {r : Nat → α} (h : a ≠ i) : ur f i r a = f a := by funext b; simp [ur, h]
def fN : Nat → Nat
  | 0 => 3 | 1 => 14 | 2 => 8 | 3 => 5 | 4 => 3 | 5 => 5 | 6 => 2 | 7 => 12 | 8 => 43 | _ => 0
def fty : Nat → Nat → FieldType
  | 0 => tyX0 | 1 => tyX1 | 2 => tyX2 | 3 => tyX3 | 4 => tyX4 | 5 => tyX5 | 6 => tyX6 | 7 => tyX7 | 8 => tyX8 | _ => fun _ => .int
def fvl (g : Gm) (ty : FieldType) (x : Int32) (y : Int64) (r : Option Nat) : Value := match ty with
  | .long => .long y
  | .object _ => ov g r
  | .array _ => ov g r
  | _ => .int x
def ce (g : Gm) (V : Vw) (mi : Mi) (ml : Ml) (i : Nat) : va_E :=
  if (V.2.1 i).1 = 9 then .inl (g.2.2.2 0, (V.2.1 i).2, .inl (mi i))
  else if (V.2.1 i).1 = 10 then .inl (g.2.2.2 1, (V.2.1 i).2, .inl (mi i))
  else if (V.2.1 i).1 = 11 then .inl (g.2.2.2 2, (V.2.1 i).2, .inr (.inl (ml i)))
  else if (V.2.1 i).1 = 12 then .inl (g.2.2.2 3, (V.2.1 i).2, .inr (.inr (.inr (.inr (fun j => (V.2.2.1 i j).map (fun a => g.2.1 + a))))))
  else .inr ((V.2.1 i).1, (List.range (fN (V.2.1 i).1)).map (fun j => fvl g (fty (V.2.1 i).1 j) (mi i j) (ml i j) (V.2.2.1 i j)))
theorem ce_i {g : Gm} {V : Vw} {mi : Mi} {ml : Ml} {i N : Nat} (h : V.2.1 i = (9, N)) : ce g V mi ml i = .inl (g.2.2.2 0, N, .inl (mi i)) := by simp [ce, h]
theorem ce_z {g : Gm} {V : Vw} {mi : Mi} {ml : Ml} {i N : Nat} (h : V.2.1 i = (10, N)) : ce g V mi ml i = .inl (g.2.2.2 1, N, .inl (mi i)) := by simp [ce, h]
theorem ce_l {g : Gm} {V : Vw} {mi : Mi} {ml : Ml} {i N : Nat} (h : V.2.1 i = (11, N)) : ce g V mi ml i = .inl (g.2.2.2 2, N, .inr (.inl (ml i))) := by simp [ce, h]
theorem ce_q {g : Gm} {V : Vw} {mi : Mi} {ml : Ml} {i N : Nat} (h : V.2.1 i = (12, N)) : ce g V mi ml i = .inl (g.2.2.2 3, N, .inr (.inr (.inr (.inr (fun j => (V.2.2.1 i j).map (fun a => g.2.1 + a)))))) := by simp [ce, h]
def fsl (g : Gm) (V : Vw) (mi : Mi) (ml : Ml) (i k : Nat) : List Value := (List.range (fN k)).map (fun j => fvl g (fty k j) (mi i j) (ml i j) (V.2.2.1 i j))
theorem ce_o {g : Gm} {V : Vw} {mi : Mi} {ml : Ml} {i k : Nat} (hk : k < 9) (h : V.2.1 i = (k, 0)) : ce g V mi ml i = .inr (k, fsl g V mi ml i k) := by
  have h9 : k ≠ 9 := by omega
  have h10 : k ≠ 10 := by omega
  have h11 : k ≠ 11 := by omega
  have h12 : k ≠ 12 := by omega
  simp [ce, h, h9, h10, h11, h12, fsl]
def wl (g : Gm) (V : Vw) (mi : Mi) (ml : Ml) : va_W := (List.range V.1).map (fun i => (g.2.1 + i, ce g V mi ml i))
theorem wl_get {g : Gm} {V : Vw} {mi : Mi} {ml : Ml} {i : Nat} (h : i < V.1) : (wl g V mi ml)[i]? = some (g.2.1 + i, ce g V mi ml i) := by simp [wl, h]
theorem wl_len {g : Gm} {V : Vw} {mi : Mi} {ml : Ml} : (wl g V mi ml).length = V.1 := by simp [wl]
theorem wl_of {g : Gm} {V : Vw} {mi : Mi} {ml : Ml} {i : Nat} {q : Nat × va_E} (h : (wl g V mi ml)[i]? = some q) : i < V.1 ∧ q = (g.2.1 + i, ce g V mi ml i) := by
  have hl : i < V.1 := by have := (List.getElem?_eq_some_iff.mp h).1; rw [wl_len] at this; exact this
  rw [wl_get hl] at h
  exact ⟨hl, (Option.some.inj h).symm⟩
theorem wl_D {g : Gm} {V : Vw} {mi : Mi} {ml : Ml} : va_D (fun q => g.2.1 ≤ q) (wl g V mi ml) := by
  refine ⟨fun i j p q hi hj he => ?_, fun k q hk => ?_⟩
  · have h1 := (wl_of hi).2
    have h2 := (wl_of hj).2
    rw [h1, h2] at he
    simp only at he
    omega
  · rw [(wl_of hk).2]; exact Nat.le_add_right _ _
theorem wl_set {g : Gm} {V V' : Vw} {mi mi' : Mi} {ml ml' : Ml} {i : Nat} {e : va_E} (hi : i < V.1) (hn : V'.1 = V.1) (he : ce g V' mi' ml' i = e) (ho : ∀ j, j ≠ i → ce g V' mi' ml' j = ce g V mi ml j) : (wl g V mi ml).set i (g.2.1 + i, e) = wl g V' mi' ml' := by
  apply List.ext_getElem?
  intro j
  by_cases hj : j < V.1
  · by_cases hij : i = j
    · subst hij
      rw [List.getElem?_set_self (by rw [wl_len]; exact hj), wl_get (by rw [hn]; exact hj), he]
    · rw [List.getElem?_set_ne hij, wl_get hj, wl_get (by rw [hn]; exact hj), ho j (fun h => hij h.symm)]
  · rw [List.getElem?_eq_none (by rw [List.length_set, wl_len]; omega), List.getElem?_eq_none (by rw [wl_len, hn]; omega)]
def Wd (g : Gm) (V : Vw) (mi : Mi) (ml : Ml) (H : Heap) : Prop := (V.2.2.2 = true → H.size = g.2.1 + V.1) ∧ va_P g.2.2.1 vwCl (wl g V mi ml) H ∧ ∀ i, V.1 ≤ i → (V.2.1 i).1 = 99
theorem Wd.lt {g : Gm} {V : Vw} {mi : Mi} {ml : Ml} {H : Heap} (h : Wd g V mi ml H) {i k N : Nat} (hs : V.2.1 i = (k, N)) (hk : k < 99) : i < V.1 := by
  rcases Nat.lt_or_ge i V.1 with q | q
  · exact q
  · have := h.2.2 i q
    rw [hs] at this
    simp only at this
    omega
theorem Wd.at {g : Gm} {V : Vw} {mi : Mi} {ml : Ml} {H : Heap} (h : Wd g V mi ml H) {i k N : Nat} (hs : V.2.1 i = (k, N)) (hk : k < 99) : (wl g V mi ml)[i]? = some (g.2.1 + i, ce g V mi ml i) := wl_get (h.lt hs hk)
def tyA (g : Gm) : List (ClassId × FieldType) := [(g.2.2.2 0, .int), (g.2.2.2 1, .boolean), (g.2.2.2 2, .long), (g.2.2.2 3, .object "ThreeHeirs$Estate")]
def Kx (g : Gm) (U : State) : Prop := va_K g.2.2.1 vwCl (tyA g) U ∧ (∀ w ∈ NW, va_Nw w U) ∧ va_AO "ThreeHeirs$Estate" U ∧ g.2.1 ≤ U.heap.size
def Cx (g : Gm) (Y : Ym) (p : Program) (s : State) (m : MethodId) (args : Array Value) (meth : Method) (c : Code) : Prop :=
  p.tables.exec = Jvm.exec ∧ c.code = Y.2.1 ∧ meth.sig.returnType = Y.2.2.2.1 ∧ c.maxLocals = Y.2.2.1 ∧ s.vm.findClass Y.1.cls = some m.cls ∧ (∀ w ∈ TW, w.before args s = true) ∧ meth.locks = false ∧ meth.name = Y.1.name ∧ Kx g s
def LH (ls : Array Slot) (n : Nat) (L : List (Option Value)) : Prop := ls.size = n ∧ lv_wf ls ∧ ∀ (i : Nat) (v : Value), L[i]? = some (some v) → ls[i]? = some (.val v)
def lpr (L : List (Option Value)) : List (Nat × Value) := (List.range L.length).filterMap (fun i => (L[i]?.join).map (fun v => (i, v)))
theorem lpr_mem {L : List (Option Value)} {j : Nat} {w : Value} : (j, w) ∈ lpr L ↔ L[j]? = some (some w) := by
  constructor
  · intro h
    obtain ⟨i, -, hi⟩ := List.mem_filterMap.mp h
    cases hL : L[i]? with
    | none => rw [hL] at hi; simp at hi
    | some o =>
      cases o with
      | none => rw [hL] at hi; simp at hi
      | some v =>
        rw [hL] at hi
        simp at hi
        rw [← hi.1, hL, hi.2]
  · intro h
    refine List.mem_filterMap.mpr ⟨j, List.mem_range.mpr (List.getElem?_eq_some_iff.mp h).1, ?_⟩
    rw [h]; rfl
theorem LH.has {ls : Array Slot} {n : Nat} {L : List (Option Value)} (h : LH ls n L) : lv_has ls n (lpr L) := ⟨h.1, h.2.1, fun q hq => h.2.2 q.1 q.2 (lpr_mem.mp hq)⟩
def lc (L : List (Option Value)) : Nat → Bool
  | 0 => true
  | i + 1 => match L[i]? with
    | some (some w) => w.category == 1
    | _ => true
theorem lc_no {L : List (Option Value)} {i j : Nat} {w : Value} (hc : lc L i = true) (hj : L[j]? = some (some w)) (hi : j + 1 = i) : w.category = 1 := by
  subst hi
  simp only [lc, hj, beq_iff_eq] at hc
  exact hc
theorem LH.store1 {ls : Array Slot} {n i : Nat} {L : List (Option Value)} {v : Value} (h1 : lv_has ls n ((i, v) :: (lpr L).filter (fun q => !(q.1 == i) && !(q.1 + 1 == i && q.2.category == 2)))) (hc : lc L i = true) : LH ls n (L.set i (some v)) := by
  refine ⟨h1.1, h1.2.1, fun j w hj => ?_⟩
  by_cases hij : i = j
  · subst hij
    have hl : i < (L.set i (some v)).length := (List.getElem?_eq_some_iff.mp hj).1
    rw [List.getElem?_set_self (by simpa using hl)] at hj
    cases hj
    exact h1.2.2 (i, v) List.mem_cons_self
  · rw [List.getElem?_set_ne hij] at hj
    refine h1.2.2 (j, w) (List.mem_cons_of_mem _ (List.mem_filter.mpr ⟨lpr_mem.mpr hj, ?_⟩))
    have e1 : (j == i) = false := by simpa using fun h => hij h.symm
    simp only [e1, Bool.not_false, Bool.true_and, Bool.not_eq_true']
    by_cases hi : j + 1 = i
    · have := lc_no hc hj hi
      simp [this]
    · simp [hi]
theorem LH.store2 {ls : Array Slot} {n i : Nat} {L : List (Option Value)} {v : Value} (h1 : lv_has ls n ((i, v) :: (lpr L).filter (fun q => !(q.1 == i) && (!(q.1 == i + 1) && !(q.1 + 1 == i && q.2.category == 2))))) (hc : lc L i = true) : LH ls n ((L.set i (some v)).set (i + 1) none) := by
  refine ⟨h1.1, h1.2.1, fun j w hj => ?_⟩
  by_cases hi1 : i + 1 = j
  · subst hi1
    rw [List.getElem?_set] at hj
    simp at hj
  rw [List.getElem?_set_ne hi1] at hj
  by_cases hij : i = j
  · subst hij
    have hl : i < (L.set i (some v)).length := (List.getElem?_eq_some_iff.mp hj).1
    rw [List.getElem?_set_self (by simpa using hl)] at hj
    cases hj
    exact h1.2.2 (i, v) List.mem_cons_self
  · rw [List.getElem?_set_ne hij] at hj
    refine h1.2.2 (j, w) (List.mem_cons_of_mem _ (List.mem_filter.mpr ⟨lpr_mem.mpr hj, ?_⟩))
    have e1 : (j == i) = false := by simpa using fun h => hij h.symm
    have e2 : (j == i + 1) = false := by simpa using fun h => hi1 h.symm
    simp only [e1, e2, Bool.not_false, Bool.true_and, Bool.not_eq_true']
    by_cases hi : j + 1 = i
    · have := lc_no hc hj hi
      simp [this]
    · simp [hi]
abbrev Ex : Type := Array Value → State → Prop
abbrev Qf : Type := List Frame → Array Value → State → State → Prop
/-- at pc, with locals L and stack st, memory mi ml over the layout V: the machine comes to QF -/
def At (g : Gm) (Y : Ym) (E : Ex) (QF : Qf) (V : Vw) (k : Nat × Nat) (pc : Nat) (L : List (Option Value)) (st : List Value) (mi : Mi) (ml : Ml) : Prop :=
  ∀ (p : Program) (e : Env) (s : State) (m : MethodId) (args : Array Value) (below : List Frame) (meth : Method) (c : Code) (H : Heap) (locs : List Loc) (ls : Array Slot),
    Cx g Y p s m args meth c → E args s → Wd g V mi ml H → va_S (fun q => g.2.1 ≤ q) s.heap H locs → LH ls Y.2.2.1 L →
    W p g.1 e Y.2.2.2.2 s m args below meth c H locs k.1 k.2 (QF below args s) (F0 m pc ls st)
def QQ (g : Gm) (Post : Ps) : Array Value → State → Outcome → State → Prop := fun _ st oc t => ∃ (v : Option Value) (V1 : Vw) (m1 : Mi) (l1 : Ml), oc = .returned v ∧ Post v V1 m1 l1 ∧ Wd g V1 m1 l1 t.heap ∧ va_F (fun q => g.2.1 ≤ q) st t
def qm (g : Gm) (Y : Ym) (Post : Ps) : Qf := fun below a s => MQ below (QQ g Post) a s Y.2.2.2.2.cells Y.2.2.2.2.slots (fun q => g.2.1 ≤ q)
def Does (g : Gm) (Y : Ym) (V : Vw) (args : List Value) (mi : Mi) (ml : Ml) (Post : Ps) : Prop :=
  Met g.1 Y.1 (Cond.code Y.1 Y.2.1 Y.2.2.1 Y.2.2.2.1 :: TW) Y.2.2.2.2 (va_Pc args (fun U => Wd g V mi ml U.heap ∧ Kx g U)) (QQ g Post) Y.2.2.2.2.cells Y.2.2.2.2.slots (fun q => g.2.1 ≤ q)
