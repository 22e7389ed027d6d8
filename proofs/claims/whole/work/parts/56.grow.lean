/-! 56: constructors: a layout grows -/
def st1 (V : Vw) (sh : Nat × Nat) (i f : Nat) : Vw := (V.1 + 1, va_up V.2.1 V.1 sh, u2 (ur V.2.2.1 V.1 (fun _ => none)) i f (some V.1), true)
theorem st1_n {V : Vw} {sh : Nat × Nat} {i f : Nat} : (st1 V sh i f).1 = V.1 + 1 := rfl
theorem st1_fl {V : Vw} {sh : Nat × Nat} {i f : Nat} : (st1 V sh i f).2.2.2 = true := rfl
theorem st1_s {V : Vw} {sh : Nat × Nat} {i f j : Nat} (h : j = V.1) : (st1 V sh i f).2.1 j = sh := by
  subst h; show va_up V.2.1 V.1 sh V.1 = sh; simp [va_up]
theorem st1_o {V : Vw} {sh : Nat × Nat} {i f j : Nat} (h : j ≠ V.1) : (st1 V sh i f).2.1 j = V.2.1 j := va_up_ne _ _ h
theorem st1_r {V : Vw} {sh : Nat × Nat} {i f a b : Nat} (h : a = i ∧ b = f) : (st1 V sh i f).2.2.1 a b = some V.1 := u2_s2 h
theorem st1_ro {V : Vw} {sh : Nat × Nat} {i f a b : Nat} (h : ¬ (a = i ∧ b = f)) (h2 : a ≠ V.1) : (st1 V sh i f).2.2.1 a b = V.2.2.1 a b := by
  show u2 (ur V.2.2.1 V.1 (fun _ => none)) i f (some V.1) a b = _
  rw [u2_ne2 h, ur_ne h2]
/-- from one layout to a later one, while cell i is built -/
def GR (i : Nat) (V : Vw) (mi : Mi) (ml : Ml) (V1 : Vw) (m1 : Mi) (l1 : Ml) : Prop := V.1 ≤ V1.1 ∧ V1.2.2.2 = true ∧ (∀ j, j < V.1 → V1.2.1 j = V.2.1 j) ∧ (∀ j, j < V.1 → j ≠ i → V1.2.2.1 j = V.2.2.1 j) ∧ (∀ j, j < V.1 → m1 j = mi j ∧ l1 j = ml j) ∧ ∀ j, V.1 ≤ j → j < V1.1 → m1 j = (fun _ => 0) ∧ l1 j = fun _ => 0
theorem GR.rf {i : Nat} {V : Vw} {mi : Mi} {ml : Ml} (h : V.2.2.2 = true) : GR i V mi ml V mi ml := ⟨Nat.le_refl _, h, fun _ _ => rfl, fun _ _ _ => rfl, fun _ _ => ⟨rfl, rfl⟩, fun j h1 h2 => absurd h2 (by omega)⟩
theorem GR.arr {i f : Nat} {V V1 : Vw} {mi m1 : Mi} {ml l1 : Ml} {sh : Nat × Nat} (h : GR i V mi ml V1 m1 l1) : GR i V mi ml (st1 V1 sh i f) (ur m1 V1.1 (fun _ => 0)) (ur l1 V1.1 (fun _ => 0)) := by
  obtain ⟨h1, h2, h3, h4, h5, h6⟩ := h
  refine ⟨by rw [st1_n]; omega, rfl, fun j hj => by rw [st1_o (by omega)]; exact h3 j hj, fun j hj hi => ?_, fun j hj => by rw [ur_ne (by omega), ur_ne (by omega)]; exact h5 j hj, fun j g1 g2 => ?_⟩
  · funext b
    rw [st1_ro (by omega) (by omega), h4 j hj hi]
  · rw [st1_n] at g2
    by_cases hj : j = V1.1
    · subst hj; rw [ur_s, ur_s]; exact ⟨rfl, rfl⟩
    · rw [ur_ne hj, ur_ne hj]; exact h6 j g1 (by omega)
section Grow
variable {g : Gm} {Y Y' : Ym} {E : Ex} {QF : Qf} {V : Vw} {k : Nat × Nat} {p1 p2 p3 p4 p5 : Nat} {L : List (Option Value)} {st st0 : List Value} {mi : Mi} {ml : Ml} {Post : Ps}
/-- this; N; new int[N]; put -/
theorem a_arrI {i a kd f N : Nat} {x : Int32} (c1 : c_al Y p1 a p2) (h1 : L[a]? = some (some (rf g i))) (c2 : c_ic Y p2 x p3) (c3 : decode Y.2.1 p3 = .ok (.newarray .int, 2) ∧ p4 = p3 + 2) (c4 : c_pf Y p4 kd f p5) (hfl : V.2.2.2 = true) (hx : ¬ x < 0) (hN : x.toNatClampNeg = N) (hb : N ≤ 100000) (hk : k.1 + 1 ≤ Y.2.2.2.2.cells ∧ k.2 + N ≤ Y.2.2.2.2.slots) (hs : V.2.1 i = (kd, 0)) (hi : i < V.1) (ht : isR (fty kd f) = true)
    (kk : At g Y E QF (st1 V (9, N) i f) (k.1 + 1, k.2 + N) p5 L st (ur mi V.1 (fun _ => 0)) (ur ml V.1 (fun _ => 0))) : At g Y E QF V k p1 L st mi ml := by
  refine a_aload c1 h1 <| a_const c2 <| a_newI c3 hfl hx hN hb hk ?_
  exact a_putr c4 (by show va_up V.2.1 V.1 (9, N) i = _; rw [va_up_ne _ _ (by omega)]; exact hs) ht kk
end Grow
