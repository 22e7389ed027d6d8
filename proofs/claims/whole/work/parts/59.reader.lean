/-! 59: Reader's constructor -/
def pr (V : Vw) (i f a : Nat) : Vw := (V.1, V.2.1, u2 V.2.2.1 i f (some a), V.2.2.2)
theorem GR.new {i : Nat} {V V1 : Vw} {mi m1 : Mi} {ml l1 : Ml} {sh : Nat × Nat} (h : GR i V mi ml V1 m1 l1) : GR i V mi ml (vn V1 sh) (ur m1 V1.1 (fun _ => 0)) (ur l1 V1.1 (fun _ => 0)) := by
  obtain ⟨h1, h2, h3, h4, h5, h6⟩ := h
  refine ⟨show V.1 ≤ V1.1 + 1 by omega, rfl, fun j hj => ?_, fun j hj hi => ?_, fun j hj => by rw [ur_ne (by omega), ur_ne (by omega)]; exact h5 j hj, fun j g1 g2 => ?_⟩
  · show va_up V1.2.1 V1.1 sh j = _
    rw [va_up_ne _ _ (by omega)]; exact h3 j hj
  · show ur V1.2.2.1 V1.1 (fun _ => none) j = _
    rw [ur_ne (by omega)]; exact h4 j hj hi
  · have g2' : j < V1.1 + 1 := g2
    by_cases hj : j = V1.1
    · subst hj; rw [ur_s, ur_s]; exact ⟨rfl, rfl⟩
    · rw [ur_ne hj, ur_ne hj]; exact h6 j g1 (by omega)
theorem GR.then {i i' : Nat} {V V1 V2 : Vw} {mi m1 m2 : Mi} {ml l1 l2 : Ml} (h : GR i V mi ml V1 m1 l1) (g : GR i' V1 m1 l1 V2 m2 l2) (hi : V.1 ≤ i') : GR i V mi ml V2 m2 l2 := by
  obtain ⟨h1, h2, h3, h4, h5, h6⟩ := h
  obtain ⟨g1, g2, g3, g4, g5, g6⟩ := g
  refine ⟨by omega, g2, fun j hj => (g3 j (by omega)).trans (h3 j hj), fun j hj hne => (g4 j (by omega) (by omega)).trans (h4 j hj hne), fun j hj => ⟨(g5 j (by omega)).1.trans (h5 j hj).1, (g5 j (by omega)).2.trans (h5 j hj).2⟩, fun j a b => ?_⟩
  by_cases hj : j < V1.1
  · exact ⟨(g5 j hj).1.trans (h6 j a hj).1, (g5 j hj).2.trans (h6 j a hj).2⟩
  · exact g6 j (by omega) b
theorem GR.pr {i f a : Nat} {V V1 : Vw} {mi m1 : Mi} {ml l1 : Ml} (h : GR i V mi ml V1 m1 l1) : GR i V mi ml (pr V1 i f a) m1 l1 := by
  obtain ⟨h1, h2, h3, h4, h5, h6⟩ := h
  exact ⟨h1, h2, h3, fun j hj hi => by show u2 V1.2.2.1 i f (some a) j = _; rw [u2_row hi]; exact h4 j hj hi, h5, h6⟩
theorem vn_s {V : Vw} {sh : Nat × Nat} : (vn V sh).2.1 V.1 = sh := by show va_up V.2.1 V.1 sh V.1 = sh; simp [va_up]
theorem pr_o {V : Vw} {i f a j b : Nat} (h : ¬ (j = i ∧ b = f)) : (pr V i f a).2.2.1 j b = V.2.2.1 j b := u2_ne2 h
theorem pr_s {V : Vw} {i f a : Nat} : (pr V i f a).2.2.1 i f = some a := u2_s2 ⟨rfl, rfl⟩
theorem LayC.pr {V : Vw} {c i f a : Nat} (h : LayC V c) (hc : c ≠ i) : LayC (pr V i f a) c := by
  unfold LayC at *
  rw [pr_o (by omega), pr_o (by omega), pr_o (by omega), pr_o (by omega), pr_o (by omega), pr_o (by omega)]
  exact h
theorem LayE.pr {V : Vw} {c i f a : Nat} (h : LayE V c) (hc : c ≠ i) : LayE (pr V i f a) c := by
  unfold LayE at *
  rw [pr_o (by omega), pr_o (by omega), pr_o (by omega), pr_o (by omega), pr_o (by omega)]
  exact h
theorem c_X5_init {g : Gm} {V : Vw} {mi : Mi} {ml : Ml} {i s : Nat} (hs : V.2.1 i = (5, 0)) (hfl : V.2.2.2 = true) (hn : V.1 = i + 1) : Does g YX5_init V [rf g i, rf g s] mi ml (fun v V1 m1 l1 => v = none ∧ V1.1 = i + 8 ∧ GR i V mi ml V1 m1 l1 ∧ LayC V1 (i + 1) ∧ V1.2.2.1 i 0 = some s ∧ V1.2.2.1 i 1 = some (i + 1)) := by
  refine does_of (L := [some (rf g i), some (rf g s)]) okX5_init rfl (Nat.le_of_ble_eq_true rfl) rfl ?_
  refine a_aload iX5_init_0 rfl <| a_objInit iX5_init_1 (by decide) <| a_aload iX5_init_4 rfl <| a_new iX5_init_5 hfl (by decide) <| a_dup iX5_init_8 rfl <| ?_
  have e1 : (vn V (1, 0)).2.1 (i + 1) = (1, 0) := by rw [← hn]; exact vn_s
  rw [hn]
  refine a_callI iX5_init_9.1 okX1_init isX1_init iX5_init_9.2 (As := []) (c_X1_init e1 rfl (show V.1 + 1 = i + 1 + 1 by omega)) rfl rfl (Nat.le_of_ble_eq_true rfl) ⟨Nat.le_of_ble_eq_true rfl, Nat.le_of_ble_eq_true rfl⟩ ?_
  intro v V1 m1 l1 hp
  obtain ⟨rfl, p1, p2, p3⟩ := hp
  have q := ((GR.rf (i := i) (mi := mi) (ml := ml) hfl).new (sh := (1, 0)))
  rw [hn] at q
  have q2 := q.then p2 (by omega)
  have h5 : V1.2.1 i = (5, 0) := (q2.2.2.1 i (by omega)).trans hs
  refine a_putr iX5_init_12 h5 rfl <| a_aload iX5_init_15 rfl <| a_aload iX5_init_16 rfl <| a_putr iX5_init_17 h5 rfl <| ?_
  refine a_vret iX5_init_20 rfl ⟨Nat.le_of_ble_eq_true rfl, Nat.le_of_ble_eq_true rfl⟩ ⟨rfl, p1, (q2.pr (f := 1) (a := i + 1)).pr (f := 0) (a := s), (p3.pr (by omega)).pr (by omega), pr_s, ?_⟩
  exact (pr_o (by omega)).trans pr_s
