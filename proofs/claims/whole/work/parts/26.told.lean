/-! 26: against, met, wrong about, notes, envy; told, heir, thing, want, known, logged -/
theorem in_casesN (x : Int32) (a b : Nat) (ha : a < 2 ^ 31) (hb : b < 2 ^ 31) : (∃ n : Nat, a ≤ n ∧ n ≤ b ∧ x = nI n ∧ f_X7_isWithin x (nI a) (nI b) = some (nI 1)) ∨ (f_X7_isWithin x (nI a) (nI b) = some (nI 0) ∧ ∀ k : Nat, a ≤ k → k ≤ b → (x = nI k) = False) := by
  rcases in_cases x a b ha hb with h | h
  · exact Or.inl h
  · refine Or.inr ⟨h, fun k h1 h2 => eq_false (fun e => ?_)⟩
    subst e
    unfold f_X7_isWithin at h
    simp (disch := omega) only [fa_lit, nI_add, pk_sub, pk_mul, nI_clamp, nI_leI, nI_ltI, nI_eq, inb, u2_s2, u2_ne2, if_pos, if_neg, Option.bind_some, nx, add_n0, cO, cN, cF, cU, true_or, or_true, if_true, if_false, not_true_eq_false, not_false_eq_true, true_and, and_true] at h
    have := Option.some.inj h
    exact absurd this (by decide)
theorem j_ag2 {mi mj : Mi} {ld m wn sn : Nat} (hK : RK mi mj ld m wn sn) (x y : Int32) {w : Nat} (hw : w < wn) (K1 K2 : Int32 → Int32 → Option Int32) :
    ∀ (c n1 n2 k : Nat) (s : Int32), wn - k = c → k ≤ wn → c < n1 → c < n2 → ∃ r : Int32, lp_X7_against_42 ld mi x y (nI w) K1 n1 s (nI k) = K1 r (nI wn) ∧ lp_X8_against_39 mj x y (nI w) K2 n2 s (nI k) = K2 r (nI wn) := by
  obtain ⟨c1, c2, c3, -⟩ := w_cnt hK
  obtain ⟨hm8, -, -, -, a4, a5, a6, ⟨at', at1, at2⟩, av, av1, av2⟩ := w_fact hK w hw
  intro c
  induction c with
  | zero =>
    intro n1 n2 k s h2 h3 h5 h6
    obtain ⟨n1, rfl⟩ : ∃ n, n1 = n + 1 := ⟨n1 - 1, by omega⟩
    obtain ⟨n2, rfl⟩ : ∃ n, n2 = n + 1 := ⟨n2 - 1, by omega⟩
    have : k = wn := by omega
    subst this
    exact ⟨s, by unfold lp_X7_against_42; simp (disch := omega) only [fa_lit, nI_add, pk_sub, pk_mul, nI_clamp, nI_leI, nI_ltI, nI_eq, inb, u2_s2, u2_ne2, if_pos, if_neg, Option.bind_some, nx, add_n0, cO, cN, cF, cU, true_or, or_true, if_true, if_false, not_true_eq_false, not_false_eq_true, true_and, and_true, c2], by unfold lp_X8_against_39; simp (disch := omega) only [fa_lit, nI_add, pk_sub, pk_mul, nI_clamp, nI_leI, nI_ltI, nI_eq, inb, u2_s2, u2_ne2, if_pos, if_neg, Option.bind_some, nx, add_n0, cO, cN, cF, cU, true_or, or_true, if_true, if_false, not_true_eq_false, not_false_eq_true, true_and, and_true, c3]⟩
  | succ c ih =>
    intro n1 n2 k s h2 h3 h5 h6
    obtain ⟨n1, rfl⟩ : ∃ n, n1 = n + 1 := ⟨n1 - 1, by omega⟩
    obtain ⟨n2, rfl⟩ : ∃ n, n2 = n + 1 := ⟨n2 - 1, by omega⟩
    obtain ⟨-, -, -, -, b4, b5, b6, ⟨bt, bt1, bt2⟩, bv, bv1, bv2⟩ := w_fact hK k (by omega)
    obtain ⟨z, z2, z3⟩ := ih n1 n2 (k + 1) s (by omega) (by omega) (by omega) (by omega)
    obtain ⟨z', z2', z3'⟩ := ih n1 n2 (k + 1) (s + nI 1) (by omega) (by omega) (by omega) (by omega)
    unfold lp_X7_against_42 lp_X8_against_39
    by_cases q1 : mi (ld + 4) w = x
    · by_cases q2 : mi (ld + 4) k = y
      · by_cases q3 : at' = bt
        · by_cases q4 : av = bv
          · exact ⟨z, by simp (disch := omega) only [fa_lit, nI_add, pk_sub, pk_mul, nI_clamp, nI_leI, nI_ltI, nI_eq, inb, u2_s2, u2_ne2, if_pos, if_neg, Option.bind_some, nx, add_n0, cO, cN, cF, cU, true_or, or_true, if_true, if_false, not_true_eq_false, not_false_eq_true, true_and, and_true, c2, q1, q2, f_X1_areUnlike, at2, bt2, av2, bv2, z2], by simp (disch := omega) only [fa_lit, nI_add, pk_sub, pk_mul, nI_clamp, nI_leI, nI_ltI, nI_eq, inb, u2_s2, u2_ne2, if_pos, if_neg, Option.bind_some, nx, add_n0, cO, cN, cF, cU, true_or, or_true, if_true, if_false, not_true_eq_false, not_false_eq_true, true_and, and_true, c3, a4, a5, a6, b4, b5, b6, q1, q2, at2, bt2, av2, bv2, z3]⟩
          · exact ⟨z', by simp (disch := omega) only [fa_lit, nI_add, pk_sub, pk_mul, nI_clamp, nI_leI, nI_ltI, nI_eq, inb, u2_s2, u2_ne2, if_pos, if_neg, Option.bind_some, nx, add_n0, cO, cN, cF, cU, true_or, or_true, if_true, if_false, not_true_eq_false, not_false_eq_true, true_and, and_true, c2, q1, q2, f_X1_areUnlike, at2, bt2, av2, bv2, z2'], by simp (disch := omega) only [fa_lit, nI_add, pk_sub, pk_mul, nI_clamp, nI_leI, nI_ltI, nI_eq, inb, u2_s2, u2_ne2, if_pos, if_neg, Option.bind_some, nx, add_n0, cO, cN, cF, cU, true_or, or_true, if_true, if_false, not_true_eq_false, not_false_eq_true, true_and, and_true, c3, a4, a5, a6, b4, b5, b6, q1, q2, at2, bt2, av2, bv2, z3']⟩
        · exact ⟨z, by simp (disch := omega) only [fa_lit, nI_add, pk_sub, pk_mul, nI_clamp, nI_leI, nI_ltI, nI_eq, inb, u2_s2, u2_ne2, if_pos, if_neg, Option.bind_some, nx, add_n0, cO, cN, cF, cU, true_or, or_true, if_true, if_false, not_true_eq_false, not_false_eq_true, true_and, and_true, c2, q1, q2, f_X1_areUnlike, at2, bt2, z2], by simp (disch := omega) only [fa_lit, nI_add, pk_sub, pk_mul, nI_clamp, nI_leI, nI_ltI, nI_eq, inb, u2_s2, u2_ne2, if_pos, if_neg, Option.bind_some, nx, add_n0, cO, cN, cF, cU, true_or, or_true, if_true, if_false, not_true_eq_false, not_false_eq_true, true_and, and_true, c3, a4, a5, b4, b5, q1, q2, at2, bt2, z3]⟩
      · exact ⟨z, by simp (disch := omega) only [fa_lit, nI_add, pk_sub, pk_mul, nI_clamp, nI_leI, nI_ltI, nI_eq, inb, u2_s2, u2_ne2, if_pos, if_neg, Option.bind_some, nx, add_n0, cO, cN, cF, cU, true_or, or_true, if_true, if_false, not_true_eq_false, not_false_eq_true, true_and, and_true, c2, q1, q2, z2], by simp (disch := omega) only [fa_lit, nI_add, pk_sub, pk_mul, nI_clamp, nI_leI, nI_ltI, nI_eq, inb, u2_s2, u2_ne2, if_pos, if_neg, Option.bind_some, nx, add_n0, cO, cN, cF, cU, true_or, or_true, if_true, if_false, not_true_eq_false, not_false_eq_true, true_and, and_true, c3, a4, b4, q1, q2, z3]⟩
    · exact ⟨z, by simp (disch := omega) only [fa_lit, nI_add, pk_sub, pk_mul, nI_clamp, nI_leI, nI_ltI, nI_eq, inb, u2_s2, u2_ne2, if_pos, if_neg, Option.bind_some, nx, add_n0, cO, cN, cF, cU, true_or, or_true, if_true, if_false, not_true_eq_false, not_false_eq_true, true_and, and_true, c2, q1, z2], by simp (disch := omega) only [fa_lit, nI_add, pk_sub, pk_mul, nI_clamp, nI_leI, nI_ltI, nI_eq, inb, u2_s2, u2_ne2, if_pos, if_neg, Option.bind_some, nx, add_n0, cO, cN, cF, cU, true_or, or_true, if_true, if_false, not_true_eq_false, not_false_eq_true, true_and, and_true, c3, a4, q1, z3]⟩
theorem j_ag1 {mi mj : Mi} {ld m wn sn : Nat} (hK : RK mi mj ld m wn sn) (x y : Int32) :
    ∀ (c n1 n2 k : Nat) (s : Int32), wn - k = c → k ≤ wn → c < n1 → c < n2 → ∃ r : Int32, lp_X7_against_27 ld mi x y (fun a _ => some a) n1 s (nI k) = some r ∧ lp_X8_against_27 mj x y (fun a _ => some a) n2 s (nI k) = some r := by
  obtain ⟨c1, c2, c3, -⟩ := w_cnt hK
  intro c
  induction c with
  | zero =>
    intro n1 n2 k s h2 h3 h5 h6
    obtain ⟨n1, rfl⟩ : ∃ n, n1 = n + 1 := ⟨n1 - 1, by omega⟩
    obtain ⟨n2, rfl⟩ : ∃ n, n2 = n + 1 := ⟨n2 - 1, by omega⟩
    exact ⟨s, by unfold lp_X7_against_27; simp (disch := omega) only [fa_lit, nI_add, pk_sub, pk_mul, nI_clamp, nI_leI, nI_ltI, nI_eq, inb, u2_s2, u2_ne2, if_pos, if_neg, Option.bind_some, nx, add_n0, cO, cN, cF, cU, true_or, or_true, if_true, if_false, not_true_eq_false, not_false_eq_true, true_and, and_true, c2], by unfold lp_X8_against_27; simp (disch := omega) only [fa_lit, nI_add, pk_sub, pk_mul, nI_clamp, nI_leI, nI_ltI, nI_eq, inb, u2_s2, u2_ne2, if_pos, if_neg, Option.bind_some, nx, add_n0, cO, cN, cF, cU, true_or, or_true, if_true, if_false, not_true_eq_false, not_false_eq_true, true_and, and_true, c3]⟩
  | succ c ih =>
    intro n1 n2 k s h2 h3 h5 h6
    obtain ⟨n1, rfl⟩ : ∃ n, n1 = n + 1 := ⟨n1 - 1, by omega⟩
    obtain ⟨n2, rfl⟩ : ∃ n, n2 = n + 1 := ⟨n2 - 1, by omega⟩
    obtain ⟨r, r1, r2⟩ := j_ag2 hK x y (show k < wn by omega) (fun v3_17 v5_17 => lp_X7_against_27 ld mi x y (fun a _ => some a) n1 v3_17 (nI (k + 1))) (fun v3_24 v5_24 => lp_X8_against_27 mj x y (fun a _ => some a) n2 v3_24 (nI (k + 1))) wn FU FU 0 s (by omega) (by omega) (by rw [FU_eq]; omega) (by rw [FU_eq]; omega)
    obtain ⟨z, z2, z3⟩ := ih n1 n2 (k + 1) r (by omega) (by omega) (by omega) (by omega)
    refine ⟨z, ?_, ?_⟩
    · unfold lp_X7_against_27; simp (disch := omega) only [fa_lit, nI_add, pk_sub, pk_mul, nI_clamp, nI_leI, nI_ltI, nI_eq, inb, u2_s2, u2_ne2, if_pos, if_neg, Option.bind_some, nx, add_n0, cO, cN, cF, cU, true_or, or_true, if_true, if_false, not_true_eq_false, not_false_eq_true, true_and, and_true, c2, r1, z2]
    · unfold lp_X8_against_27; simp (disch := omega) only [fa_lit, nI_add, pk_sub, pk_mul, nI_clamp, nI_leI, nI_ltI, nI_eq, inb, u2_s2, u2_ne2, if_pos, if_neg, Option.bind_some, nx, add_n0, cO, cN, cF, cU, true_or, or_true, if_true, if_false, not_true_eq_false, not_false_eq_true, true_and, and_true, c3, r2, z3]
theorem J_against {mi mj : Mi} {ld m wn sn : Nat} (hK : RK mi mj ld m wn sn) (x y : Int32) : ∃ r, f_X7_against mi ld x y = some r ∧ f_X8_against mj x y = some r := by
  unfold f_X7_against f_X8_against
  obtain ⟨c1, c2, c3, -⟩ := w_cnt hK
  rcases j_isHeir x with ⟨a, ha, rfl, e1, e2⟩ | ⟨e1, e2⟩
  · rcases j_isHeir y with ⟨b, hb, rfl, e3, e4⟩ | ⟨e3, e4⟩
    · by_cases hab : a = b
      · exact ⟨(-nI 1000000001), by simp (disch := omega) only [fa_lit, nI_add, pk_sub, pk_mul, nI_clamp, nI_leI, nI_ltI, nI_eq, inb, u2_s2, u2_ne2, if_pos, if_neg, Option.bind_some, nx, add_n0, cO, cN, cF, cU, true_or, or_true, if_true, if_false, not_true_eq_false, not_false_eq_true, true_and, and_true, e1, e3], by simp (disch := omega) only [fa_lit, nI_add, pk_sub, pk_mul, nI_clamp, nI_leI, nI_ltI, nI_eq, inb, u2_s2, u2_ne2, if_pos, if_neg, Option.bind_some, nx, add_n0, cO, cN, cF, cU, true_or, or_true, if_true, if_false, not_true_eq_false, not_false_eq_true, true_and, and_true, e2, e4]⟩
      · obtain ⟨r, r1, r2⟩ := j_ag1 hK (nI a) (nI b) wn FU FU 0 (nI 0) (by omega) (by omega) (by rw [FU_eq]; omega) (by rw [FU_eq]; omega)
        exact ⟨r, by simp (disch := omega) only [fa_lit, nI_add, pk_sub, pk_mul, nI_clamp, nI_leI, nI_ltI, nI_eq, inb, u2_s2, u2_ne2, if_pos, if_neg, Option.bind_some, nx, add_n0, cO, cN, cF, cU, true_or, or_true, if_true, if_false, not_true_eq_false, not_false_eq_true, true_and, and_true, e1, e3, r1], by simp (disch := omega) only [fa_lit, nI_add, pk_sub, pk_mul, nI_clamp, nI_leI, nI_ltI, nI_eq, inb, u2_s2, u2_ne2, if_pos, if_neg, Option.bind_some, nx, add_n0, cO, cN, cF, cU, true_or, or_true, if_true, if_false, not_true_eq_false, not_false_eq_true, true_and, and_true, e2, e4, r2]⟩
    · exact ⟨(-nI 1000000001), by simp (disch := omega) only [fa_lit, nI_add, pk_sub, pk_mul, nI_clamp, nI_leI, nI_ltI, nI_eq, inb, u2_s2, u2_ne2, if_pos, if_neg, Option.bind_some, nx, add_n0, cO, cN, cF, cU, true_or, or_true, if_true, if_false, not_true_eq_false, not_false_eq_true, true_and, and_true, e1, e3], by simp (disch := omega) only [fa_lit, nI_add, pk_sub, pk_mul, nI_clamp, nI_leI, nI_ltI, nI_eq, inb, u2_s2, u2_ne2, if_pos, if_neg, Option.bind_some, nx, add_n0, cO, cN, cF, cU, true_or, or_true, if_true, if_false, not_true_eq_false, not_false_eq_true, true_and, and_true, e2, e4]⟩
  · exact ⟨(-nI 1000000001), by simp (disch := omega) only [fa_lit, nI_add, pk_sub, pk_mul, nI_clamp, nI_leI, nI_ltI, nI_eq, inb, u2_s2, u2_ne2, if_pos, if_neg, Option.bind_some, nx, add_n0, cO, cN, cF, cU, true_or, or_true, if_true, if_false, not_true_eq_false, not_false_eq_true, true_and, and_true, e1], by simp (disch := omega) only [fa_lit, nI_add, pk_sub, pk_mul, nI_clamp, nI_leI, nI_ltI, nI_eq, inb, u2_s2, u2_ne2, if_pos, if_neg, Option.bind_some, nx, add_n0, cO, cN, cF, cU, true_or, or_true, if_true, if_false, not_true_eq_false, not_false_eq_true, true_and, and_true, e2]⟩
theorem j_isMet {mi mj : Mi} {ld m wn sn : Nat} (hK : RK mi mj ld m wn sn) (hE : RE mi 11 (mj 238)) (w : Nat) (hw : w < wn) : ∃ b : Nat, b < 2 ∧ f_X2_isMet mi 11 ld (nI w) = some (nI b) ∧ f_X8_isMet mj 238 (nI w) = some (nI b) := by
  obtain ⟨hm, hwn, -, -, a4, a5, a6, ⟨t, t1, t2⟩, v, v1, v2⟩ := w_fact hK w hw
  obtain ⟨-, -, -, -, -, hv, -⟩ := hE
  obtain ⟨q1, u, q2, q3⟩ := hv t (by omega)
  unfold f_X2_isMet f_X8_isMet
  by_cases h : u = v
  · exact ⟨1, by omega, by simp (disch := omega) only [fa_lit, nI_add, pk_sub, pk_mul, nI_clamp, nI_leI, nI_ltI, nI_eq, inb, u2_s2, u2_ne2, if_pos, if_neg, Option.bind_some, nx, add_n0, cO, cN, cF, cU, true_or, or_true, if_true, if_false, not_true_eq_false, not_false_eq_true, true_and, and_true, t2, v2, q3], by simp (disch := omega) only [fa_lit, nI_add, pk_sub, pk_mul, nI_clamp, nI_leI, nI_ltI, nI_eq, inb, u2_s2, u2_ne2, if_pos, if_neg, Option.bind_some, nx, add_n0, cO, cN, cF, cU, true_or, or_true, if_true, if_false, not_true_eq_false, not_false_eq_true, true_and, and_true, a5, a6, t2, v2, q1, q3]⟩
  · exact ⟨0, by omega, by simp (disch := omega) only [fa_lit, nI_add, pk_sub, pk_mul, nI_clamp, nI_leI, nI_ltI, nI_eq, inb, u2_s2, u2_ne2, if_pos, if_neg, Option.bind_some, nx, add_n0, cO, cN, cF, cU, true_or, or_true, if_true, if_false, not_true_eq_false, not_false_eq_true, true_and, and_true, t2, v2, q3], by simp (disch := omega) only [fa_lit, nI_add, pk_sub, pk_mul, nI_clamp, nI_leI, nI_ltI, nI_eq, inb, u2_s2, u2_ne2, if_pos, if_neg, Option.bind_some, nx, add_n0, cO, cN, cF, cU, true_or, or_true, if_true, if_false, not_true_eq_false, not_false_eq_true, true_and, and_true, a5, a6, t2, v2, q1, q3]⟩
theorem j_met {mi mj : Mi} {ld m wn sn : Nat} (hK : RK mi mj ld m wn sn) (hE : RE mi 11 (mj 238)) :
    ∀ (c n1 n2 k : Nat) (s : Int32), wn - k = c → k ≤ wn → c < n1 → c < n2 → ∃ r : Int32, lp_X2_metWants_4 11 ld mi (fun a _ => some a) n1 s (nI k) = some r ∧ lp_X8_met_4 mj (fun a _ => some a) n2 s (nI k) = some r := by
  obtain ⟨c1, c2, c3, -⟩ := w_cnt hK
  intro c
  induction c with
  | zero =>
    intro n1 n2 k s h2 h3 h5 h6
    obtain ⟨n1, rfl⟩ : ∃ n, n1 = n + 1 := ⟨n1 - 1, by omega⟩
    obtain ⟨n2, rfl⟩ : ∃ n, n2 = n + 1 := ⟨n2 - 1, by omega⟩
    exact ⟨s, by unfold lp_X2_metWants_4; simp (disch := omega) only [fa_lit, nI_add, pk_sub, pk_mul, nI_clamp, nI_leI, nI_ltI, nI_eq, inb, u2_s2, u2_ne2, if_pos, if_neg, Option.bind_some, nx, add_n0, cO, cN, cF, cU, true_or, or_true, if_true, if_false, not_true_eq_false, not_false_eq_true, true_and, and_true, c2], by unfold lp_X8_met_4; simp (disch := omega) only [fa_lit, nI_add, pk_sub, pk_mul, nI_clamp, nI_leI, nI_ltI, nI_eq, inb, u2_s2, u2_ne2, if_pos, if_neg, Option.bind_some, nx, add_n0, cO, cN, cF, cU, true_or, or_true, if_true, if_false, not_true_eq_false, not_false_eq_true, true_and, and_true, c3]⟩
  | succ c ih =>
    intro n1 n2 k s h2 h3 h5 h6
    obtain ⟨n1, rfl⟩ : ∃ n, n1 = n + 1 := ⟨n1 - 1, by omega⟩
    obtain ⟨n2, rfl⟩ : ∃ n, n2 = n + 1 := ⟨n2 - 1, by omega⟩
    obtain ⟨b, b1, b2, b3⟩ := j_isMet hK hE k (by omega)
    unfold lp_X2_metWants_4 lp_X8_met_4
    by_cases hb : b = 0
    · obtain ⟨z, z2, z3⟩ := ih n1 n2 (k + 1) s (by omega) (by omega) (by omega) (by omega)
      exact ⟨z, by simp (disch := omega) only [fa_lit, nI_add, pk_sub, pk_mul, nI_clamp, nI_leI, nI_ltI, nI_eq, inb, u2_s2, u2_ne2, if_pos, if_neg, Option.bind_some, nx, add_n0, cO, cN, cF, cU, true_or, or_true, if_true, if_false, not_true_eq_false, not_false_eq_true, true_and, and_true, c2, b2, z2], by simp (disch := omega) only [fa_lit, nI_add, pk_sub, pk_mul, nI_clamp, nI_leI, nI_ltI, nI_eq, inb, u2_s2, u2_ne2, if_pos, if_neg, Option.bind_some, nx, add_n0, cO, cN, cF, cU, true_or, or_true, if_true, if_false, not_true_eq_false, not_false_eq_true, true_and, and_true, c3, b3, or_n0, z3]⟩
    · obtain ⟨z, z2, z3⟩ := ih n1 n2 (k + 1) (s ||| (nI 1 <<< (nI k &&& nI 31))) (by omega) (by omega) (by omega) (by omega)
      exact ⟨z, by simp (disch := omega) only [fa_lit, nI_add, pk_sub, pk_mul, nI_clamp, nI_leI, nI_ltI, nI_eq, inb, u2_s2, u2_ne2, if_pos, if_neg, Option.bind_some, nx, add_n0, cO, cN, cF, cU, true_or, or_true, if_true, if_false, not_true_eq_false, not_false_eq_true, true_and, and_true, c2, b2, z2], by simp (disch := omega) only [fa_lit, nI_add, pk_sub, pk_mul, nI_clamp, nI_leI, nI_ltI, nI_eq, inb, u2_s2, u2_ne2, if_pos, if_neg, Option.bind_some, nx, add_n0, cO, cN, cF, cU, true_or, or_true, if_true, if_false, not_true_eq_false, not_false_eq_true, true_and, and_true, c3, b3, z3]⟩
theorem j_wrong {mi mj : Mi} {ld m wn sn : Nat} (hK : RK mi mj ld m wn sn) (hE : RE mi 11 (mj 238)) {a : Nat} (ha : a < 3) :
    ∀ (c n1 n2 k s : Nat), m - k = c → k ≤ m → s < 2 ^ k → c < n1 → c < n2 → ∃ r : Nat, r < 256 ∧ lp_X2_wrongAbout_5 11 ld mi (nI a) (fun a _ => some a) n1 (nI s) (nI k) = some (nI r) ∧ lp_X8_wrongAbout_4 mj (nI a) (fun a _ => some a) n2 (nI s) (nI k) = some (nI r) := by
  obtain ⟨-, -, -, c1, c2, c3⟩ := w_cnt hK
  obtain ⟨-, -, -, -, -, hv, hk⟩ := hE
  intro c
  induction c with
  | zero =>
    intro n1 n2 k s h2 h3 hs h5 h6
    obtain ⟨n1, rfl⟩ : ∃ n, n1 = n + 1 := ⟨n1 - 1, by omega⟩
    obtain ⟨n2, rfl⟩ : ∃ n, n2 = n + 1 := ⟨n2 - 1, by omega⟩
    have hp : 2 ^ k ≤ 2 ^ 8 := Nat.pow_le_pow_right (by omega) (by omega)
    exact ⟨s, by omega, by unfold lp_X2_wrongAbout_5; simp (disch := omega) only [fa_lit, nI_add, pk_sub, pk_mul, nI_clamp, nI_leI, nI_ltI, nI_eq, inb, u2_s2, u2_ne2, if_pos, if_neg, Option.bind_some, nx, add_n0, cO, cN, cF, cU, true_or, or_true, if_true, if_false, not_true_eq_false, not_false_eq_true, true_and, and_true, c2], by unfold lp_X8_wrongAbout_4; simp (disch := omega) only [fa_lit, nI_add, pk_sub, pk_mul, nI_clamp, nI_leI, nI_ltI, nI_eq, inb, u2_s2, u2_ne2, if_pos, if_neg, Option.bind_some, nx, add_n0, cO, cN, cF, cU, true_or, or_true, if_true, if_false, not_true_eq_false, not_false_eq_true, true_and, and_true, c3]⟩
  | succ c ih =>
    intro n1 n2 k s h2 h3 hs h5 h6
    obtain ⟨n1, rfl⟩ : ∃ n, n1 = n + 1 := ⟨n1 - 1, by omega⟩
    obtain ⟨n2, rfl⟩ : ∃ n, n2 = n + 1 := ⟨n2 - 1, by omega⟩
    obtain ⟨q1, u, q2, q3⟩ := hv k (by omega)
    have k1 := hk (a * 8 + k) (by omega)
    have e1 : 16 + 8 * a + k = 16 + (a * 8 + k) := by omega
    unfold lp_X2_wrongAbout_5 lp_X8_wrongAbout_4
    have p1 : (2 : Nat) ^ (k + 1) = 2 * 2 ^ k := by rw [Nat.pow_succ]; omega
    by_cases hw : mi (11 + 4) (a * 8 + k) = mi (11 + 3) k
    · obtain ⟨z, z1, z2, z3⟩ := ih n1 n2 (k + 1) s (by omega) (by omega) (by omega) (by omega) (by omega)
      exact ⟨z, z1, by simp (disch := omega) only [fa_lit, nI_add, pk_sub, pk_mul, nI_clamp, nI_leI, nI_ltI, nI_eq, inb, u2_s2, u2_ne2, if_pos, if_neg, Option.bind_some, nx, add_n0, cO, cN, cF, cU, true_or, or_true, if_true, if_false, not_true_eq_false, not_false_eq_true, true_and, and_true, c2, hw, z2], by simp (disch := omega) only [fa_lit, nI_add, pk_sub, pk_mul, nI_clamp, nI_leI, nI_ltI, nI_eq, inb, u2_s2, u2_ne2, if_pos, if_neg, Option.bind_some, nx, add_n0, cO, cN, cF, cU, true_or, or_true, if_true, if_false, not_true_eq_false, not_false_eq_true, true_and, and_true, c3, e1, k1, q1, hw, or_n0, z3]⟩
    · obtain ⟨z, z1, z2, z3⟩ := ih n1 n2 (k + 1) (s ||| 2 ^ k) (by omega) (by omega) (Nat.or_lt_two_pow (by omega) (by rw [p1]; have := Nat.two_pow_pos k; omega)) (by omega) (by omega)
      refine ⟨z, z1, ?_, ?_⟩
      · simp (disch := omega) only [fa_lit, nI_add, pk_sub, pk_mul, nI_clamp, nI_leI, nI_ltI, nI_eq, inb, u2_s2, u2_ne2, if_pos, if_neg, Option.bind_some, nx, add_n0, cO, cN, cF, cU, true_or, or_true, if_true, if_false, not_true_eq_false, not_false_eq_true, true_and, and_true, c2, hw, shl_n, fa_or, z2]
      · simp (disch := omega) only [fa_lit, nI_add, pk_sub, pk_mul, nI_clamp, nI_leI, nI_ltI, nI_eq, inb, u2_s2, u2_ne2, if_pos, if_neg, Option.bind_some, nx, add_n0, cO, cN, cF, cU, true_or, or_true, if_true, if_false, not_true_eq_false, not_false_eq_true, true_and, and_true, c3, e1, k1, q1, hw, shl_n, fa_or, z3]
theorem j_wrongA {mi mj : Mi} {ld m wn sn : Nat} (hK : RK mi mj ld m wn sn) (hE : RE mi 11 (mj 238)) {a : Nat} (ha : a < 3) : ∃ r : Nat, r < 256 ∧ f_X2_wrongAbout mi 11 ld (nI a) = some (nI r) ∧ f_X8_wrongAbout mj (nI a) = some (nI r) := by
  obtain ⟨-, -, -, c1, c2, c3⟩ := w_cnt hK
  obtain ⟨r, r1, r2, r3⟩ := j_wrong hK hE ha m FU FU 0 0 (by omega) (by omega) (by omega) (by rw [FU_eq]; omega) (by rw [FU_eq]; omega)
  exact ⟨r, r1, by unfold f_X2_wrongAbout; simp (disch := omega) only [fa_lit, nI_add, pk_sub, pk_mul, nI_clamp, nI_leI, nI_ltI, nI_eq, inb, u2_s2, u2_ne2, if_pos, if_neg, Option.bind_some, nx, add_n0, cO, cN, cF, cU, true_or, or_true, if_true, if_false, not_true_eq_false, not_false_eq_true, true_and, and_true, r2], by unfold f_X8_wrongAbout; simp (disch := omega) only [fa_lit, nI_add, pk_sub, pk_mul, nI_clamp, nI_leI, nI_ltI, nI_eq, inb, u2_s2, u2_ne2, if_pos, if_neg, Option.bind_some, nx, add_n0, cO, cN, cF, cU, true_or, or_true, if_true, if_false, not_true_eq_false, not_false_eq_true, true_and, and_true, r3]⟩
theorem wrong0 {mi mj : Mi} {ld m wn sn : Nat} (hK : RK mi mj ld m wn sn) (hm : m = 0) (x : Int32) : f_X2_wrongAbout mi 11 ld x = some (nI 0) := by
  obtain ⟨-, -, -, c1, c2, c3⟩ := w_cnt hK
  subst hm
  unfold f_X2_wrongAbout
  rw [FU_eq]
  unfold lp_X2_wrongAbout_5
  simp (disch := omega) only [fa_lit, nI_add, pk_sub, pk_mul, nI_clamp, nI_leI, nI_ltI, nI_eq, inb, u2_s2, u2_ne2, if_pos, if_neg, Option.bind_some, nx, add_n0, cO, cN, cF, cU, true_or, or_true, if_true, if_false, not_true_eq_false, not_false_eq_true, true_and, and_true, c2]
theorem j_notes {mi mj : Mi} {ld m wn sn : Nat} (hK : RK mi mj ld m wn sn) (hE : RE mi 11 (mj 238)) (hj : f_X8_isCounty mj = some (nI 1)) {r : Nat} (hr : r < 3) (hr2 : f_X8_heirOf mj 238 = some (nI r)) :
    ∀ (c n1 n2 k : Nat) (s : Int32), 3 - k = c → k ≤ 3 → c < n1 → c < n2 → ∃ z : Int32, lp_X2_notesNeeded_12 11 ld mi (nI r) (fun a _ => some a) n1 s (nI k) = some z ∧ lp_X8_notes_4 mj (fun a _ => some a) n2 s (nI k) = some z := by
  intro c
  induction c with
  | zero =>
    intro n1 n2 k s h2 h3 h5 h6
    obtain ⟨n1, rfl⟩ : ∃ n, n1 = n + 1 := ⟨n1 - 1, by omega⟩
    obtain ⟨n2, rfl⟩ : ∃ n, n2 = n + 1 := ⟨n2 - 1, by omega⟩
    exact ⟨s, by unfold lp_X2_notesNeeded_12; simp (disch := omega) only [fa_lit, nI_add, pk_sub, pk_mul, nI_clamp, nI_leI, nI_ltI, nI_eq, inb, u2_s2, u2_ne2, if_pos, if_neg, Option.bind_some, nx, add_n0, cO, cN, cF, cU, true_or, or_true, if_true, if_false, not_true_eq_false, not_false_eq_true, true_and, and_true], by unfold lp_X8_notes_4; simp (disch := omega) only [fa_lit, nI_add, pk_sub, pk_mul, nI_clamp, nI_leI, nI_ltI, nI_eq, inb, u2_s2, u2_ne2, if_pos, if_neg, Option.bind_some, nx, add_n0, cO, cN, cF, cU, true_or, or_true, if_true, if_false, not_true_eq_false, not_false_eq_true, true_and, and_true]⟩
  | succ c ih =>
    intro n1 n2 k s h2 h3 h5 h6
    obtain ⟨n1, rfl⟩ : ∃ n, n1 = n + 1 := ⟨n1 - 1, by omega⟩
    obtain ⟨n2, rfl⟩ : ∃ n, n2 = n + 1 := ⟨n2 - 1, by omega⟩
    obtain ⟨w, w1, w2, w3⟩ := j_wrongA hK hE (show k < 3 by omega)
    obtain ⟨b, b1, b2⟩ := j_bits w1
    unfold lp_X2_notesNeeded_12 lp_X8_notes_4
    by_cases hkr : k = r
    · obtain ⟨z, z2, z3⟩ := ih n1 n2 (k + 1) s (by omega) (by omega) (by omega) (by omega)
      exact ⟨z, by simp (disch := omega) only [fa_lit, nI_add, pk_sub, pk_mul, nI_clamp, nI_leI, nI_ltI, nI_eq, inb, u2_s2, u2_ne2, if_pos, if_neg, Option.bind_some, nx, add_n0, cO, cN, cF, cU, true_or, or_true, if_true, if_false, not_true_eq_false, not_false_eq_true, true_and, and_true, z2], by simp (disch := omega) only [fa_lit, nI_add, pk_sub, pk_mul, nI_clamp, nI_leI, nI_ltI, nI_eq, inb, u2_s2, u2_ne2, if_pos, if_neg, Option.bind_some, nx, add_n0, cO, cN, cF, cU, true_or, or_true, if_true, if_false, not_true_eq_false, not_false_eq_true, true_and, and_true, hj, hr2, z3]⟩
    · obtain ⟨z, z2, z3⟩ := ih n1 n2 (k + 1) (s + b) (by omega) (by omega) (by omega) (by omega)
      exact ⟨z, by simp (disch := omega) only [fa_lit, nI_add, pk_sub, pk_mul, nI_clamp, nI_leI, nI_ltI, nI_eq, inb, u2_s2, u2_ne2, if_pos, if_neg, Option.bind_some, nx, add_n0, cO, cN, cF, cU, true_or, or_true, if_true, if_false, not_true_eq_false, not_false_eq_true, true_and, and_true, w2, b1, z2], by simp (disch := omega) only [fa_lit, nI_add, pk_sub, pk_mul, nI_clamp, nI_leI, nI_ltI, nI_eq, inb, u2_s2, u2_ne2, if_pos, if_neg, Option.bind_some, nx, add_n0, cO, cN, cF, cU, true_or, or_true, if_true, if_false, not_true_eq_false, not_false_eq_true, true_and, and_true, hj, hr2, w3, b2, z3]⟩
theorem bit0 : f_J6_bitCount_0f7a4 (nI 0) = some (nI 0) := by decide +kernel
theorem j_notes0 {mi mj : Mi} {ld m wn sn : Nat} (hK : RK mi mj ld m wn sn) (hm : m = 0) (hj : f_X8_isCounty mj = some (nI 0)) :
    ∀ (c n1 n2 k : Nat) (s : Int32), 3 - k = c → k ≤ 3 → c < n1 → c < n2 → ∃ z : Int32, lp_X2_notesNeeded_12 11 ld mi (-nI 1) (fun a _ => some a) n1 s (nI k) = some z ∧ lp_X8_notes_4 mj (fun a _ => some a) n2 s (nI k) = some z := by
  intro c
  induction c with
  | zero =>
    intro n1 n2 k s h2 h3 h5 h6
    obtain ⟨n1, rfl⟩ : ∃ n, n1 = n + 1 := ⟨n1 - 1, by omega⟩
    obtain ⟨n2, rfl⟩ : ∃ n, n2 = n + 1 := ⟨n2 - 1, by omega⟩
    exact ⟨s, by unfold lp_X2_notesNeeded_12; simp (disch := omega) only [fa_lit, nI_add, pk_sub, pk_mul, nI_clamp, nI_leI, nI_ltI, nI_eq, inb, u2_s2, u2_ne2, if_pos, if_neg, Option.bind_some, nx, add_n0, cO, cN, cF, cU, true_or, or_true, if_true, if_false, not_true_eq_false, not_false_eq_true, true_and, and_true], by unfold lp_X8_notes_4; simp (disch := omega) only [fa_lit, nI_add, pk_sub, pk_mul, nI_clamp, nI_leI, nI_ltI, nI_eq, inb, u2_s2, u2_ne2, if_pos, if_neg, Option.bind_some, nx, add_n0, cO, cN, cF, cU, true_or, or_true, if_true, if_false, not_true_eq_false, not_false_eq_true, true_and, and_true]⟩
  | succ c ih =>
    intro n1 n2 k s h2 h3 h5 h6
    obtain ⟨n1, rfl⟩ : ∃ n, n1 = n + 1 := ⟨n1 - 1, by omega⟩
    obtain ⟨n2, rfl⟩ : ∃ n, n2 = n + 1 := ⟨n2 - 1, by omega⟩
    unfold lp_X2_notesNeeded_12 lp_X8_notes_4
    obtain ⟨z, z2, z3⟩ := ih n1 n2 (k + 1) s (by omega) (by omega) (by omega) (by omega)
    exact ⟨z, by simp (disch := omega) only [fa_lit, nI_add, pk_sub, pk_mul, nI_clamp, nI_leI, nI_ltI, nI_eq, inb, u2_s2, u2_ne2, if_pos, if_neg, Option.bind_some, nx, add_n0, cO, cN, cF, cU, true_or, or_true, if_true, if_false, not_true_eq_false, not_false_eq_true, true_and, and_true, m1_ne, wrong0 hK hm, bit0, z2], by simp (disch := omega) only [fa_lit, nI_add, pk_sub, pk_mul, nI_clamp, nI_leI, nI_ltI, nI_eq, inb, u2_s2, u2_ne2, if_pos, if_neg, Option.bind_some, nx, add_n0, cO, cN, cF, cU, true_or, or_true, if_true, if_false, not_true_eq_false, not_false_eq_true, true_and, and_true, hj, z3]⟩
theorem j_noteA {mi mj : Mi} {ld m wn sn : Nat} (hK : RK mi mj ld m wn sn) (a : mi ld 0 = nI 0) (b : m = 0) (c : f_X8_isCounty mj = some (nI 0)) : ∃ z : Int32, f_X2_notesNeeded mi 11 ld = some z ∧ f_X8_notes mj = some z := by
  obtain ⟨z, z1, z2⟩ := j_notes0 hK b c 3 FU FU 0 (nI 0) (by omega) (by omega) (by rw [FU_eq]; omega) (by rw [FU_eq]; omega)
  refine ⟨z, ?_, z2⟩
  unfold f_X2_notesNeeded
  rw [j_none a, Option.bind_some]
  exact z1
theorem j_noteB {mi mj : Mi} {ld m wn sn : Nat} (hK : RK mi mj ld m wn sn) (hE : RE mi 11 (mj 238)) (a : mi ld 0 = nI 1) (b : f_X8_isCounty mj = some (nI 1)) : ∃ z : Int32, f_X2_notesNeeded mi 11 ld = some z ∧ f_X8_notes mj = some z := by
  obtain ⟨r, r1, r2, r3⟩ := j_heirOf hK hE a
  obtain ⟨z, z1, z2⟩ := j_notes hK hE b r1 r3 3 FU FU 0 (nI 0) (by omega) (by omega) (by rw [FU_eq]; omega) (by rw [FU_eq]; omega)
  refine ⟨z, ?_, z2⟩
  unfold f_X2_notesNeeded
  rw [show f_X2_holderIn mi 11 ld 0 = some (nI r) from r2, Option.bind_some]
  exact z1
theorem j_note {mi mj : Mi} {ld m wn sn : Nat} (hK : RK mi mj ld m wn sn) (hE : RE mi 11 (mj 238)) : ∃ z : Int32, f_X2_notesNeeded mi 11 ld = some z ∧ f_X8_notes mj = some z := by
  rcases j_isC hK with ⟨a, b, c⟩ | ⟨a, b⟩
  · exact j_noteA hK a b c
  · exact j_noteB hK hE a b
theorem envy_eq (a b c : Int32) : (if a < (if b < c then c else b) then (if b < c then c else b) else a) - (if (if c < b then c else b) < a then (if c < b then c else b) else a) = (if c ≤ (if b ≤ a then a else b) then (if b ≤ a then a else b) else c) - (if (if a ≤ b then a else b) ≤ c then (if a ≤ b then a else b) else c) := by
  simp only [← Int32.not_le]
  by_cases h1 : b ≤ a <;> by_cases h2 : a ≤ b <;> by_cases h3 : c ≤ a <;> by_cases h4 : a ≤ c <;> by_cases h5 : c ≤ b <;> by_cases h6 : b ≤ c <;> simp only [h1, h2, h3, h4, h5, h6, if_true, if_false, not_true_eq_false, not_false_eq_true] <;> (congr 1 <;> (apply Int32.toInt_inj.mp; simp only [Int32.le_iff_toInt_le] at *; omega))
theorem j_envy {mi mj : Mi} (hE : RE mi 11 (mj 238)) : ∃ z : Int32, f_X2_envy mi 11 = some z ∧ f_X8_envy mj = some z := by
  obtain ⟨-, -, -, hp, -⟩ := hE
  have p0 := hp 0 (by omega)
  have p1 := hp 1 (by omega)
  have p2 := hp 2 (by omega)
  refine ⟨(if mi (11 + 1) 0 < (if mi (11 + 1) 1 < mi (11 + 1) 2 then mi (11 + 1) 2 else mi (11 + 1) 1) then (if mi (11 + 1) 1 < mi (11 + 1) 2 then mi (11 + 1) 2 else mi (11 + 1) 1) else mi (11 + 1) 0) - (if (if mi (11 + 1) 2 < mi (11 + 1) 1 then mi (11 + 1) 2 else mi (11 + 1) 1) < mi (11 + 1) 0 then (if mi (11 + 1) 2 < mi (11 + 1) 1 then mi (11 + 1) 2 else mi (11 + 1) 1) else mi (11 + 1) 0), ?_, ?_⟩
  · unfold f_X2_envy
    simp (disch := omega) only [fa_lit, nI_add, pk_sub, pk_mul, nI_clamp, nI_leI, nI_ltI, nI_eq, inb, u2_s2, u2_ne2, if_pos, if_neg, Option.bind_some, nx, add_n0, cO, cN, cF, cU, true_or, or_true, if_true, if_false, not_true_eq_false, not_false_eq_true, true_and, and_true]
  · rw [envy_eq]
    simp only [Nat.add_zero] at p0
    unfold f_X8_envy
    rw [FU_eq]
    unfold lp_X8_envy_16
    by_cases h1 : mi (11 + 1) 1 ≤ mi (11 + 1) 0 <;> by_cases h2 : mi (11 + 1) 0 ≤ mi (11 + 1) 1
    all_goals
      simp (disch := omega) only [fa_lit, nI_add, pk_sub, pk_mul, nI_clamp, nI_leI, nI_ltI, nI_eq, inb, u2_s2, u2_ne2, if_pos, if_neg, Option.bind_some, nx, add_n0, cO, cN, cF, cU, true_or, or_true, if_true, if_false, not_true_eq_false, not_false_eq_true, true_and, and_true, p0, p1, p2, h1, h2]
      unfold lp_X8_envy_16
      simp (disch := omega) only [fa_lit, nI_add, pk_sub, pk_mul, nI_clamp, nI_leI, nI_ltI, nI_eq, inb, u2_s2, u2_ne2, if_pos, if_neg, Option.bind_some, nx, add_n0, cO, cN, cF, cU, true_or, or_true, if_true, if_false, not_true_eq_false, not_false_eq_true, true_and, and_true, p0, p1, p2, h1, h2]
      split <;> split <;> (unfold lp_X8_envy_16; simp (disch := omega) only [fa_lit, nI_add, pk_sub, pk_mul, nI_clamp, nI_leI, nI_ltI, nI_eq, inb, u2_s2, u2_ne2, if_pos, if_neg, Option.bind_some, nx, add_n0, cO, cN, cF, cU, true_or, or_true, if_true, if_false, not_true_eq_false, not_false_eq_true, true_and, and_true])
