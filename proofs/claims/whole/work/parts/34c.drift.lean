/-! 34c -/
theorem j_driftL {ld m wn sn : Nat} {q : Nat} (hq : q ≤ 30) (y1 y2 : Int32) :
    ∀ (c n1 n2 k h : Nat) (mi mj : Mi) (ml : Ml), DD mi mj ml ld m wn sn → mi ld 0 = nI 1 → mi 11 0 = nI h → h + c ≤ 90030 → q - k = c → k ≤ q → c < n1 → c < n2 →
      ∃ (mi' mj' : Mi) (ml' : Ml), DD mi' mj' ml' ld m wn sn ∧ FC mi mi' ∧ FM mj mj' ∧ FL ml ml' ∧ (∀ K : Int32 → Mi → Option (Int32 × Mi), lp_X7_drift_15 ld (nI q) y1 K n1 (nI k) mi = K (nI q) mi') ∧ (∀ K : Int32 → Mi → Ml → Option (Int32 × Mi × Ml), lp_X8_drift_14 (nI q) y2 K n2 (nI k) mj ml = K (nI q) mj' ml') := by
  intro c
  induction c with
  | zero =>
    intro n1 n2 k h mi mj ml hD hx hh h1 h2 h3 h5 h6
    obtain ⟨n1, rfl⟩ : ∃ n, n1 = n + 1 := ⟨n1 - 1, by omega⟩
    obtain ⟨n2, rfl⟩ : ∃ n, n2 = n + 1 := ⟨n2 - 1, by omega⟩
    have : k = q := by omega
    subst this
    exact ⟨mi, mj, ml, hD, FC.rf, FM.rf, FL.rf, fun K => by rw [lp_X7_drift_15, if_pos ((nI_leI (by omega) (by omega)).2 (Nat.le_refl _))], fun K => by rw [chM_eq, if_pos ((nI_leI (by omega) (by omega)).2 (Nat.le_refl _))]⟩
  | succ c ih =>
    intro n1 n2 k h mi mj ml hD hx hh h1 h2 h3 h5 h6
    obtain ⟨n1, rfl⟩ : ∃ n, n1 = n + 1 := ⟨n1 - 1, by omega⟩
    obtain ⟨n2, rfl⟩ : ∃ n, n2 = n + 1 := ⟨n2 - 1, by omega⟩
    obtain ⟨ma, mb, a1, a2, a3, a4, a5, a6, a7⟩ := j_remD hD
    have hld := hD.1.1
    obtain ⟨mx, mc, md, ml2, b1, b2, b3, b4, b5, b6, b7, b8⟩ := j_chance (h := h) a3 (by rw [a4.ld hld]; exact hx) (by rw [a6 11 (by omega) (by omega)]; exact hh) (by omega)
    obtain ⟨mi', mj', ml', d1, d2, d3, d4, d5, d6⟩ := ih n1 n2 (k + 1) (h + 1) mc md ml2 b3 (by rw [b5.ld hld, a4.ld hld]; exact hx) b4 (by omega) (by omega) (by omega) (by omega) (by omega)
    have e0 : nI k + 1 = nI (k + 1) := by rw [fa_lit, nI_add]
    have e9 : ¬ nI q ≤ nI k := by rw [nI_leI (by omega) (by omega)]; omega
    refine ⟨mi', mj', ml', d1, (a4.tr b5).tr d2, (a5.tr b6).tr d3, b7.tr d4, fun K => by rw [lp_X7_drift_15, if_neg e9, a1, Option.bind_some, b1, Option.bind_some, b2, Option.bind_some, e0, d5], fun K => ?_⟩
    rw [chM_eq, if_neg (show ¬ nI q ≤ nI k by rw [nI_leI (by omega) (by omega)]; omega), a2, Option.bind_some]
    refine Eq.trans (b8 _) ?_
    rw [e0]
    exact d6 K
theorem J_drift {mi mj : Mi} {ml : Ml} {ld m wn sn : Nat} (h : DD mi mj ml ld m wn sn) (x : Int32) : ∃ (r : Int32) (mi' mj' : Mi) (ml' : Ml), f_X7_drift mi ld x = some (r, mi') ∧ f_X8_drift mj ml x = some (r, mj', ml') ∧ DD mi' mj' ml' ld m wn sn ∧ FC mi mi' ∧ FM mj mj' ∧ FL ml ml' := by
  obtain ⟨hK, hE, hU, hS⟩ := id h
  obtain ⟨⟨hr, a1, a2, a3⟩, -⟩ := id hE
  unfold f_X7_drift f_X8_drift f_X7_refusalOfHours f_X8_needHours
  rcases in_cases x 1 30 (by omega) (by omega) with ⟨n, hn1, hn, rfl, e⟩ | e
  · rcases j_isC hK with ⟨a, -, b⟩ | ⟨a, b⟩
    · exact ⟨(-nI 1000000003), mi, mj, ml, by simp (disch := omega) only [fa_lit, nI_add, pk_sub, pk_mul, nI_clamp, nI_leI, nI_ltI, nI_eq, inb, u2_s2, u2_ne2, if_pos, if_neg, Option.bind_some, nx, add_n0, cO, cN, cF, cU, true_or, or_true, if_true, if_false, not_true_eq_false, not_false_eq_true, true_and, and_true, e, a]; rfl, by simp (disch := omega) only [fa_lit, nI_add, pk_sub, pk_mul, nI_clamp, nI_leI, nI_ltI, nI_eq, inb, u2_s2, u2_ne2, if_pos, if_neg, Option.bind_some, nx, add_n0, cO, cN, cF, cU, true_or, or_true, if_true, if_false, not_true_eq_false, not_false_eq_true, true_and, and_true, j_in, e, b], h, FC.rf, FM.rf, FL.rf⟩
    · by_cases hl : hr ≤ 90000
      · obtain ⟨mi', mj', ml', d1, d2, d3, d4, d5, d6⟩ := j_driftL hn (-1) 0 n FU FU 0 hr mi mj ml h a a2 (by omega) (by omega) (by omega) (by rw [FU_eq]; omega) (by rw [FU_eq]; omega)
        obtain ⟨⟨hr', q1, q2, q3⟩, -⟩ := id d1.2.1
        refine ⟨nI hr', mi', mj', ml', ?_, ?_, d1, d2, d3, d4⟩
        · simp (disch := omega) only [fa_lit, nI_add, pk_sub, pk_mul, nI_clamp, nI_leI, nI_ltI, nI_eq, inb, u2_s2, u2_ne2, if_pos, if_neg, Option.bind_some, nx, add_n0, cO, cN, cF, cU, true_or, or_true, if_true, if_false, not_true_eq_false, not_false_eq_true, true_and, and_true, e, a, a2]
          refine Eq.trans (d5 _) ?_
          rw [q2]
        · simp (disch := omega) only [fa_lit, nI_add, pk_sub, pk_mul, nI_clamp, nI_leI, nI_ltI, nI_eq, inb, u2_s2, u2_ne2, if_pos, if_neg, Option.bind_some, nx, add_n0, cO, cN, cF, cU, true_or, or_true, if_true, if_false, not_true_eq_false, not_false_eq_true, true_and, and_true, j_in, e, b, a3]
          refine Eq.trans (d6 _) ?_
          simp (disch := omega) only [fa_lit, nI_add, pk_sub, pk_mul, nI_clamp, nI_leI, nI_ltI, nI_eq, inb, u2_s2, u2_ne2, if_pos, if_neg, Option.bind_some, nx, add_n0, cO, cN, cF, cU, true_or, or_true, if_true, if_false, not_true_eq_false, not_false_eq_true, true_and, and_true, q3]
      · exact ⟨(-nI 1000000004), mi, mj, ml, by simp (disch := omega) only [fa_lit, nI_add, pk_sub, pk_mul, nI_clamp, nI_leI, nI_ltI, nI_eq, inb, u2_s2, u2_ne2, if_pos, if_neg, Option.bind_some, nx, add_n0, cO, cN, cF, cU, true_or, or_true, if_true, if_false, not_true_eq_false, not_false_eq_true, true_and, and_true, e, a, a2]; rfl, by simp (disch := omega) only [fa_lit, nI_add, pk_sub, pk_mul, nI_clamp, nI_leI, nI_ltI, nI_eq, inb, u2_s2, u2_ne2, if_pos, if_neg, Option.bind_some, nx, add_n0, cO, cN, cF, cU, true_or, or_true, if_true, if_false, not_true_eq_false, not_false_eq_true, true_and, and_true, j_in, e, b, a3], h, FC.rf, FM.rf, FL.rf⟩
  · exact ⟨(-nI 1000000002), mi, mj, ml, by simp (disch := omega) only [fa_lit, nI_add, pk_sub, pk_mul, nI_clamp, nI_leI, nI_ltI, nI_eq, inb, u2_s2, u2_ne2, if_pos, if_neg, Option.bind_some, nx, add_n0, cO, cN, cF, cU, true_or, or_true, if_true, if_false, not_true_eq_false, not_false_eq_true, true_and, and_true, e]; rfl, by simp (disch := omega) only [fa_lit, nI_add, pk_sub, pk_mul, nI_clamp, nI_leI, nI_ltI, nI_eq, inb, u2_s2, u2_ne2, if_pos, if_neg, Option.bind_some, nx, add_n0, cO, cN, cF, cU, true_or, or_true, if_true, if_false, not_true_eq_false, not_false_eq_true, true_and, and_true, j_in, e], h, FC.rf, FM.rf, FL.rf⟩
