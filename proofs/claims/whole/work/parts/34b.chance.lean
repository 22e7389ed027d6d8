/-! 34b -/
theorem j_chance {mi mj : Mi} {ml : Ml} {ld m wn sn h : Nat} (hD : DD mi mj ml ld m wn sn) (hx : mi ld 0 = nI 1) (hh : mi 11 0 = nI h) (h1 : h < 90030) :
    ∃ (ma mc md : Mi) (ml' : Ml), f_X7_meetChance mi ld = some ma ∧ f_X2_passHour ma 11 ld = some mc ∧ DD mc md ml' ld m wn sn ∧ mc 11 0 = nI (h + 1) ∧ FC mi mc ∧ FM mj md ∧ FL ml ml' ∧
      ∀ F : Mi → Ml → Option (Int32 × Mi × Ml), chM F mj ml = F md ml' := by
  have hld := hD.1.1
  obtain ⟨-, -, -, hm, c2, c3⟩ := w_cnt hD.1
  obtain ⟨s1, q1, s1b, q1b, e1, e2⟩ := j_draw (n := 8) hD.2.2.2 (by omega) (by omega)
  obtain ⟨D1, F1⟩ := hD.seed s1b
  have hh1 : (u2 mi 0 11 (nI s1)) 11 0 = nI h := by rw [u2_row (by omega)]; exact hh
  have hx1 : (u2 mi 0 11 (nI s1)) ld 0 = nI 1 := by rw [F1.ld hld]; exact hx
  by_cases hset : q1 = 0 ∧ 0 < m
  · obtain ⟨hq0, hm0⟩ := hset
    subst hq0
    obtain ⟨s2, t, s2b, tb, g1, g2⟩ := j_draw (n := m) D1.2.2.2 hm0 (by omega)
    obtain ⟨D2, F2⟩ := D1.seed s2b
    obtain ⟨s3, v, s3b, vb, k1, k2⟩ := j_draw (n := 10) D2.2.2.2 (by omega) (by omega)
    obtain ⟨D3, F3⟩ := D2.seed s3b
    obtain ⟨mc, md, b1, b2, b3, b4, b5, b6⟩ := j_set D3.1 D3.2.1 (by rw [F3.ld hld, F2.ld hld]; exact hx1) tb vb
    obtain ⟨D4, F4, G4⟩ := D3.now b3 b5 b6
    obtain ⟨me, mf, p1, p2, p3, p4, p5, p6⟩ := j_pass (h := h) D4.1 D4.2.1 (by rw [F4.ld hld, F3.ld hld, F2.ld hld]; exact hx1) (by rw [b4, u2_row (by omega), u2_row (by omega)]; exact hh1) h1
    obtain ⟨D5, F5, G5⟩ := D4.now p3 p5 p6
    refine ⟨mc, me, mf, _, ?_, p1, D5, p4, (((F1.tr F2).tr F3).tr F4).tr F5, G4.tr G5, (FL.s.tr FL.s).tr FL.s, fun F => ?_⟩
    · exact mc_set e1 (by rw [F1.ld hld, c2]; exact nI_nle hm0 (by omega)) (by rw [F1.ld hld, c2]; exact g1) k1 b1
    · exact ch_set (e2 _) (by rw [c3]; exact nI_nle hm0 (by omega)) (by rw [c3]; exact g2 _) (k2 _) b2 p2
  · by_cases hecl : q1 = 1
    · subst hecl
      obtain ⟨s2, t, s2b, tb, g1, g2⟩ := j_draw (n := 4) D1.2.2.2 (by omega) (by omega)
      obtain ⟨D2, F2⟩ := D1.seed s2b
      have E1 : RE (u2 (u2 (u2 mi 0 11 (nI s1)) 0 11 (nI s2)) 11 1 (nI t)) 11 ((u2 mj 238 1 (nI t)) 238) := by
        rw [u2_rowS]; exact D2.2.1.dim (by omega)
      obtain ⟨D3, F3, G3⟩ := D2.now E1 (fun i hi => u2_row (by omega)) (fun i hi => u2_row hi)
      obtain ⟨me, mf, p1, p2, p3, p4, p5, p6⟩ := j_pass (h := h) D3.1 D3.2.1 (by rw [F3.ld hld, F2.ld hld]; exact hx1) (by rw [u2_ne2 (by omega), u2_row (by omega)]; exact hh1) h1
      obtain ⟨D5, F5, G5⟩ := D3.now p3 p5 p6
      refine ⟨_, me, mf, _, ?_, p1, D5, p4, ((F1.tr F2).tr F3).tr F5, G3.tr G5, FL.s.tr FL.s, fun F => ?_⟩
      · exact mc_ecl e1 g1
      · exact ch_ecl (e2 _) (g2 _) p2
    · obtain ⟨me, mf, p1, p2, p3, p4, p5, p6⟩ := j_pass (h := h) D1.1 D1.2.1 hx1 hh1 h1
      obtain ⟨D5, F5, G5⟩ := D1.now p3 p5 p6
      refine ⟨_, me, mf, _, ?_, p1, D5, p4, F1.tr F5, G5, FL.s, fun F => ?_⟩
      · exact mc_no e1 (by rw [F1.ld hld, c2]; by_cases hq0 : q1 = 0; exact Or.inr (congrArg nI (by omega)); exact Or.inl (by omega)) hecl q1b
      · exact ch_no (e2 _) (by rw [c3]; by_cases hq0 : q1 = 0; exact Or.inr (congrArg nI (by omega)); exact Or.inl (by omega)) hecl q1b p2
