/-! 46: wants -/
theorem JR.want {m0 n0 mi mj : Mi} {dr L p m wn sn ln n1 n2 n3 : Nat} (h : JR m0 n0 mi mj dr L p m wn sn ln) (hdr : dr = 4 ∨ dr = 210) (hl : wn < 10) (h2 : n2 < m) (h3 : n3 < 10) (e1 : mj 234 (3 * wn) = nI n1) (e2 : mj 234 (3 * wn + 1) = nI n2) (e3 : mj 234 (3 * wn + 2) = nI n3) : JR m0 n0 (u2 (u2 (u2 (u2 mi (dr + 4) wn (nI n1)) (dr + 5) wn (nI n2)) (dr + 6) wn (nI n3)) dr 7 (nI (wn + 1))) (u2 mj 229 12 (nI (wn + 1))) dr L p m (wn + 1) sn ln := by
  obtain ⟨c1, c2, c3, c4, c5, c6, c7, c8⟩ := h
  obtain ⟨d1, d2, d3, d4, ⟨d5, d5'⟩, ⟨d6, d6'⟩, ⟨d7, d7'⟩, ⟨d8, d8'⟩, ⟨d9, d9', d9''⟩, d10, d11, d12, d13⟩ := c8
  have d10f : Unit → _ := fun _ => d10
  clear d10
  refine ⟨(((c1.d (by omega) _ _).d (by omega) _ _).d (by omega) _ _).d (by omega) _ _, c2.s (by omega) _, by simp (disch := omega) only [u2_ne2, u2_s2]; exact c3, by simp (disch := omega) only [u2_ne2, u2_s2]; exact c4, c5, by simp (disch := omega) only [u2_ne2, u2_s2]; exact c6, by simp (disch := omega) only [u2_ne2, u2_s2]; exact c7, d1, by omega, d3, d4, ⟨by simp (disch := omega) only [u2_ne2, u2_s2]; exact d5, by simp (disch := omega) only [u2_ne2, u2_s2]; exact d5'⟩, ⟨by simp (disch := omega) only [u2_ne2, u2_s2], by simp (disch := omega) only [u2_ne2, u2_s2]⟩, ⟨by simp (disch := omega) only [u2_ne2, u2_s2]; exact d7, by simp (disch := omega) only [u2_ne2, u2_s2]; exact d7'⟩, ⟨by simp (disch := omega) only [u2_ne2, u2_s2]; exact d8, by simp (disch := omega) only [u2_ne2, u2_s2]; exact d8'⟩, ⟨by simp (disch := omega) only [u2_ne2, u2_s2]; exact d9, by simp (disch := omega) only [u2_ne2, u2_s2]; exact d9', by simp (disch := omega) only [u2_ne2, u2_s2]; exact d9''⟩, by simp (disch := omega) only [u2_ne2, u2_s2]; exact d10f (), ?_, ?_, ?_⟩
  · intro k hk; simp (disch := omega) only [u2_ne2, u2_s2]; exact d11 k hk
  · intro k hk; simp (disch := omega) only [u2_ne2, u2_s2]; exact d12 k hk
  · intro k hk
    by_cases hkm : k = wn
    · subst hkm
      simp (disch := omega) only [u2_ne2, u2_s2]
      exact ⟨e1, e2, e3, ⟨n2, h2, rfl⟩, n3, h3, rfl⟩
    · simp (disch := omega) only [u2_ne2, u2_s2]
      exact d13 k (by omega)
theorem in_sub {n m : Nat} (hn : n < 1000) (hm : m ≤ 8) (h : f_X7_isWithin (nI n) (nI 0) (nI m - nI 1) = some (nI 1)) : n < m := by
  by_cases h0 : m = 0
  · subst h0
    exfalso
    have e : nI 0 - nI 1 = -nI 1 := by decide
    rw [e] at h
    unfold f_X7_isWithin at h
    rw [if_pos (neg_lt (show n < 2 ^ 31 by omega))] at h
    by_cases h1 : nI n < nI 0
    · rw [if_pos h1] at h; exact absurd (Option.some.inj h) (by decide)
    · rw [if_neg h1] at h; exact absurd (Option.some.inj h) (by decide)
  · rw [pk_sub (by omega)] at h
    have := in_rng hn (by omega) (by omega) h
    omega
theorem K_want {m0 n0 mi mj : Mi} {dr L p m wn sn ln : Nat} {T : Nat → Nat} (h : JR m0 n0 mi mj dr L p m wn sn ln) (hdr : dr = 4 ∨ dr = 210) (t : TC m0 L T) (t2 : TM n0 L T) (hl : wn < 10) :
    OUT m0 n0 dr L p ((f_X5_readWant mi dr).bind (fun a => (f_X5_readEnd a).bind (fun b => some b))) (f_X8_readsWant mj) := by
  obtain ⟨g0, g9, g1, g2, -⟩ := h.q
  unfold f_X5_readWant f_X8_readsWant
  have neg : ∀ n : Nat, n < 2 ^ 31 → ¬ nI n = -nI 1 := fun n hn => nI_nm hn
  rcases j_numR h hdr t t2 (nI 0) (nI 2) with ⟨n1, q1, m1, a1, a2, a3, a4, a5, a6, a7⟩ | ⟨v, mi', m1, f, s, a1, a2, a3, a4, a5⟩
  · have J2 := a5.mw (r := 234) (k := 3 * wn) (nI n1) (by omega)
    obtain ⟨-, g3, -, g4, -⟩ := a5.q
    have nn1 := neg n1 (by omega)
    rcases j_numR J2 hdr t t2 (nI 0) (nI m - nI 1) with ⟨n2, q2, m2, b1, b2, b3, b4, b5, b6, b7⟩ | ⟨v, mi', m2, f, s, b1, b2, b3, b4, b5⟩
    · have J3 := b5.mw (r := 234) (k := 3 * wn + 1) (nI n2) (by omega)
      obtain ⟨-, -, -, g5, -⟩ := b5.q
      have nn2 := neg n2 (by omega)
      have w1 : m2 234 (3 * wn) = nI n1 := by rw [b7.1 234 (by omega)]; exact u2_s2 ⟨rfl, rfl⟩
      rcases j_numR J3 hdr t t2 (nI 0) (nI 9) with ⟨n3, q3, m3, c1, c2, c3, c4, c5, c6, c7⟩ | ⟨v, mi', m3, f, s, c1, c2, c3, c4, c5⟩
      · obtain ⟨-, -, -, g6, -⟩ := c5.q
        have nn3 := neg n3 (by omega)
        have r3 := in_rng c1 (by omega) (by omega) c4
        have hm8 : m ≤ 8 := by obtain ⟨-, -, -, -, -, -, -, z, -⟩ := h; exact z
        have x1 : m3 234 (3 * wn) = nI n1 := by rw [c7.1 234 (by omega), u2_ne2 (by omega)]; exact w1
        have x2 : m3 234 (3 * wn + 1) = nI n2 := by rw [c7.1 234 (by omega)]; exact u2_s2 ⟨rfl, rfl⟩
        have J5 := (c5.mw (r := 234) (k := 3 * wn + 2) (nI n3) (by omega)).want (n1 := n1) (n2 := n2) (n3 := n3) hdr hl (in_sub b1 hm8 b4) (by omega) (by rw [u2_ne2 (by omega)]; exact x1) (by rw [u2_ne2 (by omega)]; exact x2) (u2_s2 ⟨rfl, rfl⟩)
        rcases j_end J5 hdr t t2 with ⟨mi', mj', q, e1, e2, e3, e4⟩ | ⟨mi', mj', f, s, e1, e2, e3, e4⟩
        · refine Or.inl ⟨mi', mj', q, _, _, _, _, ?_, ?_, e3, by omega⟩
          · unfold f_X1_addWant
            simp (disch := omega) only [fa_lit, nI_add, pk_sub, pk_mul, nI_clamp, nI_leI, nI_ltI, nI_eq, inb, u2_s2, u2_ne2, if_pos, if_neg, Option.bind_some, nx, add_n0, cO, cN, cF, cU, true_or, or_true, if_true, if_false, not_true_eq_false, not_false_eq_true, true_and, and_true, a2, g0, b2, c2, g1, e1]
          · have e2' : f_X8_readsSign _ (nI 59) = _ := e2
            simp (disch := omega) only [fa_lit, nI_add, pk_sub, pk_mul, nI_clamp, nI_leI, nI_ltI, nI_eq, inb, u2_s2, u2_ne2, if_pos, if_neg, Option.bind_some, nx, add_n0, cO, cN, cF, cU, true_or, or_true, if_true, if_false, not_true_eq_false, not_false_eq_true, true_and, and_true, a3, g2, g3, nn1, b3, nn2, c3, g6, nn3, e2']
        · refine Or.inr ⟨mi', mj', f, s, ?_, ?_, e3, e4⟩
          · unfold f_X1_addWant
            simp (disch := omega) only [fa_lit, nI_add, pk_sub, pk_mul, nI_clamp, nI_leI, nI_ltI, nI_eq, inb, u2_s2, u2_ne2, if_pos, if_neg, Option.bind_some, nx, add_n0, cO, cN, cF, cU, true_or, or_true, if_true, if_false, not_true_eq_false, not_false_eq_true, true_and, and_true, a2, g0, b2, c2, g1, e1]
          · have e2' : f_X8_readsSign _ (nI 59) = _ := e2
            simp (disch := omega) only [fa_lit, nI_add, pk_sub, pk_mul, nI_clamp, nI_leI, nI_ltI, nI_eq, inb, u2_s2, u2_ne2, if_pos, if_neg, Option.bind_some, nx, add_n0, cO, cN, cF, cU, true_or, or_true, if_true, if_false, not_true_eq_false, not_false_eq_true, true_and, and_true, a3, g2, g3, nn1, b3, nn2, c3, g6, nn3, e2']
      · have g6 : m3 229 12 = nI wn := by rw [c5.2 12 (by omega), u2_ne2 (by omega)]; exact g5
        obtain ⟨mc, k3, k4⟩ := B_want c3 hdr (nI n1) (nI n2) v
        obtain ⟨md, l1, l2⟩ := B_end k4 hdr t
        refine Or.inr ⟨md, u2 (u2 m3 234 (3 * wn + 2) (-nI 1)) 229 12 (nI (wn + 1)), f, s, ?_, ?_, l2, (c4.d (by omega) _ _).s (by omega) _⟩
        · simp (disch := omega) only [fa_lit, nI_add, pk_sub, pk_mul, nI_clamp, nI_leI, nI_ltI, nI_eq, inb, u2_s2, u2_ne2, if_pos, if_neg, Option.bind_some, nx, add_n0, cO, cN, cF, cU, true_or, or_true, if_true, if_false, not_true_eq_false, not_false_eq_true, true_and, and_true, a2, g0, b2, c1, k3, l1]
        · simp (disch := omega) only [fa_lit, nI_add, pk_sub, pk_mul, nI_clamp, nI_leI, nI_ltI, nI_eq, inb, u2_s2, u2_ne2, if_pos, if_neg, Option.bind_some, nx, add_n0, cO, cN, cF, cU, true_or, or_true, if_true, if_false, not_true_eq_false, not_false_eq_true, true_and, and_true, a3, g2, g3, nn1, b3, nn2, c2, g6]
    · have g5 : m2 229 12 = nI wn := by rw [b5.2 12 (by omega), u2_ne2 (by omega)]; exact g4
      obtain ⟨v3, mb, k1, k2⟩ := B_num b3 hdr t (nI 0) (nI 9)
      obtain ⟨mc, k3, k4⟩ := B_want k2 hdr (nI n1) v v3
      obtain ⟨md, l1, l2⟩ := B_end k4 hdr t
      refine Or.inr ⟨md, u2 (u2 (u2 m2 234 (3 * wn + 1) (-nI 1)) 234 (3 * wn + 2) (-nI 1)) 229 12 (nI (wn + 1)), f, s, ?_, ?_, l2, ((b4.d (by omega) _ _).d (by omega) _ _).s (by omega) _⟩
      · simp (disch := omega) only [fa_lit, nI_add, pk_sub, pk_mul, nI_clamp, nI_leI, nI_ltI, nI_eq, inb, u2_s2, u2_ne2, if_pos, if_neg, Option.bind_some, nx, add_n0, cO, cN, cF, cU, true_or, or_true, if_true, if_false, not_true_eq_false, not_false_eq_true, true_and, and_true, a2, g0, b1, k1, k3, l1]
      · simp (disch := omega) only [fa_lit, nI_add, pk_sub, pk_mul, nI_clamp, nI_leI, nI_ltI, nI_eq, inb, u2_s2, u2_ne2, if_pos, if_neg, Option.bind_some, nx, add_n0, cO, cN, cF, cU, true_or, or_true, if_true, if_false, not_true_eq_false, not_false_eq_true, true_and, and_true, a3, g2, g3, nn1, b2, g5]
  · obtain ⟨v2, ma, j1, j2⟩ := B_num a3 hdr t (nI 0) (mi' dr 5 - nI 1)
    obtain ⟨v3, mb, k1, k2⟩ := B_num j2 hdr t (nI 0) (nI 9)
    obtain ⟨mc, k3, k4⟩ := B_want k2 hdr v v2 v3
    obtain ⟨md, l1, l2⟩ := B_end k4 hdr t
    have g4 : m1 229 12 = nI wn := by rw [a5.2 12 (by omega)]; exact g2
    refine Or.inr ⟨md, u2 (u2 (u2 (u2 m1 234 (3 * wn) (-nI 1)) 234 (3 * wn + 1) (-nI 1)) 234 (3 * wn + 2) (-nI 1)) 229 12 (nI (wn + 1)), f, s, ?_, ?_, l2, (((a4.d (by omega) _ _).d (by omega) _ _).d (by omega) _ _).s (by omega) _⟩
    · simp (disch := omega) only [fa_lit, nI_add, pk_sub, pk_mul, nI_clamp, nI_leI, nI_ltI, nI_eq, inb, u2_s2, u2_ne2, if_pos, if_neg, Option.bind_some, nx, add_n0, cO, cN, cF, cU, true_or, or_true, if_true, if_false, not_true_eq_false, not_false_eq_true, true_and, and_true, a1, j1, k1, k3, l1]
    · simp (disch := omega) only [fa_lit, nI_add, pk_sub, pk_mul, nI_clamp, nI_leI, nI_ltI, nI_eq, inb, u2_s2, u2_ne2, if_pos, if_neg, Option.bind_some, nx, add_n0, cO, cN, cF, cU, true_or, or_true, if_true, if_false, not_true_eq_false, not_false_eq_true, true_and, and_true, a2, g2, g4]
