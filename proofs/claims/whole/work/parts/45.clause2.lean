/-! 45: lands, things -/
theorem JR.mw {m0 n0 mi mj : Mi} {dr L p m wn sn ln : Nat} (h : JR m0 n0 mi mj dr L p m wn sn ln) {r k : Nat} (x : Int32) (hr : (r = 231 ∧ sn ≤ k) ∨ (r = 232 ∧ m ≤ k) ∨ (r = 233 ∧ m ≤ k) ∨ (r = 234 ∧ 3 * wn ≤ k)) : JR m0 n0 mi (u2 mj r k x) dr L p m wn sn ln := by
  obtain ⟨c1, c2, c3, c4, c5, c6, c7, c8⟩ := h
  obtain ⟨d1, d2, d3, d4, ⟨d5, d5'⟩, ⟨d6, d6'⟩, ⟨d7, d7'⟩, ⟨d8, d8'⟩, ⟨d9, d9', d9''⟩, d10, d11, d12, d13⟩ := c8
  have d10f : Unit → _ := fun _ => d10
  clear d10
  refine ⟨c1, c2.d (by omega) _ _, c3, by simp (disch := omega) only [u2_ne2, u2_s2]; exact c4, c5, c6, c7, d1, d2, d3, d4, ⟨d5, by simp (disch := omega) only [u2_ne2, u2_s2]; exact d5'⟩, ⟨d6, by simp (disch := omega) only [u2_ne2, u2_s2]; exact d6'⟩, ⟨d7, by simp (disch := omega) only [u2_ne2, u2_s2]; exact d7'⟩, ⟨d8, by simp (disch := omega) only [u2_ne2, u2_s2]; exact d8'⟩, ⟨by simp (disch := omega) only [u2_ne2, u2_s2]; exact d9, by simp (disch := omega) only [u2_ne2, u2_s2]; exact d9', by simp (disch := omega) only [u2_ne2, u2_s2]; exact d9''⟩, d10f (), ?_, ?_, ?_⟩
  · intro k hk; simp (disch := omega) only [u2_ne2, u2_s2]; exact d11 k hk
  · intro k hk; simp (disch := omega) only [u2_ne2, u2_s2]; exact d12 k hk
  · intro k hk; simp (disch := omega) only [u2_ne2, u2_s2]; exact d13 k hk
theorem JR.land {m0 n0 mi mj : Mi} {dr L p m wn sn ln : Nat} (h : JR m0 n0 mi mj dr L p m wn sn ln) (hdr : dr = 4 ∨ dr = 210) (x : Int32) (hl : ln < 6) : JR m0 n0 (u2 (u2 mi dr 3 (mi dr 3 + x)) dr 6 (nI (ln + 1))) (u2 (u2 mj 229 10 (mj 229 10 + x)) 229 11 (nI (ln + 1))) dr L p m wn sn (ln + 1) := by
  obtain ⟨c1, c2, c3, c4, c5, c6, c7, c8⟩ := h
  obtain ⟨d1, d2, d3, d4, ⟨d5, d5'⟩, ⟨d6, d6'⟩, ⟨d7, d7'⟩, ⟨d8, d8'⟩, ⟨d9, d9', d9''⟩, d10, d11, d12, d13⟩ := c8
  refine ⟨(c1.d (by omega) _ _).d (by omega) _ _, (c2.s (by omega) _).s (by omega) _, by simp (disch := omega) only [u2_ne2, u2_s2]; exact c3, by simp (disch := omega) only [u2_ne2, u2_s2]; exact c4, c5, by simp (disch := omega) only [u2_ne2, u2_s2]; exact c6, by simp (disch := omega) only [u2_ne2, u2_s2]; exact c7, d1, d2, d3, by omega, ⟨by simp (disch := omega) only [u2_ne2, u2_s2]; exact d5, by simp (disch := omega) only [u2_ne2, u2_s2]; exact d5'⟩, ⟨by simp (disch := omega) only [u2_ne2, u2_s2]; exact d6, by simp (disch := omega) only [u2_ne2, u2_s2]; exact d6'⟩, ⟨by simp (disch := omega) only [u2_ne2, u2_s2]; exact d7, by simp (disch := omega) only [u2_ne2, u2_s2]; exact d7'⟩, ⟨by simp (disch := omega) only [u2_ne2, u2_s2], by simp (disch := omega) only [u2_ne2, u2_s2]⟩, ⟨by simp (disch := omega) only [u2_ne2, u2_s2]; exact d9, by simp (disch := omega) only [u2_ne2, u2_s2]; exact d9', by simp (disch := omega) only [u2_ne2, u2_s2]; rw [d9'']⟩, by simp (disch := omega) only [u2_ne2, u2_s2]; exact d10, ?_, ?_, ?_⟩
  · intro k hk; simp (disch := omega) only [u2_ne2, u2_s2]; exact d11 k hk
  · intro k hk; simp (disch := omega) only [u2_ne2, u2_s2]; exact d12 k hk
  · intro k hk; simp (disch := omega) only [u2_ne2, u2_s2]; exact d13 k hk
theorem JR.thing {m0 n0 mi mj : Mi} {dr L p m wn sn ln n1 n2 : Nat} (h : JR m0 n0 mi mj dr L p m wn sn ln) (hdr : dr = 4 ∨ dr = 210) (hx : mi dr 0 = nI 1) (hl : m < 8) (h1 : n1 < 4) (h2 : n2 < 10) (e1 : mj 232 m = nI n1) (e2 : mj 233 m = nI n2) : JR m0 n0 (u2 (u2 (u2 mi (dr + 2) m (nI n1)) (dr + 3) m (nI n2)) dr 5 (nI (m + 1))) (u2 mj 229 9 (nI (m + 1))) dr L p (m + 1) wn sn ln := by
  obtain ⟨c1, c2, c3, c4, c5, c6, c7, c8⟩ := h
  obtain ⟨d1, d2, d3, d4, ⟨d5, d5'⟩, ⟨d6, d6'⟩, ⟨d7, d7'⟩, ⟨d8, d8'⟩, ⟨d9, d9', d9''⟩, d10, d11, d12, d13⟩ := c8
  have d10' : ∃ d : Nat, 0 < d ∧ d < 24 ∧ mi dr 2 = nI d := by
    rcases d10 with ⟨a, -⟩ | ⟨-, a⟩
    · rw [hx] at a
      exact absurd a (nI_ne0 (by omega) (by omega))
    · exact a
  refine ⟨((c1.d (by omega) _ _).d (by omega) _ _).d (by omega) _ _, c2.s (by omega) _, by simp (disch := omega) only [u2_ne2, u2_s2]; exact c3, by simp (disch := omega) only [u2_ne2, u2_s2]; exact c4, c5, by simp (disch := omega) only [u2_ne2, u2_s2]; exact c6, by simp (disch := omega) only [u2_ne2, u2_s2]; exact c7, by omega, d2, d3, d4, ⟨by simp (disch := omega) only [u2_ne2, u2_s2], by simp (disch := omega) only [u2_ne2, u2_s2]⟩, ⟨by simp (disch := omega) only [u2_ne2, u2_s2]; exact d6, by simp (disch := omega) only [u2_ne2, u2_s2]; exact d6'⟩, ⟨by simp (disch := omega) only [u2_ne2, u2_s2]; exact d7, by simp (disch := omega) only [u2_ne2, u2_s2]; exact d7'⟩, ⟨by simp (disch := omega) only [u2_ne2, u2_s2]; exact d8, by simp (disch := omega) only [u2_ne2, u2_s2]; exact d8'⟩, ⟨by simp (disch := omega) only [u2_ne2, u2_s2]; exact d9, by simp (disch := omega) only [u2_ne2, u2_s2]; exact d9', by simp (disch := omega) only [u2_ne2, u2_s2]; exact d9''⟩, Or.inr ⟨by simp (disch := omega) only [u2_ne2, u2_s2]; exact hx, by simp (disch := omega) only [u2_ne2, u2_s2]; exact d10'⟩, ?_, ?_, ?_⟩
  · intro k hk; simp (disch := omega) only [u2_ne2, u2_s2]; exact d11 k hk
  · intro k hk
    by_cases hkm : k = m
    · subst hkm
      simp (disch := omega) only [u2_ne2, u2_s2]
      exact ⟨e1, ⟨n1, h1, rfl⟩, e2, n2, h2, rfl⟩
    · simp (disch := omega) only [u2_ne2, u2_s2]
      exact d12 k (by omega)
  · intro k hk; simp (disch := omega) only [u2_ne2, u2_s2]
    obtain ⟨w1, w2, w3, ⟨w4, w5, w6⟩, w7⟩ := d13 k hk
    exact ⟨w1, w2, w3, ⟨w4, by omega, w6⟩, w7⟩
theorem K_land {m0 n0 mi mj : Mi} {dr L p m wn sn ln : Nat} {T : Nat → Nat} (h : JR m0 n0 mi mj dr L p m wn sn ln) (hdr : dr = 4 ∨ dr = 210) (t : TC m0 L T) (t2 : TM n0 L T) (hl : ln < 6) :
    OUT m0 n0 dr L p ((f_X5_readLand mi dr).bind (fun a => (f_X5_readEnd a).bind (fun b => some b))) (f_X8_readsLand mj) := by
  unfold f_X5_readLand f_X8_readsLand
  rcases j_numR h hdr t t2 1 9 with ⟨n1, q1, m1, a1, a2, a3, a4, a5, a6, a7⟩ | ⟨v, mi', m1, f, s, a1, a2, a3, a4, a5⟩
  · rw [a2, Option.bind_some, a3, Option.bind_some]
    rw [if_neg (nI_nm (by omega))]
    have J := a5.land hdr (nI n1) hl
    obtain ⟨-, -, -, -, -, -, -, -, -, -, -, -, -, -, ⟨z1, z2⟩, -⟩ := a5
    have y1 : (u2 (u2 mi 3 2 (nI q1)) dr 3 ((u2 mi 3 2 (nI q1)) dr 3 + nI n1)) dr 6 + 1 = nI (ln + 1) := by
      rw [u2_ne2 (by omega), z1]; exact nI_add _ 1
    have y2 : (u2 m1 229 10 (m1 229 10 + nI n1)) 229 11 + 1 = nI (ln + 1) := by
      rw [u2_ne2 (by omega), z2]; exact nI_add _ 1
    dsimp only
    rw [f_X1_addLand, Option.bind_some, Option.bind_some, y1, y2]
    rcases j_tail J hdr t t2 with ⟨mi', mj', q, m', wn', sn', ln', e1, e2, e3, e4⟩ | ⟨mi', mj', f, s, e1, e2, e3, e4⟩
    · exact Or.inl ⟨mi', mj', q, m', wn', sn', ln', by rw [e1, Option.bind_some], e2, e3, by omega⟩
    · exact Or.inr ⟨mi', mj', f, s, by rw [e1, Option.bind_some], e2, e3, e4⟩
  · rw [a1, Option.bind_some, a2, Option.bind_some]
    rw [if_pos (show (-nI 1 : Int32) = -1 from rfl)]
    obtain ⟨mc, k1, k2⟩ := B_land a3 hdr v
    obtain ⟨md, l1, l2⟩ := B_end k2 hdr t
    exact Or.inr ⟨md, _, f, s, by dsimp only; rw [k1, Option.bind_some, Option.bind_some, l1, Option.bind_some], rfl, l2, (a4.s (by omega) _).s (by omega) _⟩
theorem JR.q {m0 n0 mi mj : Mi} {dr L p m wn sn ln : Nat} (h : JR m0 n0 mi mj dr L p m wn sn ln) : mi dr 5 = nI m ∧ mj 229 9 = nI m ∧ mi dr 7 = nI wn ∧ mj 229 12 = nI wn ∧ mi dr 4 = nI sn ∧ mj 229 8 = nI sn := by
  obtain ⟨-, -, -, -, -, -, -, -, -, -, -, ⟨a, b⟩, ⟨c, d⟩, ⟨e, f⟩, -⟩ := h
  exact ⟨a, b, c, d, e, f⟩
theorem K_thing {m0 n0 mi mj : Mi} {dr L p m wn sn ln : Nat} {T : Nat → Nat} (h : JR m0 n0 mi mj dr L p m wn sn ln) (hdr : dr = 4 ∨ dr = 210) (t : TC m0 L T) (t2 : TM n0 L T) (hx : mi dr 0 = nI 1) (hl : m < 8) :
    OUT m0 n0 dr L p ((f_X5_readThing mi dr).bind (fun a => (f_X5_readEnd a).bind (fun b => some b))) (f_X8_readsThing mj) := by
  obtain ⟨g1, g2, -⟩ := h.q
  unfold f_X5_readThing f_X8_readsThing
  have neg : ∀ n : Nat, n < 2 ^ 31 → ¬ nI n = -nI 1 := fun n hn => nI_nm hn
  rcases j_numR h hdr t t2 (nI 0) (nI 3) with ⟨n1, q1, m1, a1, a2, a3, a4, a5, a6, a7⟩ | ⟨v, mi', m1, f, s, a1, a2, a3, a4, a5⟩
  · have r1 := in_rng a1 (by omega) (by omega) a4
    have J2 := a5.mw (r := 232) (k := m) (nI n1) (by omega)
    obtain ⟨-, g3, -⟩ := J2.q
    rw [u2_ne2 (by omega)] at g3
    rcases j_numR J2 hdr t t2 (nI 0) (nI 9) with ⟨n2, q2, m2, b1, b2, b3, b4, b5, b6, b7⟩ | ⟨v, mi', m2, f, s, b1, b2, b3, b4, b5⟩
    · have r2 := in_rng b1 (by omega) (by omega) b4
      obtain ⟨g4, g5, -⟩ := b5.q
      have g6 : mi dr 5 = nI m := g1
      have w1 : m2 232 m = nI n1 := by rw [b7.1 232 (by omega)]; exact u2_s2 ⟨rfl, rfl⟩
      have J5 := (b5.mw (r := 233) (k := m) (nI n2) (by omega)).thing (n1 := n1) (n2 := n2) hdr (by rw [u2_ne2 (by omega), u2_ne2 (by omega)]; exact hx) hl (by omega) (by omega) (by rw [u2_ne2 (by omega)]; exact w1) (u2_s2 ⟨rfl, rfl⟩)
      have nn2 := neg n2 (by omega)
      have nn1 := neg n1 (by omega)
      rcases j_end J5 hdr t t2 with ⟨mi', mj', q, e1, e2, e3, e4⟩ | ⟨mi', mj', f, s, e1, e2, e3, e4⟩
      · refine Or.inl ⟨mi', mj', q, _, _, _, _, ?_, ?_, e3, by omega⟩
        · unfold f_X1_addThing
          simp (disch := omega) only [fa_lit, nI_add, pk_sub, pk_mul, nI_clamp, nI_leI, nI_ltI, nI_eq, inb, u2_s2, u2_ne2, if_pos, if_neg, Option.bind_some, nx, add_n0, cO, cN, cF, cU, true_or, or_true, if_true, if_false, not_true_eq_false, not_false_eq_true, true_and, and_true, a2, b2, g6, e1]
        · have e2' : f_X8_readsSign _ (nI 59) = _ := e2
          simp (disch := omega) only [fa_lit, nI_add, pk_sub, pk_mul, nI_clamp, nI_leI, nI_ltI, nI_eq, inb, u2_s2, u2_ne2, if_pos, if_neg, Option.bind_some, nx, add_n0, cO, cN, cF, cU, true_or, or_true, if_true, if_false, not_true_eq_false, not_false_eq_true, true_and, and_true, a3, g2, g3, nn1, b3, g5, nn2, e2']
      · refine Or.inr ⟨mi', mj', f, s, ?_, ?_, e3, e4⟩
        · unfold f_X1_addThing
          simp (disch := omega) only [fa_lit, nI_add, pk_sub, pk_mul, nI_clamp, nI_leI, nI_ltI, nI_eq, inb, u2_s2, u2_ne2, if_pos, if_neg, Option.bind_some, nx, add_n0, cO, cN, cF, cU, true_or, or_true, if_true, if_false, not_true_eq_false, not_false_eq_true, true_and, and_true, a2, b2, g6, e1]
        · have e2' : f_X8_readsSign _ (nI 59) = _ := e2
          simp (disch := omega) only [fa_lit, nI_add, pk_sub, pk_mul, nI_clamp, nI_leI, nI_ltI, nI_eq, inb, u2_s2, u2_ne2, if_pos, if_neg, Option.bind_some, nx, add_n0, cO, cN, cF, cU, true_or, or_true, if_true, if_false, not_true_eq_false, not_false_eq_true, true_and, and_true, a3, g2, g3, nn1, b3, g5, nn2, e2']
    · have nn1 := neg n1 (by omega)
      have g5 : m2 229 9 = nI m := by rw [b5.2 9 (by omega), u2_ne2 (by omega)]; exact g3
      obtain ⟨mc, k1, k2⟩ := B_thing b3 hdr (nI n1) v
      obtain ⟨md, l1, l2⟩ := B_end k2 hdr t
      refine Or.inr ⟨md, u2 (u2 m2 233 m (-nI 1)) 229 9 (nI (m + 1)), f, s, ?_, ?_, l2, (b4.d (by omega) _ _).s (by omega) _⟩
      · simp (disch := omega) only [fa_lit, nI_add, pk_sub, pk_mul, nI_clamp, nI_leI, nI_ltI, nI_eq, inb, u2_s2, u2_ne2, if_pos, if_neg, Option.bind_some, nx, add_n0, cO, cN, cF, cU, true_or, or_true, if_true, if_false, not_true_eq_false, not_false_eq_true, true_and, and_true, a2, b1, k1, l1]
      · simp (disch := omega) only [fa_lit, nI_add, pk_sub, pk_mul, nI_clamp, nI_leI, nI_ltI, nI_eq, inb, u2_s2, u2_ne2, if_pos, if_neg, Option.bind_some, nx, add_n0, cO, cN, cF, cU, true_or, or_true, if_true, if_false, not_true_eq_false, not_false_eq_true, true_and, and_true, a3, g2, g3, nn1, b2, g5]
  · obtain ⟨v2, mb, k1, k2⟩ := B_num a3 hdr t (nI 0) (nI 9)
    obtain ⟨mc, k3, k4⟩ := B_thing k2 hdr v v2
    obtain ⟨md, l1, l2⟩ := B_end k4 hdr t
    have g3 : m1 229 9 = nI m := by rw [a5.2 9 (by omega)]; exact g2
    refine Or.inr ⟨md, u2 (u2 (u2 m1 232 m (-nI 1)) 233 m (-nI 1)) 229 9 (nI (m + 1)), f, s, ?_, ?_, l2, ((a4.d (by omega) _ _).d (by omega) _ _).s (by omega) _⟩
    · simp (disch := omega) only [fa_lit, nI_add, pk_sub, pk_mul, nI_clamp, nI_leI, nI_ltI, nI_eq, inb, u2_s2, u2_ne2, if_pos, if_neg, Option.bind_some, nx, add_n0, cO, cN, cF, cU, true_or, or_true, if_true, if_false, not_true_eq_false, not_false_eq_true, true_and, and_true, a1, k1, k3, l1]
    · simp (disch := omega) only [fa_lit, nI_add, pk_sub, pk_mul, nI_clamp, nI_leI, nI_ltI, nI_eq, inb, u2_s2, u2_ne2, if_pos, if_neg, Option.bind_some, nx, add_n0, cO, cN, cF, cU, true_or, or_true, if_true, if_false, not_true_eq_false, not_false_eq_true, true_and, and_true, a2, g2, g3]
