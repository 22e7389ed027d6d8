/-! 35: undo -/
theorem v_undoL {mj : Mi} {a : Nat} (ha : a < 30) (hj : mj 229 29 = nI a) (y : Int32) (K : Int32 → Mi → Option (Int32 × Mi)) :
    ∀ (c n1 k : Nat), 121 - k = c → k ≤ 121 → c < n1 → lp_X8_undo_52 y K n1 (nI k) (ur mj 238 (va_cpy (mj 239) (mj 238) (121 * a) 0 k)) = K (nI 121) (ur mj 238 (va_cpy (mj 239) (mj 238) (121 * a) 0 121)) := by
  intro c
  induction c with
  | zero =>
    intro n1 k h2 h3 h5
    obtain ⟨n1, rfl⟩ : ∃ n, n1 = n + 1 := ⟨n1 - 1, by omega⟩
    have : k = 121 := by omega
    subst this
    unfold lp_X8_undo_52; simp (disch := omega) only [fa_lit, nI_add, pk_sub, pk_mul, nI_clamp, nI_leI, nI_ltI, nI_eq, inb, u2_s2, u2_ne2, if_pos, if_neg, Option.bind_some, nx, add_n0, cO, cN, cF, cU, true_or, or_true, if_true, if_false, not_true_eq_false, not_false_eq_true, true_and, and_true]
  | succ c ih =>
    intro n1 k h2 h3 h5
    obtain ⟨n1, rfl⟩ : ∃ n, n1 = n + 1 := ⟨n1 - 1, by omega⟩
    have z := ih n1 (k + 1) (by omega) (by omega) (by omega)
    rw [← cpy_s, Nat.zero_add] at z
    unfold lp_X8_undo_52
    simp (disch := omega) only [fa_lit, nI_add, pk_sub, pk_mul, nI_clamp, nI_leI, nI_ltI, nI_eq, inb, u2_s2, u2_ne2, if_pos, if_neg, Option.bind_some, nx, add_n0, cO, cN, cF, cU, true_or, or_true, if_true, if_false, not_true_eq_false, not_false_eq_true, true_and, and_true, ur_r, hj]
    exact z
theorem u_idx {a b n j q i : Nat} (hb : a + 30 = b + n) (hq : b % 30 = q) (hj : n + j ≤ 30) : (q + 30 - j + i) % 30 = (a + 30 - (n + j) + i) % 30 := by
  have h1 : a + 30 - (n + j) = b - j := by omega
  rw [h1]
  have h2 : j ≤ b := by omega
  obtain ⟨d, rfl⟩ : ∃ d, b = d + j := ⟨b - j, by omega⟩
  rw [show d + j - j = d by omega]
  omega
theorem u_core {mi mj : Mi} {ml : Ml} {ld m wn sn : Nat} {j n f a b p q : Nat} (h : DD mi mj ml ld m wn sn) (hn1 : 1 ≤ n) (hn : n ≤ 30) (hb : a + 30 = b + n) (hp : (f + j) % 30 = p) (hq : b % 30 = q) (hj : n + j ≤ 30) (c2 : f < 30) (c3 : a < 30) (c4 : mi 17 2 = nI (n + j)) (c5 : mi 17 1 = nI f) (c6 : mj 229 28 = nI (n + j)) (c7 : mj 229 29 = nI a)
    (c8 : ∀ i : Nat, i < n + j → RE mi (19 + 6 * ((f + i) % 30)) (fun k => mj 239 (121 * ((a + 30 - (n + j) + i) % 30) + k)))
    (e : f_X7_isWithin (nI n) (nI 1) (nI 30) = some (nI 1)) : DO mi mj ml ld m wn sn (f_X7_undo mi (nI n)) (f_X8_undo mj (nI n)) := by
  obtain ⟨hK, hE, -, hS⟩ := id h
  have hp2 : p < 30 := by rw [← hp]; exact Nat.mod_lt _ (by decide)
  have hq2 : q < 30 := by rw [← hq]; exact Nat.mod_lt _ (by decide)
  have hb2 : b < 60 := by omega
  have e1 : nI (f + j) / nI 30 = nI ((f + j) / 30) := n_div _ (by omega) 30 (by omega) (by omega)
  have e2 : nI (f + j) - nI ((f + j) / 30) * nI 30 = nI p := by rw [pk_mul, pk_sub (by omega)]; congr 1; omega
  have e3 : nI b / nI 30 = nI (b / 30) := n_div _ (by omega) 30 (by omega) (by omega)
  have e4 : nI b - nI (b / 30) * nI 30 = nI q := by rw [pk_mul, pk_sub (by omega)]; congr 1; omega
  have c9 := c8 j (by omega)
  have hI : ∀ i, (q + 30 - j + i) % 30 = (a + 30 - (n + j) + i) % 30 := fun i => u_idx hb hq hj
  rw [hp, show (a + 30 - (n + j) + j) % 30 = q by omega] at c9
  have hbn : a + 30 - n = b := by omega
  clear hp hq hb
  obtain ⟨m1, y1, y2, y3⟩ := v_copy (u2 mi 17 2 (nI j)) (e := 11) (e1 := 19 + 6 * p) (by omega)
  have g17 : m1 17 = (u2 mi 17 2 (nI j)) 17 := y2 17 (by omega)
  have gr : ∀ i, i ≠ 17 → (i < 11 ∨ 17 ≤ i) → m1 i = mi i := fun i h1 h2 => by rw [y2 i h2, u2_row h1]
  have wS : (u2 (u2 mj 229 29 ((((mj 229 29) + 30) - nI n) - (((mj 229 29) + 30) - nI n) / 30 * 30)) 229 28 (((u2 mj 229 29 ((((mj 229 29) + 30) - nI n) - (((mj 229 29) + 30) - nI n) / 30 * 30)) 229 28) - nI n)) = (u2 (u2 mj 229 29 (nI q)) 229 28 (nI j)) := by
    have z1 : ((mj 229 29) + 30) - nI n = nI b := by rw [c7, show (30 : Int32) = nI 30 from rfl, nI_add, pk_sub (by omega), hbn]
    have z2 : nI b - nI b / 30 * 30 = nI q := by rw [fa_lit, e3, e4]
    rw [z1, z2, u2_ne2 (by omega), c6, pk_sub (by omega), show n + j - n = j by omega]
  have w1 : (u2 (u2 mj 229 29 (nI q)) 229 28 (nI j)) 229 29 = nI q := by rw [u2_ne2 (by omega), u2_s2 ⟨rfl, rfl⟩]
  have w2 : (u2 (u2 mj 229 29 (nI q)) 229 28 (nI j)) 229 28 = nI j := u2_s2 ⟨rfl, rfl⟩
  have w3 : ∀ k, k ≠ 28 → k ≠ 29 → (u2 (u2 mj 229 29 (nI q)) 229 28 (nI j)) 229 k = mj 229 k := fun k h1 h2 => by rw [u2_ne2 (by omega), u2_ne2 (by omega)]
  have w4 : ∀ i, i ≠ 229 → (u2 (u2 mj 229 29 (nI q)) 229 28 (nI j)) i = mj i := fun i h1 => by rw [u2_row h1, u2_row h1]
  revert wS w1 w2 w3 w4
  generalize (u2 (u2 mj 229 29 (nI q)) 229 28 (nI j)) = mk
  intro wS w1 w2 w3 w4
  generalize hM : ur mk 238 (va_cpy (mk 239) (mk 238) (121 * q) 0 121) = M
  have M2 : ∀ i, i ≠ 238 → M i = mk i := fun i hi => by rw [← hM]; exact ur_ne hi
  have M3 : ∀ k, k < 121 → M 238 k = mj 239 (121 * q + k) := fun k hk => by
    rw [← hM, ur_s, ← w4 239 (by omega)]
    have z := cpy_i (f := mk 239) (g := mk 238) (s := 121 * q) (d := 0) (n := 121) hk
    rw [Nat.zero_add] at z
    exact z
  have E1 : RE m1 11 (M 238) := by
    have z := y3 (fun k => mj 239 (121 * q + k)) (c9.to (u2_row (by omega)) (u2_row (by omega)) (u2_row (by omega)) (u2_row (by omega)) (u2_row (by omega)) (u2_row (by omega)) (fun _ _ => rfl))
    exact z.to rfl rfl rfl rfl rfl rfl (fun k hk => M3 k hk)
  obtain ⟨⟨hr, q1, q2, q3⟩, -⟩ := id E1
  have fc : FC mi m1 := ⟨fun i hi => gr i (by omega) (by omega), fun k _ => by rw [gr 0 (by omega) (by omega)]⟩
  have fm : FM mj M := ⟨fun i h1 h2 h3 => by rw [M2 i h2, w4 i h1], fun k h1 h2 => by rw [M2 229 (by omega), w3 k h1 h2]⟩
  refine ⟨nI hr, m1, M, ?_, ?_, ⟨hK.FF fc fm, E1, ?_, ?_⟩, fc, fm⟩
  · have hin : f_X7_isWithin (nI n) (nI 1) (nI (n + j)) = some (nI 1) := by
      unfold f_X7_isWithin
      simp (disch := omega) only [fa_lit, nI_add, pk_sub, pk_mul, nI_clamp, nI_leI, nI_ltI, nI_eq, inb, u2_s2, u2_ne2, if_pos, if_neg, Option.bind_some, nx, add_n0, cO, cN, cF, cU, true_or, or_true, if_true, if_false, not_true_eq_false, not_false_eq_true, true_and, and_true]
    unfold f_X7_undo
    rw [show f_X7_isWithin (nI n) 1 30 = _ from e, Option.bind_some, if_neg (show ¬ nI 1 = 0 from nI_ne0 (by omega) (by omega)), c4, if_pos (show nI n ≤ nI (n + j) from (nI_leI (by omega) (by omega)).2 (by omega))]
    have hbb : f_X4_bringBack mi 11 (nI n) = some m1 := by
      unfold f_X4_bringBack
      have z1 : (u2 mi 17 2 (mi 17 2 - nI n)) = u2 mi 17 2 (nI j) := by rw [c4, pk_sub (by omega), show n + j - n = j by omega]
      have z2 : (u2 mi 17 2 (nI j)) 17 1 + (u2 mi 17 2 (nI j)) 17 2 - ((u2 mi 17 2 (nI j)) 17 1 + (u2 mi 17 2 (nI j)) 17 2) / 30 * 30 = nI p := by
        rw [u2_s2 ⟨rfl, rfl⟩, u2_ne2 (by omega), c5, nI_add, fa_lit, e1, e2]
      have z3 : inb (nI p) 30 := by simp (disch := omega) only [fa_lit, nI_add, pk_sub, pk_mul, nI_clamp, nI_leI, nI_ltI, nI_eq, inb, u2_s2, u2_ne2, if_pos, if_neg, Option.bind_some, nx, add_n0, cO, cN, cF, cU, true_or, or_true, if_true, if_false, not_true_eq_false, not_false_eq_true, true_and, and_true]; omega
      have z4 : (nI p).toNatClampNeg = p := nI_clamp (by omega)
      rw [show f_X7_isWithin (nI n) 1 (mi 17 2) = some (nI 1) by rw [c4]; exact hin, Option.bind_some, if_neg (show ¬ nI 1 = 0 from nI_ne0 (by omega) (by omega)), z1, z2, if_pos z3, z4, y1, Option.bind_some]
    rw [hbb, Option.bind_some, q2]
  · unfold f_X8_undo
    rw [show f_X8_in (nI n) 1 30 = some (nI 1) from e, Option.bind_some, if_neg (show ¬ nI 1 = 0 from nI_ne0 (by omega) (by omega)), c6, if_pos (show nI n ≤ nI (n + j) from (nI_leI (by omega) (by omega)).2 (by omega)), wS, nx]
    have z := v_undoL hq2 w1 (nI n) (fun v2_10 mi10 => if inb 0 121 then some (mi10 238 (0 : Int32).toNatClampNeg, mi10) else none) 121 FU 0 (by omega) (by omega) (by rw [FU_eq]; omega)
    rw [cpy_0, hM] at z
    refine Eq.trans z ?_
    simp (disch := omega) only [fa_lit, nI_add, pk_sub, pk_mul, nI_clamp, nI_leI, nI_ltI, nI_eq, inb, u2_s2, u2_ne2, if_pos, if_neg, Option.bind_some, nx, add_n0, cO, cN, cF, cU, true_or, or_true, if_true, if_false, not_true_eq_false, not_false_eq_true, true_and, and_true, q3]
  · refine ⟨j, f, q, by omega, c2, hq2, ?_, ?_, ?_, ?_, fun i hi => ?_⟩
    · rw [g17, u2_s2 ⟨rfl, rfl⟩]
    · rw [g17, u2_ne2 (by omega)]; exact c5
    · rw [M2 229 (by omega)]; exact w2
    · rw [M2 229 (by omega)]; exact w1
    · have z := c8 i (by omega)
      have hfi : (f + i) % 30 < 30 := Nat.mod_lt _ (by decide)
      revert z
      generalize (f + i) % 30 = u at hfi
      intro z
      refine z.to (gr _ (by omega) (by omega)) (gr _ (by omega) (by omega)) (gr _ (by omega) (by omega)) (gr _ (by omega) (by omega)) (gr _ (by omega) (by omega)) (gr _ (by omega) (by omega)) (fun k hk => ?_)
      rw [M2 239 (by omega), w4 239 (by omega), hI]
  · obtain ⟨s, s1, s2, s3⟩ := hS
    exact ⟨s, s1, by rw [gr 0 (by omega) (by omega)]; exact s2, s3⟩
theorem J_undo {mi mj : Mi} {ml : Ml} {ld m wn sn : Nat} (h : DD mi mj ml ld m wn sn) (x : Int32) : DO mi mj ml ld m wn sn (f_X7_undo mi x) (f_X8_undo mj x) := by
  obtain ⟨hK, hE, hU, hS⟩ := id h
  rcases in_cases x 1 30 (by omega) (by omega) with ⟨n, hn1, hn, rfl, e⟩ | e
  · obtain ⟨c, f, a, c1, c2, c3, c4, c5, c6, c7, c8⟩ := hU
    by_cases hc : n ≤ c
    · obtain ⟨j, rfl⟩ : ∃ j, c = n + j := ⟨c - n, by omega⟩
      exact u_core h hn1 hn (b := a + 30 - n) (by omega) rfl rfl c1 c2 c3 c4 c5 c6 c7 c8 e
    · have z : ¬ nI n ≤ nI c := by rw [nI_leI (by omega) (by omega)]; exact hc
      refine DO.no h (-nI 1000000003) ?_ ?_
      · unfold f_X7_undo
        rw [show f_X7_isWithin (nI n) 1 30 = _ from e, Option.bind_some, if_neg (show ¬ nI 1 = 0 from nI_ne0 (by omega) (by omega)), c4, if_neg z]; rfl
      · unfold f_X8_undo
        rw [show f_X8_in (nI n) 1 30 = _ from e, Option.bind_some, if_neg (show ¬ nI 1 = 0 from nI_ne0 (by omega) (by omega)), c6, if_neg z]; rfl
  · refine DO.no h (-nI 1000000002) ?_ ?_
    · unfold f_X7_undo
      rw [show f_X7_isWithin x 1 30 = _ from e, Option.bind_some, if_pos (show nI 0 = 0 from rfl)]; rfl
    · unfold f_X8_undo
      rw [show f_X8_in x 1 30 = _ from e, Option.bind_some, if_pos (show nI 0 = 0 from rfl)]; rfl
