/-! 50: a county is set up: the loops -/
theorem v_c96 {sn : Nat} (hs : sn ≤ 12) (y : Int32) : ∀ (c n k : Nat) (mj : Mi), mj 229 19 = nI sn → sn - k = c → k ≤ sn → c < n → ∃ mj' : Mi, (∀ K : Int32 → Mi → Option (Int32 × Mi), lp_X8_county_96 y K n (nI k) mj = K (nI sn) mj') ∧ (∀ i, i ≠ 235 → mj' i = mj i) ∧ (∀ j, k ≤ j → j < sn → mj' 235 j = mj 231 j) ∧ ∀ j, j < k → mj' 235 j = mj 235 j := by
  intro c
  induction c with
  | zero =>
    intro n k mj hb h1 h2 h3
    obtain ⟨n, rfl⟩ : ∃ q, n = q + 1 := ⟨n - 1, by omega⟩
    have : k = sn := by omega
    subst this
    exact ⟨mj, fun K => by rw [lp_X8_county_96, hb, if_pos ((nI_leI (by omega) (by omega)).2 (Nat.le_refl _))], fun _ _ => rfl, fun j _ _ => by omega, fun _ _ => rfl⟩
  | succ c ih =>
    intro n k mj hb h1 h2 h3
    obtain ⟨n, rfl⟩ : ∃ q, n = q + 1 := ⟨n - 1, by omega⟩
    obtain ⟨mj', e1, e2, e3, e4⟩ := ih n (k + 1) (u2 mj 235 k (mj 231 k)) (by rw [u2_row (by omega)]; exact hb) (by omega) (by omega) (by omega)
    have hi : inb (nI k) 12 := by simp (disch := omega) only [fa_lit, nI_add, pk_sub, pk_mul, nI_clamp, nI_leI, nI_ltI, nI_eq, inb, u2_s2, u2_ne2, if_pos, if_neg, Option.bind_some, nx, add_n0, cO, cN, cF, cU, true_or, or_true, if_true, if_false, not_true_eq_false, not_false_eq_true, true_and, and_true]; omega
    have hc : (nI k).toNatClampNeg = k := nI_clamp (by omega)
    refine ⟨mj', fun K => ?_, fun i h => by rw [e2 i h, u2_row h], fun j g1 g2 => ?_, fun j g => ?_⟩
    · rw [lp_X8_county_96, hb, if_neg (show ¬ nI sn ≤ nI k from fun e => absurd ((nI_leI (by omega) (by omega)).1 e) (by omega)), if_pos hi, if_pos hi, hc, show nI k + 1 = nI (k + 1) from nI_add _ 1]
      exact e1 K
    · by_cases hj : j = k
      · subst hj; rw [e4 j (by omega), u2_s2 ⟨rfl, rfl⟩]
      · rw [e3 j (by omega) g2, u2_row (by omega)]
    · rw [e4 j (by omega), u2_ne2 (by omega)]
theorem v_c124 {wn : Nat} (hs : wn ≤ 10) (y : Int32) : ∀ (c n k : Nat) (mj : Mi), mj 229 23 = nI wn → 3 * wn - k = c → k ≤ 3 * wn → c < n → ∃ mj' : Mi, (∀ K : Int32 → Mi → Option (Int32 × Mi), lp_X8_county_124 y K n (nI k) mj = K (nI (3 * wn)) mj') ∧ (∀ i, i ≠ 237 → mj' i = mj i) ∧ (∀ j, k ≤ j → j < 3 * wn → mj' 237 j = mj 234 j) ∧ ∀ j, j < k → mj' 237 j = mj 237 j := by
  intro c
  have e0 : (3 : Int32) * nI wn = nI (3 * wn) := pk_mul 3 wn
  induction c with
  | zero =>
    intro n k mj hb h1 h2 h3
    obtain ⟨n, rfl⟩ : ∃ q, n = q + 1 := ⟨n - 1, by omega⟩
    have : k = 3 * wn := by omega
    subst this
    exact ⟨mj, fun K => by rw [lp_X8_county_124, hb, e0, if_pos ((nI_leI (by omega) (by omega)).2 (Nat.le_refl _))], fun _ _ => rfl, fun j _ _ => by omega, fun _ _ => rfl⟩
  | succ c ih =>
    intro n k mj hb h1 h2 h3
    obtain ⟨n, rfl⟩ : ∃ q, n = q + 1 := ⟨n - 1, by omega⟩
    obtain ⟨mj', e1, e2, e3, e4⟩ := ih n (k + 1) (u2 mj 237 k (mj 234 k)) (by rw [u2_row (by omega)]; exact hb) (by omega) (by omega) (by omega)
    have hi : inb (nI k) 30 := by simp (disch := omega) only [fa_lit, nI_add, pk_sub, pk_mul, nI_clamp, nI_leI, nI_ltI, nI_eq, inb, u2_s2, u2_ne2, if_pos, if_neg, Option.bind_some, nx, add_n0, cO, cN, cF, cU, true_or, or_true, if_true, if_false, not_true_eq_false, not_false_eq_true, true_and, and_true]; omega
    have hc : (nI k).toNatClampNeg = k := nI_clamp (by omega)
    refine ⟨mj', fun K => ?_, fun i h => by rw [e2 i h, u2_row h], fun j g1 g2 => ?_, fun j g => ?_⟩
    · rw [lp_X8_county_124, hb, e0, if_neg (show ¬ nI (3 * wn) ≤ nI k from fun e => absurd ((nI_leI (by omega) (by omega)).1 e) (by omega)), if_pos hi, if_pos hi, hc, show nI k + 1 = nI (k + 1) from nI_add _ 1]
      exact e1 K
    · by_cases hj : j = k
      · subst hj; rw [e4 j (by omega), u2_s2 ⟨rfl, rfl⟩]
      · rw [e3 j (by omega) g2, u2_row (by omega)]
    · rw [e4 j (by omega), u2_ne2 (by omega)]
/-- the estate's words at the start -/
def iw (j : Nat) : Int32 := if 16 ≤ j ∧ j ≤ 39 then -nI 1 else nI 0
theorem v_c154 (y : Int32) : ∀ (c n k : Nat) (mj : Mi), 121 - k = c → k ≤ 121 → c < n → ∃ mj' : Mi, (∀ K : Int32 → Mi → Option (Int32 × Mi), lp_X8_county_154 y K n (nI k) mj = K (nI 121) mj') ∧ (∀ i, i ≠ 238 → mj' i = mj i) ∧ (∀ j, k ≤ j → j < 121 → mj' 238 j = iw j) ∧ ∀ j, j < k → mj' 238 j = mj 238 j := by
  intro c
  induction c with
  | zero =>
    intro n k mj h1 h2 h3
    obtain ⟨n, rfl⟩ : ∃ q, n = q + 1 := ⟨n - 1, by omega⟩
    have : k = 121 := by omega
    subst this
    exact ⟨mj, fun K => by rw [lp_X8_county_154, if_pos (show (121 : Int32) ≤ nI 121 from (nI_leI (a := 121) (by omega) (by omega)).2 (Nat.le_refl _))], fun _ _ => rfl, fun j _ _ => by omega, fun _ _ => rfl⟩
  | succ c ih =>
    intro n k mj h1 h2 h3
    obtain ⟨n, rfl⟩ : ∃ q, n = q + 1 := ⟨n - 1, by omega⟩
    obtain ⟨mj', e1, e2, e3, e4⟩ := ih n (k + 1) (u2 mj 238 k (iw k)) (by omega) (by omega) (by omega)
    have hi : inb (nI k) 121 := by simp (disch := omega) only [fa_lit, nI_add, pk_sub, pk_mul, nI_clamp, nI_leI, nI_ltI, nI_eq, inb, u2_s2, u2_ne2, if_pos, if_neg, Option.bind_some, nx, add_n0, cO, cN, cF, cU, true_or, or_true, if_true, if_false, not_true_eq_false, not_false_eq_true, true_and, and_true]; omega
    have hc : (nI k).toNatClampNeg = k := nI_clamp (by omega)
    refine ⟨mj', fun K => ?_, fun i h => by rw [e2 i h, u2_row h], fun j g1 g2 => ?_, fun j g => ?_⟩
    · rw [lp_X8_county_154, if_neg (show ¬ (121 : Int32) ≤ nI k from fun e => absurd ((nI_leI (a := 121) (by omega) (by omega)).1 e) (by omega))]
      have e1' := e1 K
      unfold iw at e1'
      by_cases hw : 16 ≤ k ∧ k ≤ 39
      · rw [if_pos hw] at e1'
        rw [show f_X8_in (nI k) 16 39 = some (nI 1) from by rw [j_in]; unfold f_X7_isWithin; simp (disch := omega) only [fa_lit, nI_add, pk_sub, pk_mul, nI_clamp, nI_leI, nI_ltI, nI_eq, inb, u2_s2, u2_ne2, if_pos, if_neg, Option.bind_some, nx, add_n0, cO, cN, cF, cU, true_or, or_true, if_true, if_false, not_true_eq_false, not_false_eq_true, true_and, and_true], Option.bind_some, if_neg (show ¬ nI 1 = 0 from nI_ne0 (by omega) (by omega)), if_pos hi, hc, show nI k + 1 = nI (k + 1) from nI_add _ 1]
        exact e1'
      · rw [if_neg hw] at e1'
        have h0 : f_X8_in (nI k) 16 39 = some (nI 0) := by
          rw [j_in]; unfold f_X7_isWithin
          by_cases h16 : k < 16
          · simp (disch := omega) only [fa_lit, nI_add, pk_sub, pk_mul, nI_clamp, nI_leI, nI_ltI, nI_eq, inb, u2_s2, u2_ne2, if_pos, if_neg, Option.bind_some, nx, add_n0, cO, cN, cF, cU, true_or, or_true, if_true, if_false, not_true_eq_false, not_false_eq_true, true_and, and_true]
          · simp (disch := omega) only [fa_lit, nI_add, pk_sub, pk_mul, nI_clamp, nI_leI, nI_ltI, nI_eq, inb, u2_s2, u2_ne2, if_pos, if_neg, Option.bind_some, nx, add_n0, cO, cN, cF, cU, true_or, or_true, if_true, if_false, not_true_eq_false, not_false_eq_true, true_and, and_true]
        rw [h0, Option.bind_some, if_pos (show nI 0 = 0 from rfl), if_pos hi, hc, show nI k + 1 = nI (k + 1) from nI_add _ 1]
        exact e1'
    · by_cases hj : j = k
      · subst hj; rw [e4 j (by omega), u2_s2 ⟨rfl, rfl⟩]
      · rw [e3 j (by omega) g2]
    · rw [e4 j (by omega), u2_ne2 (by omega)]
theorem v_c190 {m : Nat} (hs : m ≤ 8) (y : Int32) : ∀ (c n k : Nat) (mj : Mi), mj 229 20 = nI m → m - k = c → k ≤ m → c < n → ∃ mj' : Mi, (∀ K : Int32 → Mi → Option (Int32 × Mi), lp_X8_county_190 y K n (nI k) mj = K (nI m) mj') ∧ (∀ i, i ≠ 236 → i ≠ 238 → mj' i = mj i) ∧ (∀ j, k ≤ j → j < m → mj' 236 j = mj 232 j ∧ mj' 238 (8 + j) = mj 233 j) ∧ (∀ j, j < k → mj' 236 j = mj 236 j) ∧ ∀ j, (j < 8 + k ∨ 8 + m ≤ j) → mj' 238 j = mj 238 j := by
  intro c
  induction c with
  | zero =>
    intro n k mj hb h1 h2 h3
    obtain ⟨n, rfl⟩ : ∃ q, n = q + 1 := ⟨n - 1, by omega⟩
    have : k = m := by omega
    subst this
    exact ⟨mj, fun K => by rw [lp_X8_county_190, hb, if_pos ((nI_leI (by omega) (by omega)).2 (Nat.le_refl _))], fun _ _ _ => rfl, fun j _ _ => by omega, fun _ _ => rfl, fun _ _ => rfl⟩
  | succ c ih =>
    intro n k mj hb h1 h2 h3
    obtain ⟨n, rfl⟩ : ∃ q, n = q + 1 := ⟨n - 1, by omega⟩
    obtain ⟨mj', e1, e2, e3, e4, e5⟩ := ih n (k + 1) (u2 (u2 mj 236 k (mj 232 k)) 238 (8 + k) (mj 233 k)) (by rw [u2_row (by omega), u2_row (by omega)]; exact hb) (by omega) (by omega) (by omega)
    have hi : inb (nI k) 8 := by simp (disch := omega) only [fa_lit, nI_add, pk_sub, pk_mul, nI_clamp, nI_leI, nI_ltI, nI_eq, inb, u2_s2, u2_ne2, if_pos, if_neg, Option.bind_some, nx, add_n0, cO, cN, cF, cU, true_or, or_true, if_true, if_false, not_true_eq_false, not_false_eq_true, true_and, and_true]; omega
    have hi2 : inb (nI (8 + k)) 121 := by simp (disch := omega) only [fa_lit, nI_add, pk_sub, pk_mul, nI_clamp, nI_leI, nI_ltI, nI_eq, inb, u2_s2, u2_ne2, if_pos, if_neg, Option.bind_some, nx, add_n0, cO, cN, cF, cU, true_or, or_true, if_true, if_false, not_true_eq_false, not_false_eq_true, true_and, and_true]; omega
    have hc : (nI k).toNatClampNeg = k := nI_clamp (by omega)
    have hc2 : (nI (8 + k)).toNatClampNeg = 8 + k := nI_clamp (by omega)
    have e8 : 8 + nI k = nI (8 + k) := nI_add 8 k
    refine ⟨mj', fun K => ?_, fun i h g => by rw [e2 i h g, u2_row g, u2_row h], fun j g1 g2 => ?_, fun j g => ?_, fun j g => ?_⟩
    · rw [lp_X8_county_190, hb, if_neg (show ¬ nI m ≤ nI k from fun e => absurd ((nI_leI (by omega) (by omega)).1 e) (by omega)), if_pos hi, if_pos hi, if_pos hi, e8, if_pos hi2, nx, hc, hc2, u2_row (show 233 ≠ 236 by omega), show nI k + 1 = nI (k + 1) from nI_add _ 1]
      exact e1 K
    · by_cases hj : j = k
      · subst hj; exact ⟨by rw [e4 j (by omega), u2_row (by omega), u2_s2 ⟨rfl, rfl⟩], by rw [e5 (8 + j) (by omega), u2_s2 ⟨rfl, rfl⟩]⟩
      · have z := e3 j (by omega) g2
        rw [u2_row (by omega), u2_row (by omega), u2_row (by omega), u2_row (by omega)] at z
        exact z
    · rw [e4 j (by omega), u2_row (by omega), u2_ne2 (by omega)]
    · rw [e5 j (by omega), u2_ne2 (by omega), u2_row (by omega)]
