/-! 41: reading: a number -/
def dg (L : Nat) (T : Nat → Nat) (p : Nat) : Prop := p < L ∧ 48 ≤ T p ∧ T p ≤ 57
theorem neg_lt {n : Nat} (hn : n < 2 ^ 31) : (-nI 1 : Int32) < nI n := by
  have h1 : (-nI 1 : Int32) < nI 0 := by decide
  rcases Nat.eq_zero_or_pos n with h | h
  · subst h; exact h1
  · exact Int32.lt_trans h1 ((nI_ltI (by omega) hn).2 h)
theorem tl_y {L p : Nat} {T : Nat → Nat} (h : dg L T p) : tl L T p = nI (T p) ∧ f_X5_isFigure (tl L T p) = some (nI 1) ∧ f_X8_in (tl L T p) (nI 48) (nI 57) = some (nI 1) := by
  obtain ⟨h1, h2, h3⟩ := h
  have e : tl L T p = nI (T p) := by unfold tl; rw [if_pos h1]
  rw [e, j_in]
  unfold f_X5_isFigure f_X7_isWithin
  exact ⟨rfl, by simp (disch := omega) only [fa_lit, nI_add, pk_sub, pk_mul, nI_clamp, nI_leI, nI_ltI, nI_eq, inb, u2_s2, u2_ne2, if_pos, if_neg, Option.bind_some, nx, add_n0, cO, cN, cF, cU, true_or, or_true, if_true, if_false, not_true_eq_false, not_false_eq_true, true_and, and_true], by simp (disch := omega) only [fa_lit, nI_add, pk_sub, pk_mul, nI_clamp, nI_leI, nI_ltI, nI_eq, inb, u2_s2, u2_ne2, if_pos, if_neg, Option.bind_some, nx, add_n0, cO, cN, cF, cU, true_or, or_true, if_true, if_false, not_true_eq_false, not_false_eq_true, true_and, and_true]⟩
theorem tl_n {L p : Nat} {T : Nat → Nat} (hT : ∀ k, k < L → T k < 256) (h : ¬ dg L T p) : f_X5_isFigure (tl L T p) = some (nI 0) ∧ f_X8_in (tl L T p) (nI 48) (nI 57) = some (nI 0) := by
  rw [j_in]
  unfold f_X5_isFigure f_X7_isWithin tl
  by_cases h1 : p < L
  · have := hT p h1
    rw [if_pos h1]
    by_cases h2 : T p < 48
    · exact ⟨by simp (disch := omega) only [fa_lit, nI_add, pk_sub, pk_mul, nI_clamp, nI_leI, nI_ltI, nI_eq, inb, u2_s2, u2_ne2, if_pos, if_neg, Option.bind_some, nx, add_n0, cO, cN, cF, cU, true_or, or_true, if_true, if_false, not_true_eq_false, not_false_eq_true, true_and, and_true], by simp (disch := omega) only [fa_lit, nI_add, pk_sub, pk_mul, nI_clamp, nI_leI, nI_ltI, nI_eq, inb, u2_s2, u2_ne2, if_pos, if_neg, Option.bind_some, nx, add_n0, cO, cN, cF, cU, true_or, or_true, if_true, if_false, not_true_eq_false, not_false_eq_true, true_and, and_true]⟩
    · have h3 : 57 < T p := by unfold dg at h; omega
      exact ⟨by simp (disch := omega) only [fa_lit, nI_add, pk_sub, pk_mul, nI_clamp, nI_leI, nI_ltI, nI_eq, inb, u2_s2, u2_ne2, if_pos, if_neg, Option.bind_some, nx, add_n0, cO, cN, cF, cU, true_or, or_true, if_true, if_false, not_true_eq_false, not_false_eq_true, true_and, and_true], by simp (disch := omega) only [fa_lit, nI_add, pk_sub, pk_mul, nI_clamp, nI_leI, nI_ltI, nI_eq, inb, u2_s2, u2_ne2, if_pos, if_neg, Option.bind_some, nx, add_n0, cO, cN, cF, cU, true_or, or_true, if_true, if_false, not_true_eq_false, not_false_eq_true, true_and, and_true]⟩
  · rw [if_neg h1]
    have z := neg_lt (n := 48) (by omega)
    exact ⟨by rw [if_pos (show -nI 1 < 48 from z)]; rfl, by rw [if_pos z]; rfl⟩
theorem j_digits {L s : Nat} {T : Nat → Nat} (x1 x2 x3 x4 : Int32) :
    ∀ (c p a b n1 n2 : Nat) (mi mj : Mi), TC mi L T → TM mj L T → mi 3 2 = nI p → mj 229 2 = nI p → p + c = L → s ≤ p → a < 1000 → b < 10000 → (p ≤ s + 3 → a = b) → (p = s → a = 0) → (p = s + 1 → a < 10) → (p = s + 2 → a < 100) → c < n1 → c < n2 →
      ∃ e a' b' : Nat, p ≤ e ∧ e ≤ L ∧ (dg L T p → p < e) ∧ (¬ dg L T p → e = p) ∧ a' < 1000 ∧ b' < 10000 ∧ (e ≤ s + 3 → a' = b') ∧
        (∀ K : Int32 → Mi → Option (Int32 × Mi), lp_X5_readNumber_12 x1 x2 (nI s) K n1 (nI a) mi = K (nI a') (u2 mi 3 2 (nI e))) ∧
        (∀ K : Int32 → Mi → Option (Int32 × Mi), lp_X8_readsNumber_34 x3 x4 K n2 (nI b) mj = K (nI b') (u2 mj 229 2 (nI e))) := by
  intro c
  induction c with
  | zero =>
    intro p a b n1 n2 mi mj hC hM hp hq hc hs ha hb hab h0 h1 h2 hn1 hn2
    obtain ⟨n1, rfl⟩ : ∃ k, n1 = k + 1 := ⟨n1 - 1, by omega⟩
    obtain ⟨n2, rfl⟩ : ∃ k, n2 = k + 1 := ⟨n2 - 1, by omega⟩
    have hL := hC.1
    have hTT : ∀ k, k < L → T k < 256 := fun k hk => (hC.2.2 k hk).2
    have hd : ¬ dg L T p := by unfold dg; omega
    refine ⟨p, a, b, by omega, by omega, fun h => absurd h hd, fun _ => rfl, ha, hb, hab, fun K => ?_, fun K => ?_⟩
    · rw [lp_X5_readNumber_12, hC.2.1, hp, if_pos ((nI_leI (by omega) (by omega)).2 (by omega)), u2_self _ _ _ hp]
    · rw [lp_X8_readsNumber_34, hq, m_let hM (by omega), Option.bind_some, show f_X8_in (tl L T p) 48 57 = some (nI 0) from (tl_n hTT hd).2, Option.bind_some, if_pos (show nI 0 = 0 from rfl), u2_self _ _ _ hq]
  | succ c ih =>
    intro p a b n1 n2 mi mj hC hM hp hq hc hs ha hb hab h0 h1 h2 hn1 hn2
    obtain ⟨n1, rfl⟩ : ∃ k, n1 = k + 1 := ⟨n1 - 1, by omega⟩
    obtain ⟨n2, rfl⟩ : ∃ k, n2 = k + 1 := ⟨n2 - 1, by omega⟩
    have hL := hC.1
    have hTT : ∀ k, k < L → T k < 256 := fun k hk => (hC.2.2 k hk).2
    have hle : ¬ nI L ≤ nI p := by rw [nI_leI (by omega) (by omega)]; omega
    by_cases hd : dg L T p
    · obtain ⟨y1, y2, y3⟩ := tl_y hd
      obtain ⟨d1, d2, d3⟩ := id hd
      have a1 : nI p + 1 = nI (p + 1) := nI_add _ 1
      have hC' := hC.at2 2 (nI (p + 1))
      have hM' := hM.at2 (k := 2) (by omega) (nI (p + 1))
      have k1 : nI a * 10 + nI (T p) - 48 = nI (a * 10 + T p - 48) := by
        rw [show (10 : Int32) = nI 10 from rfl, show (48 : Int32) = nI 48 from rfl, pk_mul, nI_add, pk_sub (by omega)]
      have k2 : 10 * nI b + nI (T p) - 48 = nI (10 * b + T p - 48) := by
        rw [show (10 : Int32) = nI 10 from rfl, show (48 : Int32) = nI 48 from rfl, pk_mul, nI_add, pk_sub (by omega)]
      have k3 : nI p - nI s = nI (p - s) := pk_sub hs
      have gen : ∀ a2 b2 : Nat, a2 < 1000 → b2 < 10000 → (p + 1 ≤ s + 3 → a2 = b2) → (p + 1 = s + 1 → a2 < 10) → (p + 1 = s + 2 → a2 < 100) → nI a2 = (if 3 ≤ p - s then nI a else nI (a * 10 + T p - 48)) → nI b2 = (if b ≤ 999 then nI (10 * b + T p - 48) else nI b) →
        ∃ e a' b' : Nat, p ≤ e ∧ e ≤ L ∧ (dg L T p → p < e) ∧ (¬ dg L T p → e = p) ∧ a' < 1000 ∧ b' < 10000 ∧ (e ≤ s + 3 → a' = b') ∧
        (∀ K : Int32 → Mi → Option (Int32 × Mi), lp_X5_readNumber_12 x1 x2 (nI s) K (n1 + 1) (nI a) mi = K (nI a') (u2 mi 3 2 (nI e))) ∧
        (∀ K : Int32 → Mi → Option (Int32 × Mi), lp_X8_readsNumber_34 x3 x4 K (n2 + 1) (nI b) mj = K (nI b') (u2 mj 229 2 (nI e))) := by
        intro a2 b2 g1 g2 g3 g4 g5 g6 g7
        obtain ⟨e, a', b', w1, w2, w3, w4, w5, w6, w7, w8, w9⟩ := ih (p + 1) a2 b2 n1 n2 _ _ hC' hM' (u2_s2 ⟨rfl, rfl⟩) (u2_s2 ⟨rfl, rfl⟩) (by omega) (by omega) g1 g2 g3 (fun h => by omega) g4 g5 (by omega) (by omega)
        refine ⟨e, a', b', by omega, w2, fun _ => by omega, fun h => absurd hd h, w5, w6, w7, fun K => ?_, fun K => ?_⟩
        · have w := w8 K
          rw [u2_u2] at w
          rw [lp_X5_readNumber_12, hC.2.1, hp, if_neg hle, c_let hC (by omega), Option.bind_some, y2, Option.bind_some, if_neg (show ¬ nI 1 = 0 from nI_ne0 (by omega) (by omega)), k3, a1]
          by_cases h3 : 3 ≤ p - s
          · rw [if_pos h3] at g6
            rw [if_pos (show (3 : Int32) ≤ nI (p - s) from (nI_leI (a := 3) (by omega) (by omega)).2 h3), ← g6]
            exact w
          · rw [if_neg h3] at g6
            rw [if_neg (show ¬ (3 : Int32) ≤ nI (p - s) from fun e => h3 ((nI_leI (a := 3) (by omega) (by omega)).1 e)), Option.bind_some, y1, k1, ← g6]
            exact w
        · have w := w9 K
          rw [u2_u2] at w
          rw [lp_X8_readsNumber_34, hq, m_let hM (by omega), Option.bind_some, show f_X8_in (tl L T p) 48 57 = some (nI 1) from y3, Option.bind_some, if_neg (show ¬ nI 1 = 0 from nI_ne0 (by omega) (by omega)), a1]
          by_cases h3 : b ≤ 999
          · rw [if_pos h3] at g7
            rw [if_pos (show nI b ≤ 999 from (nI_leI (b := 999) (by omega) (by omega)).2 h3), Option.bind_some, y1, k2, ← g7]
            exact w
          · rw [if_neg h3] at g7
            rw [if_neg (show ¬ nI b ≤ 999 from fun e => h3 ((nI_leI (b := 999) (by omega) (by omega)).1 e)), ← g7]
            exact w
      by_cases h3 : 3 ≤ p - s
      · by_cases h4 : b ≤ 999
        · exact gen a (10 * b + T p - 48) ha (by omega) (by omega) (by omega) (by omega) (by rw [if_pos h3]) (by rw [if_pos h4])
        · exact gen a b ha hb (by omega) (by omega) (by omega) (by rw [if_pos h3]) (by rw [if_neg h4])
      · have e1 : a = b := hab (by omega)
        have e2 : a < 100 := by
          have : p = s ∨ p = s + 1 ∨ p = s + 2 := by omega
          rcases this with h | h | h
          · have := h0 h; omega
          · have := h1 h; omega
          · exact h2 h
        have h4 : b ≤ 999 := by omega
        refine gen (a * 10 + T p - 48) (10 * b + T p - 48) (by omega) (by omega) (by omega) (fun h => ?_) (fun h => ?_) (by rw [if_neg h3]) (by rw [if_pos h4])
        · have := h0 (by omega); omega
        · have := h1 (by omega); omega
    · refine ⟨p, a, b, by omega, by omega, fun h => absurd h hd, fun _ => rfl, ha, hb, hab, fun K => ?_, fun K => ?_⟩
      · rw [lp_X5_readNumber_12, hC.2.1, hp, if_neg hle, c_let hC (by omega), Option.bind_some, (tl_n hTT hd).1, Option.bind_some, if_pos (show nI 0 = 0 from rfl), u2_self _ _ _ hp]
      · rw [lp_X8_readsNumber_34, hq, m_let hM (by omega), Option.bind_some, show f_X8_in (tl L T p) 48 57 = some (nI 0) from (tl_n hTT hd).2, Option.bind_some, if_pos (show nI 0 = 0 from rfl), u2_self _ _ _ hq]
/-- a fault is kept if it is the first -/
def ac (mi : Mi) (f s : Nat) : Mi := if mi 3 3 = nI 0 then u2 (u2 mi 3 3 (nI f)) 3 4 (nI s) else mi
theorem v_ac (mi : Mi) (f s : Nat) : f_X5_accuse mi (nI f) (nI s) = some (ac mi f s) := by
  unfold f_X5_accuse ac
  by_cases h : mi 3 3 = nI 0
  · rw [if_pos h, if_pos (show mi 3 3 = 0 from h)]
  · rw [if_neg h, if_neg (show ¬ mi 3 3 = 0 from h)]
theorem in_two (x lo hi : Int32) : f_X7_isWithin x lo hi = some (nI 1) ∨ f_X7_isWithin x lo hi = some (nI 0) := by
  unfold f_X7_isWithin
  by_cases h1 : x < lo
  · rw [if_pos h1]; exact Or.inr rfl
  · rw [if_neg h1]
    by_cases h2 : hi < x
    · rw [if_pos h2]; exact Or.inr rfl
    · rw [if_neg h2]; exact Or.inl rfl
