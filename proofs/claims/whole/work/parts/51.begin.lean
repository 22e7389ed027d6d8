/-! 51: the class begins -/
theorem v_b17 {e c1 : Nat} : ∀ (c n k : Nat) (mi : Mi), 3 - k = c → k ≤ 3 → c < n → ∃ mi' : Mi, (∀ K : Int32 → Mi → Option Mi, lp_X2_begin_17 e c1 K n (nI k) mi = K (nI 3) mi') ∧ (∀ i, i ≠ e + 1 → i ≠ e + 2 → mi' i = mi i) ∧ (∀ j, k ≤ j → j < 3 → mi' (e + 1) j = nI 0 ∧ mi' (e + 2) j = nI 0) ∧ ∀ j, j < k → mi' (e + 1) j = mi (e + 1) j ∧ mi' (e + 2) j = mi (e + 2) j := by
  intro c
  induction c with
  | zero =>
    intro n k mi h1 h2 h3
    obtain ⟨n, rfl⟩ : ∃ q, n = q + 1 := ⟨n - 1, by omega⟩
    have : k = 3 := by omega
    subst this
    exact ⟨mi, fun K => by rw [lp_X2_begin_17, if_pos (show (3 : Int32) ≤ nI 3 from (nI_leI (a := 3) (by omega) (by omega)).2 (Nat.le_refl _))], fun _ _ _ => rfl, fun j _ _ => by omega, fun _ _ => ⟨rfl, rfl⟩⟩
  | succ c ih =>
    intro n k mi h1 h2 h3
    obtain ⟨n, rfl⟩ : ∃ q, n = q + 1 := ⟨n - 1, by omega⟩
    obtain ⟨mi', e1, e2, e3, e4⟩ := ih n (k + 1) (u2 (u2 mi (e + 1) k 0) (e + 2) k 0) (by omega) (by omega) (by omega)
    have hi : inb (nI k) 3 := by simp (disch := omega) only [fa_lit, nI_add, pk_sub, pk_mul, nI_clamp, nI_leI, nI_ltI, nI_eq, inb, u2_s2, u2_ne2, if_pos, if_neg, Option.bind_some, nx, add_n0, cO, cN, cF, cU, true_or, or_true, if_true, if_false, not_true_eq_false, not_false_eq_true, true_and, and_true]; omega
    have hc : (nI k).toNatClampNeg = k := nI_clamp (by omega)
    refine ⟨mi', fun K => ?_, fun i h g => by rw [e2 i h g, u2_row g, u2_row h], fun j g1 g2 => ?_, fun j g => ?_⟩
    · rw [lp_X2_begin_17, if_neg (show ¬ (3 : Int32) ≤ nI k from fun e => absurd ((nI_leI (a := 3) (by omega) (by omega)).1 e) (by omega)), if_pos hi, if_pos hi, hc, show nI k + 1 = nI (k + 1) from nI_add _ 1]
      exact e1 K
    · by_cases hj : j = k
      · subst hj
        obtain ⟨y1, y2⟩ := e4 j (by omega)
        exact ⟨by rw [y1, u2_ne2 (by omega), u2_s2 ⟨rfl, rfl⟩]; rfl, by rw [y2, u2_s2 ⟨rfl, rfl⟩]; rfl⟩
      · exact e3 j (by omega) g2
    · obtain ⟨y1, y2⟩ := e4 j (by omega)
      exact ⟨by rw [y1, u2_ne2 (by omega), u2_ne2 (by omega)], by rw [y2, u2_ne2 (by omega), u2_ne2 (by omega)]⟩
theorem v_b44 {e c1 m : Nat} (hm : m ≤ 8) (hd : c1 ≠ e + 3 ∧ c1 + 3 ≠ e + 3) : ∀ (c n k : Nat) (mi : Mi), mi c1 5 = nI m → 8 - k = c → k ≤ 8 → c < n → ∃ mi' : Mi, (∀ K : Int32 → Mi → Option Mi, lp_X2_begin_44 e c1 K n (nI k) mi = K (nI 8) mi') ∧ (∀ i, i ≠ e + 3 → mi' i = mi i) ∧ (∀ j, k ≤ j → j < 8 → mi' (e + 3) j = if j < m then mi (c1 + 3) j else nI 0) ∧ ∀ j, j < k → mi' (e + 3) j = mi (e + 3) j := by
  intro c
  induction c with
  | zero =>
    intro n k mi hb h1 h2 h3
    obtain ⟨n, rfl⟩ : ∃ q, n = q + 1 := ⟨n - 1, by omega⟩
    have : k = 8 := by omega
    subst this
    exact ⟨mi, fun K => by rw [lp_X2_begin_44, if_pos (show (8 : Int32) ≤ nI 8 from (nI_leI (a := 8) (by omega) (by omega)).2 (Nat.le_refl _))], fun _ _ => rfl, fun j _ _ => by omega, fun _ _ => rfl⟩
  | succ c ih =>
    intro n k mi hb h1 h2 h3
    obtain ⟨n, rfl⟩ : ∃ q, n = q + 1 := ⟨n - 1, by omega⟩
    have hi : inb (nI k) 8 := by simp (disch := omega) only [fa_lit, nI_add, pk_sub, pk_mul, nI_clamp, nI_leI, nI_ltI, nI_eq, inb, u2_s2, u2_ne2, if_pos, if_neg, Option.bind_some, nx, add_n0, cO, cN, cF, cU, true_or, or_true, if_true, if_false, not_true_eq_false, not_false_eq_true, true_and, and_true]; omega
    have hc : (nI k).toNatClampNeg = k := nI_clamp (by omega)
    obtain ⟨mi', e1, e2, e3, e4⟩ := ih n (k + 1) (u2 mi (e + 3) k (if k < m then mi (c1 + 3) k else nI 0)) (by rw [u2_row hd.1]; exact hb) (by omega) (by omega) (by omega)
    refine ⟨mi', fun K => ?_, fun i h => by rw [e2 i h, u2_row h], fun j g1 g2 => ?_, fun j g => ?_⟩
    · rw [lp_X2_begin_44, if_neg (show ¬ (8 : Int32) ≤ nI k from fun e => absurd ((nI_leI (a := 8) (by omega) (by omega)).1 e) (by omega)), hb, show nI k + 1 = nI (k + 1) from nI_add _ 1]
      have z := e1 K
      by_cases hk : k < m
      · rw [if_pos hk] at z
        rw [if_neg (show ¬ nI m ≤ nI k from fun e => absurd ((nI_leI (by omega) (by omega)).1 e) (by omega)), if_pos hi, if_pos hi, hc]
        exact z
      · rw [if_neg hk] at z
        rw [if_pos (show nI m ≤ nI k from (nI_leI (by omega) (by omega)).2 (by omega)), if_pos hi, hc]
        exact z
    · by_cases hj : j = k
      · subst hj; rw [e4 j (by omega), u2_s2 ⟨rfl, rfl⟩]
      · rw [e3 j (by omega) g2, u2_row hd.2]
    · rw [e4 j (by omega), u2_ne2 (by omega)]
theorem v_b82 {e c1 : Nat} : ∀ (c n k : Nat) (mi : Mi), 24 - k = c → k ≤ 24 → c < n → ∃ mi' : Mi, (∀ K : Int32 → Mi → Option Mi, lp_X2_begin_82 e c1 K n (nI k) mi = K (nI 24) mi') ∧ (∀ i, i ≠ e + 4 → mi' i = mi i) ∧ (∀ j, k ≤ j → j < 24 → mi' (e + 4) j = -nI 1) ∧ ∀ j, j < k → mi' (e + 4) j = mi (e + 4) j := by
  intro c
  induction c with
  | zero =>
    intro n k mi h1 h2 h3
    obtain ⟨n, rfl⟩ : ∃ q, n = q + 1 := ⟨n - 1, by omega⟩
    have : k = 24 := by omega
    subst this
    exact ⟨mi, fun K => by rw [lp_X2_begin_82, if_pos (show (24 : Int32) ≤ nI 24 from (nI_leI (a := 24) (by omega) (by omega)).2 (Nat.le_refl _))], fun _ _ => rfl, fun j _ _ => by omega, fun _ _ => rfl⟩
  | succ c ih =>
    intro n k mi h1 h2 h3
    obtain ⟨n, rfl⟩ : ∃ q, n = q + 1 := ⟨n - 1, by omega⟩
    obtain ⟨mi', e1, e2, e3, e4⟩ := ih n (k + 1) (u2 mi (e + 4) k (-1)) (by omega) (by omega) (by omega)
    have hi : inb (nI k) 24 := by simp (disch := omega) only [fa_lit, nI_add, pk_sub, pk_mul, nI_clamp, nI_leI, nI_ltI, nI_eq, inb, u2_s2, u2_ne2, if_pos, if_neg, Option.bind_some, nx, add_n0, cO, cN, cF, cU, true_or, or_true, if_true, if_false, not_true_eq_false, not_false_eq_true, true_and, and_true]; omega
    have hc : (nI k).toNatClampNeg = k := nI_clamp (by omega)
    refine ⟨mi', fun K => ?_, fun i h => by rw [e2 i h, u2_row h], fun j g1 g2 => ?_, fun j g => ?_⟩
    · rw [lp_X2_begin_82, if_neg (show ¬ (24 : Int32) ≤ nI k from fun e => absurd ((nI_leI (a := 24) (by omega) (by omega)).1 e) (by omega)), if_pos hi, hc, show nI k + 1 = nI (k + 1) from nI_add _ 1]
      exact e1 K
    · by_cases hj : j = k
      · subst hj; rw [e4 j (by omega), u2_s2 ⟨rfl, rfl⟩]; rfl
      · rw [e3 j (by omega) g2]
    · rw [e4 j (by omega), u2_ne2 (by omega)]
/-- an Estate begins -/
theorem v_begin {mi : Mi} {ld m : Nat} (hld : ld = 4 ∨ ld = 210) (hm : m ≤ 8) (h5 : mi ld 5 = nI m) : ∃ mi' : Mi, f_X2_begin mi 11 ld = some mi' ∧ (∀ i, i < 11 ∨ 15 < i → mi' i = mi i) ∧ mi' 11 0 = nI 0 ∧ mi' 11 1 = nI 0 ∧ mi' 11 2 = nI 0 ∧ (∀ j, j < 3 → mi' 12 j = nI 0 ∧ mi' 13 j = nI 0) ∧ (∀ j, j < 8 → mi' 14 j = if j < m then mi (ld + 3) j else nI 0) ∧ ∀ j, j < 24 → mi' 15 j = -nI 1 := by
  obtain ⟨m1, a1, a2, a3, -⟩ := v_b17 (e := 11) (c1 := ld) 3 FU 0 (u2 (u2 (u2 mi 11 0 0) 11 1 0) 11 2 0) (by omega) (by omega) (by rw [FU_eq]; omega)
  have g1 : ∀ i, i ≠ 11 → i ≠ 12 → i ≠ 13 → m1 i = mi i := fun i h1 h2 h3 => by rw [a2 i h2 h3, u2_row h1, u2_row h1, u2_row h1]
  obtain ⟨m2, b1, b2, b3, -⟩ := v_b44 (e := 11) (c1 := ld) hm (by omega) 8 FU 0 m1 (by rw [g1 ld (by omega) (by omega) (by omega)]; exact h5) (by omega) (by omega) (by rw [FU_eq]; omega)
  obtain ⟨m3, c1, c2, c3, -⟩ := v_b82 (e := 11) (c1 := ld) 24 FU 0 m2 (by omega) (by omega) (by rw [FU_eq]; omega)
  have g11 : m3 11 = (u2 (u2 (u2 mi 11 0 0) 11 1 0) 11 2 0) 11 := by rw [c2 11 (by omega), b2 11 (by omega), a2 11 (by omega) (by omega)]
  refine ⟨m3, ?_, fun i hi => ?_, ?_, ?_, ?_, fun j hj => ?_, fun j hj => ?_, fun j hj => c3 j (by omega) hj⟩
  · unfold f_X2_begin
    refine Eq.trans (a1 _) ?_
    refine Eq.trans (b1 _) ?_
    exact c1 _
  · rw [c2 i (by omega), b2 i (by omega), g1 i (by omega) (by omega) (by omega)]
  · rw [g11]; simp (disch := omega) only [u2_ne2, u2_s2]; rfl
  · rw [g11]; simp (disch := omega) only [u2_ne2, u2_s2]; rfl
  · rw [g11]; simp (disch := omega) only [u2_ne2, u2_s2]; rfl
  · rw [c2 12 (by omega), c2 13 (by omega), b2 12 (by omega), b2 13 (by omega)]
    exact a3 j (by omega) hj
  · rw [c2 14 (by omega), show m2 14 j = _ from b3 j (by omega) hj, g1 (ld + 3) (by omega) (by omega) (by omega)]
