/-! 21: light, holders, what becomes of a value -/
theorem clampF (v : Int32) : (if (1 : Int32) < (if v < 11 then v else 11) then (if v < 11 then v else 11) else 1) = (if 1 ≤ v then (if v ≤ 11 then v else 11) else 1) := by
  by_cases h1 : v < 11
  · simp only [if_pos h1, if_pos (Int32.le_of_lt h1)]
    by_cases h4 : 1 < v
    · rw [if_pos h4, if_pos (Int32.le_of_lt h4)]
    · rw [if_neg h4]
      by_cases h5 : 1 ≤ v
      · rw [if_pos h5]; exact Int32.le_antisymm h5 (Int32.not_lt.mp h4)
      · rw [if_neg h5]
  · simp only [if_neg h1]
    rw [if_pos (show (1 : Int32) < 11 by decide), if_pos (Int32.le_trans (show (1 : Int32) ≤ 11 by decide) (Int32.not_lt.mp h1))]
    by_cases h3 : v ≤ 11
    · rw [if_pos h3]; exact Int32.le_antisymm (Int32.not_lt.mp h1) h3
    · rw [if_neg h3]
theorem clampT (v : Int32) : (if (13 : Int32) < (if v < 23 then v else 23) then (if v < 23 then v else 23) else 13) = (if 13 ≤ v then (if v ≤ 23 then v else 23) else 13) := by
  by_cases h1 : v < 23
  · simp only [if_pos h1, if_pos (Int32.le_of_lt h1)]
    by_cases h4 : 13 < v
    · rw [if_pos h4, if_pos (Int32.le_of_lt h4)]
    · rw [if_neg h4]
      by_cases h5 : 13 ≤ v
      · rw [if_pos h5]; exact Int32.le_antisymm h5 (Int32.not_lt.mp h4)
      · rw [if_neg h5]
  · simp only [if_neg h1]
    rw [if_pos (show (13 : Int32) < 23 by decide), if_pos (Int32.le_trans (show (13 : Int32) ≤ 23 by decide) (Int32.not_lt.mp h1))]
    by_cases h3 : v ≤ 23
    · rw [if_pos h3]; exact Int32.le_antisymm (Int32.not_lt.mp h1) h3
    · rw [if_neg h3]
theorem clampN (v : Int32) (a b : Nat) (hab : a ≤ b) (hb : b < 2 ^ 31) : ∃ r : Nat, a ≤ r ∧ r ≤ b ∧ (if nI a ≤ v then (if v ≤ nI b then v else nI b) else nI a) = nI r := by
  by_cases h1 : nI a ≤ v
  · rw [if_pos h1]
    by_cases h2 : v ≤ nI b
    · rw [if_pos h2]
      have h0 : ¬ v < 0 := by
        rw [Int32.not_lt]; exact Int32.le_trans (nI_pos' (by omega)) h1
      obtain ⟨n, hn, rfl⟩ := nI_of h0
      rw [nI_leI (by omega) (by omega)] at h1 h2
      exact ⟨n, h1, h2, rfl⟩
    · rw [if_neg h2]; exact ⟨b, hab, Nat.le_refl _, rfl⟩
  · rw [if_neg h1]; exact ⟨a, Nat.le_refl _, hab, rfl⟩
theorem v_bounded (v lo hi : Int32) : f_X8_bounded v lo hi = some (if lo ≤ v then (if v ≤ hi then v else hi) else lo) := by
  unfold f_X8_bounded
  by_cases h1 : lo ≤ v
  · by_cases h2 : v ≤ hi <;> simp only [h1, h2, if_true, if_false]
  · simp only [h1, if_false]
theorem j_from {mi mj : Mi} {ld m wn sn : Nat} (hK : RK mi mj ld m wn sn) (d : Nat) (hd : d < 2 ^ 31) : ∃ r : Nat, 1 ≤ r ∧ r ≤ 11 ∧ f_X1_lightFrom mi ld (nI d) = some (nI r) ∧ f_X8_lightFrom mj (nI d) = some (nI r) := by
  obtain ⟨s, e1, e2⟩ := j_season hK d hd
  obtain ⟨hld, hm, hwn, hsn, -, -, -, ⟨k1, k2, k3, k4⟩, -⟩ := hK
  obtain ⟨r, h1, h2, hr⟩ := clampN (mi ld 1 + nI 4 - s) 1 11 (by omega) (by omega)
  have hr : (if (1 : Int32) ≤ mi ld 1 + 4 - s then (if mi ld 1 + 4 - s ≤ 11 then mi ld 1 + 4 - s else 11) else 1) = nI r := hr
  refine ⟨r, h1, h2, ?_, ?_⟩
  · unfold f_X1_lightFrom
    simp only [e1, Option.bind_some, clampF, hr]
  · unfold f_X8_lightFrom
    simp only [e2, Option.bind_some, v_bounded, k1, hr]
theorem j_to {mi mj : Mi} {ld m wn sn : Nat} (hK : RK mi mj ld m wn sn) (d : Nat) (hd : d < 2 ^ 31) : ∃ r : Nat, 13 ≤ r ∧ r ≤ 23 ∧ f_X1_lightTo mi ld (nI d) = some (nI r) ∧ f_X8_lightTo mj (nI d) = some (nI r) := by
  obtain ⟨s, e1, e2⟩ := j_season hK d hd
  obtain ⟨hld, hm, hwn, hsn, -, -, -, ⟨k1, k2, k3, k4⟩, -⟩ := hK
  obtain ⟨r, h1, h2, hr⟩ := clampN (mi ld 2 + s - nI 4) 13 23 (by omega) (by omega)
  have hr : (if (13 : Int32) ≤ mi ld 2 + s - 4 then (if mi ld 2 + s - 4 ≤ 23 then mi ld 2 + s - 4 else 23) else 13) = nI r := hr
  refine ⟨r, h1, h2, ?_, ?_⟩
  · unfold f_X1_lightTo
    simp only [e1, Option.bind_some, clampT, hr]
  · unfold f_X8_lightTo
    simp only [e2, Option.bind_some, v_bounded, k2, hr]
theorem n_div (h : Nat) (hh : h < 2 ^ 31) (d : Nat) (h0 : 0 < d) (hd : d < 2 ^ 31) : nI h / nI d = nI (h / d) := pk_div hh h0 hd
/-- whose an hour is by the light: of day d, hour x of it -/
theorem j_holds {mi mj : Mi} {ld m wn sn : Nat} (hK : RK mi mj ld m wn sn) (d x : Nat) (hd : d < 2 ^ 25) (hx : x < 24) : ∃ r : Nat, r < 3 ∧ f_X1_holderByLight mi ld (nI (24 * d + x)) = some (nI r) ∧ f_X8_holds mj (nI d) (nI x) = some (nI r) := by
  obtain ⟨a, a1, a2, a3, a4⟩ := j_from hK d (by omega)
  obtain ⟨b, b1, b2, b3, b4⟩ := j_to hK d (by omega)
  unfold f_X1_holderByLight f_X8_holds
  have e1 : nI (24 * d + x) / nI 24 = nI d := by rw [n_div _ (by omega) 24 (by omega) (by omega)]; congr 1; omega
  have e2 : nI (24 * d + x) - nI d * nI 24 = nI x := by rw [pk_mul, pk_sub (by omega)]; congr 1; omega
  simp only [fa_lit, e1, e2, a3, a4, b3, b4, Option.bind_some]
  by_cases h1 : x < a
  · exact ⟨2, by omega, by simp (disch := omega) only [fa_lit, nI_add, pk_sub, pk_mul, nI_clamp, nI_leI, nI_ltI, nI_eq, inb, u2_s2, u2_ne2, if_pos, if_neg, Option.bind_some, nx, add_n0, cO, cN, cF, cU, true_or, or_true, if_true, if_false, not_true_eq_false, not_false_eq_true, true_and, and_true], by simp (disch := omega) only [fa_lit, nI_add, pk_sub, pk_mul, nI_clamp, nI_leI, nI_ltI, nI_eq, inb, u2_s2, u2_ne2, if_pos, if_neg, Option.bind_some, nx, add_n0, cO, cN, cF, cU, true_or, or_true, if_true, if_false, not_true_eq_false, not_false_eq_true, true_and, and_true]⟩
  · by_cases h2 : x < b
    · by_cases h3 : 12 ≤ x
      · exact ⟨1, by omega, by simp (disch := omega) only [fa_lit, nI_add, pk_sub, pk_mul, nI_clamp, nI_leI, nI_ltI, nI_eq, inb, u2_s2, u2_ne2, if_pos, if_neg, Option.bind_some, nx, add_n0, cO, cN, cF, cU, true_or, or_true, if_true, if_false, not_true_eq_false, not_false_eq_true, true_and, and_true], by simp (disch := omega) only [fa_lit, nI_add, pk_sub, pk_mul, nI_clamp, nI_leI, nI_ltI, nI_eq, inb, u2_s2, u2_ne2, if_pos, if_neg, Option.bind_some, nx, add_n0, cO, cN, cF, cU, true_or, or_true, if_true, if_false, not_true_eq_false, not_false_eq_true, true_and, and_true]⟩
      · exact ⟨0, by omega, by simp (disch := omega) only [fa_lit, nI_add, pk_sub, pk_mul, nI_clamp, nI_leI, nI_ltI, nI_eq, inb, u2_s2, u2_ne2, if_pos, if_neg, Option.bind_some, nx, add_n0, cO, cN, cF, cU, true_or, or_true, if_true, if_false, not_true_eq_false, not_false_eq_true, true_and, and_true], by simp (disch := omega) only [fa_lit, nI_add, pk_sub, pk_mul, nI_clamp, nI_leI, nI_ltI, nI_eq, inb, u2_s2, u2_ne2, if_pos, if_neg, Option.bind_some, nx, add_n0, cO, cN, cF, cU, true_or, or_true, if_true, if_false, not_true_eq_false, not_false_eq_true, true_and, and_true]⟩
    · exact ⟨2, by omega, by simp (disch := omega) only [fa_lit, nI_add, pk_sub, pk_mul, nI_clamp, nI_leI, nI_ltI, nI_eq, inb, u2_s2, u2_ne2, if_pos, if_neg, Option.bind_some, nx, add_n0, cO, cN, cF, cU, true_or, or_true, if_true, if_false, not_true_eq_false, not_false_eq_true, true_and, and_true], by simp (disch := omega) only [fa_lit, nI_add, pk_sub, pk_mul, nI_clamp, nI_leI, nI_ltI, nI_eq, inb, u2_s2, u2_ne2, if_pos, if_neg, Option.bind_some, nx, add_n0, cO, cN, cF, cU, true_or, or_true, if_true, if_false, not_true_eq_false, not_false_eq_true, true_and, and_true]⟩
theorem j_alm {mi mj : Mi} {ld m wn sn : Nat} (hK : RK mi mj ld m wn sn) (h : Nat) (hh : h < 2 ^ 28) : ∃ r : Nat, r < 3 ∧ f_X1_holderByLight mi ld (nI h) = some (nI r) ∧ f_X8_almanac mj (nI h) = some (nI r) := by
  obtain ⟨r, h1, h2, h3⟩ := j_holds hK (h / 24) (h % 24) (by omega) (by omega)
  rw [show 24 * (h / 24) + h % 24 = h by omega] at h2
  refine ⟨r, h1, h2, ?_⟩
  unfold f_X8_almanac
  have e1 : nI h / nI 24 = nI (h / 24) := n_div _ (by omega) 24 (by omega) (by omega)
  have e2 : nI h - nI (h / 24) * nI 24 = nI (h % 24) := by rw [pk_mul, pk_sub (by omega)]; congr 1; omega
  simp only [fa_lit, e1, e2, h3, Option.bind_some]
/-- an estate of the class, a row of the reference's -/
def RE (mi : Mi) (e : Nat) (w : Nat → Int32) : Prop :=
  (∃ h : Nat, h ≤ 90030 ∧ mi e 0 = nI h ∧ w 0 = nI h) ∧ (∃ d : Nat, d ≤ 24 ∧ mi e 1 = nI d ∧ w 1 = nI d) ∧
  (∃ c : Nat, c ≤ 20 ∧ mi e 2 = nI c ∧ w 40 = nI c ∧ ∀ k : Nat, k < 4 * c → w (41 + k) = mi (e + 5) k) ∧
  (∀ k : Nat, k < 3 → w (2 + k) = mi (e + 1) k) ∧ (∀ k : Nat, k < 3 → w (5 + k) = mi (e + 2) k) ∧
  (∀ t : Nat, t < 8 → w (8 + t) = mi (e + 3) t ∧ ∃ v : Nat, v < 10 ∧ mi (e + 3) t = nI v) ∧ (∀ k : Nat, k < 24 → w (16 + k) = mi (e + 4) k)
theorem j_heirIn {mi mj : Mi} {ld m wn sn : Nat} (hK : RK mi mj ld m wn sn) (hE : RE mi 11 (mj 238)) (hx : mi ld 0 = nI 1) (n : Nat) (hn : n ≤ 300) : ∃ r : Nat, r < 3 ∧ f_X2_holderIn mi 11 ld (nI n) = some (nI r) ∧ f_X8_heirIn mj (nI n) = some (nI r) := by
  obtain ⟨⟨h, h1, h2, h3⟩, ⟨d, d1, d2, d3⟩, -⟩ := hE
  obtain ⟨r, r1, r2, r3⟩ := j_alm hK (h + n) (by omega)
  unfold f_X2_holderIn f_X8_heirIn
  by_cases hd : d ≤ n
  · refine ⟨r, r1, ?_, ?_⟩
    · simp (disch := omega) only [fa_lit, nI_add, pk_sub, pk_mul, nI_clamp, nI_leI, nI_ltI, nI_eq, inb, u2_s2, u2_ne2, if_pos, if_neg, Option.bind_some, nx, add_n0, cO, cN, cF, cU, true_or, or_true, if_true, if_false, not_true_eq_false, not_false_eq_true, true_and, and_true, hx, h2, d2, r2]
    · simp (disch := omega) only [fa_lit, nI_add, pk_sub, pk_mul, nI_clamp, nI_leI, nI_ltI, nI_eq, inb, u2_s2, u2_ne2, if_pos, if_neg, Option.bind_some, nx, add_n0, cO, cN, cF, cU, true_or, or_true, if_true, if_false, not_true_eq_false, not_false_eq_true, true_and, and_true, h3, d3, r3]
  · refine ⟨2, by omega, ?_, ?_⟩
    · simp (disch := omega) only [fa_lit, nI_add, pk_sub, pk_mul, nI_clamp, nI_leI, nI_ltI, nI_eq, inb, u2_s2, u2_ne2, if_pos, if_neg, Option.bind_some, nx, add_n0, cO, cN, cF, cU, true_or, or_true, if_true, if_false, not_true_eq_false, not_false_eq_true, true_and, and_true, hx, h2, d2]
    · simp (disch := omega) only [fa_lit, nI_add, pk_sub, pk_mul, nI_clamp, nI_leI, nI_ltI, nI_eq, inb, u2_s2, u2_ne2, if_pos, if_neg, Option.bind_some, nx, add_n0, cO, cN, cF, cU, true_or, or_true, if_true, if_false, not_true_eq_false, not_false_eq_true, true_and, and_true, h3, d3]
theorem j_heirOf {mi mj : Mi} {ld m wn sn : Nat} (hK : RK mi mj ld m wn sn) (hE : RE mi 11 (mj 238)) (hx : mi ld 0 = nI 1) : ∃ r : Nat, r < 3 ∧ f_X2_holderIn mi 11 ld (nI 0) = some (nI r) ∧ f_X8_heirOf mj 238 = some (nI r) := by
  obtain ⟨⟨h, h1, h2, h3⟩, ⟨d, d1, d2, d3⟩, -⟩ := hE
  obtain ⟨r, r1, r2, r3⟩ := j_alm hK h (by omega)
  unfold f_X2_holderIn f_X8_heirOf
  by_cases hd : d ≤ 0
  · refine ⟨r, r1, ?_, ?_⟩
    · simp (disch := omega) only [fa_lit, nI_add, pk_sub, pk_mul, nI_clamp, nI_leI, nI_ltI, nI_eq, inb, u2_s2, u2_ne2, if_pos, if_neg, Option.bind_some, nx, add_n0, cO, cN, cF, cU, true_or, or_true, if_true, if_false, not_true_eq_false, not_false_eq_true, true_and, and_true, hx, h2, d2, r2, Nat.add_zero]
    · simp (disch := omega) only [fa_lit, nI_add, pk_sub, pk_mul, nI_clamp, nI_leI, nI_ltI, nI_eq, inb, u2_s2, u2_ne2, if_pos, if_neg, Option.bind_some, nx, add_n0, cO, cN, cF, cU, true_or, or_true, if_true, if_false, not_true_eq_false, not_false_eq_true, true_and, and_true, h3, d3, r3]
  · refine ⟨2, by omega, ?_, ?_⟩
    · simp (disch := omega) only [fa_lit, nI_add, pk_sub, pk_mul, nI_clamp, nI_leI, nI_ltI, nI_eq, inb, u2_s2, u2_ne2, if_pos, if_neg, Option.bind_some, nx, add_n0, cO, cN, cF, cU, true_or, or_true, if_true, if_false, not_true_eq_false, not_false_eq_true, true_and, and_true, hx, h2, d2]
    · simp (disch := omega) only [fa_lit, nI_add, pk_sub, pk_mul, nI_clamp, nI_leI, nI_ltI, nI_eq, inb, u2_s2, u2_ne2, if_pos, if_neg, Option.bind_some, nx, add_n0, cO, cN, cF, cU, true_or, or_true, if_true, if_false, not_true_eq_false, not_false_eq_true, true_and, and_true, h3, d3]
theorem j_none {mi : Mi} {ld : Nat} (hx : mi ld 0 = nI 0) (x : Int32) : f_X2_holderIn mi 11 ld x = some (-nI 1) := by
  unfold f_X2_holderIn
  simp (disch := omega) only [fa_lit, nI_add, pk_sub, pk_mul, nI_clamp, nI_leI, nI_ltI, nI_eq, inb, u2_s2, u2_ne2, if_pos, if_neg, Option.bind_some, nx, add_n0, cO, cN, cF, cU, true_or, or_true, if_true, if_false, not_true_eq_false, not_false_eq_true, true_and, and_true, hx]
theorem j_isC {mi mj : Mi} {ld m wn sn : Nat} (hK : RK mi mj ld m wn sn) : (mi ld 0 = nI 0 ∧ m = 0 ∧ f_X8_isCounty mj = some (nI 0)) ∨ (mi ld 0 = nI 1 ∧ f_X8_isCounty mj = some (nI 1)) := by
  obtain ⟨hld, hm, hwn, hsn, -, -, -, ⟨k1, k2, k3, k4⟩, hex, -⟩ := hK
  unfold f_X8_isCounty
  rcases hex with ⟨a, b, c⟩ | ⟨a, b⟩
  · left; refine ⟨a, c, ?_⟩
    simp only [fa_lit, k2, b, if_true]
  · right; refine ⟨a, ?_⟩
    simp only [fa_lit, k2, b, if_false]
theorem j_comes (mj : Mi) {k v h r : Nat} (hk : k < 4) (hv : v < 10) (hh : h < 2 ^ 28) (hr : r < 3) : ∃ u : Nat, u < 10 ∧ f_X1_behindHour (nI k) (nI v) (nI h) (nI r) = some (nI u) ∧ f_X8_comes mj (nI k) (nI v) (nI h) (nI r) = some (nI u) := by
  have e1 : nI h / nI 3 = nI (h / 3) := n_div _ (by omega) 3 (by omega) (by omega)
  have e2 : nI h / nI 24 = nI (h / 24) := n_div _ (by omega) 24 (by omega) (by omega)
  unfold f_X1_behindHour f_X8_comes
  simp only [fa_lit, e1, e2]
  rcases (show k = 0 ∨ k = 1 ∨ k = 2 ∨ k = 3 by omega) with rfl | rfl | rfl | rfl
  · by_cases h3 : h - h / 3 * 3 = 0
    · by_cases hr2 : r = 2
      · exact ⟨v, hv, by simp (disch := omega) only [fa_lit, nI_add, pk_sub, pk_mul, nI_clamp, nI_leI, nI_ltI, nI_eq, inb, u2_s2, u2_ne2, if_pos, if_neg, Option.bind_some, nx, add_n0, cO, cN, cF, cU, true_or, or_true, if_true, if_false, not_true_eq_false, not_false_eq_true, true_and, and_true], by simp (disch := omega) only [fa_lit, nI_add, pk_sub, pk_mul, nI_clamp, nI_leI, nI_ltI, nI_eq, inb, u2_s2, u2_ne2, if_pos, if_neg, Option.bind_some, nx, add_n0, cO, cN, cF, cU, true_or, or_true, if_true, if_false, not_true_eq_false, not_false_eq_true, true_and, and_true]⟩
      · by_cases h9 : 9 ≤ v
        · have h10 : v = 9 := by omega
          subst h10
          exact ⟨9, hv, by simp (disch := omega) only [fa_lit, nI_add, pk_sub, pk_mul, nI_clamp, nI_leI, nI_ltI, nI_eq, inb, u2_s2, u2_ne2, if_pos, if_neg, Option.bind_some, nx, add_n0, cO, cN, cF, cU, true_or, or_true, if_true, if_false, not_true_eq_false, not_false_eq_true, true_and, and_true], by simp (disch := omega) only [fa_lit, nI_add, pk_sub, pk_mul, nI_clamp, nI_leI, nI_ltI, nI_eq, inb, u2_s2, u2_ne2, if_pos, if_neg, Option.bind_some, nx, add_n0, cO, cN, cF, cU, true_or, or_true, if_true, if_false, not_true_eq_false, not_false_eq_true, true_and, and_true]⟩
        · by_cases h8 : v + 1 < 9
          · exact ⟨v + 1, by omega, by simp (disch := omega) only [fa_lit, nI_add, pk_sub, pk_mul, nI_clamp, nI_leI, nI_ltI, nI_eq, inb, u2_s2, u2_ne2, if_pos, if_neg, Option.bind_some, nx, add_n0, cO, cN, cF, cU, true_or, or_true, if_true, if_false, not_true_eq_false, not_false_eq_true, true_and, and_true], by simp (disch := omega) only [fa_lit, nI_add, pk_sub, pk_mul, nI_clamp, nI_leI, nI_ltI, nI_eq, inb, u2_s2, u2_ne2, if_pos, if_neg, Option.bind_some, nx, add_n0, cO, cN, cF, cU, true_or, or_true, if_true, if_false, not_true_eq_false, not_false_eq_true, true_and, and_true]⟩
          · exact ⟨v + 1, by omega, by simp (disch := omega) only [fa_lit, nI_add, pk_sub, pk_mul, nI_clamp, nI_leI, nI_ltI, nI_eq, inb, u2_s2, u2_ne2, if_pos, if_neg, Option.bind_some, nx, add_n0, cO, cN, cF, cU, true_or, or_true, if_true, if_false, not_true_eq_false, not_false_eq_true, true_and, and_true]; congr 2; omega, by simp (disch := omega) only [fa_lit, nI_add, pk_sub, pk_mul, nI_clamp, nI_leI, nI_ltI, nI_eq, inb, u2_s2, u2_ne2, if_pos, if_neg, Option.bind_some, nx, add_n0, cO, cN, cF, cU, true_or, or_true, if_true, if_false, not_true_eq_false, not_false_eq_true, true_and, and_true]⟩
    · exact ⟨v, hv, by simp (disch := omega) only [fa_lit, nI_add, pk_sub, pk_mul, nI_clamp, nI_leI, nI_ltI, nI_eq, inb, u2_s2, u2_ne2, if_pos, if_neg, Option.bind_some, nx, add_n0, cO, cN, cF, cU, true_or, or_true, if_true, if_false, not_true_eq_false, not_false_eq_true, true_and, and_true], by simp (disch := omega) only [fa_lit, nI_add, pk_sub, pk_mul, nI_clamp, nI_leI, nI_ltI, nI_eq, inb, u2_s2, u2_ne2, if_pos, if_neg, Option.bind_some, nx, add_n0, cO, cN, cF, cU, true_or, or_true, if_true, if_false, not_true_eq_false, not_false_eq_true, true_and, and_true]⟩
  · by_cases hr2 : r = 2
    · rcases Nat.eq_zero_or_pos v with h0 | h0
      · subst h0
        have hz : (nI 0 < nI 0 - nI 1) = False := eq_false (by decide)
        exact ⟨0, by omega, by simp (disch := omega) only [fa_lit, nI_add, pk_sub, pk_mul, nI_clamp, nI_leI, nI_ltI, nI_eq, inb, u2_s2, u2_ne2, if_pos, if_neg, Option.bind_some, nx, add_n0, cO, cN, cF, cU, true_or, or_true, if_true, if_false, not_true_eq_false, not_false_eq_true, true_and, and_true, hz], by simp (disch := omega) only [fa_lit, nI_add, pk_sub, pk_mul, nI_clamp, nI_leI, nI_ltI, nI_eq, inb, u2_s2, u2_ne2, if_pos, if_neg, Option.bind_some, nx, add_n0, cO, cN, cF, cU, true_or, or_true, if_true, if_false, not_true_eq_false, not_false_eq_true, true_and, and_true]⟩
      · by_cases h1 : v = 1
        · subst h1; exact ⟨0, by omega, by simp (disch := omega) only [fa_lit, nI_add, pk_sub, pk_mul, nI_clamp, nI_leI, nI_ltI, nI_eq, inb, u2_s2, u2_ne2, if_pos, if_neg, Option.bind_some, nx, add_n0, cO, cN, cF, cU, true_or, or_true, if_true, if_false, not_true_eq_false, not_false_eq_true, true_and, and_true], by simp (disch := omega) only [fa_lit, nI_add, pk_sub, pk_mul, nI_clamp, nI_leI, nI_ltI, nI_eq, inb, u2_s2, u2_ne2, if_pos, if_neg, Option.bind_some, nx, add_n0, cO, cN, cF, cU, true_or, or_true, if_true, if_false, not_true_eq_false, not_false_eq_true, true_and, and_true]⟩
        · exact ⟨v - 1, by omega, by simp (disch := omega) only [fa_lit, nI_add, pk_sub, pk_mul, nI_clamp, nI_leI, nI_ltI, nI_eq, inb, u2_s2, u2_ne2, if_pos, if_neg, Option.bind_some, nx, add_n0, cO, cN, cF, cU, true_or, or_true, if_true, if_false, not_true_eq_false, not_false_eq_true, true_and, and_true], by simp (disch := omega) only [fa_lit, nI_add, pk_sub, pk_mul, nI_clamp, nI_leI, nI_ltI, nI_eq, inb, u2_s2, u2_ne2, if_pos, if_neg, Option.bind_some, nx, add_n0, cO, cN, cF, cU, true_or, or_true, if_true, if_false, not_true_eq_false, not_false_eq_true, true_and, and_true]⟩
    · exact ⟨v, hv, by simp (disch := omega) only [fa_lit, nI_add, pk_sub, pk_mul, nI_clamp, nI_leI, nI_ltI, nI_eq, inb, u2_s2, u2_ne2, if_pos, if_neg, Option.bind_some, nx, add_n0, cO, cN, cF, cU, true_or, or_true, if_true, if_false, not_true_eq_false, not_false_eq_true, true_and, and_true], by simp (disch := omega) only [fa_lit, nI_add, pk_sub, pk_mul, nI_clamp, nI_leI, nI_ltI, nI_eq, inb, u2_s2, u2_ne2, if_pos, if_neg, Option.bind_some, nx, add_n0, cO, cN, cF, cU, true_or, or_true, if_true, if_false, not_true_eq_false, not_false_eq_true, true_and, and_true]⟩
  · exact ⟨v, hv, by simp (disch := omega) only [fa_lit, nI_add, pk_sub, pk_mul, nI_clamp, nI_leI, nI_ltI, nI_eq, inb, u2_s2, u2_ne2, if_pos, if_neg, Option.bind_some, nx, add_n0, cO, cN, cF, cU, true_or, or_true, if_true, if_false, not_true_eq_false, not_false_eq_true, true_and, and_true], by simp (disch := omega) only [fa_lit, nI_add, pk_sub, pk_mul, nI_clamp, nI_leI, nI_ltI, nI_eq, inb, u2_s2, u2_ne2, if_pos, if_neg, Option.bind_some, nx, add_n0, cO, cN, cF, cU, true_or, or_true, if_true, if_false, not_true_eq_false, not_false_eq_true, true_and, and_true]⟩
  · by_cases h3 : h - h / 24 * 24 = 12
    · exact ⟨0, by omega, by simp (disch := omega) only [fa_lit, nI_add, pk_sub, pk_mul, nI_clamp, nI_leI, nI_ltI, nI_eq, inb, u2_s2, u2_ne2, if_pos, if_neg, Option.bind_some, nx, add_n0, cO, cN, cF, cU, true_or, or_true, if_true, if_false, not_true_eq_false, not_false_eq_true, true_and, and_true], by simp (disch := omega) only [fa_lit, nI_add, pk_sub, pk_mul, nI_clamp, nI_leI, nI_ltI, nI_eq, inb, u2_s2, u2_ne2, if_pos, if_neg, Option.bind_some, nx, add_n0, cO, cN, cF, cU, true_or, or_true, if_true, if_false, not_true_eq_false, not_false_eq_true, true_and, and_true]⟩
    · exact ⟨v, hv, by simp (disch := omega) only [fa_lit, nI_add, pk_sub, pk_mul, nI_clamp, nI_leI, nI_ltI, nI_eq, inb, u2_s2, u2_ne2, if_pos, if_neg, Option.bind_some, nx, add_n0, cO, cN, cF, cU, true_or, or_true, if_true, if_false, not_true_eq_false, not_false_eq_true, true_and, and_true], by simp (disch := omega) only [fa_lit, nI_add, pk_sub, pk_mul, nI_clamp, nI_leI, nI_ltI, nI_eq, inb, u2_s2, u2_ne2, if_pos, if_neg, Option.bind_some, nx, add_n0, cO, cN, cF, cU, true_or, or_true, if_true, if_false, not_true_eq_false, not_false_eq_true, true_and, and_true]⟩
