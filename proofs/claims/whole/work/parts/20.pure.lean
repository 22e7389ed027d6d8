/-! 20: numbers; the first functions of both sides, side by side -/
theorem fa_lit (n : Nat) : (OfNat.ofNat n : Int32) = nI n := rfl
theorem add_n0 (x : Int32) : x + nI 0 = x := Int32.add_zero x
theorem cU : (nI 0 ≤ -nI 1000000001) = False := eq_false (by decide)
theorem cO : (nI 0 ≤ -nI 1000000002) = False := eq_false (by decide)
theorem cN : (nI 0 ≤ -nI 1000000003) = False := eq_false (by decide)
theorem cF : (nI 0 ≤ -nI 1000000004) = False := eq_false (by decide)
theorem u2_s2 {α : Type} {f : Nat → Nat → α} {i j a b : Nat} {x : α} (h : a = i ∧ b = j) : u2 f i j x a b = x := by simp [u2, h]
theorem u2_ne2 {α : Type} {f : Nat → Nat → α} {i j a b : Nat} {x : α} (h : ¬ (a = i ∧ b = j)) : u2 f i j x a b = f a b := by simp [u2, h]
theorem ix (x : Int32) : x < nI 0 ∨ ∃ n : Nat, n < 2 ^ 31 ∧ x = nI n := by
  by_cases h : x < 0
  · exact Or.inl h
  · exact Or.inr (nI_of h)
theorem ng_lt {x : Int32} (h : x < nI 0) (a : Nat) (ha : a < 2 ^ 31) : (x < nI a) = True := by
  have h1 : x.toInt < (nI 0).toInt := Int32.lt_iff_toInt_lt.mp h
  rw [nI_toInt (by omega)] at h1
  refine eq_true (Int32.lt_iff_toInt_lt.mpr ?_)
  rw [nI_toInt ha]; omega
theorem ng_le {x : Int32} (h : x < nI 0) (a : Nat) (ha : a < 2 ^ 31) : (nI a ≤ x) = False := by
  refine eq_false (fun q => ?_)
  exact absurd (of_eq_true (ng_lt h a ha)) (Int32.not_lt.mpr q)
theorem ng_le2 {x : Int32} (h : x < nI 0) (a : Nat) (ha : a < 2 ^ 31) : (x ≤ nI a) = True := eq_true (Int32.le_of_lt (of_eq_true (ng_lt h a ha)))
theorem ng_ne {x : Int32} (h : x < nI 0) (a : Nat) (ha : a < 2 ^ 31) : (x = nI a) = False := by
  refine eq_false (fun q => ?_)
  have := of_eq_true (ng_lt h a ha)
  rw [q] at this
  exact absurd this (Int32.lt_irrefl)
theorem j_in (x lo hi : Int32) : f_X8_in x lo hi = f_X7_isWithin x lo hi := rfl
theorem in_cases (x : Int32) (a b : Nat) (ha : a < 2 ^ 31) (hb : b < 2 ^ 31) : (∃ n : Nat, a ≤ n ∧ n ≤ b ∧ x = nI n ∧ f_X7_isWithin x (nI a) (nI b) = some (nI 1)) ∨ f_X7_isWithin x (nI a) (nI b) = some (nI 0) := by
  unfold f_X7_isWithin
  rcases ix x with h | ⟨n, hn, rfl⟩
  · right
    simp (disch := omega) only [fa_lit, nI_add, pk_sub, pk_mul, nI_clamp, nI_leI, nI_ltI, nI_eq, inb, u2_s2, u2_ne2, if_pos, if_neg, Option.bind_some, nx, add_n0, cO, cN, cF, cU, true_or, or_true, if_true, if_false, not_true_eq_false, not_false_eq_true, true_and, and_true, ng_lt h, if_true]
  · by_cases h1 : a ≤ n
    · by_cases h2 : n ≤ b
      · left; refine ⟨n, h1, h2, rfl, ?_⟩; simp (disch := omega) only [fa_lit, nI_add, pk_sub, pk_mul, nI_clamp, nI_leI, nI_ltI, nI_eq, inb, u2_s2, u2_ne2, if_pos, if_neg, Option.bind_some, nx, add_n0, cO, cN, cF, cU, true_or, or_true, if_true, if_false, not_true_eq_false, not_false_eq_true, true_and, and_true]
      · right; simp (disch := omega) only [fa_lit, nI_add, pk_sub, pk_mul, nI_clamp, nI_leI, nI_ltI, nI_eq, inb, u2_s2, u2_ne2, if_pos, if_neg, Option.bind_some, nx, add_n0, cO, cN, cF, cU, true_or, or_true, if_true, if_false, not_true_eq_false, not_false_eq_true, true_and, and_true]
    · right; simp (disch := omega) only [fa_lit, nI_add, pk_sub, pk_mul, nI_clamp, nI_leI, nI_ltI, nI_eq, inb, u2_s2, u2_ne2, if_pos, if_neg, Option.bind_some, nx, add_n0, cO, cN, cF, cU, true_or, or_true, if_true, if_false, not_true_eq_false, not_false_eq_true, true_and, and_true]
theorem j_isHeir (x : Int32) : (∃ n : Nat, n < 3 ∧ x = nI n ∧ f_X7_isHeir x = some (nI 1) ∧ f_X8_isHeir x = some (nI 1)) ∨ (f_X7_isHeir x = some (nI 0) ∧ f_X8_isHeir x = some (nI 0)) := by
  unfold f_X7_isHeir f_X8_isHeir f_X8_in
  rcases ix x with h | ⟨n, hn, rfl⟩
  · right
    constructor <;> simp (disch := omega) only [fa_lit, nI_add, pk_sub, pk_mul, nI_clamp, nI_leI, nI_ltI, nI_eq, inb, u2_s2, u2_ne2, if_pos, if_neg, Option.bind_some, nx, add_n0, cO, cN, cF, cU, true_or, or_true, if_true, if_false, not_true_eq_false, not_false_eq_true, true_and, and_true, ng_lt h, if_true]
  · by_cases h1 : n < 3
    · left; refine ⟨n, h1, rfl, ?_, ?_⟩ <;> simp (disch := omega) only [fa_lit, nI_add, pk_sub, pk_mul, nI_clamp, nI_leI, nI_ltI, nI_eq, inb, u2_s2, u2_ne2, if_pos, if_neg, Option.bind_some, nx, add_n0, cO, cN, cF, cU, true_or, or_true, if_true, if_false, not_true_eq_false, not_false_eq_true, true_and, and_true]
    · right; constructor <;> simp (disch := omega) only [fa_lit, nI_add, pk_sub, pk_mul, nI_clamp, nI_leI, nI_ltI, nI_eq, inb, u2_s2, u2_ne2, if_pos, if_neg, Option.bind_some, nx, add_n0, cO, cN, cF, cU, true_or, or_true, if_true, if_false, not_true_eq_false, not_false_eq_true, true_and, and_true]
theorem j_isValue (x : Int32) : (∃ n : Nat, n < 10 ∧ x = nI n ∧ f_X7_isValue x = some (nI 1) ∧ f_X8_isValue x = some (nI 1)) ∨ (f_X7_isValue x = some (nI 0) ∧ f_X8_isValue x = some (nI 0)) := by
  unfold f_X7_isValue f_X8_isValue f_X8_in
  rcases ix x with h | ⟨n, hn, rfl⟩
  · right
    constructor <;> simp (disch := omega) only [fa_lit, nI_add, pk_sub, pk_mul, nI_clamp, nI_leI, nI_ltI, nI_eq, inb, u2_s2, u2_ne2, if_pos, if_neg, Option.bind_some, nx, add_n0, cO, cN, cF, cU, true_or, or_true, if_true, if_false, not_true_eq_false, not_false_eq_true, true_and, and_true, ng_lt h, if_true]
  · by_cases h1 : n < 10
    · left; refine ⟨n, h1, rfl, ?_, ?_⟩ <;> simp (disch := omega) only [fa_lit, nI_add, pk_sub, pk_mul, nI_clamp, nI_leI, nI_ltI, nI_eq, inb, u2_s2, u2_ne2, if_pos, if_neg, Option.bind_some, nx, add_n0, cO, cN, cF, cU, true_or, or_true, if_true, if_false, not_true_eq_false, not_false_eq_true, true_and, and_true]
    · right; constructor <;> simp (disch := omega) only [fa_lit, nI_add, pk_sub, pk_mul, nI_clamp, nI_leI, nI_ltI, nI_eq, inb, u2_s2, u2_ne2, if_pos, if_neg, Option.bind_some, nx, add_n0, cO, cN, cF, cU, true_or, or_true, if_true, if_false, not_true_eq_false, not_false_eq_true, true_and, and_true]
theorem j_isImage (x : Int32) : (∃ n : Nat, n < 2 ∧ x = nI n ∧ f_X7_isImage x = some (nI 1) ∧ f_X7_isWithin x (nI 0) (nI 1) = some (nI 1)) ∨ (f_X7_isImage x = some (nI 0) ∧ f_X7_isWithin x (nI 0) (nI 1) = some (nI 0)) := by
  unfold f_X7_isImage f_X7_isWithin
  rcases ix x with h | ⟨n, hn, rfl⟩
  · right
    constructor <;> simp (disch := omega) only [fa_lit, nI_add, pk_sub, pk_mul, nI_clamp, nI_leI, nI_ltI, nI_eq, inb, u2_s2, u2_ne2, if_pos, if_neg, Option.bind_some, nx, add_n0, cO, cN, cF, cU, true_or, or_true, if_true, if_false, not_true_eq_false, not_false_eq_true, true_and, and_true, ng_lt h, if_true]
  · by_cases h1 : n < 2
    · left; refine ⟨n, h1, rfl, ?_, ?_⟩ <;> simp (disch := omega) only [fa_lit, nI_add, pk_sub, pk_mul, nI_clamp, nI_leI, nI_ltI, nI_eq, inb, u2_s2, u2_ne2, if_pos, if_neg, Option.bind_some, nx, add_n0, cO, cN, cF, cU, true_or, or_true, if_true, if_false, not_true_eq_false, not_false_eq_true, true_and, and_true]
    · right; constructor <;> simp (disch := omega) only [fa_lit, nI_add, pk_sub, pk_mul, nI_clamp, nI_leI, nI_ltI, nI_eq, inb, u2_s2, u2_ne2, if_pos, if_neg, Option.bind_some, nx, add_n0, cO, cN, cF, cU, true_or, or_true, if_true, if_false, not_true_eq_false, not_false_eq_true, true_and, and_true]
/-- 0 .. m - 1 as the reference asks it -/
theorem in_below (x : Int32) (m : Nat) (hm : m < 1000) : (∃ t : Nat, t < m ∧ x = nI t ∧ f_X7_isWithin x (nI 0) (nI m - nI 1) = some (nI 1)) ∨ (f_X7_isWithin x (nI 0) (nI m - nI 1) = some (nI 0) ∧ (x < nI 0 ∨ ∃ n : Nat, m ≤ n ∧ n < 2 ^ 31 ∧ x = nI n)) := by
  unfold f_X7_isWithin
  rcases ix x with h | ⟨n, hn, rfl⟩
  · right
    refine ⟨?_, Or.inl h⟩
    simp (disch := omega) only [fa_lit, nI_add, pk_sub, pk_mul, nI_clamp, nI_leI, nI_ltI, nI_eq, inb, u2_s2, u2_ne2, if_pos, if_neg, Option.bind_some, nx, add_n0, cO, cN, cF, cU, true_or, or_true, if_true, if_false, not_true_eq_false, not_false_eq_true, true_and, and_true, ng_lt h, if_true]
  · by_cases h1 : n < m
    · left; refine ⟨n, h1, rfl, ?_⟩; simp (disch := omega) only [fa_lit, nI_add, pk_sub, pk_mul, nI_clamp, nI_leI, nI_ltI, nI_eq, inb, u2_s2, u2_ne2, if_pos, if_neg, Option.bind_some, nx, add_n0, cO, cN, cF, cU, true_or, or_true, if_true, if_false, not_true_eq_false, not_false_eq_true, true_and, and_true]
    · right
      refine ⟨?_, Or.inr ⟨n, by omega, hn, rfl⟩⟩
      rcases Nat.eq_zero_or_pos m with h0 | h0
      · subst h0
        have h2 : nI 0 - nI 1 < nI n := by
          rw [Int32.lt_iff_toInt_lt, nI_toInt hn, show (nI 0 - nI 1).toInt = -1 from by decide]; omega
        simp only [h2, if_true]
        split <;> rfl
      · simp (disch := omega) only [fa_lit, nI_add, pk_sub, pk_mul, nI_clamp, nI_leI, nI_ltI, nI_eq, inb, u2_s2, u2_ne2, if_pos, if_neg, Option.bind_some, nx, add_n0, cO, cN, cF, cU, true_or, or_true, if_true, if_false, not_true_eq_false, not_false_eq_true, true_and, and_true]
def RK (mi mj : Mi) (ld m wn sn : Nat) : Prop :=
  (ld = 4 ∨ ld = 210) ∧ m ≤ 8 ∧ wn ≤ 10 ∧ sn ≤ 12 ∧ (mi ld 5 = nI m ∧ mj 229 20 = nI m) ∧ (mi ld 7 = nI wn ∧ mj 229 23 = nI wn) ∧ (mi ld 4 = nI sn ∧ mj 229 19 = nI sn) ∧
  (mj 229 17 = mi ld 1 ∧ mj 229 18 = mi ld 2 ∧ mj 229 21 = mi ld 3 ∧ mj 229 22 = mi ld 6) ∧
  ((mi ld 0 = nI 0 ∧ mi ld 2 ≤ nI 0 ∧ m = 0) ∨ (mi ld 0 = nI 1 ∧ ¬ mi ld 2 ≤ nI 0)) ∧
  (∀ k : Nat, k < sn → mj 235 k = mi (ld + 1) k) ∧
  (∀ t : Nat, t < m → mj 236 t = mi (ld + 2) t ∧ ∃ k : Nat, k < 4 ∧ mi (ld + 2) t = nI k) ∧
  (∀ w : Nat, w < wn → mj 237 (3 * w) = mi (ld + 4) w ∧ mj 237 (3 * w + 1) = mi (ld + 5) w ∧ mj 237 (3 * w + 2) = mi (ld + 6) w ∧ (∃ t : Nat, t < m ∧ mi (ld + 5) w = nI t) ∧ ∃ v : Nat, v < 10 ∧ mi (ld + 6) w = nI v)
theorem j_isThing {mi mj : Mi} {ld m wn sn : Nat} (hK : RK mi mj ld m wn sn) (x : Int32) : (∃ t : Nat, t < m ∧ x = nI t ∧ f_X7_isThing mi ld x = some (nI 1) ∧ f_X8_isThing mj x = some (nI 1)) ∨ (f_X7_isThing mi ld x = some (nI 0) ∧ f_X8_isThing mj x = some (nI 0)) := by
  obtain ⟨hld, hm, hwn, hsn, ⟨m1, m2⟩, -⟩ := hK
  unfold f_X7_isThing f_X8_isThing
  rcases in_below x m (by omega) with ⟨t, ht, rfl, e⟩ | ⟨e, h | ⟨n, h1, h2, rfl⟩⟩
  · left; refine ⟨t, ht, rfl, ?_, ?_⟩
    · simp (disch := omega) only [fa_lit, nI_add, pk_sub, pk_mul, nI_clamp, nI_leI, nI_ltI, nI_eq, inb, u2_s2, u2_ne2, if_pos, if_neg, Option.bind_some, nx, add_n0, cO, cN, cF, cU, true_or, or_true, if_true, if_false, not_true_eq_false, not_false_eq_true, true_and, and_true, m1]
    · simp only [fa_lit, m2, j_in, e, Option.bind_some]; simp (disch := omega) only [fa_lit, nI_add, pk_sub, pk_mul, nI_clamp, nI_leI, nI_ltI, nI_eq, inb, u2_s2, u2_ne2, if_pos, if_neg, Option.bind_some, nx, add_n0, cO, cN, cF, cU, true_or, or_true, if_true, if_false, not_true_eq_false, not_false_eq_true, true_and, and_true]
  · right; constructor
    · simp (disch := omega) only [fa_lit, nI_add, pk_sub, pk_mul, nI_clamp, nI_leI, nI_ltI, nI_eq, inb, u2_s2, u2_ne2, if_pos, if_neg, Option.bind_some, nx, add_n0, cO, cN, cF, cU, true_or, or_true, if_true, if_false, not_true_eq_false, not_false_eq_true, true_and, and_true, m1, ng_lt h, if_true]
    · simp only [fa_lit, m2, j_in, e, Option.bind_some]; simp (disch := omega) only [fa_lit, nI_add, pk_sub, pk_mul, nI_clamp, nI_leI, nI_ltI, nI_eq, inb, u2_s2, u2_ne2, if_pos, if_neg, Option.bind_some, nx, add_n0, cO, cN, cF, cU, true_or, or_true, if_true, if_false, not_true_eq_false, not_false_eq_true, true_and, and_true]
  · right; constructor
    · simp (disch := omega) only [fa_lit, nI_add, pk_sub, pk_mul, nI_clamp, nI_leI, nI_ltI, nI_eq, inb, u2_s2, u2_ne2, if_pos, if_neg, Option.bind_some, nx, add_n0, cO, cN, cF, cU, true_or, or_true, if_true, if_false, not_true_eq_false, not_false_eq_true, true_and, and_true, m1]
    · simp only [fa_lit, m2, j_in, e, Option.bind_some]; simp (disch := omega) only [fa_lit, nI_add, pk_sub, pk_mul, nI_clamp, nI_leI, nI_ltI, nI_eq, inb, u2_s2, u2_ne2, if_pos, if_neg, Option.bind_some, nx, add_n0, cO, cN, cF, cU, true_or, or_true, if_true, if_false, not_true_eq_false, not_false_eq_true, true_and, and_true]
theorem j_season {mi mj : Mi} {ld m wn sn : Nat} (hK : RK mi mj ld m wn sn) (d : Nat) (hd : d < 2 ^ 31) : ∃ r : Int32, f_X1_seasonOf mi ld (nI d) = some r ∧ f_X8_seasonOf mj (nI d) = some r := by
  obtain ⟨hld, hm, hwn, hsn, -, -, ⟨s1, s2⟩, -, -, hse, -⟩ := hK
  unfold f_X1_seasonOf f_X8_seasonOf
  rcases Nat.eq_zero_or_pos sn with h0 | h0
  · subst h0
    refine ⟨nI 4, ?_, ?_⟩
    · simp (disch := omega) only [fa_lit, nI_add, pk_sub, pk_mul, nI_clamp, nI_leI, nI_ltI, nI_eq, inb, u2_s2, u2_ne2, if_pos, if_neg, Option.bind_some, nx, add_n0, cO, cN, cF, cU, true_or, or_true, if_true, if_false, not_true_eq_false, not_false_eq_true, true_and, and_true, s1]
    · simp (disch := omega) only [fa_lit, nI_add, pk_sub, pk_mul, nI_clamp, nI_leI, nI_ltI, nI_eq, inb, u2_s2, u2_ne2, if_pos, if_neg, Option.bind_some, nx, add_n0, cO, cN, cF, cU, true_or, or_true, if_true, if_false, not_true_eq_false, not_false_eq_true, true_and, and_true, s2]
  · have hr := pk_rem (a := d) (d := sn) hd h0 (by omega)
    have hl := Nat.mod_lt d h0
    refine ⟨mi (ld + 1) (d % sn), ?_, ?_⟩
    · simp only [s1, hr]
      simp (disch := omega) only [fa_lit, nI_add, pk_sub, pk_mul, nI_clamp, nI_leI, nI_ltI, nI_eq, inb, u2_s2, u2_ne2, if_pos, if_neg, Option.bind_some, nx, add_n0, cO, cN, cF, cU, true_or, or_true, if_true, if_false, not_true_eq_false, not_false_eq_true, true_and, and_true]
    · simp only [s2, hr]
      simp (disch := omega) only [fa_lit, nI_add, pk_sub, pk_mul, nI_clamp, nI_leI, nI_ltI, nI_eq, inb, u2_s2, u2_ne2, if_pos, if_neg, Option.bind_some, nx, add_n0, cO, cN, cF, cU, true_or, or_true, if_true, if_false, not_true_eq_false, not_false_eq_true, true_and, and_true]
      rw [hse _ hl]
