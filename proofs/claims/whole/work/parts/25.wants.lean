/-! 25: wants, what is known, told, heir, thing, want, known, logged -/
theorem fa_or (a b : Nat) : nI a ||| nI b = nI (a ||| b) := by
  apply Int32.toBitVec_inj.1
  show BitVec.ofNat 32 a ||| BitVec.ofNat 32 b = BitVec.ofNat 32 (a ||| b)
  apply BitVec.eq_of_getLsbD_eq
  intro i hi
  simp [hi]
theorem or_n0 (x : Int32) : x ||| nI 0 = x := by
  apply Int32.toBitVec_inj.1
  show x.toBitVec ||| BitVec.ofNat 32 0 = x.toBitVec
  simp
theorem shl_n (j : Nat) (hj : j < 8) : nI 1 <<< (nI j &&& nI 31) = nI (2 ^ j) := by
  rcases (show j = 0 ∨ j = 1 ∨ j = 2 ∨ j = 3 ∨ j = 4 ∨ j = 5 ∨ j = 6 ∨ j = 7 by omega) with rfl | rfl | rfl | rfl | rfl | rfl | rfl | rfl <;> decide
theorem bits_all : (List.range 256).all (fun n => decide (f_J6_bitCount_0f7a4 (nI n) = f_X8_bits (nI n)) && (f_X8_bits (nI n)).isSome) = true := by decide +kernel
theorem j_bits {n : Nat} (h : n < 256) : ∃ r : Int32, f_J6_bitCount_0f7a4 (nI n) = some r ∧ f_X8_bits (nI n) = some r := by
  have h1 := List.all_eq_true.mp bits_all n (List.mem_range.mpr h)
  simp only [Bool.and_eq_true, decide_eq_true_eq] at h1
  obtain ⟨r, hr⟩ := Option.isSome_iff_exists.mp h1.2
  exact ⟨r, by rw [h1.1, hr], hr⟩
theorem w_fact {mi mj : Mi} {ld m wn sn : Nat} (hK : RK mi mj ld m wn sn) (w : Nat) (hw : w < wn) : m ≤ 8 ∧ wn ≤ 10 ∧ mi ld 7 = nI wn ∧ mj 229 23 = nI wn ∧ mj 237 (3 * w) = mi (ld + 4) w ∧ mj 237 (3 * w + 1) = mi (ld + 5) w ∧ mj 237 (3 * w + 2) = mi (ld + 6) w ∧ (∃ t : Nat, t < m ∧ mi (ld + 5) w = nI t) ∧ ∃ v : Nat, v < 10 ∧ mi (ld + 6) w = nI v := by
  obtain ⟨hld, hm, hwn, hsn, -, ⟨w1, w2⟩, -, -, -, -, -, hw'⟩ := hK
  exact ⟨hm, hwn, w1, w2, hw' w hw⟩
theorem w_cnt {mi mj : Mi} {ld m wn sn : Nat} (hK : RK mi mj ld m wn sn) : wn ≤ 10 ∧ mi ld 7 = nI wn ∧ mj 229 23 = nI wn ∧ m ≤ 8 ∧ mi ld 5 = nI m ∧ mj 229 20 = nI m := by
  obtain ⟨hld, hm, hwn, hsn, ⟨m1, m2⟩, ⟨w1, w2⟩, -⟩ := hK
  exact ⟨hwn, w1, w2, hm, m1, m2⟩
theorem j_wantsOf {mi mj : Mi} {ld m wn sn : Nat} (hK : RK mi mj ld m wn sn) (x : Int32) :
    ∀ (c n1 n2 k : Nat) (s : Int32), wn - k = c → k ≤ wn → c < n1 → c < n2 → ∃ r : Int32, lp_X1_wantsOf_4 ld mi x (fun a _ => some a) n1 s (nI k) = some r ∧ lp_X8_wantsOf_4 mj x (fun a _ => some a) n2 s (nI k) = some r := by
  obtain ⟨c1, c2, c3, -⟩ := w_cnt hK
  intro c
  induction c with
  | zero =>
    intro n1 n2 k s h2 h3 h5 h6
    obtain ⟨n1, rfl⟩ : ∃ n, n1 = n + 1 := ⟨n1 - 1, by omega⟩
    obtain ⟨n2, rfl⟩ : ∃ n, n2 = n + 1 := ⟨n2 - 1, by omega⟩
    exact ⟨s, by unfold lp_X1_wantsOf_4; simp (disch := omega) only [fa_lit, nI_add, pk_sub, pk_mul, nI_clamp, nI_leI, nI_ltI, nI_eq, inb, u2_s2, u2_ne2, if_pos, if_neg, Option.bind_some, nx, add_n0, cO, cN, cF, cU, true_or, or_true, if_true, if_false, not_true_eq_false, not_false_eq_true, true_and, and_true, c2], by unfold lp_X8_wantsOf_4; simp (disch := omega) only [fa_lit, nI_add, pk_sub, pk_mul, nI_clamp, nI_leI, nI_ltI, nI_eq, inb, u2_s2, u2_ne2, if_pos, if_neg, Option.bind_some, nx, add_n0, cO, cN, cF, cU, true_or, or_true, if_true, if_false, not_true_eq_false, not_false_eq_true, true_and, and_true, c3]⟩
  | succ c ih =>
    intro n1 n2 k s h2 h3 h5 h6
    obtain ⟨n1, rfl⟩ : ∃ n, n1 = n + 1 := ⟨n1 - 1, by omega⟩
    obtain ⟨n2, rfl⟩ : ∃ n, n2 = n + 1 := ⟨n2 - 1, by omega⟩
    obtain ⟨-, -, -, -, e4, -⟩ := w_fact hK k (by omega)
    unfold lp_X1_wantsOf_4 lp_X8_wantsOf_4
    by_cases hr : mi (ld + 4) k = x
    · obtain ⟨z, z2, z3⟩ := ih n1 n2 (k + 1) (s + nI 1) (by omega) (by omega) (by omega) (by omega)
      exact ⟨z, by simp (disch := omega) only [fa_lit, nI_add, pk_sub, pk_mul, nI_clamp, nI_leI, nI_ltI, nI_eq, inb, u2_s2, u2_ne2, if_pos, if_neg, Option.bind_some, nx, add_n0, cO, cN, cF, cU, true_or, or_true, if_true, if_false, not_true_eq_false, not_false_eq_true, true_and, and_true, c2, hr, z2], by simp (disch := omega) only [fa_lit, nI_add, pk_sub, pk_mul, nI_clamp, nI_leI, nI_ltI, nI_eq, inb, u2_s2, u2_ne2, if_pos, if_neg, Option.bind_some, nx, add_n0, cO, cN, cF, cU, true_or, or_true, if_true, if_false, not_true_eq_false, not_false_eq_true, true_and, and_true, c3, e4, hr, z3]⟩
    · obtain ⟨z, z2, z3⟩ := ih n1 n2 (k + 1) s (by omega) (by omega) (by omega) (by omega)
      exact ⟨z, by simp (disch := omega) only [fa_lit, nI_add, pk_sub, pk_mul, nI_clamp, nI_leI, nI_ltI, nI_eq, inb, u2_s2, u2_ne2, if_pos, if_neg, Option.bind_some, nx, add_n0, cO, cN, cF, cU, true_or, or_true, if_true, if_false, not_true_eq_false, not_false_eq_true, true_and, and_true, c2, hr, z2], by simp (disch := omega) only [fa_lit, nI_add, pk_sub, pk_mul, nI_clamp, nI_leI, nI_ltI, nI_eq, inb, u2_s2, u2_ne2, if_pos, if_neg, Option.bind_some, nx, add_n0, cO, cN, cF, cU, true_or, or_true, if_true, if_false, not_true_eq_false, not_false_eq_true, true_and, and_true, c3, e4, hr, z3]⟩
theorem j_voices {mi mj : Mi} {ld m wn sn : Nat} (hK : RK mi mj ld m wn sn) (x y : Int32) :
    ∀ (c n1 n2 k : Nat) (s : Int32), wn - k = c → k ≤ wn → c < n1 → c < n2 → ∃ r : Int32, lp_X1_voices_5 ld mi x y (fun a _ => some a) n1 s (nI k) = some r ∧ lp_X8_wanted_5 mj x y (fun a _ => some a) n2 s (nI k) = some r ∧ (y = (-nI 1) → r = s) := by
  obtain ⟨c1, c2, c3, -⟩ := w_cnt hK
  intro c
  induction c with
  | zero =>
    intro n1 n2 k s h2 h3 h5 h6
    obtain ⟨n1, rfl⟩ : ∃ n, n1 = n + 1 := ⟨n1 - 1, by omega⟩
    obtain ⟨n2, rfl⟩ : ∃ n, n2 = n + 1 := ⟨n2 - 1, by omega⟩
    exact ⟨s, by unfold lp_X1_voices_5; simp (disch := omega) only [fa_lit, nI_add, pk_sub, pk_mul, nI_clamp, nI_leI, nI_ltI, nI_eq, inb, u2_s2, u2_ne2, if_pos, if_neg, Option.bind_some, nx, add_n0, cO, cN, cF, cU, true_or, or_true, if_true, if_false, not_true_eq_false, not_false_eq_true, true_and, and_true, c2], by unfold lp_X8_wanted_5; simp (disch := omega) only [fa_lit, nI_add, pk_sub, pk_mul, nI_clamp, nI_leI, nI_ltI, nI_eq, inb, u2_s2, u2_ne2, if_pos, if_neg, Option.bind_some, nx, add_n0, cO, cN, cF, cU, true_or, or_true, if_true, if_false, not_true_eq_false, not_false_eq_true, true_and, and_true, c3], fun _ => rfl⟩
  | succ c ih =>
    intro n1 n2 k s h2 h3 h5 h6
    obtain ⟨n1, rfl⟩ : ∃ n, n1 = n + 1 := ⟨n1 - 1, by omega⟩
    obtain ⟨n2, rfl⟩ : ∃ n, n2 = n + 1 := ⟨n2 - 1, by omega⟩
    obtain ⟨-, -, -, -, -, e5, e6, -, v, v1, v2⟩ := w_fact hK k (by omega)
    unfold lp_X1_voices_5 lp_X8_wanted_5
    by_cases hr : mi (ld + 5) k = x
    · by_cases hq : nI v = y
      · obtain ⟨z, z2, z3, z4⟩ := ih n1 n2 (k + 1) (s + nI 1) (by omega) (by omega) (by omega) (by omega)
        refine ⟨z, by simp (disch := omega) only [fa_lit, nI_add, pk_sub, pk_mul, nI_clamp, nI_leI, nI_ltI, nI_eq, inb, u2_s2, u2_ne2, if_pos, if_neg, Option.bind_some, nx, add_n0, cO, cN, cF, cU, true_or, or_true, if_true, if_false, not_true_eq_false, not_false_eq_true, true_and, and_true, c2, hr, v2, hq, z2], by simp (disch := omega) only [fa_lit, nI_add, pk_sub, pk_mul, nI_clamp, nI_leI, nI_ltI, nI_eq, inb, u2_s2, u2_ne2, if_pos, if_neg, Option.bind_some, nx, add_n0, cO, cN, cF, cU, true_or, or_true, if_true, if_false, not_true_eq_false, not_false_eq_true, true_and, and_true, c3, e5, e6, hr, v2, hq, z3], fun hy => ?_⟩
        rw [hy] at hq
        exact absurd hq (of_eq_false (m1_ne v (by omega)))
      · obtain ⟨z, z2, z3, z4⟩ := ih n1 n2 (k + 1) s (by omega) (by omega) (by omega) (by omega)
        exact ⟨z, by simp (disch := omega) only [fa_lit, nI_add, pk_sub, pk_mul, nI_clamp, nI_leI, nI_ltI, nI_eq, inb, u2_s2, u2_ne2, if_pos, if_neg, Option.bind_some, nx, add_n0, cO, cN, cF, cU, true_or, or_true, if_true, if_false, not_true_eq_false, not_false_eq_true, true_and, and_true, c2, hr, v2, hq, z2], by simp (disch := omega) only [fa_lit, nI_add, pk_sub, pk_mul, nI_clamp, nI_leI, nI_ltI, nI_eq, inb, u2_s2, u2_ne2, if_pos, if_neg, Option.bind_some, nx, add_n0, cO, cN, cF, cU, true_or, or_true, if_true, if_false, not_true_eq_false, not_false_eq_true, true_and, and_true, c3, e5, e6, hr, v2, hq, z3], z4⟩
    · obtain ⟨z, z2, z3, z4⟩ := ih n1 n2 (k + 1) s (by omega) (by omega) (by omega) (by omega)
      exact ⟨z, by simp (disch := omega) only [fa_lit, nI_add, pk_sub, pk_mul, nI_clamp, nI_leI, nI_ltI, nI_eq, inb, u2_s2, u2_ne2, if_pos, if_neg, Option.bind_some, nx, add_n0, cO, cN, cF, cU, true_or, or_true, if_true, if_false, not_true_eq_false, not_false_eq_true, true_and, and_true, c2, hr, z2], by simp (disch := omega) only [fa_lit, nI_add, pk_sub, pk_mul, nI_clamp, nI_leI, nI_ltI, nI_eq, inb, u2_s2, u2_ne2, if_pos, if_neg, Option.bind_some, nx, add_n0, cO, cN, cF, cU, true_or, or_true, if_true, if_false, not_true_eq_false, not_false_eq_true, true_and, and_true, c3, e5, hr, z3], z4⟩
theorem j_voice {mi mj : Mi} {ld m wn sn : Nat} (hK : RK mi mj ld m wn sn) (x y : Int32) : ∃ r : Int32, f_X1_voices mi ld x y = some r ∧ f_X8_wanted mj x y = some r ∧ (y = (-nI 1) → r = nI 0) := by
  obtain ⟨c1, -⟩ := w_cnt hK
  obtain ⟨r, r1, r2, r3⟩ := j_voices hK x y wn FU FU 0 (nI 0) (by omega) (by omega) (by rw [FU_eq]; omega) (by rw [FU_eq]; omega)
  exact ⟨r, by unfold f_X1_voices; simp (disch := omega) only [fa_lit, nI_add, pk_sub, pk_mul, nI_clamp, nI_leI, nI_ltI, nI_eq, inb, u2_s2, u2_ne2, if_pos, if_neg, Option.bind_some, nx, add_n0, cO, cN, cF, cU, true_or, or_true, if_true, if_false, not_true_eq_false, not_false_eq_true, true_and, and_true, r1], by unfold f_X8_wanted; simp (disch := omega) only [fa_lit, nI_add, pk_sub, pk_mul, nI_clamp, nI_leI, nI_ltI, nI_eq, inb, u2_s2, u2_ne2, if_pos, if_neg, Option.bind_some, nx, add_n0, cO, cN, cF, cU, true_or, or_true, if_true, if_false, not_true_eq_false, not_false_eq_true, true_and, and_true, r2], r3⟩
theorem j_fav {mi mj : Mi} {ld m wn sn : Nat} (hK : RK mi mj ld m wn sn) (x : Int32) :
    ∀ (c n1 n2 k : Nat) (b s : Int32), 10 - k = c → k ≤ 10 → c < n1 → c < n2 → ∃ r : Int32, lp_X1_favourite_7 ld mi x (fun a _ _ => some a) n1 b s (nI k) = some r ∧ lp_X8_mostWanted_7 mj x (fun a _ _ => some a) n2 b s (nI k) = some r := by
  intro c
  induction c with
  | zero =>
    intro n1 n2 k b s h2 h3 h5 h6
    obtain ⟨n1, rfl⟩ : ∃ n, n1 = n + 1 := ⟨n1 - 1, by omega⟩
    obtain ⟨n2, rfl⟩ : ∃ n, n2 = n + 1 := ⟨n2 - 1, by omega⟩
    exact ⟨b, by unfold lp_X1_favourite_7; simp (disch := omega) only [fa_lit, nI_add, pk_sub, pk_mul, nI_clamp, nI_leI, nI_ltI, nI_eq, inb, u2_s2, u2_ne2, if_pos, if_neg, Option.bind_some, nx, add_n0, cO, cN, cF, cU, true_or, or_true, if_true, if_false, not_true_eq_false, not_false_eq_true, true_and, and_true], by unfold lp_X8_mostWanted_7; simp (disch := omega) only [fa_lit, nI_add, pk_sub, pk_mul, nI_clamp, nI_leI, nI_ltI, nI_eq, inb, u2_s2, u2_ne2, if_pos, if_neg, Option.bind_some, nx, add_n0, cO, cN, cF, cU, true_or, or_true, if_true, if_false, not_true_eq_false, not_false_eq_true, true_and, and_true]⟩
  | succ c ih =>
    intro n1 n2 k b s h2 h3 h5 h6
    obtain ⟨n1, rfl⟩ : ∃ n, n1 = n + 1 := ⟨n1 - 1, by omega⟩
    obtain ⟨n2, rfl⟩ : ∃ n, n2 = n + 1 := ⟨n2 - 1, by omega⟩
    obtain ⟨r, r1, r2, -⟩ := j_voice hK x (nI k)
    unfold lp_X1_favourite_7 lp_X8_mostWanted_7
    by_cases hr : r ≤ s
    · obtain ⟨z, z2, z3⟩ := ih n1 n2 (k + 1) b s (by omega) (by omega) (by omega) (by omega)
      exact ⟨z, by simp (disch := omega) only [fa_lit, nI_add, pk_sub, pk_mul, nI_clamp, nI_leI, nI_ltI, nI_eq, inb, u2_s2, u2_ne2, if_pos, if_neg, Option.bind_some, nx, add_n0, cO, cN, cF, cU, true_or, or_true, if_true, if_false, not_true_eq_false, not_false_eq_true, true_and, and_true, r1, hr, z2], by simp (disch := omega) only [fa_lit, nI_add, pk_sub, pk_mul, nI_clamp, nI_leI, nI_ltI, nI_eq, inb, u2_s2, u2_ne2, if_pos, if_neg, Option.bind_some, nx, add_n0, cO, cN, cF, cU, true_or, or_true, if_true, if_false, not_true_eq_false, not_false_eq_true, true_and, and_true, r2, hr, z3]⟩
    · obtain ⟨z, z2, z3⟩ := ih n1 n2 (k + 1) (nI k) r (by omega) (by omega) (by omega) (by omega)
      exact ⟨z, by simp (disch := omega) only [fa_lit, nI_add, pk_sub, pk_mul, nI_clamp, nI_leI, nI_ltI, nI_eq, inb, u2_s2, u2_ne2, if_pos, if_neg, Option.bind_some, nx, add_n0, cO, cN, cF, cU, true_or, or_true, if_true, if_false, not_true_eq_false, not_false_eq_true, true_and, and_true, r1, hr, z2], by simp (disch := omega) only [fa_lit, nI_add, pk_sub, pk_mul, nI_clamp, nI_leI, nI_ltI, nI_eq, inb, u2_s2, u2_ne2, if_pos, if_neg, Option.bind_some, nx, add_n0, cO, cN, cF, cU, true_or, or_true, if_true, if_false, not_true_eq_false, not_false_eq_true, true_and, and_true, r2, hr, z3]⟩
theorem j_favr {mi mj : Mi} {ld m wn sn : Nat} (hK : RK mi mj ld m wn sn) (x : Int32) : ∃ r : Int32, f_X1_favourite mi ld x = some r ∧ f_X8_mostWanted mj x = some r := by
  obtain ⟨r, r1, r2⟩ := j_fav hK x 10 FU FU 0 (-nI 1) (nI 0) (by omega) (by omega) (by rw [FU_eq]; omega) (by rw [FU_eq]; omega)
  exact ⟨r, by unfold f_X1_favourite; simp (disch := omega) only [fa_lit, nI_add, pk_sub, pk_mul, nI_clamp, nI_leI, nI_ltI, nI_eq, inb, u2_s2, u2_ne2, if_pos, if_neg, Option.bind_some, nx, add_n0, cO, cN, cF, cU, true_or, or_true, if_true, if_false, not_true_eq_false, not_false_eq_true, true_and, and_true, r1], by unfold f_X8_mostWanted; simp (disch := omega) only [fa_lit, nI_add, pk_sub, pk_mul, nI_clamp, nI_leI, nI_ltI, nI_eq, inb, u2_s2, u2_ne2, if_pos, if_neg, Option.bind_some, nx, add_n0, cO, cN, cF, cU, true_or, or_true, if_true, if_false, not_true_eq_false, not_false_eq_true, true_and, and_true, r2]⟩
theorem j_most {mi mj : Mi} {ld m wn sn : Nat} (hK : RK mi mj ld m wn sn) (y : Int32) :
    ∀ (c n1 n2 k : Nat) (s : Int32), m - k = c → k ≤ m → c < n1 → c < n2 → ∃ r : Int32, lp_X1_mostMet_4 ld mi (fun a _ => some a) n1 s (nI k) = some r ∧ lp_X8_agreed_28 mj y (fun a _ => some a) n2 s (nI k) = some r := by
  obtain ⟨-, -, -, c1, c2, c3⟩ := w_cnt hK
  intro c
  induction c with
  | zero =>
    intro n1 n2 k s h2 h3 h5 h6
    obtain ⟨n1, rfl⟩ : ∃ n, n1 = n + 1 := ⟨n1 - 1, by omega⟩
    obtain ⟨n2, rfl⟩ : ∃ n, n2 = n + 1 := ⟨n2 - 1, by omega⟩
    exact ⟨s, by unfold lp_X1_mostMet_4; simp (disch := omega) only [fa_lit, nI_add, pk_sub, pk_mul, nI_clamp, nI_leI, nI_ltI, nI_eq, inb, u2_s2, u2_ne2, if_pos, if_neg, Option.bind_some, nx, add_n0, cO, cN, cF, cU, true_or, or_true, if_true, if_false, not_true_eq_false, not_false_eq_true, true_and, and_true, c2], by unfold lp_X8_agreed_28; simp (disch := omega) only [fa_lit, nI_add, pk_sub, pk_mul, nI_clamp, nI_leI, nI_ltI, nI_eq, inb, u2_s2, u2_ne2, if_pos, if_neg, Option.bind_some, nx, add_n0, cO, cN, cF, cU, true_or, or_true, if_true, if_false, not_true_eq_false, not_false_eq_true, true_and, and_true, c3]⟩
  | succ c ih =>
    intro n1 n2 k s h2 h3 h5 h6
    obtain ⟨n1, rfl⟩ : ∃ n, n1 = n + 1 := ⟨n1 - 1, by omega⟩
    obtain ⟨n2, rfl⟩ : ∃ n, n2 = n + 1 := ⟨n2 - 1, by omega⟩
    obtain ⟨f, f1, f2⟩ := j_favr hK (nI k)
    obtain ⟨v, v1, v2, v3⟩ := j_voice hK (nI k) f
    unfold lp_X1_mostMet_4 lp_X8_agreed_28
    obtain ⟨z, z2, z3⟩ := ih n1 n2 (k + 1) (s + v) (by omega) (by omega) (by omega) (by omega)
    by_cases hf : f = (-nI 1)
    · have hv := v3 hf
      subst hv
      rw [add_n0] at z2 z3
      exact ⟨z, by simp (disch := omega) only [fa_lit, nI_add, pk_sub, pk_mul, nI_clamp, nI_leI, nI_ltI, nI_eq, inb, u2_s2, u2_ne2, if_pos, if_neg, Option.bind_some, nx, add_n0, cO, cN, cF, cU, true_or, or_true, if_true, if_false, not_true_eq_false, not_false_eq_true, true_and, and_true, c2, f1, v1, z2], by simp (disch := omega) only [fa_lit, nI_add, pk_sub, pk_mul, nI_clamp, nI_leI, nI_ltI, nI_eq, inb, u2_s2, u2_ne2, if_pos, if_neg, Option.bind_some, nx, add_n0, cO, cN, cF, cU, true_or, or_true, if_true, if_false, not_true_eq_false, not_false_eq_true, true_and, and_true, c3, f2, hf, z3]⟩
    · exact ⟨z, by simp (disch := omega) only [fa_lit, nI_add, pk_sub, pk_mul, nI_clamp, nI_leI, nI_ltI, nI_eq, inb, u2_s2, u2_ne2, if_pos, if_neg, Option.bind_some, nx, add_n0, cO, cN, cF, cU, true_or, or_true, if_true, if_false, not_true_eq_false, not_false_eq_true, true_and, and_true, c2, f1, v1, z2], by simp (disch := omega) only [fa_lit, nI_add, pk_sub, pk_mul, nI_clamp, nI_leI, nI_ltI, nI_eq, inb, u2_s2, u2_ne2, if_pos, if_neg, Option.bind_some, nx, add_n0, cO, cN, cF, cU, true_or, or_true, if_true, if_false, not_true_eq_false, not_false_eq_true, true_and, and_true, c3, f2, hf, v2, z3]⟩
theorem J_agreed {mi mj : Mi} {ld m wn sn : Nat} (hK : RK mi mj ld m wn sn) (x : Int32) : ∃ r, f_X7_agreed mi ld x = some r ∧ f_X8_agreed mj x = some r := by
  obtain ⟨-, -, -, c1, c2, c3⟩ := w_cnt hK
  unfold f_X7_agreed f_X8_agreed
  by_cases hx : x = (-nI 1)
  · obtain ⟨r, r1, r2⟩ := j_most hK x m FU FU 0 (nI 0) (by omega) (by omega) (by rw [FU_eq]; omega) (by rw [FU_eq]; omega)
    rw [hx] at r2
    exact ⟨r, by simp (disch := omega) only [fa_lit, nI_add, pk_sub, pk_mul, nI_clamp, nI_leI, nI_ltI, nI_eq, inb, u2_s2, u2_ne2, if_pos, if_neg, Option.bind_some, nx, add_n0, cO, cN, cF, cU, true_or, or_true, if_true, if_false, not_true_eq_false, not_false_eq_true, true_and, and_true, hx, f_X1_mostMet, r1], by simp (disch := omega) only [fa_lit, nI_add, pk_sub, pk_mul, nI_clamp, nI_leI, nI_ltI, nI_eq, inb, u2_s2, u2_ne2, if_pos, if_neg, Option.bind_some, nx, add_n0, cO, cN, cF, cU, true_or, or_true, if_true, if_false, not_true_eq_false, not_false_eq_true, true_and, and_true, hx, r2]⟩
  · rcases j_isThing hK x with ⟨t, ht, rfl, e1, e2⟩ | ⟨e1, e2⟩
    · obtain ⟨f, f1, f2⟩ := j_favr hK (nI t)
      exact ⟨f, by simp (disch := omega) only [fa_lit, nI_add, pk_sub, pk_mul, nI_clamp, nI_leI, nI_ltI, nI_eq, inb, u2_s2, u2_ne2, if_pos, if_neg, Option.bind_some, nx, add_n0, cO, cN, cF, cU, true_or, or_true, if_true, if_false, not_true_eq_false, not_false_eq_true, true_and, and_true, hx, e1, f1], by simp (disch := omega) only [fa_lit, nI_add, pk_sub, pk_mul, nI_clamp, nI_leI, nI_ltI, nI_eq, inb, u2_s2, u2_ne2, if_pos, if_neg, Option.bind_some, nx, add_n0, cO, cN, cF, cU, true_or, or_true, if_true, if_false, not_true_eq_false, not_false_eq_true, true_and, and_true, hx, e2, f2]⟩
    · exact ⟨(-nI 1000000001), by simp (disch := omega) only [fa_lit, nI_add, pk_sub, pk_mul, nI_clamp, nI_leI, nI_ltI, nI_eq, inb, u2_s2, u2_ne2, if_pos, if_neg, Option.bind_some, nx, add_n0, cO, cN, cF, cU, true_or, or_true, if_true, if_false, not_true_eq_false, not_false_eq_true, true_and, and_true, hx, e1], by simp (disch := omega) only [fa_lit, nI_add, pk_sub, pk_mul, nI_clamp, nI_leI, nI_ltI, nI_eq, inb, u2_s2, u2_ne2, if_pos, if_neg, Option.bind_some, nx, add_n0, cO, cN, cF, cU, true_or, or_true, if_true, if_false, not_true_eq_false, not_false_eq_true, true_and, and_true, hx, e2]⟩
