/-! 24: poorest, child, clear; wants; what is known -/
theorem j_dark {mi mj : Mi} {ld m wn sn : Nat} (hK : RK mi mj ld m wn sn) (d : Nat) (hd : d < 2 ^ 31) : ∃ f t : Nat, 1 ≤ f ∧ f ≤ 11 ∧ 13 ≤ t ∧ t ≤ 23 ∧ f_X1_darkHours mi ld (nI d) = some (nI (24 - t + f)) ∧ f_X8_lightTo mj (nI d) = some (nI t) ∧ f_X8_lightFrom mj (nI d) = some (nI f) := by
  obtain ⟨f, f1, f2, f3, f4⟩ := j_from hK d hd
  obtain ⟨t, t1, t2, t3, t4⟩ := j_to hK d hd
  exact ⟨f, t, f1, f2, t1, t2, by unfold f_X1_darkHours; simp (disch := omega) only [fa_lit, nI_add, pk_sub, pk_mul, nI_clamp, nI_leI, nI_ltI, nI_eq, inb, u2_s2, u2_ne2, if_pos, if_neg, Option.bind_some, nx, add_n0, cO, cN, cF, cU, true_or, or_true, if_true, if_false, not_true_eq_false, not_false_eq_true, true_and, and_true, f3, t3], t4, f4⟩
theorem j_poor {mi mj : Mi} {ld m wn sn : Nat} (hK : RK mi mj ld m wn sn) (y1 y2 : Int32) (K : Int32 → Int32 → Int32 → Option Int32) :
    ∀ (c n1 n2 k b l : Nat), sn - k = c → 1 ≤ k → k ≤ 13 → b < 20 → l < 25 → f_X1_darkHours mi ld (nI b) = some (nI l) → c < n1 → c < n2 → ∃ (b' l' : Nat) (z : Int32), f_X1_darkHours mi ld (nI b') = some (nI l') ∧ lp_X1_darkPoorest_4 ld mi (fun a _ => some a) n1 (nI b) (nI k) = some (nI b') ∧ lp_X8_poorest_21 mj y1 y2 K n2 (nI b) (nI l) (nI k) = K (nI b') (nI l') z := by
  obtain ⟨hld, hm, hwn, hsn, -, -, ⟨s1, s2⟩, -⟩ := id hK
  intro c
  induction c with
  | zero =>
    intro n1 n2 k b l h2 h3 h4 hb hl hd h5 h6
    obtain ⟨n1, rfl⟩ : ∃ n, n1 = n + 1 := ⟨n1 - 1, by omega⟩
    obtain ⟨n2, rfl⟩ : ∃ n, n2 = n + 1 := ⟨n2 - 1, by omega⟩
    refine ⟨b, l, nI k, hd, ?_, ?_⟩
    · unfold lp_X1_darkPoorest_4; simp (disch := omega) only [fa_lit, nI_add, pk_sub, pk_mul, nI_clamp, nI_leI, nI_ltI, nI_eq, inb, u2_s2, u2_ne2, if_pos, if_neg, Option.bind_some, nx, add_n0, cO, cN, cF, cU, true_or, or_true, if_true, if_false, not_true_eq_false, not_false_eq_true, true_and, and_true, s1]
    · unfold lp_X8_poorest_21; simp (disch := omega) only [fa_lit, nI_add, pk_sub, pk_mul, nI_clamp, nI_leI, nI_ltI, nI_eq, inb, u2_s2, u2_ne2, if_pos, if_neg, Option.bind_some, nx, add_n0, cO, cN, cF, cU, true_or, or_true, if_true, if_false, not_true_eq_false, not_false_eq_true, true_and, and_true, s2]
  | succ c ih =>
    intro n1 n2 k b l h2 h3 h4 hb hl hd h5 h6
    obtain ⟨n1, rfl⟩ : ∃ n, n1 = n + 1 := ⟨n1 - 1, by omega⟩
    obtain ⟨n2, rfl⟩ : ∃ n, n2 = n + 1 := ⟨n2 - 1, by omega⟩
    obtain ⟨f, t, f1, f2, t1, t2, d1, d2, d3⟩ := j_dark hK k (by omega)
    unfold lp_X1_darkPoorest_4 lp_X8_poorest_21
    by_cases hr : l ≤ 24 - t + f
    · obtain ⟨b', l', z, z1, z2, z3⟩ := ih n1 n2 (k + 1) b l (by omega) (by omega) (by omega) hb hl hd (by omega) (by omega)
      exact ⟨b', l', z, z1, by simp (disch := omega) only [fa_lit, nI_add, pk_sub, pk_mul, nI_clamp, nI_leI, nI_ltI, nI_eq, inb, u2_s2, u2_ne2, if_pos, if_neg, Option.bind_some, nx, add_n0, cO, cN, cF, cU, true_or, or_true, if_true, if_false, not_true_eq_false, not_false_eq_true, true_and, and_true, s1, d1, hd, z2], by simp (disch := omega) only [fa_lit, nI_add, pk_sub, pk_mul, nI_clamp, nI_leI, nI_ltI, nI_eq, inb, u2_s2, u2_ne2, if_pos, if_neg, Option.bind_some, nx, add_n0, cO, cN, cF, cU, true_or, or_true, if_true, if_false, not_true_eq_false, not_false_eq_true, true_and, and_true, s2, d2, d3, z3]⟩
    · obtain ⟨b', l', z, z1, z2, z3⟩ := ih n1 n2 (k + 1) k (24 - t + f) (by omega) (by omega) (by omega) (by omega) (by omega) d1 (by omega) (by omega)
      exact ⟨b', l', z, z1, by simp (disch := omega) only [fa_lit, nI_add, pk_sub, pk_mul, nI_clamp, nI_leI, nI_ltI, nI_eq, inb, u2_s2, u2_ne2, if_pos, if_neg, Option.bind_some, nx, add_n0, cO, cN, cF, cU, true_or, or_true, if_true, if_false, not_true_eq_false, not_false_eq_true, true_and, and_true, s1, d1, hd, z2], by simp (disch := omega) only [fa_lit, nI_add, pk_sub, pk_mul, nI_clamp, nI_leI, nI_ltI, nI_eq, inb, u2_s2, u2_ne2, if_pos, if_neg, Option.bind_some, nx, add_n0, cO, cN, cF, cU, true_or, or_true, if_true, if_false, not_true_eq_false, not_false_eq_true, true_and, and_true, s2, d2, d3, z3]⟩
theorem J_poorest {mi mj : Mi} {ld m wn sn : Nat} (hK : RK mi mj ld m wn sn) (x : Int32) : ∃ r, f_X7_poorest mi ld x = some r ∧ f_X8_poorest mj x = some r := by
  unfold f_X7_poorest f_X8_poorest f_X8_needWhat
  rcases in_cases x 0 1 (by omega) (by omega) with ⟨n, -, hn, rfl, e⟩ | e
  · rcases j_isC hK with ⟨a, -, b⟩ | ⟨a, b⟩
    · refine ⟨(-nI 1000000003), by simp (disch := omega) only [fa_lit, nI_add, pk_sub, pk_mul, nI_clamp, nI_leI, nI_ltI, nI_eq, inb, u2_s2, u2_ne2, if_pos, if_neg, Option.bind_some, nx, add_n0, cO, cN, cF, cU, true_or, or_true, if_true, if_false, not_true_eq_false, not_false_eq_true, true_and, and_true, e, a], ?_⟩
      simp (disch := omega) only [fa_lit, nI_add, pk_sub, pk_mul, nI_clamp, nI_leI, nI_ltI, nI_eq, inb, u2_s2, u2_ne2, if_pos, if_neg, Option.bind_some, nx, add_n0, cO, cN, cF, cU, true_or, or_true, if_true, if_false, not_true_eq_false, not_false_eq_true, true_and, and_true, j_in, e, b]
    · obtain ⟨hld, hm, hwn, hsn, -, -, ⟨s1, s2⟩, -⟩ := id hK
      obtain ⟨f, t, f1, f2, t1, t2, d1, d2, d3⟩ := j_dark hK 0 (by omega)
      obtain ⟨b', l', z, z1, z2, z3⟩ := j_poor hK (nI n) (nI 0) (fun v3 v4 _ => if nI n = nI 0 then some v3 else some v4) (sn - 1) FU 99999 1 0 (24 - t + f) (by omega) (by omega) (by omega) (by omega) (by omega) d1 (by rw [FU_eq]; omega) (by omega)
      have first : lp_X8_poorest_21 mj (nI n) (nI 0) (fun v3 v4 _ => if nI n = nI 0 then some v3 else some v4) FU (-nI 1) (nI 25) (nI 0) = lp_X8_poorest_21 mj (nI n) (nI 0) (fun v3 v4 _ => if nI n = nI 0 then some v3 else some v4) 99999 (nI 0) (nI (24 - t + f)) (nI 1) := by
        rw [FU_eq]
        conv => lhs; unfold lp_X8_poorest_21
        by_cases hs : 0 < sn
        · simp (disch := omega) only [fa_lit, nI_add, pk_sub, pk_mul, nI_clamp, nI_leI, nI_ltI, nI_eq, inb, u2_s2, u2_ne2, if_pos, if_neg, Option.bind_some, nx, add_n0, cO, cN, cF, cU, true_or, or_true, if_true, if_false, not_true_eq_false, not_false_eq_true, true_and, and_true, s2, d2, d3]
        · simp (disch := omega) only [fa_lit, nI_add, pk_sub, pk_mul, nI_clamp, nI_leI, nI_ltI, nI_eq, inb, u2_s2, u2_ne2, if_pos, if_neg, Option.bind_some, nx, add_n0, cO, cN, cF, cU, true_or, or_true, if_true, if_false, not_true_eq_false, not_false_eq_true, true_and, and_true, s2, d2, d3]
      rcases (show n = 0 ∨ n = 1 by omega) with rfl | rfl
      · refine ⟨nI b', by simp (disch := omega) only [fa_lit, nI_add, pk_sub, pk_mul, nI_clamp, nI_leI, nI_ltI, nI_eq, inb, u2_s2, u2_ne2, if_pos, if_neg, Option.bind_some, nx, add_n0, cO, cN, cF, cU, true_or, or_true, if_true, if_false, not_true_eq_false, not_false_eq_true, true_and, and_true, e, a, f_X1_darkPoorest, z2], ?_⟩
        simp (disch := omega) only [fa_lit, nI_add, pk_sub, pk_mul, nI_clamp, nI_leI, nI_ltI, nI_eq, inb, u2_s2, u2_ne2, if_pos, if_neg, Option.bind_some, nx, add_n0, cO, cN, cF, cU, true_or, or_true, if_true, if_false, not_true_eq_false, not_false_eq_true, true_and, and_true, j_in, e, b]
        simp (disch := omega) only [fa_lit, nI_add, pk_sub, pk_mul, nI_clamp, nI_leI, nI_ltI, nI_eq, inb, u2_s2, u2_ne2, if_pos, if_neg, Option.bind_some, nx, add_n0, cO, cN, cF, cU, true_or, or_true, if_true, if_false, not_true_eq_false, not_false_eq_true, true_and, and_true] at first
        simp (disch := omega) only [fa_lit, nI_add, pk_sub, pk_mul, nI_clamp, nI_leI, nI_ltI, nI_eq, inb, u2_s2, u2_ne2, if_pos, if_neg, Option.bind_some, nx, add_n0, cO, cN, cF, cU, true_or, or_true, if_true, if_false, not_true_eq_false, not_false_eq_true, true_and, and_true] at z3
        rw [first, z3]
      · refine ⟨nI l', by simp (disch := omega) only [fa_lit, nI_add, pk_sub, pk_mul, nI_clamp, nI_leI, nI_ltI, nI_eq, inb, u2_s2, u2_ne2, if_pos, if_neg, Option.bind_some, nx, add_n0, cO, cN, cF, cU, true_or, or_true, if_true, if_false, not_true_eq_false, not_false_eq_true, true_and, and_true, e, a, f_X1_darkPoorest, z2, z1], ?_⟩
        simp (disch := omega) only [fa_lit, nI_add, pk_sub, pk_mul, nI_clamp, nI_leI, nI_ltI, nI_eq, inb, u2_s2, u2_ne2, if_pos, if_neg, Option.bind_some, nx, add_n0, cO, cN, cF, cU, true_or, or_true, if_true, if_false, not_true_eq_false, not_false_eq_true, true_and, and_true, j_in, e, b]
        simp (disch := omega) only [fa_lit, nI_add, pk_sub, pk_mul, nI_clamp, nI_leI, nI_ltI, nI_eq, inb, u2_s2, u2_ne2, if_pos, if_neg, Option.bind_some, nx, add_n0, cO, cN, cF, cU, true_or, or_true, if_true, if_false, not_true_eq_false, not_false_eq_true, true_and, and_true] at first
        simp (disch := omega) only [fa_lit, nI_add, pk_sub, pk_mul, nI_clamp, nI_leI, nI_ltI, nI_eq, inb, u2_s2, u2_ne2, if_pos, if_neg, Option.bind_some, nx, add_n0, cO, cN, cF, cU, true_or, or_true, if_true, if_false, not_true_eq_false, not_false_eq_true, true_and, and_true] at z3
        rw [first, z3]
  · refine ⟨(-nI 1000000002), by simp (disch := omega) only [fa_lit, nI_add, pk_sub, pk_mul, nI_clamp, nI_leI, nI_ltI, nI_eq, inb, u2_s2, u2_ne2, if_pos, if_neg, Option.bind_some, nx, add_n0, cO, cN, cF, cU, true_or, or_true, if_true, if_false, not_true_eq_false, not_false_eq_true, true_and, and_true, e], ?_⟩
    simp (disch := omega) only [fa_lit, nI_add, pk_sub, pk_mul, nI_clamp, nI_leI, nI_ltI, nI_eq, inb, u2_s2, u2_ne2, if_pos, if_neg, Option.bind_some, nx, add_n0, cO, cN, cF, cU, true_or, or_true, if_true, if_false, not_true_eq_false, not_false_eq_true, true_and, and_true, j_in, e]
theorem n0sub (e : Nat) : - nI e = nI 0 - nI e := (Int32.zero_sub (nI e)).symm
/-- child: i runs from 0 to 2 e, the clock's error is i - e -/
theorem j_child {mi mj : Mi} {ld m wn sn : Nat} (hK : RK mi mj ld m wn sn) {h e q : Nat} (hh : h ≤ 90030) (hhj : mj 238 0 = nI h) (he : e ≤ 11) (hq : q < 24) :
    ∀ (c n1 n2 i : Nat) (s : Int32), 2 * e + 1 - i = c → i ≤ 2 * e + 1 → c < n1 → c < n2 → ∃ r : Int32, lp_X7_child_57 ld mi (nI q) (nI e) (nI (h / 24 * 24)) (fun a _ => some a) n1 s (nI i - nI e) = some r ∧ lp_X8_child_39 mj (nI q) (nI e) (fun a _ => some a) n2 s (nI i - nI e) = some r := by
  have hlt : ∀ i : Nat, i < 1000 → ((nI e < nI i - nI e) ↔ 2 * e < i) := fun i hi => by
    rw [Int32.lt_iff_toInt_lt, pk_sub_toInt (by omega) (by omega), nI_toInt (by omega)]; omega
  have hs1 : ∀ i : Nat, nI i - nI e + nI 1 = nI (i + 1) - nI e := fun i => by
    rw [← nI_add i 1]; simp only [Int32.sub_eq_add_neg, Int32.add_assoc, Int32.add_comm (-nI e)]
  have hs2 : ∀ i : Nat, nI q + (nI i - nI e) + nI 24 = nI (q + i + 24 - e) := fun i => by
    have : nI q + (nI i - nI e) + nI 24 = (nI q + nI i + nI 24) - nI e := by
      simp only [Int32.sub_eq_add_neg, Int32.add_assoc, Int32.add_comm (-nI e)]
    rw [this, nI_add, nI_add, pk_sub (by omega)]
  intro c
  induction c with
  | zero =>
    intro n1 n2 i s h2 h3 h5 h6
    obtain ⟨n1, rfl⟩ : ∃ n, n1 = n + 1 := ⟨n1 - 1, by omega⟩
    obtain ⟨n2, rfl⟩ : ∃ n, n2 = n + 1 := ⟨n2 - 1, by omega⟩
    refine ⟨s, ?_, ?_⟩
    · unfold lp_X7_child_57; rw [if_pos ((hlt i (by omega)).mpr (by omega))]
    · unfold lp_X8_child_39; rw [if_pos ((hlt i (by omega)).mpr (by omega))]
  | succ c ih =>
    intro n1 n2 i s h2 h3 h5 h6
    obtain ⟨n1, rfl⟩ : ∃ n, n1 = n + 1 := ⟨n1 - 1, by omega⟩
    obtain ⟨n2, rfl⟩ : ∃ n, n2 = n + 1 := ⟨n2 - 1, by omega⟩
    obtain ⟨r, r1, r2, r3⟩ := j_holds hK (h / 24) ((q + i + 24 - e) % 24) (by omega) (by omega)
    have e1 : nI (q + i + 24 - e) / nI 24 = nI ((q + i + 24 - e) / 24) := n_div _ (by omega) 24 (by omega) (by omega)
    have e2 : nI (q + i + 24 - e) - nI ((q + i + 24 - e) / 24) * nI 24 = nI ((q + i + 24 - e) % 24) := by rw [pk_mul, pk_sub (by omega)]; congr 1; omega
    have e3 : nI (h / 24 * 24) + nI ((q + i + 24 - e) % 24) = nI (24 * (h / 24) + (q + i + 24 - e) % 24) := by rw [nI_add]; congr 1; omega
    have e4 : nI h / nI 24 = nI (h / 24) := n_div _ (by omega) 24 (by omega) (by omega)
    obtain ⟨z, z1, z2⟩ := ih n1 n2 (i + 1) (s ||| (nI 1 <<< (nI r &&& nI 31))) (by omega) (by omega) (by omega) (by omega)
    have hc : ¬ nI e < nI i - nI e := fun x => by have := (hlt i (by omega)).mp x; omega
    refine ⟨z, ?_, ?_⟩
    · unfold lp_X7_child_57
      simp only [fa_lit, hs2, e1, e2, e3, r2, Option.bind_some, hs1, z1]
      rw [if_neg hc]
    · unfold lp_X8_child_39
      simp only [fa_lit, hs2, e1, e2, hs1, nI_clamp (show 0 < 2 ^ 31 by omega), hhj, e4, r3, Option.bind_some, z2]
      rw [if_neg hc]
      simp (disch := omega) only [fa_lit, nI_add, pk_sub, pk_mul, nI_clamp, nI_leI, nI_ltI, nI_eq, inb, u2_s2, u2_ne2, if_pos, if_neg, Option.bind_some, nx, add_n0, cO, cN, cF, cU, true_or, or_true, if_true, if_false, not_true_eq_false, not_false_eq_true, true_and, and_true]
theorem J_child {mi mj : Mi} {ld m wn sn : Nat} (hK : RK mi mj ld m wn sn) (hE : RE mi 11 (mj 238)) (x y : Int32) : ∃ r, f_X7_child mi ld x y = some r ∧ f_X8_child mj x y = some r := by
  unfold f_X7_child f_X8_child
  rcases in_cases x 0 23 (by omega) (by omega) with ⟨n, -, hn, rfl, e⟩ | e
  · rcases in_cases y 0 11 (by omega) (by omega) with ⟨k, -, hk, rfl, e'⟩ | e'
    · rcases j_isC hK with ⟨a, -, b⟩ | ⟨a, b⟩
      · exact ⟨(-nI 1000000003), by simp (disch := omega) only [fa_lit, nI_add, pk_sub, pk_mul, nI_clamp, nI_leI, nI_ltI, nI_eq, inb, u2_s2, u2_ne2, if_pos, if_neg, Option.bind_some, nx, add_n0, cO, cN, cF, cU, true_or, or_true, if_true, if_false, not_true_eq_false, not_false_eq_true, true_and, and_true, e, e', a], by simp (disch := omega) only [fa_lit, nI_add, pk_sub, pk_mul, nI_clamp, nI_leI, nI_ltI, nI_eq, inb, u2_s2, u2_ne2, if_pos, if_neg, Option.bind_some, nx, add_n0, cO, cN, cF, cU, true_or, or_true, if_true, if_false, not_true_eq_false, not_false_eq_true, true_and, and_true, j_in, e, e', b]⟩
      · obtain ⟨⟨h, a1, a2, a3⟩, -⟩ := hE
        have e4 : nI h / nI 24 = nI (h / 24) := n_div _ (by omega) 24 (by omega) (by omega)
        obtain ⟨r, z1, z2⟩ := j_child hK a1 a3 hk (show n < 24 by omega) (2 * k + 1) FU FU 0 (nI 0) (by omega) (by omega) (by rw [FU_eq]; omega) (by rw [FU_eq]; omega)
        rw [← n0sub] at z1 z2
        exact ⟨r, by simp (disch := omega) only [fa_lit, nI_add, pk_sub, pk_mul, nI_clamp, nI_leI, nI_ltI, nI_eq, inb, u2_s2, u2_ne2, if_pos, if_neg, Option.bind_some, nx, add_n0, cO, cN, cF, cU, true_or, or_true, if_true, if_false, not_true_eq_false, not_false_eq_true, true_and, and_true, e, e', a, a2, e4, z1], by simp (disch := omega) only [fa_lit, nI_add, pk_sub, pk_mul, nI_clamp, nI_leI, nI_ltI, nI_eq, inb, u2_s2, u2_ne2, if_pos, if_neg, Option.bind_some, nx, add_n0, cO, cN, cF, cU, true_or, or_true, if_true, if_false, not_true_eq_false, not_false_eq_true, true_and, and_true, j_in, e, e', b, z2]⟩
    · exact ⟨(-nI 1000000002), by simp (disch := omega) only [fa_lit, nI_add, pk_sub, pk_mul, nI_clamp, nI_leI, nI_ltI, nI_eq, inb, u2_s2, u2_ne2, if_pos, if_neg, Option.bind_some, nx, add_n0, cO, cN, cF, cU, true_or, or_true, if_true, if_false, not_true_eq_false, not_false_eq_true, true_and, and_true, e, e'], by simp (disch := omega) only [fa_lit, nI_add, pk_sub, pk_mul, nI_clamp, nI_leI, nI_ltI, nI_eq, inb, u2_s2, u2_ne2, if_pos, if_neg, Option.bind_some, nx, add_n0, cO, cN, cF, cU, true_or, or_true, if_true, if_false, not_true_eq_false, not_false_eq_true, true_and, and_true, j_in, e, e']⟩
  · exact ⟨(-nI 1000000002), by simp (disch := omega) only [fa_lit, nI_add, pk_sub, pk_mul, nI_clamp, nI_leI, nI_ltI, nI_eq, inb, u2_s2, u2_ne2, if_pos, if_neg, Option.bind_some, nx, add_n0, cO, cN, cF, cU, true_or, or_true, if_true, if_false, not_true_eq_false, not_false_eq_true, true_and, and_true, e], by simp (disch := omega) only [fa_lit, nI_add, pk_sub, pk_mul, nI_clamp, nI_leI, nI_ltI, nI_eq, inb, u2_s2, u2_ne2, if_pos, if_neg, Option.bind_some, nx, add_n0, cO, cN, cF, cU, true_or, or_true, if_true, if_false, not_true_eq_false, not_false_eq_true, true_and, and_true, j_in, e]⟩
theorem j_clear {mi mj : Mi} (x : Int32) {q : Nat} (hq : q ≤ 60) :
    ∀ (c n1 n2 k : Nat) (s : Int64), q - k = c → k ≤ q → c < n1 → c < n2 → ∃ r : Int32, lp_X7_clear_30 mi (nI q) x (fun a _ => some a.toInt32) n1 s (nI k) = some r ∧ lp_X8_clear_30 mj (nI q) x (fun a _ => some a.toInt32) n2 s (nI k) = some r := by
  intro c
  induction c with
  | zero =>
    intro n1 n2 k s h2 h3 h5 h6
    obtain ⟨n1, rfl⟩ : ∃ n, n1 = n + 1 := ⟨n1 - 1, by omega⟩
    obtain ⟨n2, rfl⟩ : ∃ n, n2 = n + 1 := ⟨n2 - 1, by omega⟩
    exact ⟨s.toInt32, by unfold lp_X7_clear_30; simp (disch := omega) only [fa_lit, nI_add, pk_sub, pk_mul, nI_clamp, nI_leI, nI_ltI, nI_eq, inb, u2_s2, u2_ne2, if_pos, if_neg, Option.bind_some, nx, add_n0, cO, cN, cF, cU, true_or, or_true, if_true, if_false, not_true_eq_false, not_false_eq_true, true_and, and_true], by unfold lp_X8_clear_30; simp (disch := omega) only [fa_lit, nI_add, pk_sub, pk_mul, nI_clamp, nI_leI, nI_ltI, nI_eq, inb, u2_s2, u2_ne2, if_pos, if_neg, Option.bind_some, nx, add_n0, cO, cN, cF, cU, true_or, or_true, if_true, if_false, not_true_eq_false, not_false_eq_true, true_and, and_true]⟩
  | succ c ih =>
    intro n1 n2 k s h2 h3 h5 h6
    obtain ⟨n1, rfl⟩ : ∃ n, n1 = n + 1 := ⟨n1 - 1, by omega⟩
    obtain ⟨n2, rfl⟩ : ∃ n, n2 = n + 1 := ⟨n2 - 1, by omega⟩
    obtain ⟨z, z2, z3⟩ := ih n1 n2 (k + 1) (s * x.toInt64 / 100) (by omega) (by omega) (by omega) (by omega)
    exact ⟨z, by unfold lp_X7_clear_30; simp (disch := omega) only [fa_lit, nI_add, pk_sub, pk_mul, nI_clamp, nI_leI, nI_ltI, nI_eq, inb, u2_s2, u2_ne2, if_pos, if_neg, Option.bind_some, nx, add_n0, cO, cN, cF, cU, true_or, or_true, if_true, if_false, not_true_eq_false, not_false_eq_true, true_and, and_true, z2], by unfold lp_X8_clear_30; simp (disch := omega) only [fa_lit, nI_add, pk_sub, pk_mul, nI_clamp, nI_leI, nI_ltI, nI_eq, inb, u2_s2, u2_ne2, if_pos, if_neg, Option.bind_some, nx, add_n0, cO, cN, cF, cU, true_or, or_true, if_true, if_false, not_true_eq_false, not_false_eq_true, true_and, and_true, z3]⟩
theorem J_clear (mi mj : Mi) (x y : Int32) : ∃ r, f_X7_clear mi x y = some r ∧ f_X8_clear mj x y = some r := by
  unfold f_X7_clear f_X8_clear
  rcases in_cases x 0 60 (by omega) (by omega) with ⟨n, -, hn, rfl, e⟩ | e
  · rcases in_cases y 0 100 (by omega) (by omega) with ⟨k, -, hk, rfl, e'⟩ | e'
    · obtain ⟨r, z1, z2⟩ := j_clear (mi := mi) (mj := mj) (nI k) hn n FU FU 0 1000000000 (by omega) (by omega) (by rw [FU_eq]; omega) (by rw [FU_eq]; omega)
      exact ⟨r, by simp (disch := omega) only [fa_lit, nI_add, pk_sub, pk_mul, nI_clamp, nI_leI, nI_ltI, nI_eq, inb, u2_s2, u2_ne2, if_pos, if_neg, Option.bind_some, nx, add_n0, cO, cN, cF, cU, true_or, or_true, if_true, if_false, not_true_eq_false, not_false_eq_true, true_and, and_true, e, e', z1], by simp (disch := omega) only [fa_lit, nI_add, pk_sub, pk_mul, nI_clamp, nI_leI, nI_ltI, nI_eq, inb, u2_s2, u2_ne2, if_pos, if_neg, Option.bind_some, nx, add_n0, cO, cN, cF, cU, true_or, or_true, if_true, if_false, not_true_eq_false, not_false_eq_true, true_and, and_true, j_in, e, e', z2]⟩
    · exact ⟨(-nI 1000000002), by simp (disch := omega) only [fa_lit, nI_add, pk_sub, pk_mul, nI_clamp, nI_leI, nI_ltI, nI_eq, inb, u2_s2, u2_ne2, if_pos, if_neg, Option.bind_some, nx, add_n0, cO, cN, cF, cU, true_or, or_true, if_true, if_false, not_true_eq_false, not_false_eq_true, true_and, and_true, e, e'], by simp (disch := omega) only [fa_lit, nI_add, pk_sub, pk_mul, nI_clamp, nI_leI, nI_ltI, nI_eq, inb, u2_s2, u2_ne2, if_pos, if_neg, Option.bind_some, nx, add_n0, cO, cN, cF, cU, true_or, or_true, if_true, if_false, not_true_eq_false, not_false_eq_true, true_and, and_true, j_in, e, e']⟩
  · exact ⟨(-nI 1000000002), by simp (disch := omega) only [fa_lit, nI_add, pk_sub, pk_mul, nI_clamp, nI_leI, nI_ltI, nI_eq, inb, u2_s2, u2_ne2, if_pos, if_neg, Option.bind_some, nx, add_n0, cO, cN, cF, cU, true_or, or_true, if_true, if_false, not_true_eq_false, not_false_eq_true, true_and, and_true, e], by simp (disch := omega) only [fa_lit, nI_add, pk_sub, pk_mul, nI_clamp, nI_leI, nI_ltI, nI_eq, inb, u2_s2, u2_ne2, if_pos, if_neg, Option.bind_some, nx, add_n0, cO, cN, cF, cU, true_or, or_true, if_true, if_false, not_true_eq_false, not_false_eq_true, true_and, and_true, j_in, e]⟩
