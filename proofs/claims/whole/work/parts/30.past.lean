/-! 30: copies; the past -/
theorem cpy0 {f g : Nat → Int32} {n k : Nat} (h : k < n) : va_cpy f g 0 0 n k = f k := by
  simp only [va_cpy, Nat.zero_le, true_and, Nat.zero_add, h, if_true, Nat.sub_zero]
theorem cpy_s (f : Mi) (src g : Nat → Int32) (i s d k : Nat) : u2 (ur f i (va_cpy src g s d k)) i (d + k) (src (s + k)) = ur f i (va_cpy src g s d (k + 1)) := by
  rw [ur_u2]
  congr 1
  funext x
  simp only [va_cpy]
  by_cases h : x = d + k
  · subst h
    rw [if_pos rfl, if_pos (by omega)]
    congr 1; omega
  · rw [if_neg h]
    by_cases h2 : d ≤ x ∧ x < d + k
    · rw [if_pos h2, if_pos (by omega)]
    · rw [if_neg h2, if_neg (by omega)]
theorem cpy_0 (f : Mi) (src : Nat → Int32) (i s d : Nat) : ur f i (va_cpy src (f i) s d 0) = f := by
  have : va_cpy src (f i) s d 0 = f i := by
    funext x; simp only [va_cpy]; rw [if_neg (by omega)]
  rw [this, ur_self]
theorem cpy_i {f g : Nat → Int32} {s d n k : Nat} (h : k < n) : va_cpy f g s d n (d + k) = f (s + k) := by
  simp only [va_cpy]
  rw [if_pos (by omega)]; congr 1; omega
theorem cpy_o {f g : Nat → Int32} {s d n k : Nat} (h : k < d ∨ d + n ≤ k) : va_cpy f g s d n k = g k := by
  simp only [va_cpy]
  rw [if_neg (by omega)]
theorem v_copy (mi : Mi) {e e1 : Nat} (hs : e + 6 ≤ e1 ∨ e1 + 6 ≤ e) : ∃ mi' : Mi, f_X2_copyOf mi e e1 = some mi' ∧ (∀ i, (i < e ∨ e + 6 ≤ i) → mi' i = mi i) ∧ ∀ w, RE mi e1 w → RE mi' e w := by
  unfold f_X2_copyOf
  simp only [nx]
  refine ⟨_, rfl, fun i hi => ?_, fun w hw => ?_⟩
  · rw [ur_ne (by omega), ur_ne (by omega), ur_ne (by omega), ur_ne (by omega), ur_ne (by omega), u2_row (by omega), u2_row (by omega), u2_row (by omega)]
  · obtain ⟨⟨h, a1, a2, a3⟩, ⟨d, b1, b2, b3⟩, ⟨c, c1, c2, c3, c4⟩, p1, p2, p3, p4⟩ := hw
    refine ⟨⟨h, a1, ?_, a3⟩, ⟨d, b1, ?_, b3⟩, ⟨c, c1, ?_, c3, fun k hk => ?_⟩, fun k hk => ?_, fun k hk => ?_, fun k hk => ?_, fun k hk => ?_⟩
    · simp (disch := omega) only [ur_r, u2_s2, u2_ne2]; exact a2
    · simp (disch := omega) only [ur_r, u2_s2, u2_ne2]; exact b2
    · simp (disch := omega) only [ur_r, u2_s2, u2_ne2]; exact c2
    · rw [c4 k hk]
      simp (disch := omega) only [fa_lit, nI_clamp, ur_rs, ur_ne, u2_row, cpy0]
    · rw [p1 k hk]
      simp (disch := omega) only [fa_lit, nI_clamp, ur_r, ur_rs, ur_ne, u2_row, cpy0]
    · rw [p2 k hk]
      simp (disch := omega) only [fa_lit, nI_clamp, ur_r, ur_rs, ur_ne, u2_row, cpy0]
    · have := p3 k hk
      simp (disch := omega) only [fa_lit, nI_clamp, ur_r, ur_rs, ur_ne, u2_row, cpy0]
      exact this
    · rw [p4 k hk]
      simp (disch := omega) only [fa_lit, nI_clamp, ur_r, ur_rs, ur_ne, u2_row, cpy0]
theorem v_remL {mj : Mi} {a : Nat} (ha : a < 30) (hj : mj 229 29 = nI a) (K : Int32 → Mi → Option Mi) :
    ∀ (c n1 k : Nat), 121 - k = c → k ≤ 121 → c < n1 → lp_X8_remember_2 K n1 (nI k) (ur mj 239 (va_cpy (mj 238) (mj 239) 0 (121 * a) k)) = K (nI 121) (ur mj 239 (va_cpy (mj 238) (mj 239) 0 (121 * a) 121)) := by
  intro c
  induction c with
  | zero =>
    intro n1 k h2 h3 h5
    obtain ⟨n1, rfl⟩ : ∃ n, n1 = n + 1 := ⟨n1 - 1, by omega⟩
    have : k = 121 := by omega
    subst this
    unfold lp_X8_remember_2; simp (disch := omega) only [fa_lit, nI_add, pk_sub, pk_mul, nI_clamp, nI_leI, nI_ltI, nI_eq, inb, u2_s2, u2_ne2, if_pos, if_neg, Option.bind_some, nx, add_n0, cO, cN, cF, cU, true_or, or_true, if_true, if_false, not_true_eq_false, not_false_eq_true, true_and, and_true]
  | succ c ih =>
    intro n1 k h2 h3 h5
    obtain ⟨n1, rfl⟩ : ∃ n, n1 = n + 1 := ⟨n1 - 1, by omega⟩
    have z := ih n1 (k + 1) (by omega) (by omega) (by omega)
    rw [← cpy_s, Nat.zero_add] at z
    unfold lp_X8_remember_2
    simp (disch := omega) only [fa_lit, nI_add, pk_sub, pk_mul, nI_clamp, nI_leI, nI_ltI, nI_eq, inb, u2_s2, u2_ne2, if_pos, if_neg, Option.bind_some, nx, add_n0, cO, cN, cF, cU, true_or, or_true, if_true, if_false, not_true_eq_false, not_false_eq_true, true_and, and_true, ur_r, hj]
    exact z
theorem j_rem {mi mj : Mi} (hE : RE mi 11 (mj 238)) (hU : RU mi mj) : ∃ mi' mj' : Mi, f_X4_remember mi 11 = some mi' ∧ f_X8_remember mj = some mj' ∧ RU mi' mj' ∧ (∀ i, i < 17 ∨ i = 18 ∨ 199 ≤ i → mi' i = mi i) ∧ (∀ i, i ≠ 229 → i ≠ 239 → mj' i = mj i) ∧ (∀ k, k ≠ 28 → k ≠ 29 → mj' 229 k = mj 229 k) := by
  obtain ⟨c, f, a, c1, c2, c3, c4, c5, c6, c7, c8⟩ := hU
  have e1 : nI (f + c) / nI 30 = nI ((f + c) / 30) := n_div _ (by omega) 30 (by omega) (by omega)
  have e2 : nI (f + c) - nI ((f + c) / 30) * nI 30 = nI ((f + c) % 30) := by rw [pk_mul, pk_sub (by omega)]; congr 1; omega
  have e3 : nI (a + 1) / nI 30 = nI ((a + 1) / 30) := n_div _ (by omega) 30 (by omega) (by omega)
  have e4 : nI (a + 1) - nI ((a + 1) / 30) * nI 30 = nI ((a + 1) % 30) := by rw [pk_mul, pk_sub (by omega)]; congr 1; omega
  have e5 : nI (f + 1) / nI 30 = nI ((f + 1) / 30) := n_div _ (by omega) 30 (by omega) (by omega)
  have e6 : nI (f + 1) - nI ((f + 1) / 30) * nI 30 = nI ((f + 1) % 30) := by rw [pk_mul, pk_sub (by omega)]; congr 1; omega
  have hsl : (f + c) % 30 < 30 := Nat.mod_lt _ (by omega)
  obtain ⟨m1, y1, y2, y3⟩ := v_copy mi (e := 19 + 6 * ((f + c) % 30)) (e1 := 11) (by omega)
  have hcls : f_X4_remember mi 11 = some (if c < 30 then u2 m1 17 2 (nI (c + 1)) else u2 m1 17 1 (nI ((f + 1) % 30))) := by
    have q1 : m1 17 = mi 17 := y2 17 (by omega)
    unfold f_X4_remember
    by_cases hc : c < 30
    · simp only [fa_lit, c4, c5, nI_add, e1, e2]
      simp (disch := omega) only [fa_lit, nI_add, pk_sub, pk_mul, nI_clamp, nI_leI, nI_ltI, nI_eq, inb, u2_s2, u2_ne2, if_pos, if_neg, Option.bind_some, nx, add_n0, cO, cN, cF, cU, true_or, or_true, if_true, if_false, not_true_eq_false, not_false_eq_true, true_and, and_true, y1, q1, c4]
    · simp only [fa_lit, c4, c5, nI_add, e1, e2]
      simp (disch := omega) only [fa_lit, nI_add, pk_sub, pk_mul, nI_clamp, nI_leI, nI_ltI, nI_eq, inb, u2_s2, u2_ne2, if_pos, if_neg, Option.bind_some, nx, add_n0, cO, cN, cF, cU, true_or, or_true, if_true, if_false, not_true_eq_false, not_false_eq_true, true_and, and_true, y1, q1, c4, c5, e5]
      rw [show f + 1 - (f + 1) / 30 * 30 = (f + 1) % 30 by omega]
  generalize hM : ur mj 239 (va_cpy (mj 238) (mj 239) 0 (121 * a) 121) = M
  have M1 : ∀ k, M 229 k = mj 229 k := fun k => by rw [← hM]; exact ur_r _ _ (by omega) _
  have M2 : ∀ i, i ≠ 239 → M i = mj i := fun i hi => by rw [← hM]; exact ur_ne hi
  have M3 : ∀ k, k < 121 → M 239 (121 * a + k) = mj 238 k := fun k hk => by rw [← hM, ur_s, cpy_i hk, Nat.zero_add]
  have M4 : ∀ k, (k < 121 * a ∨ 121 * a + 121 ≤ k) → M 239 k = mj 239 k := fun k hk => by rw [← hM, ur_s, cpy_o hk]
  have hmod : f_X8_remember mj = some (u2 (u2 M 229 29 (nI ((a + 1) % 30))) 229 28 (nI (if c < 30 then c + 1 else 30))) := by
    have z := v_remL c3 c7 (fun v1_4 mi4 => if 30 ≤ ((u2 mi4 229 29 (((mi4 229 29) + 1) - ((mi4 229 29) + 1) / 30 * 30)) 229 28) then (nx (u2 (u2 mi4 229 29 (((mi4 229 29) + 1) - ((mi4 229 29) + 1) / 30 * 30)) 229 28 (((u2 mi4 229 29 (((mi4 229 29) + 1) - ((mi4 229 29) + 1) / 30 * 30)) 229 28) + 0)) (fun mi7 => some mi7)) else (nx (u2 (u2 mi4 229 29 (((mi4 229 29) + 1) - ((mi4 229 29) + 1) / 30 * 30)) 229 28 (((u2 mi4 229 29 (((mi4 229 29) + 1) - ((mi4 229 29) + 1) / 30 * 30)) 229 28) + 1)) (fun mi9 => some mi9))) 121 FU 0 (by omega) (by omega) (by rw [FU_eq]; omega)
    rw [cpy_0, hM] at z
    refine Eq.trans z ?_
    by_cases hc : c < 30
    · simp only [fa_lit, M1, c7, nI_add, e3, e4]
      simp (disch := omega) only [fa_lit, nI_add, pk_sub, pk_mul, nI_clamp, nI_leI, nI_ltI, nI_eq, inb, u2_s2, u2_ne2, if_pos, if_neg, Option.bind_some, nx, add_n0, cO, cN, cF, cU, true_or, or_true, if_true, if_false, not_true_eq_false, not_false_eq_true, true_and, and_true, M1, c6]
    · have hc30 : c = 30 := by omega
      subst hc30
      simp only [fa_lit, M1, c7, nI_add, e3, e4]
      simp (disch := omega) only [fa_lit, nI_add, pk_sub, pk_mul, nI_clamp, nI_leI, nI_ltI, nI_eq, inb, u2_s2, u2_ne2, if_pos, if_neg, Option.bind_some, nx, add_n0, cO, cN, cF, cU, true_or, or_true, if_true, if_false, not_true_eq_false, not_false_eq_true, true_and, and_true, M1, c6]
  have hrow : ∀ (x : Nat → Int32) (y : Nat → Int32) (i : Nat), i ≠ 229 → (u2 (u2 M 229 29 (nI ((a + 1) % 30))) 229 28 (nI (if c < 30 then c + 1 else 30))) i = M i := fun _ _ i hi => by rw [u2_row hi, u2_row hi]
  refine ⟨_, _, hcls, hmod, ?_, fun i hi => ?_, fun i h1 h2 => ?_, fun k h1 h2 => ?_⟩
  · by_cases hc : c < 30
    · refine ⟨c + 1, f, (a + 1) % 30, by omega, c2, Nat.mod_lt _ (by omega), ?_, ?_, ?_, ?_, fun i hi => ?_⟩
      · rw [if_pos hc]; simp (disch := omega) only [fa_lit, nI_add, pk_sub, pk_mul, nI_clamp, nI_leI, nI_ltI, nI_eq, inb, u2_s2, u2_ne2, if_pos, if_neg, Option.bind_some, nx, add_n0, cO, cN, cF, cU, true_or, or_true, if_true, if_false, not_true_eq_false, not_false_eq_true, true_and, and_true]
      · rw [if_pos hc]; simp (disch := omega) only [fa_lit, nI_add, pk_sub, pk_mul, nI_clamp, nI_leI, nI_ltI, nI_eq, inb, u2_s2, u2_ne2, if_pos, if_neg, Option.bind_some, nx, add_n0, cO, cN, cF, cU, true_or, or_true, if_true, if_false, not_true_eq_false, not_false_eq_true, true_and, and_true]; rw [y2 17 (by omega)]; exact c5
      · simp (disch := omega) only [fa_lit, nI_add, pk_sub, pk_mul, nI_clamp, nI_leI, nI_ltI, nI_eq, inb, u2_s2, u2_ne2, if_pos, if_neg, Option.bind_some, nx, add_n0, cO, cN, cF, cU, true_or, or_true, if_true, if_false, not_true_eq_false, not_false_eq_true, true_and, and_true]
      · simp (disch := omega) only [fa_lit, nI_add, pk_sub, pk_mul, nI_clamp, nI_leI, nI_ltI, nI_eq, inb, u2_s2, u2_ne2, if_pos, if_neg, Option.bind_some, nx, add_n0, cO, cN, cF, cU, true_or, or_true, if_true, if_false, not_true_eq_false, not_false_eq_true, true_and, and_true]
      · have hfi : (f + i) % 30 < 30 := Nat.mod_lt _ (by omega)
        have m1r : ∀ q, 19 ≤ q → q < 199 → (if c < 30 then u2 m1 17 2 (nI (c + 1)) else u2 m1 17 1 (nI ((f + 1) % 30))) q = m1 q := fun q _ _ => by rw [if_pos hc, u2_row (by omega)]
        by_cases hic : i = c
        · subst hic
          refine (y3 _ hE).to (m1r _ (by omega) (by omega)) (m1r _ (by omega) (by omega)) (m1r _ (by omega) (by omega)) (m1r _ (by omega) (by omega)) (m1r _ (by omega) (by omega)) (m1r _ (by omega) (by omega)) (fun k hk => ?_)
          rw [hrow (fun _ => 0) (fun _ => 0) 239 (by omega), show ((a + 1) % 30 + 30 - (i + 1) + i) % 30 = a by omega]
          exact M3 k hk
        · have hne : (f + i) % 30 < (f + c) % 30 ∨ (f + c) % 30 < (f + i) % 30 := by omega
          have m1q : ∀ j, j < 6 → m1 (19 + 6 * ((f + i) % 30) + j) = mi (19 + 6 * ((f + i) % 30) + j) := fun j hj => y2 _ (by omega)
          refine (c8 i (by omega)).to ((m1r _ (by omega) (by omega)).trans (m1q 0 (by omega))) ((m1r _ (by omega) (by omega)).trans (m1q 1 (by omega))) ((m1r _ (by omega) (by omega)).trans (m1q 2 (by omega))) ((m1r _ (by omega) (by omega)).trans (m1q 3 (by omega))) ((m1r _ (by omega) (by omega)).trans (m1q 4 (by omega))) ((m1r _ (by omega) (by omega)).trans (m1q 5 (by omega))) (fun k hk => ?_)
          rw [hrow (fun _ => 0) (fun _ => 0) 239 (by omega), show ((a + 1) % 30 + 30 - (c + 1) + i) % 30 = (a + 30 - c + i) % 30 by omega]
          exact M4 _ (by omega)
    · have hc30 : c = 30 := by omega
      subst hc30
      refine ⟨30, (f + 1) % 30, (a + 1) % 30, by omega, Nat.mod_lt _ (by omega), Nat.mod_lt _ (by omega), ?_, ?_, ?_, ?_, fun i hi => ?_⟩
      · rw [if_neg hc]; simp (disch := omega) only [fa_lit, nI_add, pk_sub, pk_mul, nI_clamp, nI_leI, nI_ltI, nI_eq, inb, u2_s2, u2_ne2, if_pos, if_neg, Option.bind_some, nx, add_n0, cO, cN, cF, cU, true_or, or_true, if_true, if_false, not_true_eq_false, not_false_eq_true, true_and, and_true]; rw [y2 17 (by omega)]; exact c4
      · rw [if_neg hc]; simp (disch := omega) only [fa_lit, nI_add, pk_sub, pk_mul, nI_clamp, nI_leI, nI_ltI, nI_eq, inb, u2_s2, u2_ne2, if_pos, if_neg, Option.bind_some, nx, add_n0, cO, cN, cF, cU, true_or, or_true, if_true, if_false, not_true_eq_false, not_false_eq_true, true_and, and_true]
      · simp (disch := omega) only [fa_lit, nI_add, pk_sub, pk_mul, nI_clamp, nI_leI, nI_ltI, nI_eq, inb, u2_s2, u2_ne2, if_pos, if_neg, Option.bind_some, nx, add_n0, cO, cN, cF, cU, true_or, or_true, if_true, if_false, not_true_eq_false, not_false_eq_true, true_and, and_true]
      · simp (disch := omega) only [fa_lit, nI_add, pk_sub, pk_mul, nI_clamp, nI_leI, nI_ltI, nI_eq, inb, u2_s2, u2_ne2, if_pos, if_neg, Option.bind_some, nx, add_n0, cO, cN, cF, cU, true_or, or_true, if_true, if_false, not_true_eq_false, not_false_eq_true, true_and, and_true]
      · have hfi : ((f + 1) % 30 + i) % 30 < 30 := Nat.mod_lt _ (by omega)
        have m1r : ∀ q, 19 ≤ q → q < 199 → (if 30 < 30 then u2 m1 17 2 (nI (30 + 1)) else u2 m1 17 1 (nI ((f + 1) % 30))) q = m1 q := fun q _ _ => by rw [if_neg hc, u2_row (by omega)]
        by_cases hic : i = 29
        · subst hic
          rw [show ((f + 1) % 30 + 29) % 30 = (f + 30) % 30 by omega]
          refine (y3 _ hE).to (m1r _ (by omega) (by omega)) (m1r _ (by omega) (by omega)) (m1r _ (by omega) (by omega)) (m1r _ (by omega) (by omega)) (m1r _ (by omega) (by omega)) (m1r _ (by omega) (by omega)) (fun k hk => ?_)
          rw [hrow (fun _ => 0) (fun _ => 0) 239 (by omega), show ((a + 1) % 30 + 30 - 30 + 29) % 30 = a by omega]
          exact M3 k hk
        · rw [show ((f + 1) % 30 + i) % 30 = (f + (i + 1)) % 30 by omega]
          have hfi2 : (f + (i + 1)) % 30 < 30 := Nat.mod_lt _ (by omega)
          have m1q : ∀ j, j < 6 → m1 (19 + 6 * ((f + (i + 1)) % 30) + j) = mi (19 + 6 * ((f + (i + 1)) % 30) + j) := fun j hj => y2 _ (by omega)
          refine (c8 (i + 1) (by omega)).to ((m1r _ (by omega) (by omega)).trans (m1q 0 (by omega))) ((m1r _ (by omega) (by omega)).trans (m1q 1 (by omega))) ((m1r _ (by omega) (by omega)).trans (m1q 2 (by omega))) ((m1r _ (by omega) (by omega)).trans (m1q 3 (by omega))) ((m1r _ (by omega) (by omega)).trans (m1q 4 (by omega))) ((m1r _ (by omega) (by omega)).trans (m1q 5 (by omega))) (fun k hk => ?_)
          rw [hrow (fun _ => 0) (fun _ => 0) 239 (by omega), show ((a + 1) % 30 + 30 - 30 + i) % 30 = (a + 30 - 30 + (i + 1)) % 30 by omega]
          exact M4 _ (by omega)
  · split
    · rw [u2_row (by omega)]; exact y2 i (by omega)
    · rw [u2_row (by omega)]; exact y2 i (by omega)
  · rw [hrow (fun _ => 0) (fun _ => 0) i h1]; exact M2 i h2
  · rw [u2_ne2 (by omega), u2_ne2 (by omega)]; exact M1 k
