/-! 29: fits, lookAt, find, write, judge, tear -/
theorem J_fits {mi mj : Mi} {ld m wn sn : Nat} (hK : RK mi mj ld m wn sn) (hE : RE mi 11 (mj 238)) (hD : RD mi mj m) (x : Int32) : ∃ r, f_X7_fits mi ld x = some r ∧ f_X8_fits mj x = some r := by
  obtain ⟨-, -, -, hm, c2, c3⟩ := w_cnt hK
  unfold f_X7_fits f_X8_fits
  rcases in_cases x 0 1 (by omega) (by omega) with ⟨n, -, hn, rfl, e⟩ | e
  · have z := v_fits hK hE hD (nI n) (fun v2 v3 _ => if nI n = nI 0 then some v2 else some v3) (m * 10) FU 0 (-nI 1) (by omega) (by omega) (by rw [FU_eq]; omega)
    have e1 : nI 10 * nI m - nI 1 = nI (m * 10) + (-nI 1) := by
      rw [pk_mul, Nat.mul_comm]; exact Int32.sub_eq_add_neg _ _
    have e2 : (f_X8_in (nI n) 0 1) = some (nI 1) := e
    rcases (show n = 0 ∨ n = 1 by omega) with rfl | rfl
    · have y := v_fitCount hK hE hD (m * 10) FU 0 (by omega) (by omega) (by rw [FU_eq]; omega)
      refine ⟨nI (cnt (fb mj) (m * 10)), ?_, ?_⟩
      · simp (disch := omega) only [fa_lit, nI_add, pk_sub, pk_mul, nI_clamp, nI_leI, nI_ltI, nI_eq, inb, u2_s2, u2_ne2, if_pos, if_neg, Option.bind_some, nx, add_n0, cO, cN, cF, cU, true_or, or_true, if_true, if_false, not_true_eq_false, not_false_eq_true, true_and, and_true, e, f_X3_fitCount]
        simp only [cnt] at y
        rw [y]; rfl
      · rw [e2, Option.bind_some, if_neg (by decide)]
        refine Eq.trans (b := lp_X8_fits_27 mj (nI 0) (fun v2 v3 _ => if nI 0 = nI 0 then some v2 else some v3) FU (nI 0) (-nI 1) (nI 10 * nI m - nI 1)) (by rw [c3]; rfl) ?_
        rw [e1, z, if_pos rfl, Nat.zero_add]
    · have y := v_leastFit hK hE hD (m * 10) FU 0 (by omega) (by omega) rfl (by rw [FU_eq]; omega)
      refine ⟨match fst' (fb mj) (m * 10) with | some i => nI i | none => (-nI 1), ?_, ?_⟩
      · simp (disch := omega) only [fa_lit, nI_add, pk_sub, pk_mul, nI_clamp, nI_leI, nI_ltI, nI_eq, inb, u2_s2, u2_ne2, if_pos, if_neg, Option.bind_some, nx, add_n0, cO, cN, cF, cU, true_or, or_true, if_true, if_false, not_true_eq_false, not_false_eq_true, true_and, and_true, e, f_X3_leastFit]
        rw [y]; rfl
      · rw [e2, Option.bind_some, if_neg (by decide)]
        refine Eq.trans (b := lp_X8_fits_27 mj (nI 1) (fun v2 v3 _ => if nI 1 = nI 0 then some v2 else some v3) FU (nI 0) (-nI 1) (nI 10 * nI m - nI 1)) (by rw [c3]; rfl) ?_
        rw [e1, z, if_neg (by decide)]
        cases fst' (fb mj) (m * 10) <;> rfl
  · exact ⟨(-nI 1000000002), by simp (disch := omega) only [fa_lit, nI_add, pk_sub, pk_mul, nI_clamp, nI_leI, nI_ltI, nI_eq, inb, u2_s2, u2_ne2, if_pos, if_neg, Option.bind_some, nx, add_n0, cO, cN, cF, cU, true_or, or_true, if_true, if_false, not_true_eq_false, not_false_eq_true, true_and, and_true, e], by simp (disch := omega) only [fa_lit, nI_add, pk_sub, pk_mul, nI_clamp, nI_leI, nI_ltI, nI_eq, inb, u2_s2, u2_ne2, if_pos, if_neg, Option.bind_some, nx, add_n0, cO, cN, cF, cU, true_or, or_true, if_true, if_false, not_true_eq_false, not_false_eq_true, true_and, and_true, j_in, e]⟩
theorem ur_u2 {α : Type} (f : Nat → Nat → α) (i j : Nat) (p : Nat → α) (x : α) : u2 (ur f i p) i j x = ur f i (fun k => if k = j then x else p k) := by
  funext a b
  simp only [u2, ur]
  by_cases h1 : a = i
  · by_cases h2 : b = j <;> simp [h1, h2]
  · simp [h1]
theorem ur_r {α : Type} (f : Nat → Nat → α) {i a : Nat} (p : Nat → α) (h : a ≠ i) (b : Nat) : ur f i p a b = f a b := by simp [ur, h]
theorem ur_rs {α : Type} (f : Nat → Nat → α) {i a : Nat} (p : Nat → α) (h : a = i) (b : Nat) : ur f i p a b = p b := by simp [ur, h]
theorem ur_self {α : Type} (f : Nat → Nat → α) (i : Nat) : ur f i (f i) = f := by
  funext a b
  by_cases h : a = i
  · subst h; simp [ur]
  · simp [ur, h]
theorem parts_K {mi mj : Mi} {ld m wn sn : Nat} (hK : RK mi mj ld m wn sn) (p q : Nat → Int32) : RK (ur mi 203 p) (ur mj 243 q) ld m wn sn := by
  have hld := hK.1
  exact hK.to (ur_ne (by omega)) (ur_ne (by omega)) (ur_ne (by omega)) (ur_ne (by omega)) (ur_ne (by omega)) (ur_ne (by omega)) (fun j _ _ => ur_r _ _ (by omega) _) (ur_ne (by omega)) (ur_ne (by omega)) (ur_ne (by omega))
theorem parts_E {mi mj : Mi} (hE : RE mi 11 (mj 238)) (p q : Nat → Int32) : RE (ur mi 203 p) 11 ((ur mj 243 q) 238) :=
  hE.to (ur_ne (by omega)) (ur_ne (by omega)) (ur_ne (by omega)) (ur_ne (by omega)) (ur_ne (by omega)) (ur_ne (by omega)) (fun j _ => ur_r _ _ (by omega) _)
theorem parts_D {mi mj : Mi} {m : Nat} (hD : RD mi mj m) (p q : Nat → Int32) : RD (ur mi 203 p) (ur mj 243 q) m :=
  hD.to (ur_r _ _ (by omega) _) (ur_ne (by omega)) (ur_ne (by omega)) (ur_ne (by omega)) (ur_r _ _ (by omega) _) (ur_ne (by omega)) (ur_ne (by omega)) (ur_ne (by omega))
theorem j_clr {mi mj : Mi} (a1 a2 : Nat) (x y : Int32) (K1 K2 : Int32 → Mi → Option (Int32 × Mi)) :
    ∀ (c n1 n2 k : Nat) (p q : Nat → Int32), 10 - k = c → k ≤ 10 → c < n1 → c < n2 → (∀ v, v < k → p v = nI 0 ∧ q v = nI 0) → ∃ p' q' : Nat → Int32, (∀ v, v < 10 → p' v = nI 0 ∧ q' v = nI 0) ∧ lp_X3_greatestPart_3 a1 a2 x K1 n1 (nI k) (ur mi 203 p) = K1 (nI 10) (ur mi 203 p') ∧ lp_X8_alike_2 y K2 n2 (nI k) (ur mj 243 q) = K2 (nI 10) (ur mj 243 q') := by
  intro c
  induction c with
  | zero =>
    intro n1 n2 k p q h2 h3 h5 h6 hp
    obtain ⟨n1, rfl⟩ : ∃ n, n1 = n + 1 := ⟨n1 - 1, by omega⟩
    obtain ⟨n2, rfl⟩ : ∃ n, n2 = n + 1 := ⟨n2 - 1, by omega⟩
    have : k = 10 := by omega
    subst this
    exact ⟨p, q, hp, by unfold lp_X3_greatestPart_3; simp (disch := omega) only [fa_lit, nI_add, pk_sub, pk_mul, nI_clamp, nI_leI, nI_ltI, nI_eq, inb, u2_s2, u2_ne2, if_pos, if_neg, Option.bind_some, nx, add_n0, cO, cN, cF, cU, true_or, or_true, if_true, if_false, not_true_eq_false, not_false_eq_true, true_and, and_true], by unfold lp_X8_alike_2; simp (disch := omega) only [fa_lit, nI_add, pk_sub, pk_mul, nI_clamp, nI_leI, nI_ltI, nI_eq, inb, u2_s2, u2_ne2, if_pos, if_neg, Option.bind_some, nx, add_n0, cO, cN, cF, cU, true_or, or_true, if_true, if_false, not_true_eq_false, not_false_eq_true, true_and, and_true]⟩
  | succ c ih =>
    intro n1 n2 k p q h2 h3 h5 h6 hp
    obtain ⟨n1, rfl⟩ : ∃ n, n1 = n + 1 := ⟨n1 - 1, by omega⟩
    obtain ⟨n2, rfl⟩ : ∃ n, n2 = n + 1 := ⟨n2 - 1, by omega⟩
    obtain ⟨p', q', z1, z2, z3⟩ := ih n1 n2 (k + 1) (fun j => if j = k then nI 0 else p j) (fun j => if j = k then nI 0 else q j) (by omega) (by omega) (by omega) (by omega) (fun v hv => by
      by_cases h : v = k
      · simp [h]
      · simp only [h, if_false]; exact hp v (by omega))
    refine ⟨p', q', z1, ?_, ?_⟩
    · unfold lp_X3_greatestPart_3; simp (disch := omega) only [fa_lit, nI_add, pk_sub, pk_mul, nI_clamp, nI_leI, nI_ltI, nI_eq, inb, u2_s2, u2_ne2, if_pos, if_neg, Option.bind_some, nx, add_n0, cO, cN, cF, cU, true_or, or_true, if_true, if_false, not_true_eq_false, not_false_eq_true, true_and, and_true, ur_u2, z2]
    · unfold lp_X8_alike_2; simp (disch := omega) only [fa_lit, nI_add, pk_sub, pk_mul, nI_clamp, nI_leI, nI_ltI, nI_eq, inb, u2_s2, u2_ne2, if_pos, if_neg, Option.bind_some, nx, add_n0, cO, cN, cF, cU, true_or, or_true, if_true, if_false, not_true_eq_false, not_false_eq_true, true_and, and_true, ur_u2, z3]
theorem j_part {mi mj : Mi} {ld m wn sn : Nat} (hK : RK mi mj ld m wn sn) (hE : RE mi 11 (mj 238)) (hD : RD mi mj m) {t : Nat} (ht : t < m) (K1 K2 : Int32 → Int32 → Mi → Option (Int32 × Mi)) :
    ∀ (c n1 n2 k : Nat) (s : Int32) (p q : Nat → Int32), m * 10 - k = c → k ≤ m * 10 → c < n1 → c < n2 → (∀ v, v < 10 → p v = q v) → ∃ (s' : Int32) (p' q' : Nat → Int32), (∀ v, v < 10 → p' v = q' v) ∧ lp_X3_greatestPart_30 ld 11 (nI t) K1 n1 s (nI k) (ur mi 203 p) = K1 s' (nI (m * 10)) (ur mi 203 p') ∧ lp_X8_alike_25 (nI t) K2 n2 s (nI k) (ur mj 243 q) = K2 s' (nI (m * 10)) (ur mj 243 q') := by
  obtain ⟨-, -, -, hm, c2, c3⟩ := w_cnt hK
  have hld := hK.1
  intro c
  induction c with
  | zero =>
    intro n1 n2 k s p q h2 h3 h5 h6 hp
    obtain ⟨n1, rfl⟩ : ∃ n, n1 = n + 1 := ⟨n1 - 1, by omega⟩
    obtain ⟨n2, rfl⟩ : ∃ n, n2 = n + 1 := ⟨n2 - 1, by omega⟩
    have : k = m * 10 := by omega
    subst this
    exact ⟨s, p, q, hp, by unfold lp_X3_greatestPart_30; simp (disch := omega) only [fa_lit, nI_add, pk_sub, pk_mul, nI_clamp, nI_leI, nI_ltI, nI_eq, inb, u2_s2, u2_ne2, if_pos, if_neg, Option.bind_some, nx, add_n0, cO, cN, cF, cU, true_or, or_true, if_true, if_false, not_true_eq_false, not_false_eq_true, true_and, and_true, ur_r, c2], by unfold lp_X8_alike_25; simp (disch := omega) only [fa_lit, nI_add, pk_sub, pk_mul, nI_clamp, nI_leI, nI_ltI, nI_eq, inb, u2_s2, u2_ne2, if_pos, if_neg, Option.bind_some, nx, add_n0, cO, cN, cF, cU, true_or, or_true, if_true, if_false, not_true_eq_false, not_false_eq_true, true_and, and_true, ur_r, c3]⟩
  | succ c ih =>
    intro n1 n2 k s p q h2 h3 h5 h6 hp
    obtain ⟨n1, rfl⟩ : ∃ n, n1 = n + 1 := ⟨n1 - 1, by omega⟩
    obtain ⟨n2, rfl⟩ : ∃ n, n2 = n + 1 := ⟨n2 - 1, by omega⟩
    obtain ⟨b, b1, b2, b3⟩ := j_fit hm (parts_E hE p q) (parts_D hD p q) k (by omega)
    obtain ⟨u, u1, u2', u3⟩ := j_seen (parts_E hE p q) (show t < 8 by omega) (show k < 80 by omega)
    obtain ⟨q1, q2⟩ := n_dm k (by omega)
    have hval : f_X7_isValue (nI u) = some (nI 1) := by unfold f_X7_isValue; simp (disch := omega) only [fa_lit, nI_add, pk_sub, pk_mul, nI_clamp, nI_leI, nI_ltI, nI_eq, inb, u2_s2, u2_ne2, if_pos, if_neg, Option.bind_some, nx, add_n0, cO, cN, cF, cU, true_or, or_true, if_true, if_false, not_true_eq_false, not_false_eq_true, true_and, and_true]
    have hpu := hp u u1
    unfold lp_X3_greatestPart_30 lp_X8_alike_25
    simp only [fa_lit, q1, q2, u2', u3, b2, b3, hval, Option.bind_some]
    by_cases hb : b = 0
    · subst hb
      obtain ⟨s', p', q', z1, z2, z3⟩ := ih n1 n2 (k + 1) s p q (by omega) (by omega) (by omega) (by omega) hp
      exact ⟨s', p', q', z1, by simp (disch := omega) only [fa_lit, nI_add, pk_sub, pk_mul, nI_clamp, nI_leI, nI_ltI, nI_eq, inb, u2_s2, u2_ne2, if_pos, if_neg, Option.bind_some, nx, add_n0, cO, cN, cF, cU, true_or, or_true, if_true, if_false, not_true_eq_false, not_false_eq_true, true_and, and_true, ur_r, c2, z2], by simp (disch := omega) only [fa_lit, nI_add, pk_sub, pk_mul, nI_clamp, nI_leI, nI_ltI, nI_eq, inb, u2_s2, u2_ne2, if_pos, if_neg, Option.bind_some, nx, add_n0, cO, cN, cF, cU, true_or, or_true, if_true, if_false, not_true_eq_false, not_false_eq_true, true_and, and_true, ur_r, c3, z3]⟩
    · have hb1 : b = 1 := by omega
      subst hb1
      have hq2 : ∀ v, v < 10 → (fun j => if j = u then p u + nI 1 else p j) v = (fun j => if j = u then q u + nI 1 else q j) v := fun v hv => by
        by_cases h : v = u
        · simp [h, hpu]
        · simp only [h, if_false]; exact hp v hv
      by_cases hs : p u + nI 1 ≤ s
      · obtain ⟨s', p', q', z1, z2, z3⟩ := ih n1 n2 (k + 1) s (fun j => if j = u then p u + nI 1 else p j) (fun j => if j = u then q u + nI 1 else q j) (by omega) (by omega) (by omega) (by omega) hq2
        have hs2 : ¬ s < p u + nI 1 := Int32.not_lt.mpr hs
        have hs3 : q u + nI 1 ≤ s := by rw [← hpu]; exact hs
        refine ⟨s', p', q', z1, ?_, ?_⟩
        · simp (disch := omega) only [fa_lit, nI_add, pk_sub, pk_mul, nI_clamp, nI_leI, nI_ltI, nI_eq, inb, u2_s2, u2_ne2, if_pos, if_neg, Option.bind_some, nx, add_n0, cO, cN, cF, cU, true_or, or_true, if_true, if_false, not_true_eq_false, not_false_eq_true, true_and, and_true, ur_u2, ur_r, ur_rs, c2]
          first | exact z2 | (rw [if_neg hs2]; exact z2)
        · simp (disch := omega) only [fa_lit, nI_add, pk_sub, pk_mul, nI_clamp, nI_leI, nI_ltI, nI_eq, inb, u2_s2, u2_ne2, if_pos, if_neg, Option.bind_some, nx, add_n0, cO, cN, cF, cU, true_or, or_true, if_true, if_false, not_true_eq_false, not_false_eq_true, true_and, and_true, ur_u2, ur_r, ur_rs, c3]
          first | exact z3 | (rw [if_pos hs3]; exact z3)
      · obtain ⟨s', p', q', z1, z2, z3⟩ := ih n1 n2 (k + 1) (p u + nI 1) (fun j => if j = u then p u + nI 1 else p j) (fun j => if j = u then q u + nI 1 else q j) (by omega) (by omega) (by omega) (by omega) hq2
        have hs2 : s < p u + nI 1 := Int32.not_le.mp hs
        have hs3 : ¬ q u + nI 1 ≤ s := by rw [← hpu]; exact hs
        rw [hpu] at z3
        refine ⟨s', p', q', z1, ?_, ?_⟩
        · simp (disch := omega) only [fa_lit, nI_add, pk_sub, pk_mul, nI_clamp, nI_leI, nI_ltI, nI_eq, inb, u2_s2, u2_ne2, if_pos, if_neg, Option.bind_some, nx, add_n0, cO, cN, cF, cU, true_or, or_true, if_true, if_false, not_true_eq_false, not_false_eq_true, true_and, and_true, ur_u2, ur_r, ur_rs, c2]
          first | exact z2 | (rw [if_pos hs2]; exact z2)
        · simp (disch := omega) only [fa_lit, nI_add, pk_sub, pk_mul, nI_clamp, nI_leI, nI_ltI, nI_eq, inb, u2_s2, u2_ne2, if_pos, if_neg, Option.bind_some, nx, add_n0, cO, cN, cF, cU, true_or, or_true, if_true, if_false, not_true_eq_false, not_false_eq_true, true_and, and_true, ur_u2, ur_r, ur_rs, c3]
          first | exact z3 | (rw [if_neg hs3]; exact z3)
theorem j_great {mi mj : Mi} {ld m wn sn : Nat} (hK : RK mi mj ld m wn sn) (hE : RE mi 11 (mj 238)) (hD : RD mi mj m) {t : Nat} (ht : t < m) (p q : Nat → Int32) : ∃ (s' : Int32) (p' q' : Nat → Int32), f_X3_greatestPart (ur mi 203 p) ld 11 (nI t) = some (s', ur mi 203 p') ∧ f_X8_alike (ur mj 243 q) (nI t) = some (s', ur mj 243 q') := by
  have hm := hK.2.1
  obtain ⟨p1, q1, h1, z1, z2⟩ := j_clr (mi := mi) (mj := mj) ld 11 (nI t) (nI t) (fun v4_3 mi3 => lp_X3_greatestPart_30 ld 11 (nI t) (fun v4_16 v5_16 mi16 => some (v4_16, mi16)) FU (nI 0) (nI 0) mi3) (fun v2_3 mi3 => lp_X8_alike_25 (nI t) (fun v2_15 v3_15 mi15 => some (v2_15, mi15)) FU (nI 0) (nI 0) mi3) 10 FU FU 0 p q (by omega) (by omega) (by rw [FU_eq]; omega) (by rw [FU_eq]; omega) (fun v hv => absurd hv (by omega))
  obtain ⟨s', p', q', -, y1, y2⟩ := j_part hK hE hD ht (fun v4_16 v5_16 mi16 => some (v4_16, mi16)) (fun v2_15 v3_15 mi15 => some (v2_15, mi15)) (m * 10) FU FU 0 (nI 0) p1 q1 (by omega) (by omega) (by rw [FU_eq]; omega) (by rw [FU_eq]; omega) (fun v hv => by rw [(h1 v hv).1, (h1 v hv).2])
  exact ⟨s', p', q', z1.trans y1, z2.trans y2⟩
theorem j_look {mi mj : Mi} {ld m wn sn : Nat} (hK : RK mi mj ld m wn sn) (hE : RE mi 11 (mj 238)) (hD : RD mi mj m) :
    ∀ (c n1 n2 k : Nat) (s b : Int32) (p q : Nat → Int32), m - k = c → k ≤ m → c < n1 → c < n2 → ∃ (b' : Int32) (p' q' : Nat → Int32), lp_X7_lookAt_20 ld (fun v1 v2 v3 m9 => some (v2, m9)) n1 s b (nI k) (ur mi 203 p) = some (b', ur mi 203 p') ∧ lp_X8_lookAt_10 (fun v1 v2 v3 m9 => some (v1, m9)) n2 b s (nI k) (ur mj 243 q) = some (b', ur mj 243 q') := by
  obtain ⟨-, -, -, hm, c2, c3⟩ := w_cnt hK
  have hld := hK.1
  intro c
  induction c with
  | zero =>
    intro n1 n2 k s b p q h2 h3 h5 h6
    obtain ⟨n1, rfl⟩ : ∃ n, n1 = n + 1 := ⟨n1 - 1, by omega⟩
    obtain ⟨n2, rfl⟩ : ∃ n, n2 = n + 1 := ⟨n2 - 1, by omega⟩
    exact ⟨b, p, q, by unfold lp_X7_lookAt_20; simp (disch := omega) only [fa_lit, nI_add, pk_sub, pk_mul, nI_clamp, nI_leI, nI_ltI, nI_eq, inb, u2_s2, u2_ne2, if_pos, if_neg, Option.bind_some, nx, add_n0, cO, cN, cF, cU, true_or, or_true, if_true, if_false, not_true_eq_false, not_false_eq_true, true_and, and_true, ur_r, c2], by unfold lp_X8_lookAt_10; simp (disch := omega) only [fa_lit, nI_add, pk_sub, pk_mul, nI_clamp, nI_leI, nI_ltI, nI_eq, inb, u2_s2, u2_ne2, if_pos, if_neg, Option.bind_some, nx, add_n0, cO, cN, cF, cU, true_or, or_true, if_true, if_false, not_true_eq_false, not_false_eq_true, true_and, and_true, ur_r, c3]⟩
  | succ c ih =>
    intro n1 n2 k s b p q h2 h3 h5 h6
    obtain ⟨n1, rfl⟩ : ∃ n, n1 = n + 1 := ⟨n1 - 1, by omega⟩
    obtain ⟨n2, rfl⟩ : ∃ n, n2 = n + 1 := ⟨n2 - 1, by omega⟩
    obtain ⟨g, p1, q1, g1, g2⟩ := j_great hK hE hD (show k < m by omega) p q
    by_cases hs : s ≤ g
    · obtain ⟨b', p', q', z2, z3⟩ := ih n1 n2 (k + 1) s b p1 q1 (by omega) (by omega) (by omega) (by omega)
      exact ⟨b', p', q', by unfold lp_X7_lookAt_20; simp (disch := omega) only [fa_lit, nI_add, pk_sub, pk_mul, nI_clamp, nI_leI, nI_ltI, nI_eq, inb, u2_s2, u2_ne2, if_pos, if_neg, Option.bind_some, nx, add_n0, cO, cN, cF, cU, true_or, or_true, if_true, if_false, not_true_eq_false, not_false_eq_true, true_and, and_true, ur_r, c2, g1, hs, z2], by unfold lp_X8_lookAt_10; simp (disch := omega) only [fa_lit, nI_add, pk_sub, pk_mul, nI_clamp, nI_leI, nI_ltI, nI_eq, inb, u2_s2, u2_ne2, if_pos, if_neg, Option.bind_some, nx, add_n0, cO, cN, cF, cU, true_or, or_true, if_true, if_false, not_true_eq_false, not_false_eq_true, true_and, and_true, ur_r, c3, g2, hs, z3]⟩
    · obtain ⟨b', p', q', z2, z3⟩ := ih n1 n2 (k + 1) g (nI k) p1 q1 (by omega) (by omega) (by omega) (by omega)
      exact ⟨b', p', q', by unfold lp_X7_lookAt_20; simp (disch := omega) only [fa_lit, nI_add, pk_sub, pk_mul, nI_clamp, nI_leI, nI_ltI, nI_eq, inb, u2_s2, u2_ne2, if_pos, if_neg, Option.bind_some, nx, add_n0, cO, cN, cF, cU, true_or, or_true, if_true, if_false, not_true_eq_false, not_false_eq_true, true_and, and_true, ur_r, c2, g1, hs, z2], by unfold lp_X8_lookAt_10; simp (disch := omega) only [fa_lit, nI_add, pk_sub, pk_mul, nI_clamp, nI_leI, nI_ltI, nI_eq, inb, u2_s2, u2_ne2, if_pos, if_neg, Option.bind_some, nx, add_n0, cO, cN, cF, cU, true_or, or_true, if_true, if_false, not_true_eq_false, not_false_eq_true, true_and, and_true, ur_r, c3, g2, hs, z3]⟩
theorem J_lookAt {mi mj : Mi} {ld m wn sn : Nat} (hK : RK mi mj ld m wn sn) (hE : RE mi 11 (mj 238)) (hD : RD mi mj m) : ∃ (r : Int32) (p q : Nat → Int32), f_X7_lookAt mi ld = some (r, ur mi 203 p) ∧ f_X8_lookAt mj = some (r, ur mj 243 q) := by
  have hm := hK.2.1
  obtain ⟨r, r1, r2⟩ := J_fits hK hE hD (nI 0)
  have r1' : f_X3_fitCount mi ld 11 = some r := by
    unfold f_X7_fits at r1
    rw [show f_X7_isWithin (nI 0) 0 1 = some (nI 1) from by decide, Option.bind_some, if_neg (by decide), if_pos (show nI 0 = 0 from rfl)] at r1
    revert r1
    cases f_X3_fitCount mi ld 11 <;> simp
  obtain ⟨b, p, q, z1, z2⟩ := j_look hK hE hD m FU FU 0 r (-nI 1) (mi 203) (mj 243) (by omega) (by omega) (by rw [FU_eq]; omega) (by rw [FU_eq]; omega)
  rw [ur_self] at z1 z2
  refine ⟨b, p, q, ?_, ?_⟩
  · unfold f_X7_lookAt
    rw [r1', Option.bind_some]; exact z1
  · unfold f_X8_lookAt
    rw [show f_X8_fits mj 0 = some r from r2, Option.bind_some]; exact z2
theorem j_judge {mi mj : Mi} {m : Nat} (hm : m ≤ 8) (hE : RE mi 11 (mj 238)) {n : Nat} (hn : n ≤ 20) (n1 : mi 204 2 = nI n) (n2 : mj 229 37 = nI n) (hf : ∀ k : Nat, k < n → mj 244 k = mi 205 k ∧ mj 245 k = mi 206 k ∧ ∃ t : Nat, t < m ∧ mi 205 k = nI t) :
    ∀ (c a1 a2 k : Nat), n - k = c → k ≤ n → c < a1 → c < a2 → ∃ r : Int32, lp_X0_firstWrong_2 11 mi (fun _ => some (-nI 1)) a1 (nI k) = some r ∧ lp_X8_judge_2 mj (fun _ => some (-nI 1)) a2 (nI k) = some r := by
  obtain ⟨-, -, -, -, -, hv, -⟩ := hE
  intro c
  induction c with
  | zero =>
    intro a1 a2 k h2 h3 h5 h6
    obtain ⟨a1, rfl⟩ : ∃ n, a1 = n + 1 := ⟨a1 - 1, by omega⟩
    obtain ⟨a2, rfl⟩ : ∃ n, a2 = n + 1 := ⟨a2 - 1, by omega⟩
    exact ⟨(-nI 1), by unfold lp_X0_firstWrong_2; simp (disch := omega) only [fa_lit, nI_add, pk_sub, pk_mul, nI_clamp, nI_leI, nI_ltI, nI_eq, inb, u2_s2, u2_ne2, if_pos, if_neg, Option.bind_some, nx, add_n0, cO, cN, cF, cU, true_or, or_true, if_true, if_false, not_true_eq_false, not_false_eq_true, true_and, and_true, n1], by unfold lp_X8_judge_2; simp (disch := omega) only [fa_lit, nI_add, pk_sub, pk_mul, nI_clamp, nI_leI, nI_ltI, nI_eq, inb, u2_s2, u2_ne2, if_pos, if_neg, Option.bind_some, nx, add_n0, cO, cN, cF, cU, true_or, or_true, if_true, if_false, not_true_eq_false, not_false_eq_true, true_and, and_true, n2]⟩
  | succ c ih =>
    intro a1 a2 k h2 h3 h5 h6
    obtain ⟨a1, rfl⟩ : ∃ n, a1 = n + 1 := ⟨a1 - 1, by omega⟩
    obtain ⟨a2, rfl⟩ : ∃ n, a2 = n + 1 := ⟨a2 - 1, by omega⟩
    obtain ⟨f1, f2, t, t1, t2⟩ := hf k (by omega)
    have v1 := (hv t (by omega)).1
    by_cases he : mi (11 + 3) t = mi 206 k
    · obtain ⟨z, z2, z3⟩ := ih a1 a2 (k + 1) (by omega) (by omega) (by omega) (by omega)
      exact ⟨z, by unfold lp_X0_firstWrong_2; simp (disch := omega) only [fa_lit, nI_add, pk_sub, pk_mul, nI_clamp, nI_leI, nI_ltI, nI_eq, inb, u2_s2, u2_ne2, if_pos, if_neg, Option.bind_some, nx, add_n0, cO, cN, cF, cU, true_or, or_true, if_true, if_false, not_true_eq_false, not_false_eq_true, true_and, and_true, n1, t2, he, z2], by unfold lp_X8_judge_2; simp (disch := omega) only [fa_lit, nI_add, pk_sub, pk_mul, nI_clamp, nI_leI, nI_ltI, nI_eq, inb, u2_s2, u2_ne2, if_pos, if_neg, Option.bind_some, nx, add_n0, cO, cN, cF, cU, true_or, or_true, if_true, if_false, not_true_eq_false, not_false_eq_true, true_and, and_true, n2, f1, f2, t2, v1, he, z3]⟩
    · exact ⟨nI k, by unfold lp_X0_firstWrong_2; simp (disch := omega) only [fa_lit, nI_add, pk_sub, pk_mul, nI_clamp, nI_leI, nI_ltI, nI_eq, inb, u2_s2, u2_ne2, if_pos, if_neg, Option.bind_some, nx, add_n0, cO, cN, cF, cU, true_or, or_true, if_true, if_false, not_true_eq_false, not_false_eq_true, true_and, and_true, n1, t2, he], by unfold lp_X8_judge_2; simp (disch := omega) only [fa_lit, nI_add, pk_sub, pk_mul, nI_clamp, nI_leI, nI_ltI, nI_eq, inb, u2_s2, u2_ne2, if_pos, if_neg, Option.bind_some, nx, add_n0, cO, cN, cF, cU, true_or, or_true, if_true, if_false, not_true_eq_false, not_false_eq_true, true_and, and_true, n2, f1, f2, t2, v1, he]⟩
theorem J_judge {mi mj : Mi} {ld m wn sn : Nat} (hK : RK mi mj ld m wn sn) (hE : RE mi 11 (mj 238)) (hB : RB mi mj m) : ∃ r, f_X7_judge mi = some r ∧ f_X8_judge mj = some r := by
  have hm := hK.2.1
  obtain ⟨n, h1, h2, h3, h4⟩ := hB
  obtain ⟨r, r1, r2⟩ := j_judge hm hE h1 h2 h3 h4 n FU FU 0 (by omega) (by omega) (by rw [FU_eq]; omega) (by rw [FU_eq]; omega)
  refine ⟨r, ?_, r2⟩
  unfold f_X7_judge f_X0_firstWrong
  rw [show lp_X0_firstWrong_2 11 mi (fun v2_6 => some (-1)) FU 0 = some r from r1]; rfl
