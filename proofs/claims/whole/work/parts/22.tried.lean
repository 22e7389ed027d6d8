/-! 22: loops over hours -/
theorem FU_eq : FU = 100000 := rfl
/-- value behind hours: the class counts all hours, the reference those from now on -/
theorem j_after {mi mj : Mi} {ld m wn sn : Nat} (hK : RK mi mj ld m wn sn) (hE : RE mi 11 (mj 238)) (hx : mi ld 0 = nI 1) {t : Nat} (ht : t < m) {h d : Nat} (hh : h ≤ 90030) (h1 : mi 11 0 = nI h) (hhj : mj 238 0 = nI h) (hd24 : d ≤ 24) (hd : mi 11 1 = nI d) (hdj : mj 238 1 = nI d) (x2 x3 y2 y3 : Int32) {q : Nat} (hq : q ≤ 240) :
    ∀ (c n1 n2 k v : Nat), q - k = c → k ≤ q → v < 10 → c < n1 → c < n2 → ∃ u : Nat, u < 10 ∧ lp_X1_valueAfter_6 ld mi (mi (ld + 2) t) x2 x3 (nI (h + q)) (nI (h + d)) (fun a _ => some a) n1 (nI v) (nI (h + k)) = some (nI u) ∧ lp_X8_comesTo_6 mj (nI t) y2 y3 (nI q) (fun a _ => some a) n2 (nI v) (nI k) = some (nI u) := by
  obtain ⟨hm, hkk, kd, hkd, hke⟩ := (show m ≤ 8 ∧ (mj 236 t = mi (ld + 2) t) ∧ ∃ k : Nat, k < 4 ∧ mi (ld + 2) t = nI k from ⟨hK.2.1, hK.2.2.2.2.2.2.2.2.2.2.1 t ht⟩)
  intro c
  induction c with
  | zero =>
    intro n1 n2 k v h2 h3 h4 h5 h6
    obtain ⟨n1, rfl⟩ : ∃ n, n1 = n + 1 := ⟨n1 - 1, by omega⟩
    obtain ⟨n2, rfl⟩ : ∃ n, n2 = n + 1 := ⟨n2 - 1, by omega⟩
    have : k = q := by omega
    subst this
    refine ⟨v, h4, ?_, ?_⟩
    · unfold lp_X1_valueAfter_6; simp (disch := omega) only [fa_lit, nI_add, pk_sub, pk_mul, nI_clamp, nI_leI, nI_ltI, nI_eq, inb, u2_s2, u2_ne2, if_pos, if_neg, Option.bind_some, nx, add_n0, cO, cN, cF, cU, true_or, or_true, if_true, if_false, not_true_eq_false, not_false_eq_true, true_and, and_true]
    · unfold lp_X8_comesTo_6; simp (disch := omega) only [fa_lit, nI_add, pk_sub, pk_mul, nI_clamp, nI_leI, nI_ltI, nI_eq, inb, u2_s2, u2_ne2, if_pos, if_neg, Option.bind_some, nx, add_n0, cO, cN, cF, cU, true_or, or_true, if_true, if_false, not_true_eq_false, not_false_eq_true, true_and, and_true]
  | succ c ih =>
    intro n1 n2 k v h2 h3 h4 h5 h6
    obtain ⟨n1, rfl⟩ : ∃ n, n1 = n + 1 := ⟨n1 - 1, by omega⟩
    obtain ⟨n2, rfl⟩ : ∃ n, n2 = n + 1 := ⟨n2 - 1, by omega⟩
    obtain ⟨r, r1, r2, r3⟩ := j_heirIn hK hE hx k (by omega)
    obtain ⟨u, u1, u2', u3⟩ := j_comes mj hkd h4 (show h + k < 2 ^ 28 by omega) r1
    obtain ⟨z, z1, z2, z3⟩ := ih n1 n2 (k + 1) u (by omega) (by omega) u1 (by omega) (by omega)
    refine ⟨z, z1, ?_, ?_⟩
    · unfold lp_X1_valueAfter_6
      unfold f_X2_holderIn at r2
      by_cases hdk : d ≤ k
      · simp (disch := omega) only [fa_lit, nI_add, pk_sub, pk_mul, nI_clamp, nI_leI, nI_ltI, nI_eq, inb, u2_s2, u2_ne2, if_pos, if_neg, Option.bind_some, nx, add_n0, cO, cN, cF, cU, true_or, or_true, if_true, if_false, not_true_eq_false, not_false_eq_true, true_and, and_true, hx, h1, hd, Option.bind_some] at r2
        have r2' : f_X1_holderByLight mi ld (nI (h + k)) = some (nI r) := by
          revert r2
          cases f_X1_holderByLight mi ld (nI (h + k)) <;> simp
        simp (disch := omega) only [fa_lit, nI_add, pk_sub, pk_mul, nI_clamp, nI_leI, nI_ltI, nI_eq, inb, u2_s2, u2_ne2, if_pos, if_neg, Option.bind_some, nx, add_n0, cO, cN, cF, cU, true_or, or_true, if_true, if_false, not_true_eq_false, not_false_eq_true, true_and, and_true, r2', hke, u2', ← Nat.add_assoc] 
        rw [← hke]
        exact z2
      · simp (disch := omega) only [fa_lit, nI_add, pk_sub, pk_mul, nI_clamp, nI_leI, nI_ltI, nI_eq, inb, u2_s2, u2_ne2, if_pos, if_neg, Option.bind_some, nx, add_n0, cO, cN, cF, cU, true_or, or_true, if_true, if_false, not_true_eq_false, not_false_eq_true, true_and, and_true, hx, h1, hd] at r2
        have r2' : r = 2 := by
          have := Option.some.inj r2
          exact ((nI_eq (by omega) (by omega)).mp this).symm
        subst r2'
        simp (disch := omega) only [fa_lit, nI_add, pk_sub, pk_mul, nI_clamp, nI_leI, nI_ltI, nI_eq, inb, u2_s2, u2_ne2, if_pos, if_neg, Option.bind_some, nx, add_n0, cO, cN, cF, cU, true_or, or_true, if_true, if_false, not_true_eq_false, not_false_eq_true, true_and, and_true, hke, u2', ← Nat.add_assoc]
        rw [← hke]
        exact z2
    · unfold lp_X8_comesTo_6
      simp (disch := omega) only [fa_lit, nI_add, pk_sub, pk_mul, nI_clamp, nI_leI, nI_ltI, nI_eq, inb, u2_s2, u2_ne2, if_pos, if_neg, Option.bind_some, nx, add_n0, cO, cN, cF, cU, true_or, or_true, if_true, if_false, not_true_eq_false, not_false_eq_true, true_and, and_true, hhj, r3, hkk, hke, u3, z3]
theorem J_whose {mi mj : Mi} {ld m wn sn : Nat} (hK : RK mi mj ld m wn sn) (hE : RE mi 11 (mj 238)) (x : Int32) : ∃ r, f_X7_whose mi ld x = some r ∧ f_X8_whose mj x = some r := by
  unfold f_X7_whose f_X8_whose
  rcases in_cases x 0 240 (by omega) (by omega) with ⟨n, -, hn, rfl, e⟩ | e
  · rcases j_isC hK with ⟨a, -, b⟩ | ⟨a, b⟩
    · exact ⟨(-nI 1000000003), by simp (disch := omega) only [fa_lit, nI_add, pk_sub, pk_mul, nI_clamp, nI_leI, nI_ltI, nI_eq, inb, u2_s2, u2_ne2, if_pos, if_neg, Option.bind_some, nx, add_n0, cO, cN, cF, cU, true_or, or_true, if_true, if_false, not_true_eq_false, not_false_eq_true, true_and, and_true, e, a], by simp (disch := omega) only [fa_lit, nI_add, pk_sub, pk_mul, nI_clamp, nI_leI, nI_ltI, nI_eq, inb, u2_s2, u2_ne2, if_pos, if_neg, Option.bind_some, nx, add_n0, cO, cN, cF, cU, true_or, or_true, if_true, if_false, not_true_eq_false, not_false_eq_true, true_and, and_true, j_in, e, b]⟩
    · obtain ⟨r, r1, r2, r3⟩ := j_heirIn hK hE a n (by omega)
      exact ⟨nI r, by simp (disch := omega) only [fa_lit, nI_add, pk_sub, pk_mul, nI_clamp, nI_leI, nI_ltI, nI_eq, inb, u2_s2, u2_ne2, if_pos, if_neg, Option.bind_some, nx, add_n0, cO, cN, cF, cU, true_or, or_true, if_true, if_false, not_true_eq_false, not_false_eq_true, true_and, and_true, e, a, r2], by simp (disch := omega) only [fa_lit, nI_add, pk_sub, pk_mul, nI_clamp, nI_leI, nI_ltI, nI_eq, inb, u2_s2, u2_ne2, if_pos, if_neg, Option.bind_some, nx, add_n0, cO, cN, cF, cU, true_or, or_true, if_true, if_false, not_true_eq_false, not_false_eq_true, true_and, and_true, j_in, e, b, r3]⟩
  · exact ⟨(-nI 1000000002), by simp (disch := omega) only [fa_lit, nI_add, pk_sub, pk_mul, nI_clamp, nI_leI, nI_ltI, nI_eq, inb, u2_s2, u2_ne2, if_pos, if_neg, Option.bind_some, nx, add_n0, cO, cN, cF, cU, true_or, or_true, if_true, if_false, not_true_eq_false, not_false_eq_true, true_and, and_true, e], by simp (disch := omega) only [fa_lit, nI_add, pk_sub, pk_mul, nI_clamp, nI_leI, nI_ltI, nI_eq, inb, u2_s2, u2_ne2, if_pos, if_neg, Option.bind_some, nx, add_n0, cO, cN, cF, cU, true_or, or_true, if_true, if_false, not_true_eq_false, not_false_eq_true, true_and, and_true, j_in, e]⟩
theorem j_gets {mi mj : Mi} {ld m wn sn : Nat} (hK : RK mi mj ld m wn sn) (hE : RE mi 11 (mj 238)) (hx : mi ld 0 = nI 1) (hj : f_X8_isCounty mj = some (nI 1)) (x : Int32) {q : Nat} (hq : q ≤ 240) :
    ∀ (c n1 n2 k : Nat) (s : Int32), q - k = c → k ≤ q → c < n1 → c < n2 → ∃ r : Int32, lp_X7_gets_29 ld mi x (nI q) (fun a _ => some a) n1 s (nI k) = some r ∧ lp_X8_gets_29 mj x (nI q) (fun a _ => some a) n2 s (nI k) = some r := by
  intro c
  induction c with
  | zero =>
    intro n1 n2 k s h2 h3 h5 h6
    obtain ⟨n1, rfl⟩ : ∃ n, n1 = n + 1 := ⟨n1 - 1, by omega⟩
    obtain ⟨n2, rfl⟩ : ∃ n, n2 = n + 1 := ⟨n2 - 1, by omega⟩
    refine ⟨s, ?_, ?_⟩
    · unfold lp_X7_gets_29; simp (disch := omega) only [fa_lit, nI_add, pk_sub, pk_mul, nI_clamp, nI_leI, nI_ltI, nI_eq, inb, u2_s2, u2_ne2, if_pos, if_neg, Option.bind_some, nx, add_n0, cO, cN, cF, cU, true_or, or_true, if_true, if_false, not_true_eq_false, not_false_eq_true, true_and, and_true]
    · unfold lp_X8_gets_29; simp (disch := omega) only [fa_lit, nI_add, pk_sub, pk_mul, nI_clamp, nI_leI, nI_ltI, nI_eq, inb, u2_s2, u2_ne2, if_pos, if_neg, Option.bind_some, nx, add_n0, cO, cN, cF, cU, true_or, or_true, if_true, if_false, not_true_eq_false, not_false_eq_true, true_and, and_true]
  | succ c ih =>
    intro n1 n2 k s h2 h3 h5 h6
    obtain ⟨n1, rfl⟩ : ∃ n, n1 = n + 1 := ⟨n1 - 1, by omega⟩
    obtain ⟨n2, rfl⟩ : ∃ n, n2 = n + 1 := ⟨n2 - 1, by omega⟩
    obtain ⟨r, r1, r2, r3⟩ := j_heirIn hK hE hx k (by omega)
    have k3 : mj 229 21 = mi ld 3 := hK.2.2.2.2.2.2.2.1.2.2.1
    unfold lp_X7_gets_29 lp_X8_gets_29
    by_cases hr : nI r = x
    · obtain ⟨z, z2, z3⟩ := ih n1 n2 (k + 1) (s + mi ld 3) (by omega) (by omega) (by omega) (by omega)
      refine ⟨z, ?_, ?_⟩
      · simp (disch := omega) only [fa_lit, nI_add, pk_sub, pk_mul, nI_clamp, nI_leI, nI_ltI, nI_eq, inb, u2_s2, u2_ne2, if_pos, if_neg, Option.bind_some, nx, add_n0, cO, cN, cF, cU, true_or, or_true, if_true, if_false, not_true_eq_false, not_false_eq_true, true_and, and_true, r2, hr, z2]
      · simp (disch := omega) only [fa_lit, nI_add, pk_sub, pk_mul, nI_clamp, nI_leI, nI_ltI, nI_eq, inb, u2_s2, u2_ne2, if_pos, if_neg, Option.bind_some, nx, add_n0, cO, cN, cF, cU, true_or, or_true, if_true, if_false, not_true_eq_false, not_false_eq_true, true_and, and_true, r3, hj, hr, k3, z3]
    · obtain ⟨z, z2, z3⟩ := ih n1 n2 (k + 1) s (by omega) (by omega) (by omega) (by omega)
      refine ⟨z, ?_, ?_⟩
      · simp (disch := omega) only [fa_lit, nI_add, pk_sub, pk_mul, nI_clamp, nI_leI, nI_ltI, nI_eq, inb, u2_s2, u2_ne2, if_pos, if_neg, Option.bind_some, nx, add_n0, cO, cN, cF, cU, true_or, or_true, if_true, if_false, not_true_eq_false, not_false_eq_true, true_and, and_true, r2, hr, z2]
      · simp (disch := omega) only [fa_lit, nI_add, pk_sub, pk_mul, nI_clamp, nI_leI, nI_ltI, nI_eq, inb, u2_s2, u2_ne2, if_pos, if_neg, Option.bind_some, nx, add_n0, cO, cN, cF, cU, true_or, or_true, if_true, if_false, not_true_eq_false, not_false_eq_true, true_and, and_true, r3, hj, hr, k3, z3]
theorem v_gets0 {mi : Mi} {ld : Nat} (hx : mi ld 0 = nI 0) {a : Nat} (ha : a < 3) {q : Nat} (hq : q ≤ 240) :
    ∀ (c n1 k : Nat) (s : Int32), q - k = c → k ≤ q → c < n1 → lp_X7_gets_29 ld mi (nI a) (nI q) (fun a _ => some a) n1 s (nI k) = some s := by
  intro c
  induction c with
  | zero =>
    intro n1 k s h2 h3 h5
    obtain ⟨n1, rfl⟩ : ∃ n, n1 = n + 1 := ⟨n1 - 1, by omega⟩
    unfold lp_X7_gets_29; simp (disch := omega) only [fa_lit, nI_add, pk_sub, pk_mul, nI_clamp, nI_leI, nI_ltI, nI_eq, inb, u2_s2, u2_ne2, if_pos, if_neg, Option.bind_some, nx, add_n0, cO, cN, cF, cU, true_or, or_true, if_true, if_false, not_true_eq_false, not_false_eq_true, true_and, and_true]
  | succ c ih =>
    intro n1 k s h2 h3 h5
    obtain ⟨n1, rfl⟩ : ∃ n, n1 = n + 1 := ⟨n1 - 1, by omega⟩
    unfold lp_X7_gets_29
    have hz : ((-nI 1) = nI a) = False := eq_false (by rcases (show a = 0 ∨ a = 1 ∨ a = 2 by omega) with rfl | rfl | rfl <;> decide)
    have z := ih n1 (k + 1) s (by omega) (by omega) (by omega)
    rw [j_none hx]
    simp only [Option.bind_some, hz]
    simp (disch := omega) only [fa_lit, nI_add, pk_sub, pk_mul, nI_clamp, nI_leI, nI_ltI, nI_eq, inb, u2_s2, u2_ne2, if_pos, if_neg, Option.bind_some, nx, add_n0, cO, cN, cF, cU, true_or, or_true, if_true, if_false, not_true_eq_false, not_false_eq_true, true_and, and_true, z]
theorem J_gets {mi mj : Mi} {ld m wn sn : Nat} (hK : RK mi mj ld m wn sn) (hE : RE mi 11 (mj 238)) (x y : Int32) : ∃ r, f_X7_gets mi ld x y = some r ∧ f_X8_gets mj x y = some r := by
  unfold f_X7_gets f_X8_gets
  rcases j_isHeir x with ⟨a, ha, rfl, e1, e2⟩ | ⟨e1, e2⟩
  · rcases in_cases y 0 240 (by omega) (by omega) with ⟨n, -, hn, rfl, e⟩ | e
    · rcases j_isC hK with ⟨b, -, b2⟩ | ⟨b, b2⟩
      · have z := v_gets0 b ha hn n FU 0 (nI 0) (by omega) (by omega) (by rw [FU_eq]; omega)
        refine ⟨nI 0, by simp (disch := omega) only [fa_lit, nI_add, pk_sub, pk_mul, nI_clamp, nI_leI, nI_ltI, nI_eq, inb, u2_s2, u2_ne2, if_pos, if_neg, Option.bind_some, nx, add_n0, cO, cN, cF, cU, true_or, or_true, if_true, if_false, not_true_eq_false, not_false_eq_true, true_and, and_true, e1, e, z], ?_⟩
        simp (disch := omega) only [fa_lit, nI_add, pk_sub, pk_mul, nI_clamp, nI_leI, nI_ltI, nI_eq, inb, u2_s2, u2_ne2, if_pos, if_neg, Option.bind_some, nx, add_n0, cO, cN, cF, cU, true_or, or_true, if_true, if_false, not_true_eq_false, not_false_eq_true, true_and, and_true, e2, j_in, e]
        rw [FU_eq]
        unfold lp_X8_gets_29
        simp (disch := omega) only [fa_lit, nI_add, pk_sub, pk_mul, nI_clamp, nI_leI, nI_ltI, nI_eq, inb, u2_s2, u2_ne2, if_pos, if_neg, Option.bind_some, nx, add_n0, cO, cN, cF, cU, true_or, or_true, if_true, if_false, not_true_eq_false, not_false_eq_true, true_and, and_true, b2]
        split <;> rfl
      · obtain ⟨r, z1, z2⟩ := j_gets hK hE b b2 (nI a) hn n FU FU 0 (nI 0) (by omega) (by omega) (by rw [FU_eq]; omega) (by rw [FU_eq]; omega)
        exact ⟨r, by simp (disch := omega) only [fa_lit, nI_add, pk_sub, pk_mul, nI_clamp, nI_leI, nI_ltI, nI_eq, inb, u2_s2, u2_ne2, if_pos, if_neg, Option.bind_some, nx, add_n0, cO, cN, cF, cU, true_or, or_true, if_true, if_false, not_true_eq_false, not_false_eq_true, true_and, and_true, e1, e, z1], by simp (disch := omega) only [fa_lit, nI_add, pk_sub, pk_mul, nI_clamp, nI_leI, nI_ltI, nI_eq, inb, u2_s2, u2_ne2, if_pos, if_neg, Option.bind_some, nx, add_n0, cO, cN, cF, cU, true_or, or_true, if_true, if_false, not_true_eq_false, not_false_eq_true, true_and, and_true, e2, j_in, e, z2]⟩
    · exact ⟨(-nI 1000000002), by simp (disch := omega) only [fa_lit, nI_add, pk_sub, pk_mul, nI_clamp, nI_leI, nI_ltI, nI_eq, inb, u2_s2, u2_ne2, if_pos, if_neg, Option.bind_some, nx, add_n0, cO, cN, cF, cU, true_or, or_true, if_true, if_false, not_true_eq_false, not_false_eq_true, true_and, and_true, e1, e], by simp (disch := omega) only [fa_lit, nI_add, pk_sub, pk_mul, nI_clamp, nI_leI, nI_ltI, nI_eq, inb, u2_s2, u2_ne2, if_pos, if_neg, Option.bind_some, nx, add_n0, cO, cN, cF, cU, true_or, or_true, if_true, if_false, not_true_eq_false, not_false_eq_true, true_and, and_true, e2, j_in, e]⟩
  · exact ⟨(-nI 1000000001), by simp (disch := omega) only [fa_lit, nI_add, pk_sub, pk_mul, nI_clamp, nI_leI, nI_ltI, nI_eq, inb, u2_s2, u2_ne2, if_pos, if_neg, Option.bind_some, nx, add_n0, cO, cN, cF, cU, true_or, or_true, if_true, if_false, not_true_eq_false, not_false_eq_true, true_and, and_true, e1], by simp (disch := omega) only [fa_lit, nI_add, pk_sub, pk_mul, nI_clamp, nI_leI, nI_ltI, nI_eq, inb, u2_s2, u2_ne2, if_pos, if_neg, Option.bind_some, nx, add_n0, cO, cN, cF, cU, true_or, or_true, if_true, if_false, not_true_eq_false, not_false_eq_true, true_and, and_true, e2]⟩
theorem J_willBe {mi mj : Mi} {ld m wn sn : Nat} (hK : RK mi mj ld m wn sn) (hE : RE mi 11 (mj 238)) (x y : Int32) : ∃ r, f_X7_willBe mi ld x y = some r ∧ f_X8_willBe mj x y = some r := by
  unfold f_X7_willBe f_X8_willBe
  rcases j_isThing hK x with ⟨t, ht, rfl, e1, e2⟩ | ⟨e1, e2⟩
  · rcases in_cases y 0 240 (by omega) (by omega) with ⟨n, -, hn, rfl, e⟩ | e
    · rcases j_isC hK with ⟨-, b, -⟩ | ⟨b, b2⟩
      · omega
      · obtain ⟨⟨h, a1, a2, a3⟩, ⟨d, b1, b3, b4⟩, -, -, -, hv, -⟩ := id hE
        have hm := hK.2.1
        obtain ⟨v1, v, v2, v3⟩ := hv t (by omega)
        obtain ⟨u, u1, z1, z2⟩ := j_after hK hE b ht a1 a2 a3 b1 b3 b4 (nI v) (nI h) (nI v) (nI 0) hn n FU FU 0 v (by omega) (by omega) v2 (by rw [FU_eq]; omega) (by rw [FU_eq]; omega)
        refine ⟨nI u, ?_, ?_⟩
        · simp (disch := omega) only [fa_lit, nI_add, pk_sub, pk_mul, nI_clamp, nI_leI, nI_ltI, nI_eq, inb, u2_s2, u2_ne2, if_pos, if_neg, Option.bind_some, nx, add_n0, cO, cN, cF, cU, true_or, or_true, if_true, if_false, not_true_eq_false, not_false_eq_true, true_and, and_true, e1, e, f_X2_eclipseEnd, f_X1_valueAfter, a2, b3, v3]
          simp only [Nat.add_zero] at z1
          simp (disch := omega) only [fa_lit, nI_add, pk_sub, pk_mul, nI_clamp, nI_leI, nI_ltI, nI_eq, inb, u2_s2, u2_ne2, if_pos, if_neg, Option.bind_some, nx, add_n0, cO, cN, cF, cU, true_or, or_true, if_true, if_false, not_true_eq_false, not_false_eq_true, true_and, and_true, z1]
        · simp (disch := omega) only [fa_lit, nI_add, pk_sub, pk_mul, nI_clamp, nI_leI, nI_ltI, nI_eq, inb, u2_s2, u2_ne2, if_pos, if_neg, Option.bind_some, nx, add_n0, cO, cN, cF, cU, true_or, or_true, if_true, if_false, not_true_eq_false, not_false_eq_true, true_and, and_true, e2, j_in, e, f_X8_comesTo, v1, v3, z2]
    · exact ⟨(-nI 1000000002), by simp (disch := omega) only [fa_lit, nI_add, pk_sub, pk_mul, nI_clamp, nI_leI, nI_ltI, nI_eq, inb, u2_s2, u2_ne2, if_pos, if_neg, Option.bind_some, nx, add_n0, cO, cN, cF, cU, true_or, or_true, if_true, if_false, not_true_eq_false, not_false_eq_true, true_and, and_true, e1, e], by simp (disch := omega) only [fa_lit, nI_add, pk_sub, pk_mul, nI_clamp, nI_leI, nI_ltI, nI_eq, inb, u2_s2, u2_ne2, if_pos, if_neg, Option.bind_some, nx, add_n0, cO, cN, cF, cU, true_or, or_true, if_true, if_false, not_true_eq_false, not_false_eq_true, true_and, and_true, e2, j_in, e]⟩
  · exact ⟨(-nI 1000000001), by simp (disch := omega) only [fa_lit, nI_add, pk_sub, pk_mul, nI_clamp, nI_leI, nI_ltI, nI_eq, inb, u2_s2, u2_ne2, if_pos, if_neg, Option.bind_some, nx, add_n0, cO, cN, cF, cU, true_or, or_true, if_true, if_false, not_true_eq_false, not_false_eq_true, true_and, and_true, e1], by simp (disch := omega) only [fa_lit, nI_add, pk_sub, pk_mul, nI_clamp, nI_leI, nI_ltI, nI_eq, inb, u2_s2, u2_ne2, if_pos, if_neg, Option.bind_some, nx, add_n0, cO, cN, cF, cU, true_or, or_true, if_true, if_false, not_true_eq_false, not_false_eq_true, true_and, and_true, e2]⟩
theorem j_next {mi mj : Mi} {ld m wn sn : Nat} (hK : RK mi mj ld m wn sn) (hE : RE mi 11 (mj 238)) (hx : mi ld 0 = nI 1) (x : Int32) :
    ∀ (c n1 n2 k : Nat), 49 - k = c → k ≤ 49 → c < n1 → c < n2 → ∃ r : Int32, lp_X7_next_25 ld mi x (fun _ => some (-nI 1)) n1 (nI k) = some r ∧ lp_X8_next_22 mj x (fun _ => some (-nI 1)) n2 (nI k) = some r := by
  intro c
  induction c with
  | zero =>
    intro n1 n2 k h2 h3 h5 h6
    obtain ⟨n1, rfl⟩ : ∃ n, n1 = n + 1 := ⟨n1 - 1, by omega⟩
    obtain ⟨n2, rfl⟩ : ∃ n, n2 = n + 1 := ⟨n2 - 1, by omega⟩
    refine ⟨(-nI 1), ?_, ?_⟩
    · unfold lp_X7_next_25; simp (disch := omega) only [fa_lit, nI_add, pk_sub, pk_mul, nI_clamp, nI_leI, nI_ltI, nI_eq, inb, u2_s2, u2_ne2, if_pos, if_neg, Option.bind_some, nx, add_n0, cO, cN, cF, cU, true_or, or_true, if_true, if_false, not_true_eq_false, not_false_eq_true, true_and, and_true]
    · unfold lp_X8_next_22; simp (disch := omega) only [fa_lit, nI_add, pk_sub, pk_mul, nI_clamp, nI_leI, nI_ltI, nI_eq, inb, u2_s2, u2_ne2, if_pos, if_neg, Option.bind_some, nx, add_n0, cO, cN, cF, cU, true_or, or_true, if_true, if_false, not_true_eq_false, not_false_eq_true, true_and, and_true]
  | succ c ih =>
    intro n1 n2 k h2 h3 h5 h6
    obtain ⟨n1, rfl⟩ : ∃ n, n1 = n + 1 := ⟨n1 - 1, by omega⟩
    obtain ⟨n2, rfl⟩ : ∃ n, n2 = n + 1 := ⟨n2 - 1, by omega⟩
    obtain ⟨r, r1, r2, r3⟩ := j_heirIn hK hE hx k (by omega)
    unfold lp_X7_next_25 lp_X8_next_22
    by_cases hr : nI r = x
    · exact ⟨nI k, by simp (disch := omega) only [fa_lit, nI_add, pk_sub, pk_mul, nI_clamp, nI_leI, nI_ltI, nI_eq, inb, u2_s2, u2_ne2, if_pos, if_neg, Option.bind_some, nx, add_n0, cO, cN, cF, cU, true_or, or_true, if_true, if_false, not_true_eq_false, not_false_eq_true, true_and, and_true, r2, hr], by simp (disch := omega) only [fa_lit, nI_add, pk_sub, pk_mul, nI_clamp, nI_leI, nI_ltI, nI_eq, inb, u2_s2, u2_ne2, if_pos, if_neg, Option.bind_some, nx, add_n0, cO, cN, cF, cU, true_or, or_true, if_true, if_false, not_true_eq_false, not_false_eq_true, true_and, and_true, r3, hr]⟩
    · obtain ⟨z, z2, z3⟩ := ih n1 n2 (k + 1) (by omega) (by omega) (by omega) (by omega)
      exact ⟨z, by simp (disch := omega) only [fa_lit, nI_add, pk_sub, pk_mul, nI_clamp, nI_leI, nI_ltI, nI_eq, inb, u2_s2, u2_ne2, if_pos, if_neg, Option.bind_some, nx, add_n0, cO, cN, cF, cU, true_or, or_true, if_true, if_false, not_true_eq_false, not_false_eq_true, true_and, and_true, r2, hr, z2], by simp (disch := omega) only [fa_lit, nI_add, pk_sub, pk_mul, nI_clamp, nI_leI, nI_ltI, nI_eq, inb, u2_s2, u2_ne2, if_pos, if_neg, Option.bind_some, nx, add_n0, cO, cN, cF, cU, true_or, or_true, if_true, if_false, not_true_eq_false, not_false_eq_true, true_and, and_true, r3, hr, z3]⟩
theorem J_next {mi mj : Mi} {ld m wn sn : Nat} (hK : RK mi mj ld m wn sn) (hE : RE mi 11 (mj 238)) (x : Int32) : ∃ r, f_X7_next mi ld x = some r ∧ f_X8_next mj x = some r := by
  unfold f_X7_next f_X8_next
  rcases j_isHeir x with ⟨a, ha, rfl, e1, e2⟩ | ⟨e1, e2⟩
  · rcases j_isC hK with ⟨b, -, b2⟩ | ⟨b, b2⟩
    · exact ⟨(-nI 1000000003), by simp (disch := omega) only [fa_lit, nI_add, pk_sub, pk_mul, nI_clamp, nI_leI, nI_ltI, nI_eq, inb, u2_s2, u2_ne2, if_pos, if_neg, Option.bind_some, nx, add_n0, cO, cN, cF, cU, true_or, or_true, if_true, if_false, not_true_eq_false, not_false_eq_true, true_and, and_true, e1, b], by simp (disch := omega) only [fa_lit, nI_add, pk_sub, pk_mul, nI_clamp, nI_leI, nI_ltI, nI_eq, inb, u2_s2, u2_ne2, if_pos, if_neg, Option.bind_some, nx, add_n0, cO, cN, cF, cU, true_or, or_true, if_true, if_false, not_true_eq_false, not_false_eq_true, true_and, and_true, e2, b2]⟩
    · obtain ⟨r, z1, z2⟩ := j_next hK hE b (nI a) 49 FU FU 0 (by omega) (by omega) (by rw [FU_eq]; omega) (by rw [FU_eq]; omega)
      exact ⟨r, by simp (disch := omega) only [fa_lit, nI_add, pk_sub, pk_mul, nI_clamp, nI_leI, nI_ltI, nI_eq, inb, u2_s2, u2_ne2, if_pos, if_neg, Option.bind_some, nx, add_n0, cO, cN, cF, cU, true_or, or_true, if_true, if_false, not_true_eq_false, not_false_eq_true, true_and, and_true, e1, b, z1], by simp (disch := omega) only [fa_lit, nI_add, pk_sub, pk_mul, nI_clamp, nI_leI, nI_ltI, nI_eq, inb, u2_s2, u2_ne2, if_pos, if_neg, Option.bind_some, nx, add_n0, cO, cN, cF, cU, true_or, or_true, if_true, if_false, not_true_eq_false, not_false_eq_true, true_and, and_true, e2, b2, z2]⟩
  · exact ⟨(-nI 1000000001), by simp (disch := omega) only [fa_lit, nI_add, pk_sub, pk_mul, nI_clamp, nI_leI, nI_ltI, nI_eq, inb, u2_s2, u2_ne2, if_pos, if_neg, Option.bind_some, nx, add_n0, cO, cN, cF, cU, true_or, or_true, if_true, if_false, not_true_eq_false, not_false_eq_true, true_and, and_true, e1], by simp (disch := omega) only [fa_lit, nI_add, pk_sub, pk_mul, nI_clamp, nI_leI, nI_ltI, nI_eq, inb, u2_s2, u2_ne2, if_pos, if_neg, Option.bind_some, nx, add_n0, cO, cN, cF, cU, true_or, or_true, if_true, if_false, not_true_eq_false, not_false_eq_true, true_and, and_true, e2]⟩
theorem J_light {mi mj : Mi} {ld m wn sn : Nat} (hK : RK mi mj ld m wn sn) (hE : RE mi 11 (mj 238)) (x : Int32) : ∃ r, f_X7_light mi ld x = some r ∧ f_X8_light mj x = some r := by
  unfold f_X7_light f_X8_light f_X8_needWhat
  rcases in_cases x 0 1 (by omega) (by omega) with ⟨n, -, hn, rfl, e⟩ | e
  · rcases j_isC hK with ⟨a, -, b⟩ | ⟨a, b⟩
    · refine ⟨(-nI 1000000003), by simp (disch := omega) only [fa_lit, nI_add, pk_sub, pk_mul, nI_clamp, nI_leI, nI_ltI, nI_eq, inb, u2_s2, u2_ne2, if_pos, if_neg, Option.bind_some, nx, add_n0, cO, cN, cF, cU, true_or, or_true, if_true, if_false, not_true_eq_false, not_false_eq_true, true_and, and_true, e, a], ?_⟩
      simp (disch := omega) only [fa_lit, nI_add, pk_sub, pk_mul, nI_clamp, nI_leI, nI_ltI, nI_eq, inb, u2_s2, u2_ne2, if_pos, if_neg, Option.bind_some, nx, add_n0, cO, cN, cF, cU, true_or, or_true, if_true, if_false, not_true_eq_false, not_false_eq_true, true_and, and_true, j_in, e, b]
    · obtain ⟨⟨h, a1, a2, a3⟩, -⟩ := hE
      have e1 : nI h / nI 24 = nI (h / 24) := n_div _ (by omega) 24 (by omega) (by omega)
      obtain ⟨f, -, -, f1, f2⟩ := j_from hK (h / 24) (by omega)
      obtain ⟨t, -, -, t1, t2⟩ := j_to hK (h / 24) (by omega)
      rcases (show n = 0 ∨ n = 1 by omega) with rfl | rfl
      · exact ⟨nI f, by simp (disch := omega) only [fa_lit, nI_add, pk_sub, pk_mul, nI_clamp, nI_leI, nI_ltI, nI_eq, inb, u2_s2, u2_ne2, if_pos, if_neg, Option.bind_some, nx, add_n0, cO, cN, cF, cU, true_or, or_true, if_true, if_false, not_true_eq_false, not_false_eq_true, true_and, and_true, e, a, a2, e1, f1], by simp (disch := omega) only [fa_lit, nI_add, pk_sub, pk_mul, nI_clamp, nI_leI, nI_ltI, nI_eq, inb, u2_s2, u2_ne2, if_pos, if_neg, Option.bind_some, nx, add_n0, cO, cN, cF, cU, true_or, or_true, if_true, if_false, not_true_eq_false, not_false_eq_true, true_and, and_true, j_in, e, b, a3, e1, f2]⟩
      · exact ⟨nI t, by simp (disch := omega) only [fa_lit, nI_add, pk_sub, pk_mul, nI_clamp, nI_leI, nI_ltI, nI_eq, inb, u2_s2, u2_ne2, if_pos, if_neg, Option.bind_some, nx, add_n0, cO, cN, cF, cU, true_or, or_true, if_true, if_false, not_true_eq_false, not_false_eq_true, true_and, and_true, e, a, a2, e1, t1], by simp (disch := omega) only [fa_lit, nI_add, pk_sub, pk_mul, nI_clamp, nI_leI, nI_ltI, nI_eq, inb, u2_s2, u2_ne2, if_pos, if_neg, Option.bind_some, nx, add_n0, cO, cN, cF, cU, true_or, or_true, if_true, if_false, not_true_eq_false, not_false_eq_true, true_and, and_true, j_in, e, b, a3, e1, t2]⟩
  · refine ⟨(-nI 1000000002), by simp (disch := omega) only [fa_lit, nI_add, pk_sub, pk_mul, nI_clamp, nI_leI, nI_ltI, nI_eq, inb, u2_s2, u2_ne2, if_pos, if_neg, Option.bind_some, nx, add_n0, cO, cN, cF, cU, true_or, or_true, if_true, if_false, not_true_eq_false, not_false_eq_true, true_and, and_true, e], ?_⟩
    simp (disch := omega) only [fa_lit, nI_add, pk_sub, pk_mul, nI_clamp, nI_leI, nI_ltI, nI_eq, inb, u2_s2, u2_ne2, if_pos, if_neg, Option.bind_some, nx, add_n0, cO, cN, cF, cU, true_or, or_true, if_true, if_false, not_true_eq_false, not_false_eq_true, true_and, and_true, j_in, e]
