/-! 23: keepSo, movers, poorest, child, clear -/
theorem j_least {mi mj : Mi} {ld m wn sn : Nat} (hK : RK mi mj ld m wn sn) (hE : RE mi 11 (mj 238)) (hx : mi ld 0 = nI 1) {t : Nat} (ht : t < m) (v : Int32) {k q : Nat} (hkq : k ≤ q) (hq : q ≤ 240) :
    ∀ (c n1 n2 u : Nat), 10 - u = c → u ≤ 10 → c < n1 → c < n2 → ∃ r : Int32, lp_X7_startFor_3 ld mi (nI t) v (nI k) (nI q) (fun _ => some (-nI 1)) n1 (nI u) = some r ∧ lp_X8_leastFor_3 mj (nI t) v (nI k) (nI q) (fun _ => some (-nI 1)) n2 (nI u) = some r := by
  obtain ⟨⟨h, a1, a2, a3⟩, ⟨d, b1, b3, b4⟩, -⟩ := id hE
  have hm := hK.2.1
  intro c
  induction c with
  | zero =>
    intro n1 n2 u h2 h3 h5 h6
    obtain ⟨n1, rfl⟩ : ∃ n, n1 = n + 1 := ⟨n1 - 1, by omega⟩
    obtain ⟨n2, rfl⟩ : ∃ n, n2 = n + 1 := ⟨n2 - 1, by omega⟩
    refine ⟨(-nI 1), ?_, ?_⟩
    · unfold lp_X7_startFor_3; simp (disch := omega) only [fa_lit, nI_add, pk_sub, pk_mul, nI_clamp, nI_leI, nI_ltI, nI_eq, inb, u2_s2, u2_ne2, if_pos, if_neg, Option.bind_some, nx, add_n0, cO, cN, cF, cU, true_or, or_true, if_true, if_false, not_true_eq_false, not_false_eq_true, true_and, and_true]
    · unfold lp_X8_leastFor_3; simp (disch := omega) only [fa_lit, nI_add, pk_sub, pk_mul, nI_clamp, nI_leI, nI_ltI, nI_eq, inb, u2_s2, u2_ne2, if_pos, if_neg, Option.bind_some, nx, add_n0, cO, cN, cF, cU, true_or, or_true, if_true, if_false, not_true_eq_false, not_false_eq_true, true_and, and_true]
  | succ c ih =>
    intro n1 n2 u h2 h3 h5 h6
    obtain ⟨n1, rfl⟩ : ∃ n, n1 = n + 1 := ⟨n1 - 1, by omega⟩
    obtain ⟨n2, rfl⟩ : ∃ n, n2 = n + 1 := ⟨n2 - 1, by omega⟩
    obtain ⟨w, w1, w2, w3⟩ := j_after hK hE hx ht a1 a2 a3 b1 b3 b4 (nI u) (nI (h + k)) (nI u) (nI k) hq (q - k) FU FU k u (by omega) (by omega) (by omega) (by rw [FU_eq]; omega) (by rw [FU_eq]; omega)
    unfold lp_X7_startFor_3 lp_X8_leastFor_3
    by_cases hr : nI w = v
    · exact ⟨nI u, by simp (disch := omega) only [fa_lit, nI_add, pk_sub, pk_mul, nI_clamp, nI_leI, nI_ltI, nI_eq, inb, u2_s2, u2_ne2, if_pos, if_neg, Option.bind_some, nx, add_n0, cO, cN, cF, cU, true_or, or_true, if_true, if_false, not_true_eq_false, not_false_eq_true, true_and, and_true, f_X2_eclipseEnd, f_X1_valueAfter, a2, b3, w2, hr], by simp (disch := omega) only [fa_lit, nI_add, pk_sub, pk_mul, nI_clamp, nI_leI, nI_ltI, nI_eq, inb, u2_s2, u2_ne2, if_pos, if_neg, Option.bind_some, nx, add_n0, cO, cN, cF, cU, true_or, or_true, if_true, if_false, not_true_eq_false, not_false_eq_true, true_and, and_true, f_X8_comesTo, w3, hr]⟩
    · obtain ⟨z, z2, z3⟩ := ih n1 n2 (u + 1) (by omega) (by omega) (by omega) (by omega)
      exact ⟨z, by simp (disch := omega) only [fa_lit, nI_add, pk_sub, pk_mul, nI_clamp, nI_leI, nI_ltI, nI_eq, inb, u2_s2, u2_ne2, if_pos, if_neg, Option.bind_some, nx, add_n0, cO, cN, cF, cU, true_or, or_true, if_true, if_false, not_true_eq_false, not_false_eq_true, true_and, and_true, f_X2_eclipseEnd, f_X1_valueAfter, a2, b3, w2, hr, z2], by simp (disch := omega) only [fa_lit, nI_add, pk_sub, pk_mul, nI_clamp, nI_leI, nI_ltI, nI_eq, inb, u2_s2, u2_ne2, if_pos, if_neg, Option.bind_some, nx, add_n0, cO, cN, cF, cU, true_or, or_true, if_true, if_false, not_true_eq_false, not_false_eq_true, true_and, and_true, f_X8_comesTo, w3, hr, z3]⟩
theorem dn0 : nI 0 + -nI 1 = -nI 1 := by decide
theorem dnS (k : Nat) : nI (k + 1) + -nI 1 = nI k := pk_m1 k
theorem m1_lt : (-nI 1 < nI 0) = True := eq_true (by decide)
theorem m1_ne (k : Nat) (h : k < 2 ^ 31) : (nI k = -nI 1) = False := by
  refine eq_false (fun e => ?_)
  have := congrArg Int32.toInt e
  rw [nI_toInt h, show (-nI 1).toInt = -1 from by decide] at this
  omega
/-- keepSo: from the last hour back -/
theorem j_keep {mi mj : Mi} {ld m wn sn : Nat} (hK : RK mi mj ld m wn sn) (hE : RE mi 11 (mj 238)) (hx : mi ld 0 = nI 1) {t : Nat} (ht : t < m) (x v y : Int32) {q : Nat} (hq : q ≤ 240) :
    ∀ (j n1 n2 : Nat) (s l : Int32), j ≤ q → j < n1 → j < n2 → ((s = (-nI 1) ∧ l = (-nI 1)) ∨ ∃ b : Nat, b < q ∧ s = nI b ∧ f_X8_leastFor mj (nI t) v (nI b) (nI q) = some l) →
      ∃ r : Int32, lp_X7_keepSo_61 ld mi x (nI t) v (nI q) y (fun a b _ => if y = nI 0 then some a else some b) n1 s l (nI j + (-nI 1)) = some r ∧ lp_X8_keepSo_58 mj x (nI t) v (nI q) y (fun a _ => if a = (-nI 1) then some (-nI 1) else (if y = nI 0 then some a else ((f_X8_leastFor mj (nI t) v a (nI q)).bind (fun b => some b)))) n2 s (nI j + (-nI 1)) = some r := by
  have fin : ∀ (s l c1 c2 : Int32), ((s = (-nI 1) ∧ l = (-nI 1)) ∨ ∃ b : Nat, b < q ∧ s = nI b ∧ f_X8_leastFor mj (nI t) v (nI b) (nI q) = some l) → ∃ r : Int32, (if y = nI 0 then some s else some l) = some r ∧ (if s = (-nI 1) then some (-nI 1) else (if y = nI 0 then some s else ((f_X8_leastFor mj (nI t) v s (nI q)).bind (fun b => some b)))) = some r := by
    intro s l c1 c2 h
    rcases h with ⟨rfl, rfl⟩ | ⟨b, hb, rfl, hl⟩
    · refine ⟨(-nI 1), ?_, ?_⟩
      · split <;> rfl
      · rw [if_pos rfl]
    · by_cases hy : y = nI 0
      · exact ⟨nI b, by rw [if_pos hy], by simp only [m1_ne b (by omega), if_false]; rw [if_pos hy]⟩
      · exact ⟨l, by rw [if_neg hy], by simp only [m1_ne b (by omega), if_false]; rw [if_neg hy, hl]; rfl⟩
  intro j
  induction j with
  | zero =>
    intro n1 n2 s l h1 h2 h3 hi
    obtain ⟨n1, rfl⟩ : ∃ n, n1 = n + 1 := ⟨n1 - 1, by omega⟩
    obtain ⟨n2, rfl⟩ : ∃ n, n2 = n + 1 := ⟨n2 - 1, by omega⟩
    obtain ⟨r, r1, r2⟩ := fin s l 0 0 hi
    refine ⟨r, ?_, ?_⟩
    · unfold lp_X7_keepSo_61; simp only [fa_lit, dn0, m1_lt, if_true]; exact r1
    · unfold lp_X8_keepSo_58; simp only [fa_lit, dn0, m1_lt, if_true]; exact r2
  | succ j ih =>
    intro n1 n2 s l h1 h2 h3 hi
    obtain ⟨n1, rfl⟩ : ∃ n, n1 = n + 1 := ⟨n1 - 1, by omega⟩
    obtain ⟨n2, rfl⟩ : ∃ n, n2 = n + 1 := ⟨n2 - 1, by omega⟩
    obtain ⟨r, r1, r2, r3⟩ := j_heirIn hK hE hx j (by omega)
    rw [dnS]
    unfold lp_X7_keepSo_61 lp_X8_keepSo_58
    by_cases hr : nI r = x
    · obtain ⟨z, z2, z3⟩ := j_least hK hE hx ht v (show j ≤ q by omega) hq 10 FU FU 0 (by omega) (by omega) (by rw [FU_eq]; omega) (by rw [FU_eq]; omega)
      by_cases hz : z = (-nI 1)
      · subst hz
        obtain ⟨w, w2, w3⟩ := ih n1 n2 s l (by omega) (by omega) (by omega) hi
        exact ⟨w, by simp (disch := omega) only [fa_lit, nI_add, pk_sub, pk_mul, nI_clamp, nI_leI, nI_ltI, nI_eq, inb, u2_s2, u2_ne2, if_pos, if_neg, Option.bind_some, nx, add_n0, cO, cN, cF, cU, true_or, or_true, if_true, if_false, not_true_eq_false, not_false_eq_true, true_and, and_true, r2, hr, f_X7_startFor, z2, w2], by simp (disch := omega) only [fa_lit, nI_add, pk_sub, pk_mul, nI_clamp, nI_leI, nI_ltI, nI_eq, inb, u2_s2, u2_ne2, if_pos, if_neg, Option.bind_some, nx, add_n0, cO, cN, cF, cU, true_or, or_true, if_true, if_false, not_true_eq_false, not_false_eq_true, true_and, and_true, r3, hr, f_X8_leastFor, z3]; simp only [f_X8_leastFor, fa_lit] at w3; exact w3⟩
      · obtain ⟨w, w2, w3⟩ := ih n1 n2 (nI j) z (by omega) (by omega) (by omega) (Or.inr ⟨j, by omega, rfl, z3⟩)
        exact ⟨w, by simp (disch := omega) only [fa_lit, nI_add, pk_sub, pk_mul, nI_clamp, nI_leI, nI_ltI, nI_eq, inb, u2_s2, u2_ne2, if_pos, if_neg, Option.bind_some, nx, add_n0, cO, cN, cF, cU, true_or, or_true, if_true, if_false, not_true_eq_false, not_false_eq_true, true_and, and_true, r2, hr, f_X7_startFor, z2, hz, w2], by simp (disch := omega) only [fa_lit, nI_add, pk_sub, pk_mul, nI_clamp, nI_leI, nI_ltI, nI_eq, inb, u2_s2, u2_ne2, if_pos, if_neg, Option.bind_some, nx, add_n0, cO, cN, cF, cU, true_or, or_true, if_true, if_false, not_true_eq_false, not_false_eq_true, true_and, and_true, r3, hr, f_X8_leastFor, z3, hz]; simp only [f_X8_leastFor, fa_lit] at w3; exact w3⟩
    · obtain ⟨w, w2, w3⟩ := fin s l 0 0 hi
      refine ⟨w, ?_, ?_⟩
      · simp (disch := omega) only [fa_lit, nI_add, pk_sub, pk_mul, nI_clamp, nI_leI, nI_ltI, nI_eq, inb, u2_s2, u2_ne2, if_pos, if_neg, Option.bind_some, nx, add_n0, cO, cN, cF, cU, true_or, or_true, if_true, if_false, not_true_eq_false, not_false_eq_true, true_and, and_true, r2, hr]; exact w2
      · simp (disch := omega) only [fa_lit, nI_add, pk_sub, pk_mul, nI_clamp, nI_leI, nI_ltI, nI_eq, inb, u2_s2, u2_ne2, if_pos, if_neg, Option.bind_some, nx, add_n0, cO, cN, cF, cU, true_or, or_true, if_true, if_false, not_true_eq_false, not_false_eq_true, true_and, and_true, r3, hr]; exact w3
theorem J_keepSo {mi mj : Mi} {ld m wn sn : Nat} (hK : RK mi mj ld m wn sn) (hE : RE mi 11 (mj 238)) (x1 x2 x3 x4 x5 : Int32) : ∃ r, f_X7_keepSo mi ld x1 x2 x3 x4 x5 = some r ∧ f_X8_keepSo mj x1 x2 x3 x4 x5 = some r := by
  unfold f_X7_keepSo f_X8_keepSo
  rcases j_isHeir x1 with ⟨a, ha, rfl, e1, e2⟩ | ⟨e1, e2⟩
  · rcases j_isThing hK x2 with ⟨t, ht, rfl, e3, e4⟩ | ⟨e3, e4⟩
    · rcases j_isValue x3 with ⟨v, hv, rfl, e5, e6⟩ | ⟨e5, e6⟩
      · rcases in_cases x4 1 48 (by omega) (by omega) with ⟨n, hn1, hn, rfl, e⟩ | e
        · rcases in_cases x5 0 1 (by omega) (by omega) with ⟨y, -, hy, rfl, e'⟩ | e'
          · rcases j_isC hK with ⟨-, b, -⟩ | ⟨b, b2⟩
            · omega
            · obtain ⟨r, z1, z2⟩ := j_keep hK hE b ht (nI a) (nI v) (nI y) (show n ≤ 240 by omega) n FU FU (-nI 1) (-nI 1) (by omega) (by rw [FU_eq]; omega) (by rw [FU_eq]; omega) (Or.inl ⟨rfl, rfl⟩)
              have en : nI n + -nI 1 = nI (n - 1) := by
                obtain ⟨k, rfl⟩ : ∃ k, n = k + 1 := ⟨n - 1, by omega⟩
                rw [dnS]; rfl
              rw [en] at z1 z2
              refine ⟨r, ?_, ?_⟩
              · simp only [e1, e3, e5, fa_lit, e, e', Option.bind_some]
                simp (disch := omega) only [nI_eq, if_neg, pk_sub]
                simp (disch := omega) only [nI_eq, if_neg, pk_sub] at z1
                exact z1
              · simp only [e2, e4, e6, j_in, fa_lit, e, e', Option.bind_some]
                simp (disch := omega) only [nI_eq, if_neg, pk_sub]
                simp (disch := omega) only [nI_eq, if_neg, pk_sub] at z2
                exact z2
          · exact ⟨(-nI 1000000002), by simp (disch := omega) only [fa_lit, nI_add, pk_sub, pk_mul, nI_clamp, nI_leI, nI_ltI, nI_eq, inb, u2_s2, u2_ne2, if_pos, if_neg, Option.bind_some, nx, add_n0, cO, cN, cF, cU, true_or, or_true, if_true, if_false, not_true_eq_false, not_false_eq_true, true_and, and_true, e1, e3, e5, e, e'], by simp (disch := omega) only [fa_lit, nI_add, pk_sub, pk_mul, nI_clamp, nI_leI, nI_ltI, nI_eq, inb, u2_s2, u2_ne2, if_pos, if_neg, Option.bind_some, nx, add_n0, cO, cN, cF, cU, true_or, or_true, if_true, if_false, not_true_eq_false, not_false_eq_true, true_and, and_true, e2, e4, e6, j_in, e, e']⟩
        · exact ⟨(-nI 1000000002), by simp (disch := omega) only [fa_lit, nI_add, pk_sub, pk_mul, nI_clamp, nI_leI, nI_ltI, nI_eq, inb, u2_s2, u2_ne2, if_pos, if_neg, Option.bind_some, nx, add_n0, cO, cN, cF, cU, true_or, or_true, if_true, if_false, not_true_eq_false, not_false_eq_true, true_and, and_true, e1, e3, e5, e], by simp (disch := omega) only [fa_lit, nI_add, pk_sub, pk_mul, nI_clamp, nI_leI, nI_ltI, nI_eq, inb, u2_s2, u2_ne2, if_pos, if_neg, Option.bind_some, nx, add_n0, cO, cN, cF, cU, true_or, or_true, if_true, if_false, not_true_eq_false, not_false_eq_true, true_and, and_true, e2, e4, e6, j_in, e]⟩
      · exact ⟨(-nI 1000000002), by simp (disch := omega) only [fa_lit, nI_add, pk_sub, pk_mul, nI_clamp, nI_leI, nI_ltI, nI_eq, inb, u2_s2, u2_ne2, if_pos, if_neg, Option.bind_some, nx, add_n0, cO, cN, cF, cU, true_or, or_true, if_true, if_false, not_true_eq_false, not_false_eq_true, true_and, and_true, e1, e3, e5], by simp (disch := omega) only [fa_lit, nI_add, pk_sub, pk_mul, nI_clamp, nI_leI, nI_ltI, nI_eq, inb, u2_s2, u2_ne2, if_pos, if_neg, Option.bind_some, nx, add_n0, cO, cN, cF, cU, true_or, or_true, if_true, if_false, not_true_eq_false, not_false_eq_true, true_and, and_true, e2, e4, e6]⟩
    · exact ⟨(-nI 1000000001), by simp (disch := omega) only [fa_lit, nI_add, pk_sub, pk_mul, nI_clamp, nI_leI, nI_ltI, nI_eq, inb, u2_s2, u2_ne2, if_pos, if_neg, Option.bind_some, nx, add_n0, cO, cN, cF, cU, true_or, or_true, if_true, if_false, not_true_eq_false, not_false_eq_true, true_and, and_true, e1, e3], by simp (disch := omega) only [fa_lit, nI_add, pk_sub, pk_mul, nI_clamp, nI_leI, nI_ltI, nI_eq, inb, u2_s2, u2_ne2, if_pos, if_neg, Option.bind_some, nx, add_n0, cO, cN, cF, cU, true_or, or_true, if_true, if_false, not_true_eq_false, not_false_eq_true, true_and, and_true, e2, e4]⟩
  · exact ⟨(-nI 1000000001), by simp (disch := omega) only [fa_lit, nI_add, pk_sub, pk_mul, nI_clamp, nI_leI, nI_ltI, nI_eq, inb, u2_s2, u2_ne2, if_pos, if_neg, Option.bind_some, nx, add_n0, cO, cN, cF, cU, true_or, or_true, if_true, if_false, not_true_eq_false, not_false_eq_true, true_and, and_true, e1], by simp (disch := omega) only [fa_lit, nI_add, pk_sub, pk_mul, nI_clamp, nI_leI, nI_ltI, nI_eq, inb, u2_s2, u2_ne2, if_pos, if_neg, Option.bind_some, nx, add_n0, cO, cN, cF, cU, true_or, or_true, if_true, if_false, not_true_eq_false, not_false_eq_true, true_and, and_true, e2]⟩
/-- movers: three loops side by side -/
theorem j_movers {mi mj : Mi} {ld m wn sn : Nat} (hK : RK mi mj ld m wn sn) (hE : RE mi 11 (mj 238)) {t : Nat} (ht : t < m) {h : Nat} (hh : h ≤ 90030) (h1 : mi 11 0 = nI h) (hhj : mj 238 0 = nI h) (x2 x3 y2 y3 z1 z2 z3 z4 : Int32) (K : Int32 → Int32 → Int32 → Option Int32) :
    ∀ (c n1 n2 n3 k v : Nat) (s : Int32), h - k = c → k ≤ h → v < 10 → c < n1 → c < n2 → c < n3 → ∃ (u : Nat) (w : Int32), u < 10 ∧ lp_X1_valueAfter_6 ld mi (mi (ld + 2) t) x2 x3 (nI h) (nI 0) (fun a _ => some a) n1 (nI v) (nI k) = some (nI u) ∧ lp_X7_movers_104 ld mi z1 z2 z3 z4 (fun a _ => some a) n2 s (nI k) = some w ∧ lp_X8_movers_60 mj (nI t) y2 y3 K n3 (nI v) s (nI k) = K (nI u) w (nI h) := by
  obtain ⟨hm, hkk, kd, hkd, hke⟩ := (show m ≤ 8 ∧ (mj 236 t = mi (ld + 2) t) ∧ ∃ k : Nat, k < 4 ∧ mi (ld + 2) t = nI k from ⟨hK.2.1, hK.2.2.2.2.2.2.2.2.2.2.1 t ht⟩)
  intro c
  induction c with
  | zero =>
    intro n1 n2 n3 k v s h2 h3 h4 h5 h6 h7
    obtain ⟨n1, rfl⟩ : ∃ n, n1 = n + 1 := ⟨n1 - 1, by omega⟩
    obtain ⟨n2, rfl⟩ : ∃ n, n2 = n + 1 := ⟨n2 - 1, by omega⟩
    obtain ⟨n3, rfl⟩ : ∃ n, n3 = n + 1 := ⟨n3 - 1, by omega⟩
    have : k = h := by omega
    subst this
    refine ⟨v, s, h4, ?_, ?_, ?_⟩
    · unfold lp_X1_valueAfter_6; simp (disch := omega) only [fa_lit, nI_add, pk_sub, pk_mul, nI_clamp, nI_leI, nI_ltI, nI_eq, inb, u2_s2, u2_ne2, if_pos, if_neg, Option.bind_some, nx, add_n0, cO, cN, cF, cU, true_or, or_true, if_true, if_false, not_true_eq_false, not_false_eq_true, true_and, and_true]
    · unfold lp_X7_movers_104; simp (disch := omega) only [fa_lit, nI_add, pk_sub, pk_mul, nI_clamp, nI_leI, nI_ltI, nI_eq, inb, u2_s2, u2_ne2, if_pos, if_neg, Option.bind_some, nx, add_n0, cO, cN, cF, cU, true_or, or_true, if_true, if_false, not_true_eq_false, not_false_eq_true, true_and, and_true, h1]
    · unfold lp_X8_movers_60; simp (disch := omega) only [fa_lit, nI_add, pk_sub, pk_mul, nI_clamp, nI_leI, nI_ltI, nI_eq, inb, u2_s2, u2_ne2, if_pos, if_neg, Option.bind_some, nx, add_n0, cO, cN, cF, cU, true_or, or_true, if_true, if_false, not_true_eq_false, not_false_eq_true, true_and, and_true, hhj]
  | succ c ih =>
    intro n1 n2 n3 k v s h2 h3 h4 h5 h6 h7
    obtain ⟨n1, rfl⟩ : ∃ n, n1 = n + 1 := ⟨n1 - 1, by omega⟩
    obtain ⟨n2, rfl⟩ : ∃ n, n2 = n + 1 := ⟨n2 - 1, by omega⟩
    obtain ⟨n3, rfl⟩ : ∃ n, n3 = n + 1 := ⟨n3 - 1, by omega⟩
    obtain ⟨r, r1, r2, r3⟩ := j_alm hK k (by omega)
    obtain ⟨u, u1, u2', u3⟩ := j_comes mj hkd h4 (show k < 2 ^ 28 by omega) r1
    obtain ⟨z, w, q1, q2, q3, q4⟩ := ih n1 n2 n3 (k + 1) u (s ||| (nI 1 <<< (nI r &&& nI 31))) (by omega) (by omega) u1 (by omega) (by omega) (by omega)
    refine ⟨z, w, q1, ?_, ?_, ?_⟩
    · unfold lp_X1_valueAfter_6
      simp (disch := omega) only [fa_lit, nI_add, pk_sub, pk_mul, nI_clamp, nI_leI, nI_ltI, nI_eq, inb, u2_s2, u2_ne2, if_pos, if_neg, Option.bind_some, nx, add_n0, cO, cN, cF, cU, true_or, or_true, if_true, if_false, not_true_eq_false, not_false_eq_true, true_and, and_true, r2, hke, u2']
      rw [← hke]; exact q2
    · unfold lp_X7_movers_104
      simp (disch := omega) only [fa_lit, nI_add, pk_sub, pk_mul, nI_clamp, nI_leI, nI_ltI, nI_eq, inb, u2_s2, u2_ne2, if_pos, if_neg, Option.bind_some, nx, add_n0, cO, cN, cF, cU, true_or, or_true, if_true, if_false, not_true_eq_false, not_false_eq_true, true_and, and_true, h1, r2, q3]
    · unfold lp_X8_movers_60
      simp (disch := omega) only [fa_lit, nI_add, pk_sub, pk_mul, nI_clamp, nI_leI, nI_ltI, nI_eq, inb, u2_s2, u2_ne2, if_pos, if_neg, Option.bind_some, nx, add_n0, cO, cN, cF, cU, true_or, or_true, if_true, if_false, not_true_eq_false, not_false_eq_true, true_and, and_true, hhj, r3, hkk, hke, u3, q4]
theorem J_movers {mi mj : Mi} {ld m wn sn : Nat} (hK : RK mi mj ld m wn sn) (hE : RE mi 11 (mj 238)) (x1 x2 x3 : Int32) : ∃ r, f_X7_movers mi ld x1 x2 x3 = some r ∧ f_X8_movers mj x1 x2 x3 = some r := by
  unfold f_X7_movers f_X8_movers
  rcases j_isThing hK x1 with ⟨t, ht, rfl, e3, e4⟩ | ⟨e3, e4⟩
  · rcases j_isValue x2 with ⟨v, hv, rfl, e5, e6⟩ | ⟨e5, e6⟩
    · rcases in_cases x3 0 48 (by omega) (by omega) with ⟨n, hn1, hn, rfl, e⟩ | e
      · obtain ⟨⟨h, a1, a2, a3⟩, -, -, -, -, hv8, -⟩ := id hE
        have hm := hK.2.1
        obtain ⟨v1, v', v2, v3⟩ := hv8 t (by omega)
        by_cases hnh : n ≤ h
        · obtain ⟨u, w, u1, q1, q2, q3⟩ := j_movers hK hE ht a1 a2 a3 (nI v) (nI (h - n)) (nI v) (nI n) (nI t) (nI v) (nI n) (nI (h - n)) (fun a b _ => if a = nI v' then some (nI 0) else some b) n FU FU FU (h - n) v (nI 0) (by omega) (by omega) hv (by rw [FU_eq]; omega) (by rw [FU_eq]; omega) (by rw [FU_eq]; omega)
          by_cases huv : u = v'
          · refine ⟨nI 0, by simp (disch := omega) only [fa_lit, nI_add, pk_sub, pk_mul, nI_clamp, nI_leI, nI_ltI, nI_eq, inb, u2_s2, u2_ne2, if_pos, if_neg, Option.bind_some, nx, add_n0, cO, cN, cF, cU, true_or, or_true, if_true, if_false, not_true_eq_false, not_false_eq_true, true_and, and_true, e3, e5, e, a2, f_X1_valueAfter, q1, v3], ?_⟩
            simp (disch := omega) only [fa_lit, nI_add, pk_sub, pk_mul, nI_clamp, nI_leI, nI_ltI, nI_eq, inb, u2_s2, u2_ne2, if_pos, if_neg, Option.bind_some, nx, add_n0, cO, cN, cF, cU, true_or, or_true, if_true, if_false, not_true_eq_false, not_false_eq_true, true_and, and_true, e4, e6, j_in, e, a3, v1, v3]
            simp (disch := omega) only [nI_eq] at q3
            rw [q3]; simp (disch := omega) only [fa_lit, nI_add, pk_sub, pk_mul, nI_clamp, nI_leI, nI_ltI, nI_eq, inb, u2_s2, u2_ne2, if_pos, if_neg, Option.bind_some, nx, add_n0, cO, cN, cF, cU, true_or, or_true, if_true, if_false, not_true_eq_false, not_false_eq_true, true_and, and_true]
          · refine ⟨w, by simp (disch := omega) only [fa_lit, nI_add, pk_sub, pk_mul, nI_clamp, nI_leI, nI_ltI, nI_eq, inb, u2_s2, u2_ne2, if_pos, if_neg, Option.bind_some, nx, add_n0, cO, cN, cF, cU, true_or, or_true, if_true, if_false, not_true_eq_false, not_false_eq_true, true_and, and_true, e3, e5, e, a2, f_X1_valueAfter, q1, v3, q2], ?_⟩
            simp (disch := omega) only [fa_lit, nI_add, pk_sub, pk_mul, nI_clamp, nI_leI, nI_ltI, nI_eq, inb, u2_s2, u2_ne2, if_pos, if_neg, Option.bind_some, nx, add_n0, cO, cN, cF, cU, true_or, or_true, if_true, if_false, not_true_eq_false, not_false_eq_true, true_and, and_true, e4, e6, j_in, e, a3, v1, v3]
            simp (disch := omega) only [nI_eq] at q3
            rw [q3]; simp (disch := omega) only [fa_lit, nI_add, pk_sub, pk_mul, nI_clamp, nI_leI, nI_ltI, nI_eq, inb, u2_s2, u2_ne2, if_pos, if_neg, Option.bind_some, nx, add_n0, cO, cN, cF, cU, true_or, or_true, if_true, if_false, not_true_eq_false, not_false_eq_true, true_and, and_true]
        · exact ⟨(-nI 1000000003), by simp (disch := omega) only [fa_lit, nI_add, pk_sub, pk_mul, nI_clamp, nI_leI, nI_ltI, nI_eq, inb, u2_s2, u2_ne2, if_pos, if_neg, Option.bind_some, nx, add_n0, cO, cN, cF, cU, true_or, or_true, if_true, if_false, not_true_eq_false, not_false_eq_true, true_and, and_true, e3, e5, e, a2], by simp (disch := omega) only [fa_lit, nI_add, pk_sub, pk_mul, nI_clamp, nI_leI, nI_ltI, nI_eq, inb, u2_s2, u2_ne2, if_pos, if_neg, Option.bind_some, nx, add_n0, cO, cN, cF, cU, true_or, or_true, if_true, if_false, not_true_eq_false, not_false_eq_true, true_and, and_true, e4, e6, j_in, e, a3]⟩
      · exact ⟨(-nI 1000000002), by simp (disch := omega) only [fa_lit, nI_add, pk_sub, pk_mul, nI_clamp, nI_leI, nI_ltI, nI_eq, inb, u2_s2, u2_ne2, if_pos, if_neg, Option.bind_some, nx, add_n0, cO, cN, cF, cU, true_or, or_true, if_true, if_false, not_true_eq_false, not_false_eq_true, true_and, and_true, e3, e5, e], by simp (disch := omega) only [fa_lit, nI_add, pk_sub, pk_mul, nI_clamp, nI_leI, nI_ltI, nI_eq, inb, u2_s2, u2_ne2, if_pos, if_neg, Option.bind_some, nx, add_n0, cO, cN, cF, cU, true_or, or_true, if_true, if_false, not_true_eq_false, not_false_eq_true, true_and, and_true, e4, e6, j_in, e]⟩
    · exact ⟨(-nI 1000000002), by simp (disch := omega) only [fa_lit, nI_add, pk_sub, pk_mul, nI_clamp, nI_leI, nI_ltI, nI_eq, inb, u2_s2, u2_ne2, if_pos, if_neg, Option.bind_some, nx, add_n0, cO, cN, cF, cU, true_or, or_true, if_true, if_false, not_true_eq_false, not_false_eq_true, true_and, and_true, e3, e5], by simp (disch := omega) only [fa_lit, nI_add, pk_sub, pk_mul, nI_clamp, nI_leI, nI_ltI, nI_eq, inb, u2_s2, u2_ne2, if_pos, if_neg, Option.bind_some, nx, add_n0, cO, cN, cF, cU, true_or, or_true, if_true, if_false, not_true_eq_false, not_false_eq_true, true_and, and_true, e4, e6]⟩
  · exact ⟨(-nI 1000000001), by simp (disch := omega) only [fa_lit, nI_add, pk_sub, pk_mul, nI_clamp, nI_leI, nI_ltI, nI_eq, inb, u2_s2, u2_ne2, if_pos, if_neg, Option.bind_some, nx, add_n0, cO, cN, cF, cU, true_or, or_true, if_true, if_false, not_true_eq_false, not_false_eq_true, true_and, and_true, e3], by simp (disch := omega) only [fa_lit, nI_add, pk_sub, pk_mul, nI_clamp, nI_leI, nI_ltI, nI_eq, inb, u2_s2, u2_ne2, if_pos, if_neg, Option.bind_some, nx, add_n0, cO, cN, cF, cU, true_or, or_true, if_true, if_false, not_true_eq_false, not_false_eq_true, true_and, and_true, e4]⟩
