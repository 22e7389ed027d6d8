/-! 33: draws; deeds -/
theorem fa_litL (n : Nat) : (OfNat.ofNat n : Int64) = lN n := rfl
theorem lN_and (n : Nat) : lN n &&& lN 2147483647 = lN (n % 2147483648) := by
  have h : n &&& 2147483647 = n % 2147483648 := Nat.and_two_pow_sub_one_eq_mod n 31
  rw [← h]
  apply Int64.toBitVec_inj.1
  show BitVec.ofNat 64 n &&& BitVec.ofNat 64 2147483647 = BitVec.ofNat 64 (n &&& 2147483647)
  apply BitVec.eq_of_getLsbD_eq
  intro i hi
  simp only [BitVec.getLsbD_and, BitVec.getLsbD_ofNat, Nat.testBit_and, hi, decide_true, Bool.true_and]
def RS (mi : Mi) (ml : Ml) : Prop := ∃ s : Nat, s < 2 ^ 31 ∧ mi 0 11 = nI s ∧ ml 229 31 = lN s
theorem j_draw {mi : Mi} {ml : Ml} {n : Nat} (hS : RS mi ml) (h0 : 0 < n) (hn : n < 1000) : ∃ s' q : Nat, s' < 2 ^ 31 ∧ q < n ∧ f_X7_draw mi (nI n) = some (nI q, u2 mi 0 11 (nI s')) ∧ ∀ mj : Mi, f_X8_draw mj ml (nI n) = some (nI q, mj, u2 ml 229 31 (lN s')) := by
  obtain ⟨s, s1, s2, s3⟩ := hS
  have hb : s * 1103515245 + 12345 < 2 ^ 63 := by omega
  refine ⟨(s * 1103515245 + 12345) % 2147483648, (s * 1103515245 + 12345) % 2147483648 / 65536 % n, by omega, Nat.mod_lt _ h0, ?_, fun mj => ?_⟩
  · unfold f_X7_draw
    generalize hs' : (s * 1103515245 + 12345) % 2147483648 = s'
    have hs2 : s' < 2 ^ 31 := by omega
    have e1 : ((((mi 0 11).toInt64 * 1103515245 + 12345) &&& 2147483647).toInt32) = nI s' := by
      rw [s2, nI_l s1, fa_litL, fa_litL, fa_litL, lN_mul, lN_add, lN_and, lN_i, hs']
    have e2 : nI s' / 65536 = nI (s' / 65536) := pk_div (d := 65536) hs2 (by omega) (by omega)
    have e3 : nI (s' / 65536) - nI (s' / 65536) / nI n * nI n = nI (s' / 65536 % n) := pk_rem (by omega) h0 (by omega)
    rw [e1, if_neg (show ¬ nI n ≤ 0 from nI_nle h0 (by omega)), if_pos (show ¬ nI n = 0 from nI_ne0 h0 (by omega)), u2_s2 ⟨rfl, rfl⟩, e2, e3]
  · unfold f_X8_draw
    generalize hs' : (s * 1103515245 + 12345) % 2147483648 = s'
    have hs2 : s' < 2 ^ 31 := by omega
    have e1 : (ml 229 31 * 1103515245 + 12345) - (ml 229 31 * 1103515245 + 12345) / 2147483648 * 2147483648 = lN s' := by
      rw [s3, fa_litL 1103515245, fa_litL 12345, fa_litL 2147483648, lN_mul, lN_add, pk_lRem hb (by omega) (by omega), hs']
    have e2 : lN s' / 65536 = lN (s' / 65536) := by rw [fa_litL 65536]; exact pk_lDiv (by omega) (by omega) (by omega)
    have e4 : (nI n).toInt64 = lN n := nI_l (by omega)
    have e3 : lN (s' / 65536) - lN (s' / 65536) / lN n * lN n = lN (s' / 65536 % n) := pk_lRem (by omega) h0 (by omega)
    have e5 : ¬ lN n = 0 := by rw [fa_litL 0, pk_lEQ (by omega) (by omega)]; omega
    rw [e1, e4, if_pos e5, u2_s2 ⟨rfl, rfl⟩, e2, e3, lN_i]
def DD (mi mj : Mi) (ml : Ml) (ld m wn sn : Nat) : Prop := RK mi mj ld m wn sn ∧ RE mi 11 (mj 238) ∧ RU mi mj ∧ RS mi ml
def FC (mi mi' : Mi) : Prop := (∀ i, (1 ≤ i ∧ i < 11) ∨ i = 18 ∨ 199 ≤ i → mi' i = mi i) ∧ ∀ k, k ≠ 11 → mi' 0 k = mi 0 k
def FM (mj mj' : Mi) : Prop := (∀ i, i ≠ 229 → i ≠ 238 → i ≠ 239 → mj' i = mj i) ∧ ∀ k, k ≠ 28 → k ≠ 29 → mj' 229 k = mj 229 k
theorem FC.rf {mi : Mi} : FC mi mi := ⟨fun _ _ => rfl, fun _ _ => rfl⟩
theorem FM.rf {mj : Mi} : FM mj mj := ⟨fun _ _ _ _ => rfl, fun _ _ _ => rfl⟩
theorem FC.tr {a b c : Mi} (h : FC a b) (g : FC b c) : FC a c := ⟨fun i hi => (g.1 i hi).trans (h.1 i hi), fun k hk => (g.2 k hk).trans (h.2 k hk)⟩
theorem FM.tr {a b c : Mi} (h : FM a b) (g : FM b c) : FM a c := ⟨fun i h1 h2 h3 => (g.1 i h1 h2 h3).trans (h.1 i h1 h2 h3), fun k h1 h2 => (g.2 k h1 h2).trans (h.2 k h1 h2)⟩
theorem FC.ld {mi mi' : Mi} (h : FC mi mi') {ld : Nat} (hld : ld = 4 ∨ ld = 210) : mi' ld = mi ld := h.1 ld (by omega)
theorem RK.FF {mi mj mi' mj' : Mi} {ld m wn sn : Nat} (h : RK mi mj ld m wn sn) (h1 : FC mi mi') (h2 : FM mj mj') : RK mi' mj' ld m wn sn := by
  have hld := h.1
  exact h.to (h1.1 _ (by omega)) (h1.1 _ (by omega)) (h1.1 _ (by omega)) (h1.1 _ (by omega)) (h1.1 _ (by omega)) (h1.1 _ (by omega)) (fun j _ _ => h2.2 _ (by omega) (by omega)) (h2.1 _ (by omega) (by omega) (by omega)) (h2.1 _ (by omega) (by omega) (by omega)) (h2.1 _ (by omega) (by omega) (by omega))
theorem j_remD {mi mj : Mi} {ml : Ml} {ld m wn sn : Nat} (h : DD mi mj ml ld m wn sn) : ∃ mi' mj' : Mi, f_X4_remember mi 11 = some mi' ∧ f_X8_remember mj = some mj' ∧ DD mi' mj' ml ld m wn sn ∧ FC mi mi' ∧ FM mj mj' ∧ (∀ i, 11 ≤ i → i < 17 → mi' i = mi i) ∧ mj' 238 = mj 238 := by
  obtain ⟨hK, hE, hU, hS⟩ := h
  obtain ⟨mi', mj', e1, e2, e3, e4, e5, e6⟩ := j_rem hE hU
  have f1 : FC mi mi' := ⟨fun i hi => e4 i (by omega), fun k _ => by rw [e4 0 (by omega)]⟩
  have f2 : FM mj mj' := ⟨fun i h1 _ h3 => e5 i h1 h3, fun k h1 h2 => e6 k h1 h2⟩
  have f3 : mj' 238 = mj 238 := e5 238 (by omega) (by omega)
  refine ⟨mi', mj', e1, e2, ⟨hK.FF f1 f2, ?_, e3, ?_⟩, f1, f2, fun i h1 h2 => e4 i (by omega), f3⟩
  · exact hE.to (e4 _ (by omega)) (e4 _ (by omega)) (e4 _ (by omega)) (e4 _ (by omega)) (e4 _ (by omega)) (e4 _ (by omega)) (fun j _ => by rw [f3])
  · obtain ⟨s, s1, s2, s3⟩ := hS
    exact ⟨s, s1, by rw [e4 0 (by omega)]; exact s2, s3⟩
/-- from changes of rows 11 .. 16 and 238 alone -/
theorem DD.now {mi mj mi' mj' : Mi} {ml : Ml} {ld m wn sn : Nat} (h : DD mi mj ml ld m wn sn) (hE : RE mi' 11 (mj' 238)) (h1 : ∀ i, i < 11 ∨ 16 < i → mi' i = mi i) (h2 : ∀ i, i ≠ 238 → mj' i = mj i) : DD mi' mj' ml ld m wn sn ∧ FC mi mi' ∧ FM mj mj' := by
  obtain ⟨hK, -, hU, s, s1, s2, s3⟩ := h
  refine ⟨⟨hK.now h1 h2, hE, hU.to (h1 _ (by omega)) (fun i _ _ => h1 i (by omega)) (by rw [h2 229 (by omega)]) (by rw [h2 229 (by omega)]) (h2 _ (by omega)), s, s1, by rw [h1 0 (by omega)]; exact s2, s3⟩, ⟨fun i hi => h1 i (by omega), fun k _ => by rw [h1 0 (by omega)]⟩, ⟨fun i _ hi _ => h2 i hi, fun k _ _ => by rw [h2 229 (by omega)]⟩⟩
theorem j_hourL {ld m wn sn : Nat} {ml : Ml} {q : Nat} (hq : q ≤ 30) (y1 y2 : Int32) :
    ∀ (c n1 n2 k h : Nat) (mi mj : Mi), DD mi mj ml ld m wn sn → mi ld 0 = nI 1 → mi 11 0 = nI h → h + c ≤ 90030 → q - k = c → k ≤ q → c < n1 → c < n2 →
      ∃ mi' mj' : Mi, DD mi' mj' ml ld m wn sn ∧ FC mi mi' ∧ FM mj mj' ∧ (∀ K : Int32 → Mi → Option (Int32 × Mi), lp_X7_hour_15 ld (nI q) y1 K n1 (nI k) mi = K (nI q) mi') ∧ (∀ K : Int32 → Mi → Option (Int32 × Mi), lp_X8_hour_14 (nI q) y2 K n2 (nI k) mj = K (nI q) mj') := by
  intro c
  induction c with
  | zero =>
    intro n1 n2 k h mi mj hD hx hh h1 h2 h3 h5 h6
    obtain ⟨n1, rfl⟩ : ∃ n, n1 = n + 1 := ⟨n1 - 1, by omega⟩
    obtain ⟨n2, rfl⟩ : ∃ n, n2 = n + 1 := ⟨n2 - 1, by omega⟩
    have : k = q := by omega
    subst this
    exact ⟨mi, mj, hD, FC.rf, FM.rf, fun K => by unfold lp_X7_hour_15; simp (disch := omega) only [fa_lit, nI_add, pk_sub, pk_mul, nI_clamp, nI_leI, nI_ltI, nI_eq, inb, u2_s2, u2_ne2, if_pos, if_neg, Option.bind_some, nx, add_n0, cO, cN, cF, cU, true_or, or_true, if_true, if_false, not_true_eq_false, not_false_eq_true, true_and, and_true], fun K => by unfold lp_X8_hour_14; simp (disch := omega) only [fa_lit, nI_add, pk_sub, pk_mul, nI_clamp, nI_leI, nI_ltI, nI_eq, inb, u2_s2, u2_ne2, if_pos, if_neg, Option.bind_some, nx, add_n0, cO, cN, cF, cU, true_or, or_true, if_true, if_false, not_true_eq_false, not_false_eq_true, true_and, and_true]⟩
  | succ c ih =>
    intro n1 n2 k h mi mj hD hx hh h1 h2 h3 h5 h6
    obtain ⟨n1, rfl⟩ : ∃ n, n1 = n + 1 := ⟨n1 - 1, by omega⟩
    obtain ⟨n2, rfl⟩ : ∃ n, n2 = n + 1 := ⟨n2 - 1, by omega⟩
    obtain ⟨ma, mb, a1, a2, a3, a4, a5, a6, a7⟩ := j_remD hD
    have hld := hD.1.1
    obtain ⟨mc, md, b1, b2, b3, b4, b5, b6⟩ := j_pass (h := h) a3.1 a3.2.1 (by rw [a4.ld hld]; exact hx) (by rw [a6 11 (by omega) (by omega)]; exact hh) (by omega)
    obtain ⟨c1, c2, c3⟩ := a3.now b3 b5 b6
    obtain ⟨mi', mj', d1, d2, d3, d4, d5⟩ := ih n1 n2 (k + 1) (h + 1) mc md c1 (by rw [c2.ld hld, a4.ld hld]; exact hx) b4 (by omega) (by omega) (by omega) (by omega) (by omega)
    exact ⟨mi', mj', d1, (a4.tr c2).tr d2, (a5.tr c3).tr d3, fun K => by unfold lp_X7_hour_15; simp (disch := omega) only [fa_lit, nI_add, pk_sub, pk_mul, nI_clamp, nI_leI, nI_ltI, nI_eq, inb, u2_s2, u2_ne2, if_pos, if_neg, Option.bind_some, nx, add_n0, cO, cN, cF, cU, true_or, or_true, if_true, if_false, not_true_eq_false, not_false_eq_true, true_and, and_true, a1, b1, d4], fun K => by unfold lp_X8_hour_14; simp (disch := omega) only [fa_lit, nI_add, pk_sub, pk_mul, nI_clamp, nI_leI, nI_ltI, nI_eq, inb, u2_s2, u2_ne2, if_pos, if_neg, Option.bind_some, nx, add_n0, cO, cN, cF, cU, true_or, or_true, if_true, if_false, not_true_eq_false, not_false_eq_true, true_and, and_true, a2, b2, d5]⟩
/-- what a deed leaves: the same answer, the relation, and what it did not touch -/
def DO (mi mj : Mi) (ml : Ml) (ld m wn sn : Nat) (o1 : Option (Int32 × Mi)) (o2 : Option (Int32 × Mi)) : Prop := ∃ (r : Int32) (mi' mj' : Mi), o1 = some (r, mi') ∧ o2 = some (r, mj') ∧ DD mi' mj' ml ld m wn sn ∧ FC mi mi' ∧ FM mj mj'
theorem DO.no {mi mj : Mi} {ml : Ml} {ld m wn sn : Nat} {o1 o2 : Option (Int32 × Mi)} (h : DD mi mj ml ld m wn sn) (r : Int32) (h1 : o1 = some (r, mi)) (h2 : o2 = some (r, mj)) : DO mi mj ml ld m wn sn o1 o2 := ⟨r, mi, mj, h1, h2, h, FC.rf, FM.rf⟩
theorem J_hour {mi mj : Mi} {ml : Ml} {ld m wn sn : Nat} (h : DD mi mj ml ld m wn sn) (x : Int32) : DO mi mj ml ld m wn sn (f_X7_hour mi ld x) (f_X8_hour mj x) := by
  obtain ⟨hK, hE, hU, hS⟩ := id h
  obtain ⟨⟨hr, a1, a2, a3⟩, -⟩ := id hE
  unfold f_X7_hour f_X8_hour f_X7_refusalOfHours f_X8_needHours
  rcases in_cases x 1 30 (by omega) (by omega) with ⟨n, hn1, hn, rfl, e⟩ | e
  · rcases j_isC hK with ⟨a, -, b⟩ | ⟨a, b⟩
    · exact DO.no h (-nI 1000000003) (by simp (disch := omega) only [fa_lit, nI_add, pk_sub, pk_mul, nI_clamp, nI_leI, nI_ltI, nI_eq, inb, u2_s2, u2_ne2, if_pos, if_neg, Option.bind_some, nx, add_n0, cO, cN, cF, cU, true_or, or_true, if_true, if_false, not_true_eq_false, not_false_eq_true, true_and, and_true, e, a]; rfl) (by simp (disch := omega) only [fa_lit, nI_add, pk_sub, pk_mul, nI_clamp, nI_leI, nI_ltI, nI_eq, inb, u2_s2, u2_ne2, if_pos, if_neg, Option.bind_some, nx, add_n0, cO, cN, cF, cU, true_or, or_true, if_true, if_false, not_true_eq_false, not_false_eq_true, true_and, and_true, j_in, e, b])
    · by_cases hl : hr ≤ 90000
      · obtain ⟨mi', mj', d1, d2, d3, d4, d5⟩ := j_hourL (ml := ml) hn (-1) 0 n FU FU 0 hr mi mj h a a2 (by omega) (by omega) (by omega) (by rw [FU_eq]; omega) (by rw [FU_eq]; omega)
        obtain ⟨⟨hr', q1, q2, q3⟩, -⟩ := id d1.2.1
        refine ⟨nI hr', mi', mj', ?_, ?_, d1, d2, d3⟩
        · simp (disch := omega) only [fa_lit, nI_add, pk_sub, pk_mul, nI_clamp, nI_leI, nI_ltI, nI_eq, inb, u2_s2, u2_ne2, if_pos, if_neg, Option.bind_some, nx, add_n0, cO, cN, cF, cU, true_or, or_true, if_true, if_false, not_true_eq_false, not_false_eq_true, true_and, and_true, e, a, a2]
          refine Eq.trans (d4 _) ?_
          rw [q2]
        · simp (disch := omega) only [fa_lit, nI_add, pk_sub, pk_mul, nI_clamp, nI_leI, nI_ltI, nI_eq, inb, u2_s2, u2_ne2, if_pos, if_neg, Option.bind_some, nx, add_n0, cO, cN, cF, cU, true_or, or_true, if_true, if_false, not_true_eq_false, not_false_eq_true, true_and, and_true, j_in, e, b, a3]
          refine Eq.trans (d5 _) ?_
          simp (disch := omega) only [fa_lit, nI_add, pk_sub, pk_mul, nI_clamp, nI_leI, nI_ltI, nI_eq, inb, u2_s2, u2_ne2, if_pos, if_neg, Option.bind_some, nx, add_n0, cO, cN, cF, cU, true_or, or_true, if_true, if_false, not_true_eq_false, not_false_eq_true, true_and, and_true, q3]
      · exact DO.no h (-nI 1000000004) (by simp (disch := omega) only [fa_lit, nI_add, pk_sub, pk_mul, nI_clamp, nI_leI, nI_ltI, nI_eq, inb, u2_s2, u2_ne2, if_pos, if_neg, Option.bind_some, nx, add_n0, cO, cN, cF, cU, true_or, or_true, if_true, if_false, not_true_eq_false, not_false_eq_true, true_and, and_true, e, a, a2]; rfl) (by simp (disch := omega) only [fa_lit, nI_add, pk_sub, pk_mul, nI_clamp, nI_leI, nI_ltI, nI_eq, inb, u2_s2, u2_ne2, if_pos, if_neg, Option.bind_some, nx, add_n0, cO, cN, cF, cU, true_or, or_true, if_true, if_false, not_true_eq_false, not_false_eq_true, true_and, and_true, j_in, e, b, a3])
  · exact DO.no h (-nI 1000000002) (by simp (disch := omega) only [fa_lit, nI_add, pk_sub, pk_mul, nI_clamp, nI_leI, nI_ltI, nI_eq, inb, u2_s2, u2_ne2, if_pos, if_neg, Option.bind_some, nx, add_n0, cO, cN, cF, cU, true_or, or_true, if_true, if_false, not_true_eq_false, not_false_eq_true, true_and, and_true, e]; rfl) (by simp (disch := omega) only [fa_lit, nI_add, pk_sub, pk_mul, nI_clamp, nI_leI, nI_ltI, nI_eq, inb, u2_s2, u2_ne2, if_pos, if_neg, Option.bind_some, nx, add_n0, cO, cN, cF, cU, true_or, or_true, if_true, if_false, not_true_eq_false, not_false_eq_true, true_and, and_true, j_in, e])
