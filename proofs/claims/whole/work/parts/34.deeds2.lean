/-! 34: put, note, eclipse, drift, undo -/
theorem J_put {mi mj : Mi} {ml : Ml} {ld m wn sn : Nat} (h : DD mi mj ml ld m wn sn) (x y : Int32) : DO mi mj ml ld m wn sn (f_X7_put mi ld x y) (f_X8_put mj x y) := by
  obtain ⟨hK, hE, hU, hS⟩ := id h
  have hld := hK.1
  unfold f_X7_put f_X8_put
  rcases j_isThing hK x with ⟨t, ht, rfl, e1, e2⟩ | ⟨e1, e2⟩
  · rcases j_isValue y with ⟨v, hv, rfl, e3, e4⟩ | ⟨e3, e4⟩
    · rcases j_isC hK with ⟨-, b, -⟩ | ⟨hx, b⟩
      · omega
      · obtain ⟨ma, mb, a1, a2, a3, a4, a5, a6, a7⟩ := j_remD h
        obtain ⟨mc, md, b1, b2, b3, b4, b5, b6⟩ := j_set a3.1 a3.2.1 (by rw [a4.ld hld]; exact hx) ht hv
        obtain ⟨c1, c2, c3⟩ := a3.now b3 b5 b6
        obtain ⟨r, r1, r2, r3⟩ := j_heirOf c1.1 c1.2.1 (by rw [c2.ld hld, a4.ld hld]; exact hx)
        exact ⟨nI r, mc, md, by simp (disch := omega) only [fa_lit, nI_add, pk_sub, pk_mul, nI_clamp, nI_leI, nI_ltI, nI_eq, inb, u2_s2, u2_ne2, if_pos, if_neg, Option.bind_some, nx, add_n0, cO, cN, cF, cU, true_or, or_true, if_true, if_false, not_true_eq_false, not_false_eq_true, true_and, and_true, e1, e3, a1, b1, r2], by simp (disch := omega) only [fa_lit, nI_add, pk_sub, pk_mul, nI_clamp, nI_leI, nI_ltI, nI_eq, inb, u2_s2, u2_ne2, if_pos, if_neg, Option.bind_some, nx, add_n0, cO, cN, cF, cU, true_or, or_true, if_true, if_false, not_true_eq_false, not_false_eq_true, true_and, and_true, e2, e4, a2, b2, r3], c1, a4.tr c2, a5.tr c3⟩
    · exact DO.no h (-nI 1000000002) (by simp (disch := omega) only [fa_lit, nI_add, pk_sub, pk_mul, nI_clamp, nI_leI, nI_ltI, nI_eq, inb, u2_s2, u2_ne2, if_pos, if_neg, Option.bind_some, nx, add_n0, cO, cN, cF, cU, true_or, or_true, if_true, if_false, not_true_eq_false, not_false_eq_true, true_and, and_true, e1, e3]) (by simp (disch := omega) only [fa_lit, nI_add, pk_sub, pk_mul, nI_clamp, nI_leI, nI_ltI, nI_eq, inb, u2_s2, u2_ne2, if_pos, if_neg, Option.bind_some, nx, add_n0, cO, cN, cF, cU, true_or, or_true, if_true, if_false, not_true_eq_false, not_false_eq_true, true_and, and_true, e2, e4])
  · exact DO.no h (-nI 1000000001) (by simp (disch := omega) only [fa_lit, nI_add, pk_sub, pk_mul, nI_clamp, nI_leI, nI_ltI, nI_eq, inb, u2_s2, u2_ne2, if_pos, if_neg, Option.bind_some, nx, add_n0, cO, cN, cF, cU, true_or, or_true, if_true, if_false, not_true_eq_false, not_false_eq_true, true_and, and_true, e1]) (by simp (disch := omega) only [fa_lit, nI_add, pk_sub, pk_mul, nI_clamp, nI_leI, nI_ltI, nI_eq, inb, u2_s2, u2_ne2, if_pos, if_neg, Option.bind_some, nx, add_n0, cO, cN, cF, cU, true_or, or_true, if_true, if_false, not_true_eq_false, not_false_eq_true, true_and, and_true, e2])
theorem J_note {mi mj : Mi} {ml : Ml} {ld m wn sn : Nat} (h : DD mi mj ml ld m wn sn) (x y : Int32) : DO mi mj ml ld m wn sn (f_X7_note mi ld x y) (f_X8_note mj x y) := by
  obtain ⟨hK, hE, hU, hS⟩ := id h
  have hld := hK.1
  have hm := hK.2.1
  unfold f_X7_note f_X8_note
  rcases j_isHeir x with ⟨a, ha, rfl, e1, e2⟩ | ⟨e1, e2⟩
  · rcases j_isThing hK y with ⟨t, ht, rfl, e3, e4⟩ | ⟨e3, e4⟩
    · rcases j_isC hK with ⟨-, b, -⟩ | ⟨hx, b⟩
      · omega
      · obtain ⟨r, r1, r2, r3⟩ := j_heirOf hK hE hx
        by_cases hra : r = a
        · subst hra
          exact DO.no h (-nI 1000000003) (by simp (disch := omega) only [fa_lit, nI_add, pk_sub, pk_mul, nI_clamp, nI_leI, nI_ltI, nI_eq, inb, u2_s2, u2_ne2, if_pos, if_neg, Option.bind_some, nx, add_n0, cO, cN, cF, cU, true_or, or_true, if_true, if_false, not_true_eq_false, not_false_eq_true, true_and, and_true, e1, e3, r2]) (by simp (disch := omega) only [fa_lit, nI_add, pk_sub, pk_mul, nI_clamp, nI_leI, nI_ltI, nI_eq, inb, u2_s2, u2_ne2, if_pos, if_neg, Option.bind_some, nx, add_n0, cO, cN, cF, cU, true_or, or_true, if_true, if_false, not_true_eq_false, not_false_eq_true, true_and, and_true, e2, e4, r3])
        · obtain ⟨ma, mb, a1, a2, a3, a4, a5, a6, a7⟩ := j_remD h
          obtain ⟨v1, v, v2, v3⟩ := a3.2.1.2.2.2.2.2.1 t (by omega)
          have E1 : RE (u2 ma (11 + 4) (a * 8 + t) (nI v)) 11 ((u2 mb 238 (16 + 8 * a + t) (nI v)) 238) := by
            rw [u2_rowS, show 16 + 8 * a + t = 16 + (a * 8 + t) by omega]
            exact a3.2.1.know (by omega) _
          obtain ⟨c1, c2, c3⟩ := a3.now E1 (fun i hi => u2_row (by omega)) (fun i hi => u2_row hi)
          refine ⟨nI v, _, _, ?_, ?_, c1, a4.tr c2, a5.tr c3⟩
          · simp (disch := omega) only [fa_lit, nI_add, pk_sub, pk_mul, nI_clamp, nI_leI, nI_ltI, nI_eq, inb, u2_s2, u2_ne2, if_pos, if_neg, Option.bind_some, nx, add_n0, cO, cN, cF, cU, true_or, or_true, if_true, if_false, not_true_eq_false, not_false_eq_true, true_and, and_true, e1, e3, r2, a1, v3]
          · simp (disch := omega) only [fa_lit, nI_add, pk_sub, pk_mul, nI_clamp, nI_leI, nI_ltI, nI_eq, inb, u2_s2, u2_ne2, if_pos, if_neg, Option.bind_some, nx, add_n0, cO, cN, cF, cU, true_or, or_true, if_true, if_false, not_true_eq_false, not_false_eq_true, true_and, and_true, e2, e4, r3, a2, v1, v3]
    · exact DO.no h (-nI 1000000001) (by simp (disch := omega) only [fa_lit, nI_add, pk_sub, pk_mul, nI_clamp, nI_leI, nI_ltI, nI_eq, inb, u2_s2, u2_ne2, if_pos, if_neg, Option.bind_some, nx, add_n0, cO, cN, cF, cU, true_or, or_true, if_true, if_false, not_true_eq_false, not_false_eq_true, true_and, and_true, e1, e3]) (by simp (disch := omega) only [fa_lit, nI_add, pk_sub, pk_mul, nI_clamp, nI_leI, nI_ltI, nI_eq, inb, u2_s2, u2_ne2, if_pos, if_neg, Option.bind_some, nx, add_n0, cO, cN, cF, cU, true_or, or_true, if_true, if_false, not_true_eq_false, not_false_eq_true, true_and, and_true, e2, e4])
  · exact DO.no h (-nI 1000000001) (by simp (disch := omega) only [fa_lit, nI_add, pk_sub, pk_mul, nI_clamp, nI_leI, nI_ltI, nI_eq, inb, u2_s2, u2_ne2, if_pos, if_neg, Option.bind_some, nx, add_n0, cO, cN, cF, cU, true_or, or_true, if_true, if_false, not_true_eq_false, not_false_eq_true, true_and, and_true, e1]) (by simp (disch := omega) only [fa_lit, nI_add, pk_sub, pk_mul, nI_clamp, nI_leI, nI_ltI, nI_eq, inb, u2_s2, u2_ne2, if_pos, if_neg, Option.bind_some, nx, add_n0, cO, cN, cF, cU, true_or, or_true, if_true, if_false, not_true_eq_false, not_false_eq_true, true_and, and_true, e2])
theorem J_eclipse {mi mj : Mi} {ml : Ml} {ld m wn sn : Nat} (h : DD mi mj ml ld m wn sn) (x : Int32) : DO mi mj ml ld m wn sn (f_X7_eclipse mi ld x) (f_X8_eclipse mj x) := by
  obtain ⟨hK, hE, hU, hS⟩ := id h
  have hld := hK.1
  unfold f_X7_eclipse f_X8_eclipse
  rcases in_cases x 0 24 (by omega) (by omega) with ⟨n, -, hn, rfl, e⟩ | e
  · rcases j_isC hK with ⟨a, -, b⟩ | ⟨a, b⟩
    · exact DO.no h (-nI 1000000003) (by simp (disch := omega) only [fa_lit, nI_add, pk_sub, pk_mul, nI_clamp, nI_leI, nI_ltI, nI_eq, inb, u2_s2, u2_ne2, if_pos, if_neg, Option.bind_some, nx, add_n0, cO, cN, cF, cU, true_or, or_true, if_true, if_false, not_true_eq_false, not_false_eq_true, true_and, and_true, e, a]) (by simp (disch := omega) only [fa_lit, nI_add, pk_sub, pk_mul, nI_clamp, nI_leI, nI_ltI, nI_eq, inb, u2_s2, u2_ne2, if_pos, if_neg, Option.bind_some, nx, add_n0, cO, cN, cF, cU, true_or, or_true, if_true, if_false, not_true_eq_false, not_false_eq_true, true_and, and_true, j_in, e, b])
    · obtain ⟨ma, mb, a1, a2, a3, a4, a5, a6, a7⟩ := j_remD h
      obtain ⟨-, ⟨d, d1, d2, d3⟩, -⟩ := id a3.2.1
      have E1 : RE (u2 ma 11 1 (nI n)) 11 ((u2 mb 238 1 (nI n)) 238) := by
        rw [u2_rowS]; exact a3.2.1.dim hn
      obtain ⟨c1, c2, c3⟩ := a3.now E1 (fun i hi => u2_row (by omega)) (fun i hi => u2_row hi)
      refine ⟨nI d, _, _, ?_, ?_, c1, a4.tr c2, a5.tr c3⟩
      · simp (disch := omega) only [fa_lit, nI_add, pk_sub, pk_mul, nI_clamp, nI_leI, nI_ltI, nI_eq, inb, u2_s2, u2_ne2, if_pos, if_neg, Option.bind_some, nx, add_n0, cO, cN, cF, cU, true_or, or_true, if_true, if_false, not_true_eq_false, not_false_eq_true, true_and, and_true, e, a, a1, d2]
      · simp (disch := omega) only [fa_lit, nI_add, pk_sub, pk_mul, nI_clamp, nI_leI, nI_ltI, nI_eq, inb, u2_s2, u2_ne2, if_pos, if_neg, Option.bind_some, nx, add_n0, cO, cN, cF, cU, true_or, or_true, if_true, if_false, not_true_eq_false, not_false_eq_true, true_and, and_true, j_in, e, b, a2, d3]
  · exact DO.no h (-nI 1000000002) (by simp (disch := omega) only [fa_lit, nI_add, pk_sub, pk_mul, nI_clamp, nI_leI, nI_ltI, nI_eq, inb, u2_s2, u2_ne2, if_pos, if_neg, Option.bind_some, nx, add_n0, cO, cN, cF, cU, true_or, or_true, if_true, if_false, not_true_eq_false, not_false_eq_true, true_and, and_true, e]) (by simp (disch := omega) only [fa_lit, nI_add, pk_sub, pk_mul, nI_clamp, nI_leI, nI_ltI, nI_eq, inb, u2_s2, u2_ne2, if_pos, if_neg, Option.bind_some, nx, add_n0, cO, cN, cF, cU, true_or, or_true, if_true, if_false, not_true_eq_false, not_false_eq_true, true_and, and_true, j_in, e])
/-- the seed moves -/
theorem DD.seed {mi mj : Mi} {ml : Ml} {ld m wn sn s : Nat} (h : DD mi mj ml ld m wn sn) (hs : s < 2 ^ 31) : DD (u2 mi 0 11 (nI s)) mj (u2 ml 229 31 (lN s)) ld m wn sn ∧ FC mi (u2 mi 0 11 (nI s)) := by
  obtain ⟨hK, hE, hU, hS⟩ := h
  have hld := hK.1
  have f1 : FC mi (u2 mi 0 11 (nI s)) := ⟨fun i hi => u2_row (by omega), fun k hk => u2_ne2 (by omega)⟩
  refine ⟨⟨hK.FF f1 FM.rf, hE.to (u2_row (by omega)) (u2_row (by omega)) (u2_row (by omega)) (u2_row (by omega)) (u2_row (by omega)) (u2_row (by omega)) (fun _ _ => rfl), hU.to (u2_row (by omega)) (fun i _ _ => u2_row (by omega)) rfl rfl rfl, s, hs, u2_s2 ⟨rfl, rfl⟩, u2_s2 ⟨rfl, rfl⟩⟩, f1⟩
def FL (ml ml' : Ml) : Prop := ∀ i k, ¬ (i = 229 ∧ k = 31) → ml' i k = ml i k
theorem FL.tr {a b c : Ml} (h : FL a b) (g : FL b c) : FL a c := fun i k hk => (g i k hk).trans (h i k hk)
theorem FL.s {ml : Ml} {x : Int64} : FL ml (u2 ml 229 31 x) := fun i k hk => u2_ne2 hk
theorem FL.rf {ml : Ml} : FL ml ml := fun _ _ _ => rfl
/-- chance, then the hour -/
def chM (F : Mi → Ml → Option (Int32 × Mi × Ml)) (mj : Mi) (ml : Ml) : Option (Int32 × Mi × Ml) := (f_X8_draw mj ml 8).bind (fun q11 => if q11.1 = 0 then (if (q11.2.1 229 20) ≤ 0 then (if q11.1 = 1 then ((f_X8_draw q11.2.1 q11.2.2 4).bind (fun q32 => if inb 1 121 then (f_X8_passes (u2 q32.2.1 238 (1 : Int32).toNatClampNeg q32.1) 238).bind (fun mi34 => F mi34 q32.2.2) else none)) else ((f_X8_passes q11.2.1 238).bind (fun mi26 => F mi26 q11.2.2))) else ((f_X8_draw q11.2.1 q11.2.2 (q11.2.1 229 20)).bind (fun q40 => (f_X8_draw q40.2.1 q40.2.2 10).bind (fun q45 => (f_X8_sets q45.2.1 q40.1 q45.1).bind (fun mi46 => (f_X8_passes mi46 238).bind (fun mi48 => F mi48 q45.2.2)))))) else (if q11.1 = 1 then ((f_X8_draw q11.2.1 q11.2.2 4).bind (fun q20 => if inb 1 121 then (f_X8_passes (u2 q20.2.1 238 (1 : Int32).toNatClampNeg q20.1) 238).bind (fun mi22 => F mi22 q20.2.2) else none)) else ((f_X8_passes q11.2.1 238).bind (fun mi14 => F mi14 q11.2.2))))
theorem chM_eq (v1 v2 : Int32) (K : Int32 → Mi → Ml → Option (Int32 × Mi × Ml)) (n : Nat) (v3 : Int32) (mj : Mi) (ml : Ml) : lp_X8_drift_14 v1 v2 K (n + 1) v3 mj ml = if v1 ≤ v3 then (K v3 mj ml) else ((f_X8_remember mj).bind (fun mi5 => chM (fun a b => lp_X8_drift_14 v1 v2 K n (v3 + 1) a b) mi5 ml)) := by
  rw [lp_X8_drift_14]
  rfl
theorem mc_set {mi ma mb mc md : Mi} {ld : Nat} {t v : Int32} (h1 : f_X7_draw mi (nI 8) = some (nI 0, ma)) (hm : ¬ ma ld 5 ≤ nI 0) (h2 : f_X7_draw ma (ma ld 5) = some (t, mb)) (h3 : f_X7_draw mb (nI 10) = some (v, mc)) (h4 : f_X2_setThing mc 11 ld t v = some md) : f_X7_meetChance mi ld = some md := by
  unfold f_X7_meetChance
  rw [show f_X7_draw mi 8 = _ from h1, Option.bind_some, if_pos (show nI 0 = 0 from rfl), if_neg (show ¬ ma ld 5 ≤ 0 from hm), h2, Option.bind_some, show f_X7_draw mb 10 = _ from h3, Option.bind_some, h4, Option.bind_some]
theorem mc_ecl {mi ma mb : Mi} {ld : Nat} {t : Int32} (h1 : f_X7_draw mi (nI 8) = some (nI 1, ma)) (h2 : f_X7_draw ma (nI 4) = some (t, mb)) : f_X7_meetChance mi ld = some (u2 mb 11 1 t) := by
  unfold f_X7_meetChance
  rw [show f_X7_draw mi 8 = _ from h1, Option.bind_some, if_neg (show ¬ nI 1 = 0 from nI_ne0 (by omega) (by omega)), if_pos (show nI 1 = 1 from rfl), show f_X7_draw ma 4 = _ from h2, Option.bind_some]
theorem mc_no {mi ma : Mi} {ld q : Nat} (h1 : f_X7_draw mi (nI 8) = some (nI q, ma)) (hq : 0 < q ∨ ma ld 5 = nI 0) (hq1 : q ≠ 1) (hb : q < 8) : f_X7_meetChance mi ld = some ma := by
  have e1 : ¬ nI q = 1 := fun h => by
    have := (nI_eq (show q < 2 ^ 31 by omega) (show 1 < 2 ^ 31 by omega)).1 h
    omega
  unfold f_X7_meetChance
  rw [show f_X7_draw mi 8 = _ from h1, Option.bind_some]
  by_cases h0 : q = 0
  · subst h0
    have e2 : ma ld 5 = nI 0 := hq.resolve_left (by omega)
    have e3 : ma ld 5 ≤ 0 := by rw [e2]; exact (nI_leI (a := 0) (b := 0) (by omega) (by omega)).2 (by omega)
    rw [if_pos (show nI 0 = 0 from rfl), if_pos e3, if_neg e1]
  · rw [if_neg (show ¬ nI q = 0 from nI_ne0 (by omega) (by omega)), if_neg e1]
theorem ch_set {F : Mi → Ml → Option (Int32 × Mi × Ml)} {mj mc md : Mi} {ml ma mb me : Ml} {t v : Int32} (h1 : f_X8_draw mj ml (nI 8) = some (nI 0, mj, ma)) (hm : ¬ mj 229 20 ≤ nI 0) (h2 : f_X8_draw mj ma (mj 229 20) = some (t, mj, mb)) (h3 : f_X8_draw mj mb (nI 10) = some (v, mj, me)) (h4 : f_X8_sets mj t v = some mc) (h5 : f_X8_passes mc 238 = some md) : chM F mj ml = F md me := by
  unfold chM
  rw [show f_X8_draw mj ml 8 = _ from h1, Option.bind_some, if_pos (show nI 0 = 0 from rfl), if_neg (show ¬ mj 229 20 ≤ 0 from hm), h2, Option.bind_some, show f_X8_draw mj mb 10 = _ from h3, Option.bind_some, h4, Option.bind_some, h5, Option.bind_some]
theorem ch_ecl {F : Mi → Ml → Option (Int32 × Mi × Ml)} {mj md : Mi} {ml ma mb : Ml} {t : Int32} (h1 : f_X8_draw mj ml (nI 8) = some (nI 1, mj, ma)) (h2 : f_X8_draw mj ma (nI 4) = some (t, mj, mb)) (h5 : f_X8_passes (u2 mj 238 1 t) 238 = some md) : chM F mj ml = F md mb := by
  have h6 : f_X8_passes (u2 mj 238 (1 : Int32).toNatClampNeg t) 238 = some md := h5
  have h7 : inb (1 : Int32) 121 := by simp (disch := omega) only [fa_lit, nI_add, pk_sub, pk_mul, nI_clamp, nI_leI, nI_ltI, nI_eq, inb, u2_s2, u2_ne2, if_pos, if_neg, Option.bind_some, nx, add_n0, cO, cN, cF, cU, true_or, or_true, if_true, if_false, not_true_eq_false, not_false_eq_true, true_and, and_true]; omega
  unfold chM
  rw [show f_X8_draw mj ml 8 = _ from h1, Option.bind_some, if_neg (show ¬ nI 1 = 0 from nI_ne0 (by omega) (by omega)), if_pos (show nI 1 = 1 from rfl), show f_X8_draw mj ma 4 = _ from h2, Option.bind_some, if_pos h7, h6, Option.bind_some]
theorem ch_no {F : Mi → Ml → Option (Int32 × Mi × Ml)} {mj md : Mi} {ml ma : Ml} {q : Nat} (h1 : f_X8_draw mj ml (nI 8) = some (nI q, mj, ma)) (hq : 0 < q ∨ mj 229 20 = nI 0) (hq1 : q ≠ 1) (hb : q < 8) (h5 : f_X8_passes mj 238 = some md) : chM F mj ml = F md ma := by
  have e1 : ¬ nI q = 1 := fun h => by
    have := (nI_eq (show q < 2 ^ 31 by omega) (show 1 < 2 ^ 31 by omega)).1 h
    omega
  unfold chM
  rw [show f_X8_draw mj ml 8 = _ from h1, Option.bind_some]
  by_cases h0 : q = 0
  · subst h0
    have e2 : mj 229 20 = nI 0 := hq.resolve_left (by omega)
    have e3 : mj 229 20 ≤ 0 := by rw [e2]; exact (nI_leI (a := 0) (b := 0) (by omega) (by omega)).2 (by omega)
    rw [if_pos (show nI 0 = 0 from rfl), if_pos e3, if_neg e1, h5, Option.bind_some]
  · rw [if_neg (show ¬ nI q = 0 from nI_ne0 (by omega) (by omega)), if_neg e1, h5, Option.bind_some]
