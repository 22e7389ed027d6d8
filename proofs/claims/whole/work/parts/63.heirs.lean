/-! 63: ThreeHeirs' constructor -/
/-- where the building stands -/
def BT (V0 : Vw) (mi : Mi) (ml : Ml) (n : Nat) (V : Vw) (m : Mi) (l : Ml) : Prop := V.1 = n ∧ GR 0 V0 mi ml V m l
theorem BT.s0 {V0 V : Vw} {mi m : Mi} {ml l : Ml} {n : Nat} (b : BT V0 mi ml n V m l) (h0 : V0.1 = 1) (hs : V0.2.1 0 = (7, 0)) : V.2.1 0 = (7, 0) := (b.2.2.2.1 0 (by omega)).trans hs
theorem BT.fl {V0 V : Vw} {mi m : Mi} {ml l : Ml} {n : Nat} (b : BT V0 mi ml n V m l) : V.2.2.2 = true := b.2.2.1
def p7 (V0 : Vw) (mi : Mi) (ml : Ml) : Ps := fun v V1 m1 l1 => v = none ∧ ∃ M : Mi, BT V0 (u2 mi 0 10 (-1)) ml 229 V1 M l1 ∧ qA V1 ∧ (∀ j : Nat, j < 2 → V1.2.2.1 207 j = some (217 + 6 * j) ∧ LayE V1 (217 + 6 * j)) ∧ f_X2_begin M 11 210 = some m1
theorem e_X7_init {g : Gm} {E : Ex} {V0 V : Vw} {mi m : Mi} {ml l : Ml} {L : List (Option Value)} {k : Nat × Nat} (h0 : V0.1 = 1) (hs : V0.2.1 0 = (7, 0)) (hL : L[0]? = some (some (rf g 0))) (hk : k.1 ≤ 228 ∧ k.2 ≤ 4664) (b : BT V0 (u2 mi 0 10 (-1)) ml 229 V m l) (hA : qA V) (hi : ∀ j : Nat, j < 2 → V.2.2.1 207 j = some (217 + 6 * j) ∧ LayE V (217 + 6 * j)) :
    At g YX7_init E (qm g YX7_init (p7 V0 mi ml)) V k 138 L [] m l := by
  have hs0 := b.s0 h0 hs
  have h5 : m 210 5 = nI 0 := by rw [(b.2.2.2.2.2.2 210 (by omega) (by have := b.1; omega)).1]; rfl
  obtain ⟨m', a1, -⟩ := v_begin (mi := m) (ld := 210) (m := 0) (Or.inr rfl) (by omega) h5
  refine a_aload iX7_init_138 hL <| a_getr iX7_init_139 hs0 rfl hA.2.2.1.1 <| a_aload iX7_init_142 hL <| a_getr iX7_init_143 hs0 rfl hA.2.2.2.2.2.2.2.2.2.1 <| ?_
  refine a_cVv iX7_init_146 okX2_begin inX2_begin ⟨rfl, rfl⟩ hA.2.2.1.2.1 (c_X2_begin hA.2.2.1.2 hA.2.2.2.2.2.2.2.2.2.2 a1) rfl rfl (Nat.le_of_ble_eq_true rfl) hk <| ?_
  exact a_vret iX7_init_149 rfl hk ⟨rfl, m, b, hA, hi, a1⟩
theorem w_X7_init {g : Gm} {E : Ex} {V0 : Vw} {mi : Mi} {ml : Ml} (h0 : V0.1 = 1) (hs : V0.2.1 0 = (7, 0)) : ∀ (c j : Nat) (V : Vw) (m : Mi) (l : Ml), j + c = 2 → BT V0 (u2 mi 0 10 (-1)) ml (217 + 6 * j) V m l → qA V → (∀ t : Nat, t < j → V.2.2.1 207 t = some (217 + 6 * t) ∧ LayE V (217 + 6 * t)) →
    At g YX7_init E (qm g YX7_init (p7 V0 mi ml)) V (216 + 6 * j, 4412 + 126 * j) 114 [some (rf g 0), some (.int (nI j))] [] m l := by
  intro c
  induction c with
  | zero =>
    intro j V m l hj b hA hi
    have : j = 2 := by omega
    subst this
    refine a_iload iX7_init_114 rfl <| a_const iX7_init_115 <| a_icmp_ge iX7_init_116 (fun _ => ?_) (fun h => absurd ((nI_leI (a := 2) (b := 2) (by omega) (by omega)).2 (Nat.le_refl _)) h)
    exact e_X7_init h0 hs rfl ⟨Nat.le_refl _, Nat.le_refl _⟩ b hA hi
  | succ c ih =>
    intro j V m l hj b hA hi
    have hs0 := b.s0 h0 hs
    have hn := b.1
    refine a_iload iX7_init_114 rfl <| a_const iX7_init_115 <| a_icmp_ge iX7_init_116 (fun h => absurd ((nI_leI (a := 2) (by omega) (by omega)).1 h) (by omega)) (fun _ => ?_)
    refine a_aload iX7_init_119 rfl <| a_getr iX7_init_120 hs0 rfl hA.2.2.2.2.2.2.1.2 <| a_iload iX7_init_123 rfl <| a_new iX7_init_124 b.fl ⟨show 216 + 6 * j + 1 ≤ 228 by omega, show 4412 + 126 * j + 8 ≤ 4664 by omega⟩ <| a_dup iX7_init_127 rfl <| ?_
    refine a_callI iX7_init_128.1 okX2_init isX2_init iX7_init_128.2 (As := []) (c_X2_init (i := V.1) vn_s rfl rfl) rfl rfl (Nat.le_of_ble_eq_true rfl) ⟨show 216 + 6 * j + 1 + 5 ≤ 228 by omega, show 4412 + 126 * j + 8 + 118 ≤ 4664 by omega⟩ ?_
    intro v V2 m2 l2 hp
    obtain ⟨rfl, z1, z2, z3⟩ := hp
    have q := GR.inner b.fl z2
    have O : OLD 10 V (pr V2 207 j V.1) := old_p7 (OLD.gr q (by omega))
    have hA2 : qA (pr V2 207 j V.1) := hA.old O (by omega) (by omega)
    have e12 : V2.2.1 207 = (12, 2) := hA2.2.2.2.2.2.2.1.1
    have hin : inb (nI j) 2 := by simp (disch := omega) only [fa_lit, nI_add, pk_sub, pk_mul, nI_clamp, nI_leI, nI_ltI, nI_eq, inb, u2_s2, u2_ne2, if_pos, if_neg, Option.bind_some, nx, add_n0, cO, cN, cF, cU, true_or, or_true, if_true, if_false, not_true_eq_false, not_false_eq_true, true_and, and_true]; omega
    refine a_aast iX7_init_131 e12 (inb_vp hin) z3.1 <| ?_
    refine a_iinc iX7_init_132 rfl (by decide) rfl <| a_goto iX7_init_135 <| ?_
    have e1 : nI j + 1 = nI (j + 1) := nI_add _ 1
    have hcl : (nI j).toNatClampNeg = j := nI_clamp (by omega)
    have b2 : BT V0 (u2 mi 0 10 (-1)) ml (217 + 6 * (j + 1)) (pr V2 207 j V.1) m2 l2 := ⟨show V2.1 = _ by omega, gr_p2 (b.2.then q b.2.1) (by omega)⟩
    have hi2 : ∀ t : Nat, t < j + 1 → (pr V2 207 j V.1).2.2.1 207 t = some (217 + 6 * t) ∧ LayE (pr V2 207 j V.1) (217 + 6 * t) := by
      intro t ht
      by_cases htj : t = j
      · subst htj
        exact ⟨by rw [pr_s, hn], by rw [← hn]; exact z3.pr (by omega)⟩
      · obtain ⟨y1, y2⟩ := hi t (by omega)
        exact ⟨by rw [pr_o (by omega), q.2.2.2.1 207 (by omega) (by omega)]; exact y1, y2.old O (by omega) (by omega) (by omega)⟩
    have R := ih (j + 1) (pr V2 207 j V.1) m2 l2 (by omega) b2 hA2 hi2
    rw [← e1] at R
    rw [hcl]
    exact R
theorem BT.ad {V0 V V' : Vw} {mi m m' : Mi} {ml l l' : Ml} {sh : Nat × Nat} {f n n' : Nat} (b : BT V0 mi ml n V m l) (h0 : V0.1 = 1) (p : GR V.1 (vn V sh) (ur m V.1 (fun _ => 0)) (ur l V.1 (fun _ => 0)) V' m' l') (hn : V'.1 = n') : BT V0 mi ml n' (pr V' 0 f V.1) m' l' ∧ OLD f V (pr V' 0 f V.1) := ⟨⟨hn, (stg b.2 h0 p).1⟩, (stg b.2 h0 p).2⟩
theorem BT.ar {V0 V : Vw} {mi m : Mi} {ml l : Ml} {sh : Nat × Nat} {f n : Nat} (b : BT V0 mi ml n V m l) (h0 : V0.1 = 1) : BT V0 mi ml (n + 1) (st1 V sh 0 f) (ur m V.1 (fun _ => 0)) (ur l V.1 (fun _ => 0)) ∧ OLD f V (st1 V sh 0 f) := ⟨⟨by rw [st1_n, b.1], b.2.arr⟩, old_st1 (by have := b.2.1; omega) (Nat.le_refl _)⟩
theorem t_X7_c {g : Gm} {E : Ex} {V0 V : Vw} {mi m : Mi} {ml l : Ml} (h0 : V0.1 = 1) (hs : V0.2.1 0 = (7, 0)) (b : BT V0 mi ml 207 V m l) (h1 : q1 V) (h2 : q2 V) (h3 : q3 V) (h4 : q4 V) (h5 : q5 V) (h6 : q6 V) :
    At g YX7_init E (qm g YX7_init (p7 V0 mi ml)) V (206, 4334) 74 [some (rf g 0), none] [] m l := by
  have hn := b.1
  obtain ⟨b7, o7⟩ := b.ar (sh := (12, 2)) (f := 6) h0
  have H7 : q7 (st1 V (12, 2) 0 6) := ⟨st1_s hn.symm, by rw [st1_r ⟨rfl, rfl⟩, hn]⟩
  have n7 := b7.1
  refine a_aload iX7_init_74 rfl <| a_const iX7_init_75 <| a_newE (N := 2) iX7_init_76 b.fl (by decide) rfl (by decide) (by decide) <| ?_
  refine a_putr iX7_init_79 (by show va_up V.2.1 V.1 (12, 2) 0 = _; rw [va_up_ne _ _ (by omega)]; exact b.s0 h0 hs) rfl <| ?_
  show At g YX7_init E (qm g YX7_init (p7 V0 mi ml)) (st1 V (12, 2) 0 6) (207, 4336) 82 [some (rf g 0), none] [] _ _
  obtain ⟨b8, o8⟩ := b7.ar (sh := (9, 2)) (f := 7) h0
  have H8 : q8 (st1 (st1 V (12, 2) 0 6) (9, 2) 0 7) := ⟨st1_s n7.symm, by rw [st1_r ⟨rfl, rfl⟩, n7]⟩
  have n8 := b8.1
  refine a_arrI (N := 2) iX7_init_82 rfl iX7_init_83 iX7_init_84 iX7_init_86 b7.fl (by decide) rfl (by decide) (by decide) (b7.s0 h0 hs) (by omega) rfl ?_
  obtain ⟨b9, o9⟩ := b8.ar (sh := (10, 2)) (f := 8) h0
  have n9 := b9.1
  have H9 : q9 (st1 (st1 (st1 V (12, 2) 0 6) (9, 2) 0 7) (10, 2) 0 8) := ⟨st1_s n8.symm, by rw [st1_r ⟨rfl, rfl⟩, n8]⟩
  refine a_arrZ (N := 2) iX7_init_89 rfl iX7_init_90 iX7_init_91 iX7_init_93 b8.fl (by decide) rfl (by decide) (by decide) (b8.s0 h0 hs) (by omega) rfl ?_
  have O : OLD 6 V (st1 (st1 (st1 V (12, 2) 0 6) (9, 2) 0 7) (10, 2) 0 8) := (o7.tr o8 (by omega)).tr o9 (by omega)
  have K1 := h1.old O (by omega) (by omega)
  have K2 := h2.old O (by omega) (by omega)
  have K3 := h3.old O (by omega) (by omega)
  have K4 := h4.old O (by omega) (by omega)
  have K5 := h5.old O (by omega) (by omega)
  have K6 := h6.old O (by omega) (by omega)
  have K7 := (H7.old o8 (by omega) (by omega)).old o9 (by omega) (by omega)
  have K8 := H8.old o9 (by omega) (by omega)
  generalize st1 (st1 (st1 V (12, 2) 0 6) (9, 2) 0 7) (10, 2) 0 8 = W at *
  generalize ur (ur (ur m V.1 (fun _ => 0)) (st1 V (12, 2) 0 6).1 (fun _ => 0)) (st1 (st1 V (12, 2) 0 6) (9, 2) 0 7).1 (fun _ => 0) = mw at *
  generalize ur (ur (ur l V.1 (fun _ => 0)) (st1 V (12, 2) 0 6).1 (fun _ => 0)) (st1 (st1 V (12, 2) 0 6) (9, 2) 0 7).1 (fun _ => 0) = lw at *
  show At g YX7_init E (qm g YX7_init (p7 V0 mi ml)) W (209, 4340) 96 [some (rf g 0), none] [] mw lw
  refine a_aload iX7_init_96 rfl <| a_new iX7_init_97 b9.fl (by decide) <| a_dup iX7_init_100 rfl <| ?_
  refine a_callI iX7_init_101.1 okX1_init isX1_init iX7_init_101.2 (As := []) (c_X1_init (i := W.1) vn_s rfl rfl) rfl rfl (Nat.le_of_ble_eq_true rfl) ⟨Nat.le_of_ble_eq_true rfl, Nat.le_of_ble_eq_true rfl⟩ ?_
  intro v V2 m2 l2 hp
  obtain ⟨rfl, z1, z2, z3⟩ := hp
  obtain ⟨b10, o10⟩ := b9.ad (f := 9) (n' := 217) h0 z2 (by omega)
  have H10 : q10 (pr V2 0 9 W.1) := ⟨by rw [pr_s, n9], by rw [← (show W.1 = 210 from n9)]; exact z3.pr (by omega)⟩
  have hA : qA (pr V2 0 9 W.1) := ⟨K1.old o10 (by omega) (by omega), K2.old o10 (by omega) (by omega), K3.old o10 (by omega) (by omega), K4.old o10 (by omega) (by omega), K5.old o10 (by omega) (by omega), K6.old o10 (by omega) (by omega), K7.old o10 (by omega) (by omega), K8.old o10 (by omega) (by omega), H9.old o10 (by omega) (by omega), H10⟩
  refine a_putr iX7_init_104 (show V2.2.1 0 = _ from b10.s0 h0 hs) rfl <| a_aload iX7_init_107 rfl <| a_const iX7_init_108 <| a_puti iX7_init_109 (b10.s0 h0 hs) rfl rfl rfl <| a_const iX7_init_112 <| a_istore iX7_init_113 (by decide) rfl <| ?_
  exact w_X7_init h0 hs 2 0 (pr V2 0 9 W.1) _ _ rfl ⟨b10.1, gr_puz b10.2 (by omega)⟩ hA (fun t ht => absurd ht (by omega))
theorem c_X7_init {g : Gm} {V : Vw} {mi : Mi} {ml : Ml} (hs : V.2.1 0 = (7, 0)) (hfl : V.2.2.2 = true) (hn : V.1 = 1) : Does g YX7_init V [rf g 0] mi ml (p7 V mi ml) := by
  refine does_of (L := [some (rf g 0), none]) okX7_init rfl (Nat.le_of_ble_eq_true rfl) rfl ?_
  have b0 : BT V mi ml 1 V mi ml := ⟨hn, GR.rf hfl⟩
  refine a_aload iX7_init_0 rfl <| a_objInit iX7_init_1 (by decide) <| a_aload iX7_init_4 rfl <| a_new iX7_init_5 hfl (by decide) <| a_dup iX7_init_8 rfl <| ?_
  refine a_callI iX7_init_9.1 okX6_init isX6_init iX7_init_9.2 (As := []) (c_X6_init (i := V.1) vn_s rfl rfl) rfl rfl (Nat.le_of_ble_eq_true rfl) ⟨Nat.le_of_ble_eq_true rfl, Nat.le_of_ble_eq_true rfl⟩ ?_
  intro v V1 m1 l1 hp
  obtain ⟨rfl, z1, z2, z3, z4⟩ := hp
  obtain ⟨b1, o1⟩ := b0.ad (f := 0) (n' := 3) hn z2 (by omega)
  have H1 : q1 (pr V1 0 0 V.1) := by
    rw [hn] at z2 z3 z4 ⊢
    exact ⟨(z2.2.2.1 1 (by show 1 < V.1 + 1; omega)).trans (by rw [← hn]; exact vn_s), z3, pr_s, (pr_o (by omega)).trans z4⟩
  refine a_putr iX7_init_12 (show V1.2.1 0 = _ from b1.s0 hn hs) rfl <| ?_
  have n1 := b1.1
  show At g YX7_init _ _ (pr V1 0 0 V.1) _ _ _ _ _ _
  generalize pr V1 0 0 V.1 = W1 at *
  refine a_aload iX7_init_15 rfl <| a_new iX7_init_16 b1.fl (by decide) <| a_dup iX7_init_19 rfl <| a_aload iX7_init_20 rfl <| ?_
  refine a_getr iX7_init_21 (by show va_up W1.2.1 W1.1 (5, 0) 0 = _; rw [va_up_ne _ _ (by omega)]; exact b1.s0 hn hs) rfl (a := 1) (by show ur W1.2.2.1 W1.1 (fun _ => none) 0 0 = _; rw [ur_ne (by omega)]; exact H1.2.2.1) <| ?_
  refine a_callI iX7_init_24.1 okX5_init isX5_init iX7_init_24.2 (As := [rf g 1]) (c_X5_init (i := W1.1) (s := 1) vn_s rfl rfl) rfl rfl (Nat.le_of_ble_eq_true rfl) ⟨Nat.le_of_ble_eq_true rfl, Nat.le_of_ble_eq_true rfl⟩ ?_
  intro v V2 m2 l2 hp
  obtain ⟨rfl, z1, z2, z3, z4, z5⟩ := hp
  obtain ⟨b2, o2⟩ := b1.ad (f := 1) (n' := 11) hn z2 (by omega)
  have J1 : q1 (pr V2 0 1 W1.1) := H1.old o2 (by omega) (by omega)
  have H2 : q2 (pr V2 0 1 W1.1) := by
    rw [n1] at z2 z3 z4 z5 ⊢
    exact ⟨(z2.2.2.1 3 (by show 3 < W1.1 + 1; omega)).trans (by rw [← n1]; exact vn_s), pr_s, (pr_o (by omega)).trans z4, (pr_o (by omega)).trans z5, z3.pr (by omega)⟩
  refine a_putr iX7_init_27 (show V2.2.1 0 = _ from b2.s0 hn hs) rfl <| ?_
  clear H1 o2
  have n2 := b2.1
  show At g YX7_init _ _ (pr V2 0 1 W1.1) _ _ _ _ _ _
  generalize pr V2 0 1 W1.1 = W2 at *
  refine a_aload iX7_init_30 rfl <| a_new iX7_init_31 b2.fl (by decide) <| a_dup iX7_init_34 rfl <| ?_
  refine a_callI iX7_init_35.1 okX2_init isX2_init iX7_init_35.2 (As := []) (c_X2_init (i := W2.1) vn_s rfl rfl) rfl rfl (Nat.le_of_ble_eq_true rfl) ⟨Nat.le_of_ble_eq_true rfl, Nat.le_of_ble_eq_true rfl⟩ ?_
  intro v V3 m3 l3 hp
  obtain ⟨rfl, z1, z2, z3⟩ := hp
  obtain ⟨b3, o3⟩ := b2.ad (f := 2) (n' := 17) hn z2 (by omega)
  have K1 : q1 (pr V3 0 2 W2.1) := J1.old o3 (by omega) (by omega)
  have K2 : q2 (pr V3 0 2 W2.1) := H2.old o3 (by omega) (by omega)
  have H3 : q3 (pr V3 0 2 W2.1) := by
    rw [n2] at z3 ⊢
    exact ⟨pr_s, z3.pr (by omega)⟩
  refine a_putr iX7_init_38 (show V3.2.1 0 = _ from b3.s0 hn hs) rfl <| ?_
  have n3 := b3.1
  show At g YX7_init _ _ (pr V3 0 2 W2.1) _ _ _ _ _ _
  generalize pr V3 0 2 W2.1 = W3 at *
  refine a_aload iX7_init_41 rfl <| a_new iX7_init_42 b3.fl (by decide) <| a_dup iX7_init_45 rfl <| ?_
  refine a_callI iX7_init_46.1 okX4_init isX4_init iX7_init_46.2 (As := []) (c_X4_init (i := W3.1) vn_s rfl rfl) rfl rfl (Nat.le_of_ble_eq_true rfl) ⟨Nat.le_of_ble_eq_true rfl, Nat.le_of_ble_eq_true rfl⟩ ?_
  intro v V4 m4 l4 hp
  obtain ⟨rfl, z1, z2, z3, z4, z5⟩ := hp
  obtain ⟨b4, o4⟩ := b3.ad (f := 3) (n' := 199) hn z2 (by omega)
  have J1 : q1 (pr V4 0 3 W3.1) := K1.old o4 (by omega) (by omega)
  have J2 : q2 (pr V4 0 3 W3.1) := K2.old o4 (by omega) (by omega)
  have J3 : q3 (pr V4 0 3 W3.1) := H3.old o4 (by omega) (by omega)
  have H4 : q4 (pr V4 0 3 W3.1) := by
    rw [n3] at z2 z3 z4 z5 ⊢
    exact ⟨(z2.2.2.1 17 (by show 17 < W3.1 + 1; omega)).trans (by rw [← n3]; exact vn_s), z3, pr_s, (pr_o (by omega)).trans z4, fun j hj => ⟨(pr_o (by omega)).trans (z5 j hj).1, (z5 j hj).2.pr (by omega)⟩⟩
  refine a_putr iX7_init_49 (show V4.2.1 0 = _ from b4.s0 hn hs) rfl <| ?_
  have n4 := b4.1
  show At g YX7_init _ _ (pr V4 0 3 W3.1) _ _ _ _ _ _
  generalize pr V4 0 3 W3.1 = W4 at *
  refine a_aload iX7_init_52 rfl <| a_new iX7_init_53 b4.fl (by decide) <| a_dup iX7_init_56 rfl <| ?_
  refine a_callI iX7_init_57.1 okX3_init isX3_init iX7_init_57.2 (As := []) (c_X3_init (i := W4.1) vn_s rfl rfl) rfl rfl (Nat.le_of_ble_eq_true rfl) ⟨Nat.le_of_ble_eq_true rfl, Nat.le_of_ble_eq_true rfl⟩ ?_
  intro v V5 m5 l5 hp
  obtain ⟨rfl, z1, z2, z3, z4, z5, z6, z7, z8, z9, z10⟩ := hp
  obtain ⟨b5, o5⟩ := b4.ad (f := 4) (n' := 204) hn z2 (by omega)
  have K1 : q1 (pr V5 0 4 W4.1) := J1.old o5 (by omega) (by omega)
  have K2 : q2 (pr V5 0 4 W4.1) := J2.old o5 (by omega) (by omega)
  have K3 : q3 (pr V5 0 4 W4.1) := J3.old o5 (by omega) (by omega)
  have K4 : q4 (pr V5 0 4 W4.1) := H4.old o5 (by omega) (by omega)
  have H5 : q5 (pr V5 0 4 W4.1) := by
    rw [n4] at z2 z3 z4 z5 z6 z7 z8 z9 z10 ⊢
    exact ⟨(z2.2.2.1 199 (by show 199 < W4.1 + 1; omega)).trans (by rw [← n4]; exact vn_s), z3, z4, z5, z6, pr_s, (pr_o (by omega)).trans z7, (pr_o (by omega)).trans z8, (pr_o (by omega)).trans z9, (pr_o (by omega)).trans z10⟩
  refine a_putr iX7_init_60 (show V5.2.1 0 = _ from b5.s0 hn hs) rfl <| ?_
  have n5 := b5.1
  show At g YX7_init _ _ (pr V5 0 4 W4.1) _ _ _ _ _ _
  generalize pr V5 0 4 W4.1 = W5 at *
  refine a_aload iX7_init_63 rfl <| a_new iX7_init_64 b5.fl (by decide) <| a_dup iX7_init_67 rfl <| ?_
  refine a_callI iX7_init_68.1 okX0_init isX0_init iX7_init_68.2 (As := []) (c_X0_init (i := W5.1) vn_s rfl rfl) rfl rfl (Nat.le_of_ble_eq_true rfl) ⟨Nat.le_of_ble_eq_true rfl, Nat.le_of_ble_eq_true rfl⟩ ?_
  intro v V6 m6 l6 hp
  obtain ⟨rfl, z1, z2, z3, z4, z5, z6⟩ := hp
  obtain ⟨b6, o6⟩ := b5.ad (f := 5) (n' := 207) hn z2 (by omega)
  have J1 : q1 (pr V6 0 5 W5.1) := K1.old o6 (by omega) (by omega)
  have J2 : q2 (pr V6 0 5 W5.1) := K2.old o6 (by omega) (by omega)
  have J3 : q3 (pr V6 0 5 W5.1) := K3.old o6 (by omega) (by omega)
  have J4 : q4 (pr V6 0 5 W5.1) := K4.old o6 (by omega) (by omega)
  have J5 : q5 (pr V6 0 5 W5.1) := H5.old o6 (by omega) (by omega)
  have H6 : q6 (pr V6 0 5 W5.1) := by
    rw [n5] at z2 z3 z4 z5 z6 ⊢
    exact ⟨(z2.2.2.1 204 (by show 204 < W5.1 + 1; omega)).trans (by rw [← n5]; exact vn_s), z3, z4, pr_s, (pr_o (by omega)).trans z5, (pr_o (by omega)).trans z6⟩
  refine a_putr iX7_init_71 (show V6.2.1 0 = _ from b6.s0 hn hs) rfl <| ?_
  exact t_X7_c hn hs b6 J1 J2 J3 J4 J5 H6
