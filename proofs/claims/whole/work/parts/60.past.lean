/-! 60: Past's constructor -/
theorem gr_p2 {i c f a : Nat} {V V1 : Vw} {mi m1 : Mi} {ml l1 : Ml} (h : GR i V mi ml V1 m1 l1) (hc : V.1 ≤ c) : GR i V mi ml (pr V1 c f a) m1 l1 := by
  obtain ⟨h1, h2, h3, h4, h5, h6⟩ := h
  exact ⟨h1, h2, h3, fun j hj hi => by show u2 V1.2.2.1 c f (some a) j = _; rw [u2_row (by omega)]; exact h4 j hj hi, h5, h6⟩
/-- a layout at a later time keeps an Estate that was there -/
theorem LayE.gr {i e : Nat} {V V1 : Vw} {mi m1 : Mi} {ml l1 : Ml} (h : LayE V e) (g : GR i V mi ml V1 m1 l1) (he : e + 6 ≤ V.1) (hi : e ≠ i) : LayE V1 e := by
  obtain ⟨g1, g2, g3, g4, -⟩ := g
  unfold LayE at *
  rw [g3 e (by omega), g3 (e + 1) (by omega), g3 (e + 2) (by omega), g3 (e + 3) (by omega), g3 (e + 4) (by omega), g3 (e + 5) (by omega), g4 e (by omega) hi]
  exact h
theorem LayC.gr {i e : Nat} {V V1 : Vw} {mi m1 : Mi} {ml l1 : Ml} (h : LayC V e) (g : GR i V mi ml V1 m1 l1) (he : e + 7 ≤ V.1) (hi : e ≠ i) : LayC V1 e := by
  obtain ⟨g1, g2, g3, g4, -⟩ := g
  unfold LayC at *
  rw [g3 e (by omega), g3 (e + 1) (by omega), g3 (e + 2) (by omega), g3 (e + 3) (by omega), g3 (e + 4) (by omega), g3 (e + 5) (by omega), g3 (e + 6) (by omega), g4 e (by omega) hi]
  exact h
/-- new Estate in a layout -/
theorem GR.est {V V1 : Vw} {mi m1 : Mi} {ml l1 : Ml} (hfl : V.2.2.2 = true) (p2 : GR V.1 (vn V (2, 0)) (ur mi V.1 (fun _ => 0)) (ur ml V.1 (fun _ => 0)) V1 m1 l1) (i : Nat) : GR i V mi ml V1 m1 l1 := ((GR.rf (i := i) (mi := mi) (ml := ml) hfl).new (sh := (2, 0))).then p2 (Nat.le_refl _)
def PP (V : Vw) (mi : Mi) (ml : Ml) (i j : Nat) (V1 : Vw) (m1 : Mi) (l1 : Ml) : Prop := V1.1 = i + 2 + 6 * j ∧ GR i V mi ml V1 m1 l1 ∧ V1.2.1 (i + 1) = (12, 30) ∧ V1.2.2.1 i 0 = some (i + 1) ∧ ∀ t, t < j → V1.2.2.1 (i + 1) t = some (i + 2 + 6 * t) ∧ LayE V1 (i + 2 + 6 * t)
theorem w_X4_init {g : Gm} {E : Ex} {V : Vw} {mi : Mi} {ml : Ml} {i : Nat} (hs : V.2.1 i = (4, 0)) (hn : V.1 = i + 1) : ∀ (c j : Nat) (V1 : Vw) (m1 : Mi) (l1 : Ml), j + c = 30 → PP V mi ml i j V1 m1 l1 →
    At g YX4_init E (qm g YX4_init (fun v V1 m1 l1 => v = none ∧ PP V mi ml i 30 V1 m1 l1)) V1 (1 + 6 * j, 30 + 126 * j) 15 [some (rf g i), some (.int (nI j))] [] m1 l1 := by
  intro c
  induction c with
  | zero =>
    intro j V1 m1 l1 hj hP
    have : j = 30 := by omega
    subst this
    refine a_iload iX4_init_15 rfl <| a_const iX4_init_16 <| a_icmp_ge iX4_init_18 (fun _ => ?_) (fun h => absurd ((nI_leI (a := 30) (b := 30) (by omega) (by omega)).2 (Nat.le_refl _)) h)
    exact a_vret iX4_init_40 rfl ⟨Nat.le_of_ble_eq_true rfl, Nat.le_of_ble_eq_true rfl⟩ ⟨rfl, hP⟩
  | succ c ih =>
    intro j V1 m1 l1 hj hP
    obtain ⟨p1, p2, p3, p4, p5⟩ := id hP
    have hfl : V1.2.2.2 = true := p2.2.1
    have h4 : V1.2.1 i = (4, 0) := (p2.2.2.1 i (by omega)).trans hs
    refine a_iload iX4_init_15 rfl <| a_const iX4_init_16 <| a_icmp_ge iX4_init_18 (fun h => absurd ((nI_leI (a := 30) (by omega) (by omega)).1 h) (by omega)) (fun _ => ?_)
    refine a_aload iX4_init_21 rfl <| a_getr iX4_init_22 h4 rfl p4 <| a_iload iX4_init_25 rfl <| a_new iX4_init_26 hfl ⟨show 1 + 6 * j + 1 ≤ 181 by omega, show 30 + 126 * j + 8 ≤ 3810 by omega⟩ <| a_dup iX4_init_29 rfl <| ?_
    refine a_callI iX4_init_30.1 okX2_init isX2_init iX4_init_30.2 (As := []) (c_X2_init (i := V1.1) vn_s rfl rfl) rfl rfl (Nat.le_of_ble_eq_true rfl) ⟨show 1 + 6 * j + 1 + 5 ≤ 181 by omega, show 30 + 126 * j + 8 + 118 ≤ 3810 by omega⟩ ?_
    intro v V2 m2 l2 hp
    obtain ⟨rfl, q1, q2, q3⟩ := hp
    have G := GR.est hfl q2 i
    have G2 := GR.est hfl q2 (i + 1)
    have e12 : V2.2.1 (i + 1) = (12, 30) := (G.2.2.1 (i + 1) (by omega)).trans p3
    have hin : inb (nI j) 30 := by simp (disch := omega) only [fa_lit, nI_add, pk_sub, pk_mul, nI_clamp, nI_leI, nI_ltI, nI_eq, inb, u2_s2, u2_ne2, if_pos, if_neg, Option.bind_some, nx, add_n0, cO, cN, cF, cU, true_or, or_true, if_true, if_false, not_true_eq_false, not_false_eq_true, true_and, and_true]; omega
    refine a_aast iX4_init_33 e12 (inb_vp hin) q3.1 <| ?_
    refine a_iinc iX4_init_34 rfl (by decide) rfl <| a_goto iX4_init_37 <| ?_
    have e1 : nI j + 1 = nI (j + 1) := nI_add _ 1
    have hcl : (nI j).toNatClampNeg = j := nI_clamp (by omega)
    have GA : GR i V mi ml V2 m2 l2 := by
      have := p2.then (GR.est hfl q2 (V1.1)) p2.1
      exact this
    have hPP : PP V mi ml i (j + 1) (pr V2 (i + 1) j V1.1) m2 l2 := by
      refine ⟨?_, gr_p2 GA (by omega), e12, ?_, fun t ht => ?_⟩
      · show V2.1 = i + 2 + 6 * (j + 1)
        omega
      · rw [pr_o (by omega), G2.2.2.2.1 i (by omega) (by omega)]; exact p4
      · by_cases htj : t = j
        · subst htj
          exact ⟨by rw [pr_s, p1], by rw [← p1]; exact q3.pr (by omega)⟩
        · obtain ⟨y1, y2⟩ := p5 t (by omega)
          exact ⟨by rw [pr_o (by omega), G.2.2.2.1 (i + 1) (by omega) (by omega)]; exact y1, ((y2.gr G (by omega) (by omega)).pr (by omega))⟩
    have R := ih (j + 1) (pr V2 (i + 1) j V1.1) m2 l2 (by omega) hPP
    rw [← e1] at R
    rw [hcl]
    exact R
