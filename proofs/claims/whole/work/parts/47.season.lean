/-! 47: seasons -/
theorem JR.season {m0 n0 mi mj : Mi} {dr L p m wn sn ln n : Nat} (h : JR m0 n0 mi mj dr L p m wn sn ln) (hdr : dr = 4 ∨ dr = 210) (hl : sn < 12) (e1 : mj 231 sn = nI n) : JR m0 n0 (u2 (u2 mi (dr + 1) sn (nI n)) dr 4 (nI (sn + 1))) (u2 mj 229 8 (nI (sn + 1))) dr L p m wn (sn + 1) ln := by
  obtain ⟨c1, c2, c3, c4, c5, c6, c7, c8⟩ := h
  obtain ⟨d1, d2, d3, d4, ⟨d5, d5'⟩, ⟨d6, d6'⟩, ⟨d7, d7'⟩, ⟨d8, d8'⟩, ⟨d9, d9', d9''⟩, d10, d11, d12, d13⟩ := c8
  have d10f : Unit → _ := fun _ => d10
  clear d10
  refine ⟨(c1.d (by omega) _ _).d (by omega) _ _, c2.s (by omega) _, by simp (disch := omega) only [u2_ne2, u2_s2]; exact c3, by simp (disch := omega) only [u2_ne2, u2_s2]; exact c4, c5, by simp (disch := omega) only [u2_ne2, u2_s2]; exact c6, by simp (disch := omega) only [u2_ne2, u2_s2]; exact c7, d1, d2, by omega, d4, ⟨by simp (disch := omega) only [u2_ne2, u2_s2]; exact d5, by simp (disch := omega) only [u2_ne2, u2_s2]; exact d5'⟩, ⟨by simp (disch := omega) only [u2_ne2, u2_s2]; exact d6, by simp (disch := omega) only [u2_ne2, u2_s2]; exact d6'⟩, ⟨by simp (disch := omega) only [u2_ne2, u2_s2], by simp (disch := omega) only [u2_ne2, u2_s2]⟩, ⟨by simp (disch := omega) only [u2_ne2, u2_s2]; exact d8, by simp (disch := omega) only [u2_ne2, u2_s2]; exact d8'⟩, ⟨by simp (disch := omega) only [u2_ne2, u2_s2]; exact d9, by simp (disch := omega) only [u2_ne2, u2_s2]; exact d9', by simp (disch := omega) only [u2_ne2, u2_s2]; exact d9''⟩, by simp (disch := omega) only [u2_ne2, u2_s2]; exact d10f (), ?_, ?_, ?_⟩
  · intro k hk
    by_cases hkm : k = sn
    · subst hkm
      simp (disch := omega) only [u2_ne2, u2_s2]
      exact e1
    · simp (disch := omega) only [u2_ne2, u2_s2]
      exact d11 k (by omega)
  · intro k hk; simp (disch := omega) only [u2_ne2, u2_s2]; exact d12 k hk
  · intro k hk; simp (disch := omega) only [u2_ne2, u2_s2]; exact d13 k hk
theorem j_tailS {m0 n0 mi mj : Mi} {dr L p m wn sn ln : Nat} {T : Nat → Nat} (h : JR m0 n0 mi mj dr L p m wn sn ln) (hdr : dr = 4 ∨ dr = 210) (t : TC m0 L T) (t2 : TM n0 L T) :
    OUT m0 n0 dr L p ((f_X5_readEnd mi).bind (fun b => some b)) ((f_X8_readsSign mj 59).bind (fun q22 => if q22.1 = 0 ∨ q22.1 = 1 then some (q22.1, q22.2) else none)) := by
  rcases j_end h hdr t t2 with ⟨mi', mj', q, e1, e2, e3, e4⟩ | ⟨mi', mj', f, s, e1, e2, e3, e4⟩
  · exact Or.inl ⟨mi', mj', q, m, wn, sn, ln, by rw [e1, Option.bind_some], by rw [e2, Option.bind_some, if_pos (show nI 1 = 0 ∨ nI 1 = 1 from Or.inr rfl)], e3, e4⟩
  · exact Or.inr ⟨mi', mj', f, s, by rw [e1, Option.bind_some], by rw [e2, Option.bind_some, if_pos (show nI 0 = 0 ∨ nI 0 = 1 from Or.inl rfl)], e3, e4⟩
theorem OUT.eq {m0 n0 : Mi} {dr L p : Nat} {o1 o1' : Option Mi} {o2 o2' : Option (Int32 × Mi)} (h : OUT m0 n0 dr L p o1 o2) (e1 : o1' = o1) (e2 : o2' = o2) : OUT m0 n0 dr L p o1' o2' := by rw [e1, e2]; exact h
theorem j_seas {m0 n0 : Mi} {dr L m wn ln : Nat} {T : Nat → Nat} (hdr : dr = 4 ∨ dr = 210) (t : TC m0 L T) (t2 : TM n0 L T) :
    ∀ (c i n1 n2 p : Nat) (mi mj : Mi), JR m0 n0 mi mj dr L p m wn i ln → i < 12 → i + c = 12 → c < n1 → c + 1 < n2 →
      OUT m0 n0 dr L p ((lp_X5_readSeasons_2 dr (fun v1_15 mi15 => some mi15) n1 (nI i) mi).bind (fun a => (f_X5_readEnd a).bind (fun b => some b))) (lp_X8_readsSeasons_2 (fun v1_18 mi18 => (f_X8_readsSign mi18 59).bind (fun q22 => if q22.1 = 0 ∨ q22.1 = 1 then some (q22.1, q22.2) else none)) n2 1 mj) := by
  intro c
  induction c with
  | zero => intro i n1 n2 p mi mj h h1 h2; omega
  | succ c ih =>
    intro i n1 n2 p mi mj h h1 h2 h3 h4
    obtain ⟨n1, rfl⟩ : ∃ k, n1 = k + 1 := ⟨n1 - 1, by omega⟩
    obtain ⟨n2, rfl⟩ : ∃ k, n2 = k + 2 := ⟨n2 - 2, by omega⟩
    obtain ⟨-, -, -, -, g1, g2⟩ := h.q
    have hTT : ∀ k, k < L → T k < 256 := fun k hk => (t.2.2 k hk).2
    have z12 : ¬ (12 : Int32) ≤ nI i := fun e => absurd ((nI_leI (a := 12) (by omega) (by omega)).1 e) (by omega)
    have z1 : ¬ (1 : Int32) = 0 := by decide
    have hb : inb (nI i) 12 := by simp (disch := omega) only [fa_lit, nI_add, pk_sub, pk_mul, nI_clamp, nI_leI, nI_ltI, nI_eq, inb, u2_s2, u2_ne2, if_pos, if_neg, Option.bind_some, nx, add_n0, cO, cN, cF, cU, true_or, or_true, if_true, if_false, not_true_eq_false, not_false_eq_true, true_and, and_true]; omega
    have hcl : (nI i).toNatClampNeg = i := nI_clamp (by omega)
    rcases j_numR h hdr t t2 0 9 with ⟨n, q1, m1, a1, a2, a3, a4, a5, a6, a7⟩ | ⟨v, mi', m1, f, s, a1, a2, a3, a4, a5⟩
    · obtain ⟨-, -, -, -, g3, g4⟩ := a5.q
      have J2 := (a5.mw (r := 231) (k := i) (nI n) (by omega)).season (n := n) hdr h1 (u2_s2 ⟨rfl, rfl⟩)
      have hadd : f_X1_addSeason (u2 mi 3 2 (nI q1)) dr (nI n) = some (u2 (u2 (u2 mi 3 2 (nI q1)) (dr + 1) i (nI n)) dr 4 (nI (i + 1))) := by
        unfold f_X1_addSeason
        simp (disch := omega) only [fa_lit, nI_add, pk_sub, pk_mul, nI_clamp, nI_leI, nI_ltI, nI_eq, inb, u2_s2, u2_ne2, if_pos, if_neg, Option.bind_some, nx, add_n0, cO, cN, cF, cU, true_or, or_true, if_true, if_false, not_true_eq_false, not_false_eq_true, true_and, and_true, g1]
      have nn := nI_nm (n := n) (by omega)
      generalize hMI : u2 (u2 (u2 mi 3 2 (nI q1)) (dr + 1) i (nI n)) dr 4 (nI (i + 1)) = MI at J2 hadd
      have hmod : ∀ k, lp_X8_readsSeasons_2 (fun v1_18 mi18 => (f_X8_readsSign mi18 59).bind (fun q22 => if q22.1 = 0 ∨ q22.1 = 1 then some (q22.1, q22.2) else none)) (k + 1) 1 mj = ((f_X8_nextLetter (u2 (u2 m1 231 i (nI n)) 229 8 (nI (i + 1)))).bind (fun q12 => if q12.1 = 44 then (if 12 ≤ (q12.2 229 8) then (lp_X8_readsSeasons_2 (fun v1_18 mi18 => (f_X8_readsSign mi18 59).bind (fun q22 => if q22.1 = 0 ∨ q22.1 = 1 then some (q22.1, q22.2) else none)) k 0 (u2 q12.2 229 2 ((q12.2 229 2) + 0))) else (lp_X8_readsSeasons_2 (fun v1_18 mi18 => (f_X8_readsSign mi18 59).bind (fun q22 => if q22.1 = 0 ∨ q22.1 = 1 then some (q22.1, q22.2) else none)) k 1 (u2 q12.2 229 2 ((q12.2 229 2) + 1)))) else (lp_X8_readsSeasons_2 (fun v1_18 mi18 => (f_X8_readsSign mi18 59).bind (fun q22 => if q22.1 = 0 ∨ q22.1 = 1 then some (q22.1, q22.2) else none)) k 0 (u2 q12.2 229 2 ((q12.2 229 2) + 0))))) := by
        intro k
        have e1 : (u2 m1 231 i (nI n)) 229 8 = nI i := by rw [u2_ne2 (by omega)]; exact g4
        have e2 : (u2 m1 231 i (nI n)) 231 i = nI n := u2_s2 ⟨rfl, rfl⟩
        have e3 : nI i + 1 = nI (i + 1) := nI_add _ 1
        rw [lp_X8_readsSeasons_2, if_neg z1, a3, Option.bind_some, g2, if_pos hb]
        simp only [hcl]
        rw [e1, if_pos hb]
        simp only [hcl]
        rw [e2, if_neg nn, e3]
      obtain ⟨b1, b2, b3, b4, b5, b6, -⟩ := id J2
      have hsk := sk_le (T := T) b5
      have hskip := c_skip (b1.tx hdr t) b3 b5
      have hnext := m_next (b2.tx t2) b4 b5
      have J3 := J2.mv hdr (mj' := u2 (u2 (u2 m1 231 i (nI n)) 229 8 (nI (i + 1))) 229 2 (nI (sk L T q1))) (FN.p (by omega) FN.rf) (u2_s2 ⟨rfl, rfl⟩) hsk.2
      rw [hmod (n2 + 1), hnext, Option.bind_some, lp_X5_readSeasons_2, if_neg z12, a2, Option.bind_some]
      dsimp only
      rw [hadd, Option.bind_some, hskip, Option.bind_some]
      generalize (u2 (u2 m1 231 i (nI n)) 229 8 (nI (i + 1))) = MJ at *
      generalize sk L T q1 = q2 at *
      rw [if_pos (show (u2 MI 3 2 (nI q2)) 3 3 = 0 by rw [u2_ne2 (by omega)]; exact b6)]
      have hM2 : (u2 MJ 229 2 (nI q2)) 229 2 = nI q2 := u2_s2 ⟨rfl, rfl⟩
      have hM8 : (u2 MJ 229 2 (nI q2)) 229 8 = nI (i + 1) := J3.q.2.2.2.2.2
      have h0 : ∀ k, lp_X8_readsSeasons_2 (fun v1_18 mi18 => (f_X8_readsSign mi18 59).bind (fun q22 => if q22.1 = 0 ∨ q22.1 = 1 then some (q22.1, q22.2) else none)) (k + 1) 0 (u2 (u2 MJ 229 2 (nI q2)) 229 2 ((u2 MJ 229 2 (nI q2)) 229 2 + 0)) = ((f_X8_readsSign (u2 MJ 229 2 (nI q2)) 59).bind (fun q22 => if q22.1 = 0 ∨ q22.1 = 1 then some (q22.1, q22.2) else none)) := by
        intro k
        rw [lp_X8_readsSeasons_2, if_pos rfl, hM2, show nI q2 + 0 = nI q2 from add_n0 _, u2_u2]
      have hTail := (j_tailS J3 hdr t t2).lt (p' := p) (by omega)
      by_cases hx : tl L T q2 = 44
      · obtain ⟨x1, x2⟩ := (tl_eq (n := 44) hTT (by omega)).1 hx
        rw [if_pos hx]
        by_cases hi : i = 11
        · subst hi
          rw [if_pos (show (12 : Int32) ≤ (u2 MJ 229 2 (nI q2)) 229 8 from by rw [hM8]; exact (nI_leI (a := 12) (by omega) (by omega)).2 (by omega)), h0, if_pos (show nI 11 = 11 from rfl), Option.bind_some]
          exact hTail
        · have J4 := J3.mv hdr (q := q2 + 1) (mj' := u2 (u2 MJ 229 2 (nI q2)) 229 2 (nI (q2 + 1))) (FN.p (by omega) FN.rf) (u2_s2 ⟨rfl, rfl⟩) (by omega)
          have R := ih (i + 1) n1 (n2 + 1) (q2 + 1) _ _ J4 (by omega) (by omega) (by omega) (by omega)
          have e3 : nI i + 1 = nI (i + 1) := nI_add _ 1
          have e4 : nI q2 + 1 = nI (q2 + 1) := nI_add _ 1
          rw [if_neg (show ¬ (12 : Int32) ≤ (u2 MJ 229 2 (nI q2)) 229 8 from by rw [hM8]; exact fun e => absurd ((nI_leI (a := 12) (by omega) (by omega)).1 e) (by omega)), hM2, e4, if_neg (show ¬ nI i = 11 from fun e => hi ((nI_eq (b := 11) (by omega) (by omega)).1 e)), u2_s2 ⟨rfl, rfl⟩, c_let (J3.1.tx hdr t) hsk.2, Option.bind_some, if_pos hx, e3, e4]
          exact R.lt (by omega)
      · rw [if_neg hx, h0]
        by_cases hi : i = 11
        · subst hi
          rw [if_pos (show nI 11 = 11 from rfl), Option.bind_some]
          exact hTail
        · rw [if_neg (show ¬ nI i = 11 from fun e => hi ((nI_eq (b := 11) (by omega) (by omega)).1 e)), u2_s2 ⟨rfl, rfl⟩, c_let (J3.1.tx hdr t) hsk.2, Option.bind_some, if_neg hx, Option.bind_some]
          exact hTail
    · have g4 : m1 229 8 = nI i := by rw [a5.2 8 (by omega)]; exact g2
      obtain ⟨ma, j1, j2⟩ := B_season a3 hdr v
      obtain ⟨mb, k1, k2⟩ := B_skip j2 hdr t
      obtain ⟨mc, l1, l2⟩ := B_end k2 hdr t
      have n33 : ¬ mb 3 3 = 0 := by
        obtain ⟨-, -, ⟨y1, y2, y3⟩, -⟩ := k2
        rw [y3]; exact nI_ne0 (by omega) (by omega)
      refine Or.inr ⟨mc, u2 m1 231 i (-nI 1), f, s, ?_, ?_, l2, a4.d (by omega) _ _⟩
      · rw [lp_X5_readSeasons_2, if_neg z12, a1, Option.bind_some]
        dsimp only
        rw [j1, Option.bind_some, k1, Option.bind_some, if_neg n33, Option.bind_some, l1, Option.bind_some]
      · have e1 : (u2 m1 231 i (-nI 1)) 229 8 = nI i := by rw [u2_ne2 (by omega)]; exact g4
        have e2 : (u2 m1 231 i (-nI 1)) 231 i = -nI 1 := u2_s2 ⟨rfl, rfl⟩
        rw [lp_X8_readsSeasons_2, if_neg z1, a2, Option.bind_some, g2, if_pos hb]
        simp only [hcl]
        rw [e1, if_pos hb]
        simp only [hcl]
        rw [e2, if_pos (show (-nI 1 : Int32) = -1 from rfl)]
        rfl
theorem K_season {m0 n0 mi mj : Mi} {dr L p m wn ln : Nat} {T : Nat → Nat} (h : JR m0 n0 mi mj dr L p m wn 0 ln) (hdr : dr = 4 ∨ dr = 210) (t : TC m0 L T) (t2 : TM n0 L T) :
    OUT m0 n0 dr L p ((f_X5_readSeasons mi dr).bind (fun a => (f_X5_readEnd a).bind (fun b => some b))) (f_X8_readsSeasons mj) :=
  j_seas hdr t t2 12 0 FU FU p mi mj h (by omega) (by omega) (by rw [FU_eq]; omega) (by rw [FU_eq]; omega)
