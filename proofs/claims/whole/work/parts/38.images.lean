/-! 38: keep and go back -/
theorem S_keep {mi mj : Mi} {ml : Ml} {ld m wn sn : Nat} (h : RR mi mj ml ld m wn sn) (x : Int32) : SO mi mj ml ld m wn sn (f_X7_keep mi x) (f_X8_keep mj ml x) := by
  obtain ⟨d, hT, hF, hI, hD, hB⟩ := id h
  obtain ⟨hK, hE, hU, s, s1, s2, s3⟩ := id d
  have hld := hK.1
  unfold f_X7_keep f_X8_keep
  rcases j_isImage x with ⟨a, ha, rfl, e1, e2⟩ | ⟨e1, e2⟩
  · obtain ⟨m1, y1, y2, y3⟩ := v_copy mi (e := 217 + 6 * a) (e1 := 11) (by omega)
    have c0 : (nI a).toNatClampNeg = a := nI_clamp (by omega)
    have c1 : inb (nI a) 2 := by simp (disch := omega) only [fa_lit, nI_add, pk_sub, pk_mul, nI_clamp, nI_leI, nI_ltI, nI_eq, inb, u2_s2, u2_ne2, if_pos, if_neg, Option.bind_some, nx, add_n0, cO, cN, cF, cU, true_or, or_true, if_true, if_false, not_true_eq_false, not_false_eq_true, true_and, and_true]; omega
    have g : ∀ i, i < 217 → m1 i = mi i := fun i hi => y2 i (by omega)
    have gS : (u2 (u2 m1 208 a (m1 0 11)) 209 a 1) = u2 (u2 m1 208 a (nI s)) 209 a (nI 1) := by rw [g 0 (by omega), s2]; rfl
    generalize hG : u2 (u2 (u2 (u2 m1 208 a (nI s)) 209 a (nI 1)) 17 1 (nI 0)) 17 2 (nI 0) = G
    have G1 : ∀ i, i ≠ 17 → i ≠ 208 → i ≠ 209 → G i = m1 i := fun i h1 h2 h3 => by rw [← hG, u2_row h1, u2_row h1, u2_row h3, u2_row h2]
    have G2 : G 17 2 = nI 0 ∧ G 17 1 = nI 0 ∧ G 208 a = nI s ∧ G 209 a = nI 1 := by rw [← hG]; exact ⟨by simp (disch := omega) only [fa_lit, nI_add, pk_sub, pk_mul, nI_clamp, nI_leI, nI_ltI, nI_eq, inb, u2_s2, u2_ne2, if_pos, if_neg, Option.bind_some, nx, add_n0, cO, cN, cF, cU, true_or, or_true, if_true, if_false, not_true_eq_false, not_false_eq_true, true_and, and_true], by simp (disch := omega) only [fa_lit, nI_add, pk_sub, pk_mul, nI_clamp, nI_leI, nI_ltI, nI_eq, inb, u2_s2, u2_ne2, if_pos, if_neg, Option.bind_some, nx, add_n0, cO, cN, cF, cU, true_or, or_true, if_true, if_false, not_true_eq_false, not_false_eq_true, true_and, and_true], by simp (disch := omega) only [fa_lit, nI_add, pk_sub, pk_mul, nI_clamp, nI_leI, nI_ltI, nI_eq, inb, u2_s2, u2_ne2, if_pos, if_neg, Option.bind_some, nx, add_n0, cO, cN, cF, cU, true_or, or_true, if_true, if_false, not_true_eq_false, not_false_eq_true, true_and, and_true], by simp (disch := omega) only [fa_lit, nI_add, pk_sub, pk_mul, nI_clamp, nI_leI, nI_ltI, nI_eq, inb, u2_s2, u2_ne2, if_pos, if_neg, Option.bind_some, nx, add_n0, cO, cN, cF, cU, true_or, or_true, if_true, if_false, not_true_eq_false, not_false_eq_true, true_and, and_true]⟩
    have G3 : ∀ k, k ≠ a → G 208 k = mi 208 k ∧ G 209 k = mi 209 k := fun k hk => by
      rw [← hG]
      constructor
      · rw [u2_ne2 (by omega), u2_ne2 (by omega), u2_ne2 (by omega), u2_ne2 (by omega), g 208 (by omega)]
      · rw [u2_ne2 (by omega), u2_ne2 (by omega), u2_ne2 (by omega), u2_ne2 (by omega), g 209 (by omega)]
    have G4 : ∀ i, i ≠ 17 → i < 208 ∨ 209 < i ∧ i < 217 → G i = mi i := fun i h1 h2 => by rw [G1 i h1 (by omega) (by omega), g i (by omega)]
    generalize hk : u2 (u2 mj 246 a 1) 229 28 0 = mk
    have k1 : ∀ i, i ≠ 246 → i ≠ 229 → mk i = mj i := fun i h1 h2 => by rw [← hk, u2_row h2, u2_row h1]
    have k2 : mk 229 28 = nI 0 := by rw [← hk]; exact u2_s2 ⟨rfl, rfl⟩
    have k3 : ∀ k, k ≠ 28 → mk 229 k = mj 229 k := fun k h1 => by rw [← hk, u2_ne2 (by omega), u2_ne2 (by omega)]
    have k4 : mk 246 a = nI 1 := by rw [← hk, u2_row (by omega), u2_s2 ⟨rfl, rfl⟩]; rfl
    have k5 : ∀ k, k ≠ a → mk 246 k = mj 246 k := fun k h1 => by rw [← hk, u2_ne2 (by omega), u2_ne2 (by omega)]
    generalize hM : ur mk 247 (va_cpy (mk 238) (mk 247) 0 (121 * a) 121) = M
    have M2 : ∀ i, i ≠ 247 → M i = mk i := fun i hi => by rw [← hM]; exact ur_ne hi
    have M3 : ∀ k, k < 121 → M 247 (121 * a + k) = mj 238 k := fun k hk => by rw [← hM, ur_s, cpy_i hk, Nat.zero_add, k1 238 (by omega) (by omega)]
    have M4 : ∀ k, (k < 121 * a ∨ 121 * a + 121 ≤ k) → M 247 k = mj 247 k := fun k hk => by rw [← hM, ur_s, cpy_o hk, k1 247 (by omega) (by omega)]
    refine ⟨nI 1, G, M, u2 ml 248 a (lN s), ?_, ?_, ⟨⟨?_, ?_, ?_, s, s1, ?_, ?_⟩, ?_, ?_, ?_, ?_, ?_⟩, ?_, ?_⟩
    · rw [e1, Option.bind_some, if_neg (show ¬ nI 1 = 0 from nI_ne0 (by omega) (by omega)), if_pos c1]; simp only [c0]; rw [y1, Option.bind_some, if_pos c1, if_pos c1, gS, f_X4_forget]
      exact congrArg (fun z => some (nI 1, z)) hG
    · have z := v_keepL (mj := mk) (ml := u2 ml 248 a (ml 229 31)) ha (fun v2_9 mi9 => some (1, mi9, u2 ml 248 a (ml 229 31))) 121 FU 0 (by omega) (by omega) (by rw [FU_eq]; omega)
      rw [cpy_0, hM] at z
      rw [show f_X8_in (nI a) 0 1 = some (nI 1) from e2, Option.bind_some, if_neg (show ¬ nI 1 = 0 from nI_ne0 (by omega) (by omega)), if_pos c1, if_pos c1]; simp only [c0]; rw [hk]
      refine Eq.trans z ?_
      rw [s3]; rfl
    · exact hK.to (G4 _ (by omega) (by omega)) (G4 _ (by omega) (by omega)) (G4 _ (by omega) (by omega)) (G4 _ (by omega) (by omega)) (G4 _ (by omega) (by omega)) (G4 _ (by omega) (by omega)) (fun j _ _ => by rw [M2 229 (by omega), k3 j (by omega)]) (by rw [M2 _ (by omega), k1 _ (by omega) (by omega)]) (by rw [M2 _ (by omega), k1 _ (by omega) (by omega)]) (by rw [M2 _ (by omega), k1 _ (by omega) (by omega)])
    · exact hE.to (G4 _ (by omega) (by omega)) (G4 _ (by omega) (by omega)) (G4 _ (by omega) (by omega)) (G4 _ (by omega) (by omega)) (G4 _ (by omega) (by omega)) (G4 _ (by omega) (by omega)) (fun k _ => by rw [M2 238 (by omega), k1 238 (by omega) (by omega)])
    · obtain ⟨-, -, u, -, -, u1, -, -, -, u2, -⟩ := hU
      exact RU.fg ⟨u, u1, by rw [M2 229 (by omega), k3 29 (by omega)]; exact u2⟩ G2.1 G2.2.1 (by rw [M2 229 (by omega)]; exact k2)
    · rw [G4 0 (by omega) (by omega)]; exact s2
    · rw [u2_ne2 (by omega)]; exact s3
    · exact hT.to (G4 _ (by omega) (by omega)) (G4 _ (by omega) (by omega)) (by rw [M2 229 (by omega), k3 0 (by omega)]) (by rw [M2 _ (by omega), k1 _ (by omega) (by omega)])
    · rw [G4 0 (by omega) (by omega), M2 229 (by omega), k3 5 (by omega)]; exact hF
    · intro i hi
      by_cases hia : i = a
      · subst hia
        refine ⟨by rw [M2 246 (by omega), k4, G2.2.2.2], Or.inr ⟨G2.2.2.2, ?_, s, s1, G2.2.2.1, u2_s2 ⟨rfl, rfl⟩⟩⟩
        exact (y3 _ hE).to (G1 _ (by omega) (by omega) (by omega)) (G1 _ (by omega) (by omega) (by omega)) (G1 _ (by omega) (by omega) (by omega)) (G1 _ (by omega) (by omega) (by omega)) (G1 _ (by omega) (by omega) (by omega)) (G1 _ (by omega) (by omega) (by omega)) (fun k hk => M3 k hk)
      · obtain ⟨i1, i2⟩ := hI i hi
        obtain ⟨g1, g2⟩ := G3 i hia
        have gg : ∀ j, j < 6 → G (217 + 6 * i + j) = mi (217 + 6 * i + j) := fun j hj => by rw [G1 _ (by omega) (by omega) (by omega)]; exact y2 _ (by omega)
        rw [g2, M2 246 (by omega), k5 i hia, g1, u2_ne2 (show ¬ (248 = 248 ∧ i = a) by omega)]
        exact ⟨i1, i2.elim Or.inl (fun b => Or.inr ⟨b.1, b.2.1.to (gg 0 (by omega)) (gg 1 (by omega)) (gg 2 (by omega)) (gg 3 (by omega)) (gg 4 (by omega)) (gg 5 (by omega)) (fun k hk => M4 _ (by omega)), b.2.2⟩)⟩
    · exact hD.to (by rw [G4 199 (by omega) (by omega)]) (G4 _ (by omega) (by omega)) (G4 _ (by omega) (by omega)) (G4 _ (by omega) (by omega)) (by rw [M2 229 (by omega), k3 _ (by omega)]) (by rw [M2 _ (by omega), k1 _ (by omega) (by omega)]) (by rw [M2 _ (by omega), k1 _ (by omega) (by omega)]) (by rw [M2 _ (by omega), k1 _ (by omega) (by omega)])
    · exact hB.to (by rw [G4 204 (by omega) (by omega)]) (G4 _ (by omega) (by omega)) (G4 _ (by omega) (by omega)) (by rw [M2 229 (by omega), k3 _ (by omega)]) (by rw [M2 _ (by omega), k1 _ (by omega) (by omega)]) (by rw [M2 _ (by omega), k1 _ (by omega) (by omega)])
    · intro i hi
      rw [G1 i (by omega) (by omega) (by omega)]; exact y2 i (by omega)
    · intro i hi
      rw [M2 i (by omega), k1 i (by omega) (by omega)]
  · refine SO.no h (-nI 1000000001) ?_ ?_
    · rw [e1, Option.bind_some, if_pos (show nI 0 = 0 from rfl)]; rfl
    · rw [show f_X8_in x 0 1 = some (nI 0) from e2, Option.bind_some, if_pos (show nI 0 = 0 from rfl)]; rfl
theorem S_back {mi mj : Mi} {ml : Ml} {ld m wn sn : Nat} (h : RR mi mj ml ld m wn sn) (x : Int32) : SO mi mj ml ld m wn sn (f_X7_goBack mi x) (f_X8_goBack mj ml x) := by
  obtain ⟨d, hT, hF, hI, hD, hB⟩ := id h
  obtain ⟨hK, hE, hU, -⟩ := id d
  have hld := hK.1
  unfold f_X7_goBack f_X8_goBack
  rcases j_isImage x with ⟨a, ha, rfl, e1, e2⟩ | ⟨e1, e2⟩
  · have c0 : (nI a).toNatClampNeg = a := nI_clamp (by omega)
    have c1 : inb (nI a) 2 := by simp (disch := omega) only [fa_lit, nI_add, pk_sub, pk_mul, nI_clamp, nI_leI, nI_ltI, nI_eq, inb, u2_s2, u2_ne2, if_pos, if_neg, Option.bind_some, nx, add_n0, cO, cN, cF, cU, true_or, or_true, if_true, if_false, not_true_eq_false, not_false_eq_true, true_and, and_true]; omega
    have z0 : ¬ nI 1 = (0 : Int32) := nI_ne0 (by omega) (by omega)
    obtain ⟨i1, i2⟩ := hI a ha
    rcases i2 with i2 | ⟨i2, iE, s, s1, s2, s3⟩
    · refine SO.no h (-nI 1000000003) ?_ ?_
      · rw [e1, Option.bind_some, if_neg z0, if_pos c1]; simp only [c0]; rw [if_pos (show mi 209 a = 0 from i2)]; rfl
      · rw [show f_X8_in (nI a) 0 1 = some (nI 1) from e2, Option.bind_some, if_neg z0, if_pos c1]; simp only [c0]; rw [if_pos (show mj 246 a = 0 from i1.trans i2)]; rfl
    · obtain ⟨m1, y1, y2, y3⟩ := v_copy mi (e := 11) (e1 := 217 + 6 * a) (by omega)
      have g : ∀ i, i < 11 ∨ 17 ≤ i → m1 i = mi i := fun i hi => y2 i (by omega)
      generalize hG : u2 (u2 (u2 m1 0 11 (nI s)) 17 1 (nI 0)) 17 2 (nI 0) = G
      have G1 : ∀ i, i ≠ 17 → i ≠ 0 → G i = m1 i := fun i h1 h2 => by rw [← hG, u2_row h1, u2_row h1, u2_row h2]
      have G2 : G 17 2 = nI 0 ∧ G 17 1 = nI 0 ∧ G 0 11 = nI s := by rw [← hG]; exact ⟨by simp (disch := omega) only [fa_lit, nI_add, pk_sub, pk_mul, nI_clamp, nI_leI, nI_ltI, nI_eq, inb, u2_s2, u2_ne2, if_pos, if_neg, Option.bind_some, nx, add_n0, cO, cN, cF, cU, true_or, or_true, if_true, if_false, not_true_eq_false, not_false_eq_true, true_and, and_true], by simp (disch := omega) only [fa_lit, nI_add, pk_sub, pk_mul, nI_clamp, nI_leI, nI_ltI, nI_eq, inb, u2_s2, u2_ne2, if_pos, if_neg, Option.bind_some, nx, add_n0, cO, cN, cF, cU, true_or, or_true, if_true, if_false, not_true_eq_false, not_false_eq_true, true_and, and_true], by simp (disch := omega) only [fa_lit, nI_add, pk_sub, pk_mul, nI_clamp, nI_leI, nI_ltI, nI_eq, inb, u2_s2, u2_ne2, if_pos, if_neg, Option.bind_some, nx, add_n0, cO, cN, cF, cU, true_or, or_true, if_true, if_false, not_true_eq_false, not_false_eq_true, true_and, and_true]⟩
      have G3 : ∀ k, k ≠ 11 → G 0 k = mi 0 k := fun k hk => by rw [← hG, u2_ne2 (by omega), u2_ne2 (by omega), u2_ne2 (by omega), g 0 (by omega)]
      have G4 : ∀ i, i ≠ 17 → i ≠ 0 → i < 11 ∨ 17 ≤ i → G i = mi i := fun i h1 h2 h3 => by rw [G1 i h1 h2, g i h3]
      generalize hk : u2 mj 229 28 0 = mk
      have k1 : ∀ i, i ≠ 229 → mk i = mj i := fun i h2 => by rw [← hk, u2_row h2]
      have k2 : mk 229 28 = nI 0 := by rw [← hk]; exact u2_s2 ⟨rfl, rfl⟩
      have k3 : ∀ k, k ≠ 28 → mk 229 k = mj 229 k := fun k h1 => by rw [← hk, u2_ne2 (by omega)]
      generalize hM : ur mk 238 (va_cpy (mk 247) (mk 238) (121 * a) 0 121) = M
      have M2 : ∀ i, i ≠ 238 → M i = mk i := fun i hi => by rw [← hM]; exact ur_ne hi
      have M3 : ∀ k, k < 121 → M 238 k = mj 247 (121 * a + k) := fun k hk => by
        have z := cpy_i (f := mk 247) (g := mk 238) (s := 121 * a) (d := 0) (n := 121) hk
        rw [Nat.zero_add] at z
        rw [← hM, ur_s, z, k1 247 (by omega)]
      refine ⟨nI 1, G, M, u2 ml 229 31 (lN s), ?_, ?_, ⟨⟨?_, ?_, ?_, s, s1, G2.2.2, u2_s2 ⟨rfl, rfl⟩⟩, ?_, ?_, ?_, ?_, ?_⟩, ?_, ?_⟩
      · rw [e1, Option.bind_some, if_neg z0, if_pos c1]; simp only [c0]; rw [i2, if_neg z0, if_pos c1, y1, Option.bind_some, if_pos c1, g 208 (by omega), s2, f_X4_forget]
        exact congrArg (fun z => some (nI 1, z)) hG
      · have z := v_backL (mj := mk) (ml := u2 ml 229 31 (ml 248 a)) ha (fun v2_9 mi9 => some (1, mi9, u2 ml 229 31 (ml 248 a))) 121 FU 0 (by omega) (by omega) (by rw [FU_eq]; omega)
        rw [cpy_0, hM] at z
        rw [show f_X8_in (nI a) 0 1 = some (nI 1) from e2, Option.bind_some, if_neg z0, if_pos c1]; simp only [c0]; rw [i1, i2, if_neg z0, if_pos c1]
        refine Eq.trans z ?_
        rw [s3]; rfl
      · exact hK.to (G4 _ (by omega) (by omega) (by omega)) (G4 _ (by omega) (by omega) (by omega)) (G4 _ (by omega) (by omega) (by omega)) (G4 _ (by omega) (by omega) (by omega)) (G4 _ (by omega) (by omega) (by omega)) (G4 _ (by omega) (by omega) (by omega)) (fun j _ _ => by rw [M2 229 (by omega), k3 j (by omega)]) (by rw [M2 _ (by omega), k1 _ (by omega)]) (by rw [M2 _ (by omega), k1 _ (by omega)]) (by rw [M2 _ (by omega), k1 _ (by omega)])
      · exact (y3 _ iE).to (G1 _ (by omega) (by omega)) (G1 _ (by omega) (by omega)) (G1 _ (by omega) (by omega)) (G1 _ (by omega) (by omega)) (G1 _ (by omega) (by omega)) (G1 _ (by omega) (by omega)) (fun k hk => M3 k hk)
      · obtain ⟨-, -, u, -, -, u1, -, -, -, u2, -⟩ := hU
        exact RU.fg ⟨u, u1, by rw [M2 229 (by omega), k3 29 (by omega)]; exact u2⟩ G2.1 G2.2.1 (by rw [M2 229 (by omega)]; exact k2)
      · exact hT.to (G4 _ (by omega) (by omega) (by omega)) (G4 _ (by omega) (by omega) (by omega)) (by rw [M2 229 (by omega), k3 0 (by omega)]) (by rw [M2 _ (by omega), k1 _ (by omega)])
      · rw [G3 10 (by omega), M2 229 (by omega), k3 5 (by omega)]; exact hF
      · exact hI.to (fun i _ _ => G4 _ (by omega) (by omega) (by omega)) (by rw [M2 _ (by omega), k1 _ (by omega)]) (by rw [M2 _ (by omega), k1 _ (by omega)]) (funext fun k => u2_ne2 (by omega))
      · exact hD.to (by rw [G4 199 (by omega) (by omega) (by omega)]) (G4 _ (by omega) (by omega) (by omega)) (G4 _ (by omega) (by omega) (by omega)) (G4 _ (by omega) (by omega) (by omega)) (by rw [M2 229 (by omega), k3 _ (by omega)]) (by rw [M2 _ (by omega), k1 _ (by omega)]) (by rw [M2 _ (by omega), k1 _ (by omega)]) (by rw [M2 _ (by omega), k1 _ (by omega)])
      · exact hB.to (by rw [G4 204 (by omega) (by omega) (by omega)]) (G4 _ (by omega) (by omega) (by omega)) (G4 _ (by omega) (by omega) (by omega)) (by rw [M2 229 (by omega), k3 _ (by omega)]) (by rw [M2 _ (by omega), k1 _ (by omega)]) (by rw [M2 _ (by omega), k1 _ (by omega)])
      · intro i hi
        rw [G4 i (by omega) (by omega) (by omega)]
      · intro i hi
        rw [M2 i (by omega), k1 i (by omega)]
  · refine SO.no h (-nI 1000000001) ?_ ?_
    · rw [e1, Option.bind_some, if_pos (show nI 0 = 0 from rfl)]; rfl
    · rw [show f_X8_in x 0 1 = some (nI 0) from e2, Option.bind_some, if_pos (show nI 0 = 0 from rfl)]; rfl
