/-! 70: from the law's entry -/
/-- both are built: at the loop's head -/
theorem l_begin {g : Gm} {nm : String} {b Ln : Nat} {xs : Nat → Int32} (hLn : Ln ≤ 3072) : At g (YLn nm) (EL g b Ln xs) QFL (0, fun _ => (99, 0), fun _ _ => none, true) (0, 0) 0 [some (.ref b), none, none, none] [] (fun _ _ => 0) (fun _ _ => 0) := by
  refine a_new iL_law_0 rfl ⟨show 0 + 1 ≤ 600000 by omega, show 0 + 12 ≤ 7302249 by omega⟩ <| a_dup iL_law_3 rfl <| ?_
  generalize hV0 : vn ((0, fun _ => (99, 0), fun _ _ => none, true) : Vw) (7, 0) = V0
  have n0 : V0.1 = 1 := by rw [← hV0]; rfl
  have s0 : V0.2.1 0 = (7, 0) := by rw [← hV0]; exact vn_s
  have f0 : V0.2.2.2 = true := by rw [← hV0]; rfl
  generalize hm0 : ur (fun _ _ => 0 : Mi) 0 (fun _ => 0) = m0
  generalize hl0 : ur (fun _ _ => 0 : Ml) 0 (fun _ => 0) = l0
  have zm : m0 0 = fun _ => 0 := by rw [← hm0]; exact ur_s
  have zl : l0 0 = fun _ => 0 := by rw [← hl0]; exact ur_s
  refine a_callI iL_law_4.1 okX7_init isX7_init iL_law_4.2 (As := []) (c_X7_init s0 f0 n0) rfl rfl (Nat.le_of_ble_eq_true rfl) ⟨show 1 + 228 ≤ 600000 by omega, show 12 + 4664 ≤ 7302249 by omega⟩ ?_
  intro v V1 m1 l1 hp
  obtain ⟨rfl, M, b7, hA, hI, hb⟩ := hp
  have n1 := b7.1
  refine a_astore iL_law_7 (show 1 < 4 by omega) rfl <| a_new iL_law_8 b7.fl ⟨show 229 + 1 ≤ 600000 by omega, show 4676 + 43 ≤ 7302249 by omega⟩ <| a_dup iL_law_11 rfl <| ?_
  have n2 : (vn V1 (8, 0)).1 = 230 := by show V1.1 + 1 = 230; omega
  have s2 : (vn V1 (8, 0)).2.1 229 = (8, 0) := by rw [← n1]; exact vn_s
  have G2 : GR 229 V1 m1 l1 (vn V1 (8, 0)) (ur m1 V1.1 (fun _ => 0)) (ur l1 V1.1 (fun _ => 0)) := (GR.rf b7.fl).new
  have r2 : rf g V1.1 = rf g 229 := by rw [n1]
  rw [r2]
  refine a_callI iL_law_12.1 okX8_init isX8_init iL_law_12.2 (As := []) (c_X8_init s2 rfl n2) rfl rfl (Nat.le_of_ble_eq_true rfl) ⟨show 230 + 19 ≤ 600000 by omega, show 4719 + 4413 ≤ 7302249 by omega⟩ ?_
  intro v V3 m3 l3 hp
  obtain ⟨rfl, M8, b8, h8, h238⟩ := hp
  have hM : LayM V3 := b8.lay n2 s2
  obtain ⟨c1, c2, c3, c4, c5, c6⟩ := b8.2.1
  obtain ⟨d1, d2, d3, d4, d5, d6⟩ := G2
  have O : OLD 10 V1 V3 := ⟨by omega, fun j hj => (c3 j (by omega)).trans (d3 j hj), fun j hj _ _ => (c4 j (by omega) (by omega)).trans (d4 j hj (by omega)), fun q _ => by rw [c4 0 (by omega) (by omega), d4 0 (by omega) (by omega)]⟩
  have hV : LayT (V3.1, V3.2.1, V3.2.2.1, false) 210 4 := by
    refine (hA.old O (by omega) (by omega)).lay ((O.2.1 0 (by omega)).trans (b7.s0 n0 s0)) (fun j hj => ⟨?_, (hI j hj).2.old O (by omega) (by omega) (by omega)⟩)
    rw [c4 207 (by omega) (by omega), d4 207 (by omega) (by omega)]
    exact (hI j hj).1
  -- the memory
  obtain ⟨e1, e2, e3, e4, e5, e6⟩ := b7.2
  have h5 : M 210 5 = nI 0 := by rw [(e6 210 (by omega) (by omega)).1]; rfl
  obtain ⟨mb, a1, a2, a3, a4, a5, a6, a7, a8⟩ := v_begin (mi := M) (ld := 210) (m := 0) (Or.inr rfl) (by omega) h5
  rw [hb] at a1
  have emb : m1 = mb := Option.some.inj a1
  subst emb
  have lo : ∀ j, j < 229 → m3 j = m1 j := fun j hj => by
    rw [h8 j (by omega), (c5 j (by omega)).1, u2_row (by omega)]
    exact ur_ne (by omega)
  have M0 : m1 0 = u2 m0 0 10 (-1) 0 := by rw [a2 0 (by omega)]; exact (e5 0 (by omega)).1
  have hR : RR m3 m3 l3 210 0 0 0 := by
    refine RR.start ?_ ⟨?_, ?_⟩ ?_ ?_ ?_ ?_ ?_ ?_ ?_ ?_ ?_ ?_
    · intro j g1 g2 g3 g4 g5
      by_cases hj : j < 229
      · rw [lo j hj, a2 j (by omega)]; exact (e6 j (by omega) (by omega)).1
      · rw [h8 j g5]; exact (c6 j (by omega) (by have := b8.1; omega)).1
    · rw [lo 0 (by omega), M0, u2_ne2 (by omega), zm]
    · rw [lo 0 (by omega), M0, u2_s2 ⟨rfl, rfl⟩]
    · intro k hk
      rw [h8 229 (by omega), (c5 229 (by omega)).1, u2_ne2 (by omega), ← n1, ur_s]
    · rw [h8 229 (by omega), (c5 229 (by omega)).1, u2_s2 ⟨rfl, rfl⟩]
    · rw [lo 11 (by omega)]; exact a3
    · rw [lo 11 (by omega)]; exact a4
    · rw [lo 11 (by omega)]; exact a5
    · intro j hj
      rw [lo 12 (by omega), lo 13 (by omega)]; exact a6 j hj
    · intro j hj
      rw [lo 14 (by omega), a7 j hj, if_neg (by omega)]
    · intro j hj
      rw [lo 15 (by omega)]; exact a8 j hj
    · intro q
      rw [h238 q, (c6 238 (by omega) (by have := b8.1; omega)).1]
    · rw [(c5 229 (by omega)).2, ← n1, ur_s]
  refine a_astore iL_law_15 (show 2 < 4 by omega) rfl <| a_const iL_law_16 <| a_istore iL_law_17 (show 3 < 4 by omega) rfl <| a_unflag ?_
  exact l_loop hLn (Ln + 1) 0 (V3.1, V3.2.1, V3.2.2.1, false) m3 l3 210 4 0 0 0 (by omega) (by omega) hV hM (Or.inr ⟨rfl, rfl⟩) hR
