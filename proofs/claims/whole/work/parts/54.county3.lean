/-! 54: county, whole -/
theorem c_good {mi mj mi1 mj1 : Mi} {ml : Ml} {ld dr m wn sn L q m' wn' sn' ln : Nat} (h : RR mi mj ml ld m wn sn) (hdr : dr = 4 ∨ dr = 210) (J : JR mi mj mi1 mj1 dr L q m' wn' sn' ln) (e : f_X8_readsCounty mj = some (nI 1, mj1)) :
    ∃ M2 mz : Mi, f_X7_startAnew (u2 (u2 mi1 1 1 0) 0 10 (mi1 3 4)) dr = some M2 ∧ f_X8_county mj = some (nI m', mz) ∧ M2 dr 5 = nI m' ∧ RR M2 mz ml dr m' wn' sn' ∧ (∀ i, 229 ≤ i → M2 i = mi i) ∧ ∀ i, i < 229 → mz i = mj i := by
  obtain ⟨d, -, -, -, -, -⟩ := h
  obtain ⟨-, -, hU, sd, s1, s2, s3⟩ := d
  obtain ⟨j1, ⟨j2, j2'⟩, -, -, -, -, j7, ⟨q1, q2, q3, q4, ⟨q5, q5'⟩, ⟨q6, q6'⟩, ⟨q7, q7'⟩, ⟨q8, q8'⟩, ⟨q9, q9', q9''⟩, q10, q11, q12, q13⟩⟩ := J
  have q10f : Unit → _ := fun _ => q10
  clear q10
  obtain ⟨mz, z1, z2, z3, z4, z5, ⟨z17, z18, z19, z20, z21, z22, z23⟩, ⟨z28, z32, z37⟩, z246, z235, z237, z236, z238⟩ := m_county q1 q2 q3 e q7' q5' q6'
  have e5 : (u2 (u2 mi1 1 1 0) 0 10 (mi1 3 4)) dr 5 = nI m' := by rw [u2_ne2 (by omega), u2_ne2 (by omega)]; exact q5
  obtain ⟨M2, a1, a2, ⟨a3, a4, a5⟩, a6, a7, a8, ⟨a9, a10⟩, a11, a12, a13⟩ := v_anew hdr q1 e5
  have g : ∀ i, (1 < i ∧ i < 11) ∨ 15 < i → i ≠ 17 → i ≠ 199 → i ≠ 204 → i ≠ 209 → M2 i = mi1 i := fun i h1 h2 h3 h4 h5 => by rw [a2 i (by omega) h2 h3 h4 h5, u2_row (by omega), u2_row (by omega)]
  have gd : ∀ k, k ≤ 6 → M2 (dr + k) = mi1 (dr + k) := fun k hk => g _ (by omega) (by omega) (by omega) (by omega) (by omega)
  have gd0 : M2 dr = mi1 dr := gd 0 (by omega)
  have g0 : M2 0 = (u2 (u2 mi1 1 1 0) 0 10 (mi1 3 4)) 0 := a2 0 (by omega) (by omega) (by omega) (by omega) (by omega)
  have g1 : M2 1 = (u2 (u2 mi1 1 1 0) 0 10 (mi1 3 4)) 1 := a2 1 (by omega) (by omega) (by omega) (by omega) (by omega)
  refine ⟨M2, mz, a1, z1, by rw [gd0]; exact q5, ⟨⟨?_, ?_, ?_, sd, s1, ?_, s3⟩, ?_, ?_, ?_, ?_, ?_⟩, fun i hi => ?_, fun i hi => ?_⟩
  · refine ⟨hdr, q1, q2, q3, ⟨by rw [gd0]; exact q5, z20⟩, ⟨by rw [gd0]; exact q6, z23⟩, ⟨by rw [gd0]; exact q7, z19⟩, ⟨by rw [z17, gd0]; exact q9, by rw [z18, gd0]; exact q9', by rw [z21, gd0]; exact q9'', by rw [z22, gd0, q8', q8]⟩, ?_, fun k hk => ?_, fun t ht => ?_, fun w hw => ?_⟩
    · rw [gd0]
      rcases q10f () with ⟨x1, x2, x3⟩ | ⟨x1, y, y1, y2, y3⟩
      · exact Or.inl ⟨x1, by rw [x2]; exact (nI_leI (a := 0) (b := 0) (by omega) (by omega)).2 (Nat.le_refl _), x3⟩
      · exact Or.inr ⟨x1, by rw [y3]; exact fun e => absurd ((nI_leI (by omega) (by omega)).1 e) (by omega)⟩
    · rw [z235 k hk, gd 1 (by omega)]; exact q11 k hk
    · obtain ⟨y1, y2, -⟩ := q12 t ht
      rw [(z236 t ht).1, gd 2 (by omega)]; exact ⟨y1, y2⟩
    · obtain ⟨y1, y2, y3, y4, y5⟩ := q13 w hw
      rw [z237 _ (by omega), z237 _ (by omega), z237 _ (by omega), gd 4 (by omega), gd 5 (by omega), gd 6 (by omega)]
      exact ⟨y1, y2, y3, y4, y5⟩
  · have w0 : ∀ j, j < 8 ∨ (40 ≤ j ∧ j < 121) → mz 238 j = nI 0 := fun j hj => by
      rw [z238 j (by omega) (by omega)]; unfold iw; rw [if_neg (by omega)]
    refine ⟨⟨0, by omega, a3, w0 0 (by omega)⟩, ⟨0, by omega, a4, w0 1 (by omega)⟩, ⟨0, by omega, a5, w0 40 (by omega), fun k hk => absurd hk (by omega)⟩, fun k hk => ?_, fun k hk => ?_, fun t ht => ?_, fun k hk => ?_⟩
    · rw [w0 (2 + k) (by omega)]; exact (a6 k hk).1.symm
    · rw [w0 (5 + k) (by omega)]; exact (a6 k hk).2.symm
    · have y := a7 t ht
      by_cases htm : t < m'
      · obtain ⟨-, -, y3, y4⟩ := q12 t htm
        have e3 : (u2 (u2 mi1 1 1 0) 0 10 (mi1 3 4)) (dr + 3) t = mi1 (dr + 3) t := by rw [u2_ne2 (by omega), u2_ne2 (by omega)]
        rw [if_pos htm, e3] at y
        have y' : M2 (11 + 3) t = mi1 (dr + 3) t := y
        rw [(z236 t htm).2, y']
        exact ⟨y3, y4⟩
      · rw [if_neg htm] at y
        have y' : M2 (11 + 3) t = nI 0 := y
        rw [y', z238 (8 + t) (by omega) (by omega)]
        unfold iw
        rw [if_neg (by omega)]
        exact ⟨rfl, 0, by omega, rfl⟩
    · have y' : M2 (11 + 4) k = -nI 1 := a8 k hk
      rw [y', z238 (16 + k) (by omega) (by omega)]
      unfold iw
      rw [if_pos (by omega)]
  · obtain ⟨-, -, u, -, -, u1, -, -, -, u2, -⟩ := hU
    exact RU.fg ⟨u, u1, by rw [z3 29 (by omega), j2' 29 (by omega)]; exact u2⟩ a9 a10 z28
  · rw [g0, u2_ne2 (by omega), u2_ne2 (by omega), j1 0 (by omega) (by omega)]; exact s2
  · exact RT.none (by rw [g1, u2_row (by omega), u2_s2 ⟨rfl, rfl⟩]; rfl) z4
  · rw [z5, g0, u2_s2 ⟨rfl, rfl⟩]; exact j7.symm
  · exact fun i hi => ⟨by rw [z246 i hi, a13 i hi], Or.inl (a13 i hi)⟩
  · exact ⟨0, by omega, a11, z32, fun k hk => absurd hk (by omega)⟩
  · exact ⟨0, by omega, a12, z37, fun k hk => absurd hk (by omega)⟩
  · rw [g i (by omega) (by omega) (by omega) (by omega) (by omega), j1 i (by omega) (by omega)]
  · rw [z2 i (by omega) (by omega) (by omega), j2 i (by omega) (by omega)]
/-- county: what the class does, in parts, and the reference's answer -/
theorem S_county {mi mj : Mi} {ml : Ml} {ld dr m wn sn : Nat} (h : RR mi mj ml ld m wn sn) (hp : (ld = 4 ∧ dr = 210) ∨ (ld = 210 ∧ dr = 4)) :
    (∃ mi1 M2 mz : Mi, ∃ m' wn' sn' : Nat, f_X5_readAll mi dr = some (nI 1, mi1) ∧ f_X7_startAnew (u2 (u2 mi1 1 1 0) 0 10 (mi1 3 4)) dr = some M2 ∧ f_X8_county mj = some (M2 dr 5, mz) ∧ RR M2 mz ml dr m' wn' sn' ∧ (∀ i, 229 ≤ i → M2 i = mi i) ∧ ∀ i, i < 229 → mz i = mj i) ∨
    ∃ mi1 mz : Mi, f_X5_readAll mi dr = some (nI 0, mi1) ∧ f_X8_county mj = some (-10 - mi1 3 3, mz) ∧ RR (u2 (u2 mi1 1 1 0) 0 10 (mi1 3 4)) mz ml ld m wn sn ∧ (∀ i, 229 ≤ i → (u2 (u2 mi1 1 1 0) 0 10 (mi1 3 4)) i = mi i) ∧ ∀ i, i < 229 → mz i = mj i := by
  have hdr : dr = 4 ∨ dr = 210 := by omega
  obtain ⟨L, T, t1, t2⟩ := h.2.1.tx
  rcases J_read hdr t1 t2 with ⟨mi1, mj1, q, m', wn', sn', ln, e1, e2, J⟩ | ⟨mi1, mj1, f, s, e1, e2, b, c⟩
  · obtain ⟨M2, mz, a1, a2, a3, a4, a5, a6⟩ := c_good h hdr J e2
    exact Or.inl ⟨mi1, M2, mz, m', wn', sn', e1, a1, by rw [a3]; exact a2, a4, a5, a6⟩
  · obtain ⟨a1, a2, a3, a4⟩ := c_bad h hp b c e2
    refine Or.inr ⟨mi1, _, e1, by rw [a2]; exact a1, by rw [a3]; exact a4, fun i hi => ?_, fun i hi => ?_⟩
    · rw [u2_row (by omega), u2_row (by omega)]; exact b.1 i (by omega) (by omega)
    · rw [u2_row (by omega), u2_row (by omega)]; exact c.1.1 i (by omega) (by omega)
