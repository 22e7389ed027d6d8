/-! 53: county: a text without a fault -/
def cs1 (m : Mi) : Mi := u2 (u2 m 229 0 0) 229 5 (-1)
def cs2 (a : Mi) : Mi := u2 (u2 a 229 17 (a 229 6)) 229 18 ((u2 a 229 17 (a 229 6)) 229 7)
def cs3 (mi42 : Mi) : Mi := u2 (u2 (u2 mi42 229 19 (mi42 229 8)) 229 20 ((u2 mi42 229 19 (mi42 229 8)) 229 9)) 229 21 ((u2 (u2 mi42 229 19 (mi42 229 8)) 229 20 ((u2 mi42 229 19 (mi42 229 8)) 229 9)) 229 10)
def cs4 (mi44 : Mi) : Mi := u2 (u2 mi44 229 22 (mi44 229 11)) 229 23 ((u2 mi44 229 22 (mi44 229 11)) 229 12)
def cs5 (mi48 : Mi) : Mi := u2 (u2 (u2 (u2 (u2 mi48 229 28 0) 229 32 0) 229 37 0) 246 0 0) 246 1 0
theorem m_county {mj mj1 : Mi} {m wn sn : Nat} (hm : m ≤ 8) (hw : wn ≤ 10) (hs : sn ≤ 12) (e : f_X8_readsCounty mj = some (nI 1, mj1)) (e8 : mj1 229 8 = nI sn) (e9 : mj1 229 9 = nI m) (e12 : mj1 229 12 = nI wn) :
    ∃ mz : Mi, f_X8_county mj = some (nI m, mz) ∧ (∀ i, i ≠ 229 → (i < 235 ∨ 238 < i) → i ≠ 246 → mz i = mj1 i) ∧ (∀ k, k < 2 ∧ k ≠ 0 ∨ k = 29 ∨ k = 30 ∨ k = 31 → mz 229 k = mj1 229 k) ∧ mz 229 0 = nI 0 ∧ mz 229 5 = -nI 1 ∧ (mz 229 17 = mj1 229 6 ∧ mz 229 18 = mj1 229 7 ∧ mz 229 19 = nI sn ∧ mz 229 20 = nI m ∧ mz 229 21 = mj1 229 10 ∧ mz 229 22 = mj1 229 11 ∧ mz 229 23 = nI wn) ∧ (mz 229 28 = nI 0 ∧ mz 229 32 = nI 0 ∧ mz 229 37 = nI 0) ∧ (∀ i, i < 2 → mz 246 i = nI 0) ∧
      (∀ j, j < sn → mz 235 j = mj1 231 j) ∧ (∀ j, j < 3 * wn → mz 237 j = mj1 234 j) ∧ (∀ j, j < m → mz 236 j = mj1 232 j ∧ mz 238 (8 + j) = mj1 233 j) ∧ ∀ j, j < 121 → (j < 8 ∨ 8 + m ≤ j) → mz 238 j = iw j := by
  have k0 : ∀ i, i ≠ 229 → (cs4 (cs3 (cs2 (cs1 mj1)))) i = mj1 i := fun i hi => by
    unfold cs4 cs3 cs2 cs1
    rw [u2_row hi, u2_row hi, u2_row hi, u2_row hi, u2_row hi, u2_row hi, u2_row hi, u2_row hi, u2_row hi]
  have kk : ∀ k, k ≠ 0 → k ≠ 5 → k < 17 ∨ 23 < k → (cs4 (cs3 (cs2 (cs1 mj1)))) 229 k = mj1 229 k := fun k h1 h2 h3 => by
    unfold cs4 cs3 cs2 cs1; simp (disch := omega) only [u2_ne2, u2_s2]
  have f0 : (cs4 (cs3 (cs2 (cs1 mj1)))) 229 0 = nI 0 := by unfold cs4 cs3 cs2 cs1; simp (disch := omega) only [u2_ne2, u2_s2]; rfl
  have f5 : (cs4 (cs3 (cs2 (cs1 mj1)))) 229 5 = -nI 1 := by unfold cs4 cs3 cs2 cs1; simp (disch := omega) only [u2_ne2, u2_s2]; rfl
  have f17 : (cs4 (cs3 (cs2 (cs1 mj1)))) 229 17 = mj1 229 6 := by unfold cs4 cs3 cs2 cs1; simp (disch := omega) only [u2_ne2, u2_s2]
  have f18 : (cs4 (cs3 (cs2 (cs1 mj1)))) 229 18 = mj1 229 7 := by unfold cs4 cs3 cs2 cs1; simp (disch := omega) only [u2_ne2, u2_s2]
  have f19 : (cs4 (cs3 (cs2 (cs1 mj1)))) 229 19 = nI sn := by unfold cs4 cs3 cs2 cs1; simp (disch := omega) only [u2_ne2, u2_s2]; exact e8
  have f20 : (cs4 (cs3 (cs2 (cs1 mj1)))) 229 20 = nI m := by unfold cs4 cs3 cs2 cs1; simp (disch := omega) only [u2_ne2, u2_s2]; exact e9
  have f21 : (cs4 (cs3 (cs2 (cs1 mj1)))) 229 21 = mj1 229 10 := by unfold cs4 cs3 cs2 cs1; simp (disch := omega) only [u2_ne2, u2_s2]
  have f22 : (cs4 (cs3 (cs2 (cs1 mj1)))) 229 22 = mj1 229 11 := by unfold cs4 cs3 cs2 cs1; simp (disch := omega) only [u2_ne2, u2_s2]
  have f23 : (cs4 (cs3 (cs2 (cs1 mj1)))) 229 23 = nI wn := by unfold cs4 cs3 cs2 cs1; simp (disch := omega) only [u2_ne2, u2_s2]; exact e12
  obtain ⟨m1, a1, a2, a3, -⟩ := v_c96 hs (nI 1) sn FU 0 _ f19 (by omega) (by omega) (by rw [FU_eq]; omega)
  obtain ⟨m2, b1, b2, b3, -⟩ := v_c124 hw (nI 1) (3 * wn) FU 0 m1 (by rw [a2 229 (by omega)]; exact f23) (by omega) (by omega) (by rw [FU_eq]; omega)
  obtain ⟨m3, c1, c2, c3, -⟩ := v_c154 (nI 1) 121 FU 0 m2 (by omega) (by omega) (by rw [FU_eq]; omega)
  have g229 : m3 229 = (cs4 (cs3 (cs2 (cs1 mj1)))) 229 := by rw [c2 229 (by omega), b2 229 (by omega), a2 229 (by omega)]
  obtain ⟨m4, d1, d2, d3, -, d5⟩ := v_c190 hm (nI 1) m FU 0 m3 (by rw [g229]; exact f20) (by omega) (by omega) (by rw [FU_eq]; omega)
  have h229 : m4 229 = (cs4 (cs3 (cs2 (cs1 mj1)))) 229 := by rw [d2 229 (by omega) (by omega), g229]
  have hrow : ∀ i, i ≠ 229 → (i < 235 ∨ 238 < i) → m4 i = mj1 i := fun i h1 h2 => by rw [d2 i (by omega) (by omega), c2 i (by omega), b2 i (by omega), a2 i (by omega), k0 i h1]
  have z0 : ¬ nI 1 = (0 : Int32) := nI_ne0 (by omega) (by omega)
  have i0 : inb (0 : Int32) 2 := by simp (disch := omega) only [fa_lit, nI_add, pk_sub, pk_mul, nI_clamp, nI_leI, nI_ltI, nI_eq, inb, u2_s2, u2_ne2, if_pos, if_neg, Option.bind_some, nx, add_n0, cO, cN, cF, cU, true_or, or_true, if_true, if_false, not_true_eq_false, not_false_eq_true, true_and, and_true]; omega
  have i1 : inb (1 : Int32) 2 := by simp (disch := omega) only [fa_lit, nI_add, pk_sub, pk_mul, nI_clamp, nI_leI, nI_ltI, nI_eq, inb, u2_s2, u2_ne2, if_pos, if_neg, Option.bind_some, nx, add_n0, cO, cN, cF, cU, true_or, or_true, if_true, if_false, not_true_eq_false, not_false_eq_true, true_and, and_true]; omega
  have r5 : ∀ i, i ≠ 229 → i ≠ 246 → (cs5 m4) i = m4 i := fun i h1 h2 => by
    unfold cs5
    rw [u2_row h2, u2_row h2, u2_row h1, u2_row h1, u2_row h1]
  have s5 : ∀ k, k ≠ 28 → k ≠ 32 → k ≠ 37 → (cs5 m4) 229 k = (cs4 (cs3 (cs2 (cs1 mj1)))) 229 k := fun k h1 h2 h3 => by
    unfold cs5; simp (disch := omega) only [u2_ne2, u2_s2]; rw [h229]
  refine ⟨cs5 m4, ?_, fun i h1 h2 h3 => ?_, fun k hk => ?_, ?_, ?_, ⟨?_, ?_, ?_, ?_, ?_, ?_, ?_⟩, ⟨?_, ?_, ?_⟩, fun i hi => ?_, fun j hj => ?_, fun j hj => ?_, fun j hj => ?_, fun j hj h8 => ?_⟩
  · unfold f_X8_county
    rw [e, Option.bind_some, if_neg z0, if_neg z0, nx, nx]
    refine Eq.trans (a1 _) ?_
    refine Eq.trans (b1 _) ?_
    refine Eq.trans (c1 _) ?_
    refine Eq.trans (d1 _) ?_
    rw [if_pos i0, if_pos i1, nx]
    have q : (cs5 m4) 229 20 = nI m := by rw [s5 20 (by omega) (by omega) (by omega)]; exact f20
    exact congrArg (fun z => some (z, cs5 m4)) q
  · rw [r5 i h1 h3, hrow i h1 h2]
  · rw [s5 k (by omega) (by omega) (by omega), kk k (by omega) (by omega) (by omega)]
  · rw [s5 0 (by omega) (by omega) (by omega)]; exact f0
  · rw [s5 5 (by omega) (by omega) (by omega)]; exact f5
  · rw [s5 17 (by omega) (by omega) (by omega)]; exact f17
  · rw [s5 18 (by omega) (by omega) (by omega)]; exact f18
  · rw [s5 19 (by omega) (by omega) (by omega)]; exact f19
  · rw [s5 20 (by omega) (by omega) (by omega)]; exact f20
  · rw [s5 21 (by omega) (by omega) (by omega)]; exact f21
  · rw [s5 22 (by omega) (by omega) (by omega)]; exact f22
  · rw [s5 23 (by omega) (by omega) (by omega)]; exact f23
  · unfold cs5; simp (disch := omega) only [u2_ne2, u2_s2]; rfl
  · unfold cs5; simp (disch := omega) only [u2_ne2, u2_s2]; rfl
  · unfold cs5; simp (disch := omega) only [u2_ne2, u2_s2]; rfl
  · have : i = 0 ∨ i = 1 := by omega
    rcases this with rfl | rfl
    · unfold cs5; simp (disch := omega) only [u2_ne2, u2_s2]; rfl
    · unfold cs5; simp (disch := omega) only [u2_ne2, u2_s2]; rfl
  · rw [r5 235 (by omega) (by omega), d2 235 (by omega) (by omega), c2 235 (by omega), b2 235 (by omega), a3 j (by omega) hj, k0 231 (by omega)]
  · rw [r5 237 (by omega) (by omega), d2 237 (by omega) (by omega), c2 237 (by omega), b3 j (by omega) hj, a2 234 (by omega), k0 234 (by omega)]
  · obtain ⟨y1, y2⟩ := d3 j (by omega) hj
    rw [r5 236 (by omega) (by omega), r5 238 (by omega) (by omega), y1, y2, c2 232 (by omega), c2 233 (by omega), b2 232 (by omega), b2 233 (by omega), a2 232 (by omega), a2 233 (by omega), k0 232 (by omega), k0 233 (by omega)]
    exact ⟨rfl, rfl⟩
  · rw [r5 238 (by omega) (by omega), d5 j (by omega), c3 j (by omega) hj]
