/-! 32: a thing is set -/
theorem j_heir0 {mi mj : Mi} {ld m wn sn h d : Nat} (hK : RK mi mj ld m wn sn) (hx : mi ld 0 = nI 1) (h1 : h ≤ 90030) (h2 : mi 11 0 = nI h) (h3 : mj 238 0 = nI h) (d1 : d ≤ 24) (d2 : mi 11 1 = nI d) (d3 : mj 238 1 = nI d) : ∃ r : Nat, r < 3 ∧ f_X2_holderIn mi 11 ld (nI 0) = some (nI r) ∧ f_X8_heirOf mj 238 = some (nI r) := by
  obtain ⟨r, r1, r2, r3⟩ := j_alm hK h (by omega)
  unfold f_X2_holderIn f_X8_heirOf
  by_cases hd : d ≤ 0
  · refine ⟨r, r1, ?_, ?_⟩
    · simp (disch := omega) only [fa_lit, nI_add, pk_sub, pk_mul, nI_clamp, nI_leI, nI_ltI, nI_eq, inb, u2_s2, u2_ne2, if_pos, if_neg, Option.bind_some, nx, add_n0, cO, cN, cF, cU, true_or, or_true, if_true, if_false, not_true_eq_false, not_false_eq_true, true_and, and_true, hx, h2, d2, r2, Nat.add_zero]
    · simp (disch := omega) only [fa_lit, nI_add, pk_sub, pk_mul, nI_clamp, nI_leI, nI_ltI, nI_eq, inb, u2_s2, u2_ne2, if_pos, if_neg, Option.bind_some, nx, add_n0, cO, cN, cF, cU, true_or, or_true, if_true, if_false, not_true_eq_false, not_false_eq_true, true_and, and_true, h3, d3, r3]
  · refine ⟨2, by omega, ?_, ?_⟩
    · simp (disch := omega) only [fa_lit, nI_add, pk_sub, pk_mul, nI_clamp, nI_leI, nI_ltI, nI_eq, inb, u2_s2, u2_ne2, if_pos, if_neg, Option.bind_some, nx, add_n0, cO, cN, cF, cU, true_or, or_true, if_true, if_false, not_true_eq_false, not_false_eq_true, true_and, and_true, hx, h2, d2]
    · simp (disch := omega) only [fa_lit, nI_add, pk_sub, pk_mul, nI_clamp, nI_leI, nI_ltI, nI_eq, inb, u2_s2, u2_ne2, if_pos, if_neg, Option.bind_some, nx, add_n0, cO, cN, cF, cU, true_or, or_true, if_true, if_false, not_true_eq_false, not_false_eq_true, true_and, and_true, h3, d3]
/-- the log's row while it is shifted: from k down -/
def shf (w : Nat → Int32) (k : Nat) : Nat → Int32 := fun x => if 41 + k < x ∧ x < 121 then w (x - 4) else w x
theorem v_shift {mj : Mi} (x y : Int32) (K : Int32 → Mi → Option Mi) :
    ∀ (k n1 : Nat), 3 ≤ k → k ≤ 79 → k < n1 → lp_X8_sets_3 x y K n1 (nI k) (ur mj 238 (shf (mj 238) k)) = K (nI 3) (ur mj 238 (shf (mj 238) 3)) := by
  intro k
  induction k with
  | zero => intro n1 h1; omega
  | succ k ih =>
    intro n1 h1 h2 h3
    obtain ⟨n1, rfl⟩ : ∃ n, n1 = n + 1 := ⟨n1 - 1, by omega⟩
    by_cases h4 : k + 1 = 3
    · rw [h4]
      unfold lp_X8_sets_3
      rw [if_pos (show nI 3 < 4 by decide)]
    · have z := ih n1 (by omega) (by omega) (by omega)
      have hst : u2 (ur mj 238 (shf (mj 238) (k + 1))) 238 (41 + (k + 1)) (ur mj 238 (shf (mj 238) (k + 1)) 238 (41 + (k + 1) - 4)) = ur mj 238 (shf (mj 238) k) := by
        rw [ur_u2]
        congr 1
        funext q
        rw [ur_rs _ _ rfl]
        simp only [shf]
        by_cases hq : q = 41 + (k + 1)
        · subst hq
          rw [if_pos rfl, if_neg (by omega), if_pos (by omega)]
        · rw [if_neg hq]
          by_cases hq2 : 41 + (k + 1) < q ∧ q < 121
          · rw [if_pos hq2, if_pos (by omega)]
          · rw [if_neg hq2, if_neg (by omega)]
      unfold lp_X8_sets_3
      rw [if_neg (show ¬ nI (k + 1) < 4 by rw [show (4 : Int32) = nI 4 from rfl, nI_ltI (by omega) (by omega)]; omega)]
      have e1 : (41 : Int32) + nI (k + 1) = nI (41 + (k + 1)) := nI_add 41 (k + 1)
      have e2 : nI (41 + (k + 1)) - 4 = nI (41 + (k + 1) - 4) := pk_sub (a := 41 + (k + 1)) (b := 4) (by omega)
      have e3 : nI (k + 1) + -1 = nI k := pk_m1 k
      have i1 : inb (nI (41 + (k + 1))) 121 := ⟨nI_pos (by omega), by rw [nI_clamp (by omega)]; omega⟩
      have i2 : inb (nI (41 + (k + 1) - 4)) 121 := ⟨nI_pos (by omega), by rw [nI_clamp (by omega)]; omega⟩
      have t1 : (nI (41 + (k + 1))).toNatClampNeg = 41 + (k + 1) := nI_clamp (by omega)
      have t2 : (nI (41 + (k + 1) - 4)).toNatClampNeg = 41 + (k + 1) - 4 := nI_clamp (by omega)
      rw [e1, e2, e3, if_pos i1, if_pos i2, t1, t2, hst]
      exact z
theorem shf79 (mj : Mi) : ur mj 238 (shf (mj 238) 79) = mj := by
  have : shf (mj 238) 79 = mj 238 := by
    funext x; simp only [shf]; rw [if_neg (by omega)]
  rw [this, ur_self]
theorem j_set {mi mj : Mi} {ld m wn sn t v : Nat} (hK : RK mi mj ld m wn sn) (hE : RE mi 11 (mj 238)) (hx : mi ld 0 = nI 1) (ht : t < m) (hv : v < 10) :
    ∃ mi' mj' : Mi, f_X2_setThing mi 11 ld (nI t) (nI v) = some mi' ∧ f_X8_sets mj (nI t) (nI v) = some mj' ∧ RE mi' 11 (mj' 238) ∧ mi' 11 0 = mi 11 0 ∧ (∀ i, i < 11 ∨ 16 < i → mi' i = mi i) ∧ (∀ i, i ≠ 238 → mj' i = mj i) := by
  obtain ⟨⟨h, a1, a2, a3⟩, ⟨d, b1, b2, b3⟩, ⟨c, c1, c2, c3, c4⟩, p1, p2, p3, p4⟩ := id hE
  have hm := hK.2.1
  have hld := hK.1
  -- the class
  generalize hL : va_cpy (mi (11 + 5)) (mi (11 + 5)) 0 4 76 = Lg
  generalize hm3 : ur (u2 mi (11 + 3) t (nI v)) (11 + 5) Lg = m3
  have m3r : ∀ i, i ≠ 14 → i ≠ 16 → m3 i = mi i := fun i h1 h2 => by rw [← hm3, ur_ne h2, u2_row h1]
  have m3v : ∀ k, m3 14 k = if k = t then nI v else mi 14 k := fun k => by rw [← hm3, ur_ne (by omega), u2_rowS]
  have m3l : ∀ k, m3 16 k = Lg k := fun k => by rw [← hm3, ur_rs _ _ rfl]
  generalize hn3 : ur mj 238 (shf (mj 238) 3) = n3
  have n3r : ∀ i, i ≠ 238 → n3 i = mj i := fun i h1 => by rw [← hn3, ur_ne h1]
  have n3w : ∀ k, n3 238 k = shf (mj 238) 3 k := fun k => by rw [← hn3, ur_rs _ _ rfl]
  have n3a : ∀ k, k < 45 → n3 238 k = mj 238 k := fun k hk => by rw [n3w]; simp only [shf]; rw [if_neg (by omega)]
  have K3 : RK (u2 m3 (11 + 5) 0 (nI h)) (u2 n3 238 41 (nI h)) ld m wn sn := hK.now (fun i hi => by rw [u2_row (by omega), m3r i (by omega) (by omega)]) (fun i hi => by rw [u2_row hi, n3r i hi])
  obtain ⟨r, r1, r2, r3⟩ := j_heir0 (h := h) (d := d) K3 (by rw [u2_row (by omega), m3r _ (by omega) (by omega)]; exact hx) a1 (by rw [u2_row (by omega), m3r _ (by omega) (by omega)]; exact a2) (by rw [u2_ne2 (by omega), n3a 0 (by omega)]; exact a3) b1 (by rw [u2_row (by omega), m3r _ (by omega) (by omega)]; exact b2) (by rw [u2_ne2 (by omega), n3a 1 (by omega)]; exact b3)
  have hcls : f_X2_setThing mi 11 ld (nI t) (nI v) = some (u2 (u2 (u2 (u2 (u2 m3 (11 + 5) 0 (nI h)) (11 + 5) 1 (nI r)) (11 + 5) 2 (nI t)) (11 + 5) 3 (nI v)) 11 2 (nI (if c < 20 then c + 1 else 20))) := by
    unfold f_X2_setThing
    have i8 : inb (nI t) 8 := ⟨nI_pos (by omega), by rw [nI_clamp (by omega)]; omega⟩
    have tt : (nI t).toNatClampNeg = t := nI_clamp (by omega)
    have z0 : (0 : Int32).toNatClampNeg = 0 := rfl
    have z1 : (1 : Int32).toNatClampNeg = 1 := rfl
    have z2 : (2 : Int32).toNatClampNeg = 2 := rfl
    have z3 : (3 : Int32).toNatClampNeg = 3 := rfl
    have z4 : (4 : Int32).toNatClampNeg = 4 := rfl
    have z76 : (76 : Int32).toNatClampNeg = 76 := rfl
    have j0 : inb 0 80 := by decide
    have j1 : inb 1 80 := by decide
    have j2 : inb 2 80 := by decide
    have j3 : inb 3 80 := by decide
    have hr16 : (u2 mi (11 + 3) t (nI v)) (11 + 5) = mi (11 + 5) := u2_row (by omega)
    have h0 : m3 11 0 = nI h := by rw [m3r _ (by omega) (by omega)]; exact a2
    have h2 : m3 11 2 = nI c := by rw [m3r _ (by omega) (by omega)]; exact c2
    simp only [if_pos i8, if_pos j0, if_pos j1, if_pos j2, if_pos j3, tt, z0, z1, z2, z3, z4, z76, nx, hr16, hL, hm3, h0]
    rw [show f_X2_holderIn (u2 m3 (11 + 5) 0 (nI h)) 11 ld 0 = some (nI r) from r2, Option.bind_some]
    have h22 : (u2 (u2 (u2 (u2 m3 (11 + 5) 0 (nI h)) (11 + 5) 1 (nI r)) (11 + 5) 2 (nI t)) (11 + 5) 3 (nI v)) 11 2 = nI c := by
      rw [u2_ne2 (by omega), u2_ne2 (by omega), u2_ne2 (by omega), u2_ne2 (by omega)]; exact h2
    rw [h22]
    by_cases hc : c < 20
    · by_cases hc2 : c + 1 < 20
      · simp (disch := omega) only [fa_lit, nI_add, pk_sub, pk_mul, nI_clamp, nI_leI, nI_ltI, nI_eq, inb, u2_s2, u2_ne2, if_pos, if_neg, Option.bind_some, nx, add_n0, cO, cN, cF, cU, true_or, or_true, if_true, if_false, not_true_eq_false, not_false_eq_true, true_and, and_true]
      · have : c = 19 := by omega
        subst this; simp (disch := omega) only [fa_lit, nI_add, pk_sub, pk_mul, nI_clamp, nI_leI, nI_ltI, nI_eq, inb, u2_s2, u2_ne2, if_pos, if_neg, Option.bind_some, nx, add_n0, cO, cN, cF, cU, true_or, or_true, if_true, if_false, not_true_eq_false, not_false_eq_true, true_and, and_true]
    · simp (disch := omega) only [fa_lit, nI_add, pk_sub, pk_mul, nI_clamp, nI_leI, nI_ltI, nI_eq, inb, u2_s2, u2_ne2, if_pos, if_neg, Option.bind_some, nx, add_n0, cO, cN, cF, cU, true_or, or_true, if_true, if_false, not_true_eq_false, not_false_eq_true, true_and, and_true]
  have hmod : f_X8_sets mj (nI t) (nI v) = some (u2 (u2 (u2 (u2 (u2 (u2 n3 238 41 (nI h)) 238 42 (nI r)) 238 43 (nI t)) 238 44 (nI v)) 238 40 (nI (if c < 20 then c + 1 else 20))) 238 (8 + t) (nI v)) := by
    unfold f_X8_sets
    have z := v_shift (mj := mj) (nI t) (nI v) (fun v3_4 mi4 => if inb 0 121 then if inb 41 121 then (f_X8_heirOf (u2 mi4 238 (41 : Int32).toNatClampNeg (mi4 238 (0 : Int32).toNatClampNeg)) 238).bind (fun r7 => if inb 42 121 then nx (u2 (u2 mi4 238 (41 : Int32).toNatClampNeg (mi4 238 (0 : Int32).toNatClampNeg)) 238 (42 : Int32).toNatClampNeg r7) (fun mi11 => if inb 43 121 then if inb 44 121 then if inb 40 121 then if inb 40 121 then if 20 ≤ ((u2 (u2 mi11 238 (43 : Int32).toNatClampNeg (nI t)) 238 (44 : Int32).toNatClampNeg (nI v)) 238 (40 : Int32).toNatClampNeg) then (if inb 40 121 then nx (u2 (u2 (u2 mi11 238 (43 : Int32).toNatClampNeg (nI t)) 238 (44 : Int32).toNatClampNeg (nI v)) 238 (40 : Int32).toNatClampNeg (((u2 (u2 mi11 238 (43 : Int32).toNatClampNeg (nI t)) 238 (44 : Int32).toNatClampNeg (nI v)) 238 (40 : Int32).toNatClampNeg) + 0)) (fun mi19 => if inb (8 + nI t) 121 then some (u2 mi19 238 (8 + nI t).toNatClampNeg (nI v)) else none) else none) else (if inb 40 121 then nx (u2 (u2 (u2 mi11 238 (43 : Int32).toNatClampNeg (nI t)) 238 (44 : Int32).toNatClampNeg (nI v)) 238 (40 : Int32).toNatClampNeg (((u2 (u2 mi11 238 (43 : Int32).toNatClampNeg (nI t)) 238 (44 : Int32).toNatClampNeg (nI v)) 238 (40 : Int32).toNatClampNeg) + 1)) (fun mi23 => if inb (8 + nI t) 121 then some (u2 mi23 238 (8 + nI t).toNatClampNeg (nI v)) else none) else none) else none else none else none else none) else none) else none else none) 79 FU (by omega) (by omega) (by rw [FU_eq]; omega)
    rw [shf79, hn3] at z
    refine Eq.trans z ?_
    have w0 : n3 238 0 = nI h := by rw [n3a 0 (by omega)]; exact a3
    have w40 : n3 238 40 = nI c := by rw [n3a 40 (by omega)]; exact c3
    by_cases hc : c < 20
    · simp (disch := omega) only [fa_lit, nI_add, pk_sub, pk_mul, nI_clamp, nI_leI, nI_ltI, nI_eq, inb, u2_s2, u2_ne2, if_pos, if_neg, Option.bind_some, nx, add_n0, cO, cN, cF, cU, true_or, or_true, if_true, if_false, not_true_eq_false, not_false_eq_true, true_and, and_true, w0, r3, w40]
    · have hc20 : c = 20 := by omega
      subst hc20
      simp (disch := omega) only [fa_lit, nI_add, pk_sub, pk_mul, nI_clamp, nI_leI, nI_ltI, nI_eq, inb, u2_s2, u2_ne2, if_pos, if_neg, Option.bind_some, nx, add_n0, cO, cN, cF, cU, true_or, or_true, if_true, if_false, not_true_eq_false, not_false_eq_true, true_and, and_true, w0, r3, w40]
  refine ⟨_, _, hcls, hmod, ?_, ?_, fun i hi => ?_, fun i hi => ?_⟩
  · generalize hc' : (if c < 20 then c + 1 else 20) = c'
    have hcc : c' ≤ 20 ∧ c' ≤ c + 1 := by split at hc' <;> omega
    refine ⟨⟨h, a1, ?_, ?_⟩, ⟨d, b1, ?_, ?_⟩, ⟨c', hcc.1, ?_, ?_, fun k hk => ?_⟩, fun k hk => ?_, fun k hk => ?_, fun q hq => ?_, fun k hk => ?_⟩
    · simp (disch := omega) only [fa_lit, nI_add, pk_sub, pk_mul, nI_clamp, nI_leI, nI_ltI, nI_eq, inb, u2_s2, u2_ne2, if_pos, if_neg, Option.bind_some, nx, add_n0, cO, cN, cF, cU, true_or, or_true, if_true, if_false, not_true_eq_false, not_false_eq_true, true_and, and_true]; rw [m3r _ (by omega) (by omega)]; exact a2
    · simp (disch := omega) only [fa_lit, nI_add, pk_sub, pk_mul, nI_clamp, nI_leI, nI_ltI, nI_eq, inb, u2_s2, u2_ne2, if_pos, if_neg, Option.bind_some, nx, add_n0, cO, cN, cF, cU, true_or, or_true, if_true, if_false, not_true_eq_false, not_false_eq_true, true_and, and_true]; rw [n3a 0 (by omega)]; exact a3
    · simp (disch := omega) only [fa_lit, nI_add, pk_sub, pk_mul, nI_clamp, nI_leI, nI_ltI, nI_eq, inb, u2_s2, u2_ne2, if_pos, if_neg, Option.bind_some, nx, add_n0, cO, cN, cF, cU, true_or, or_true, if_true, if_false, not_true_eq_false, not_false_eq_true, true_and, and_true]; rw [m3r _ (by omega) (by omega)]; exact b2
    · simp (disch := omega) only [fa_lit, nI_add, pk_sub, pk_mul, nI_clamp, nI_leI, nI_ltI, nI_eq, inb, u2_s2, u2_ne2, if_pos, if_neg, Option.bind_some, nx, add_n0, cO, cN, cF, cU, true_or, or_true, if_true, if_false, not_true_eq_false, not_false_eq_true, true_and, and_true]; rw [n3a 1 (by omega)]; exact b3
    · simp (disch := omega) only [fa_lit, nI_add, pk_sub, pk_mul, nI_clamp, nI_leI, nI_ltI, nI_eq, inb, u2_s2, u2_ne2, if_pos, if_neg, Option.bind_some, nx, add_n0, cO, cN, cF, cU, true_or, or_true, if_true, if_false, not_true_eq_false, not_false_eq_true, true_and, and_true]
    · simp (disch := omega) only [fa_lit, nI_add, pk_sub, pk_mul, nI_clamp, nI_leI, nI_ltI, nI_eq, inb, u2_s2, u2_ne2, if_pos, if_neg, Option.bind_some, nx, add_n0, cO, cN, cF, cU, true_or, or_true, if_true, if_false, not_true_eq_false, not_false_eq_true, true_and, and_true]
    · rcases (show k = 0 ∨ k = 1 ∨ k = 2 ∨ k = 3 ∨ 4 ≤ k by omega) with rfl | rfl | rfl | rfl | hk4
      · simp (disch := omega) only [fa_lit, nI_add, pk_sub, pk_mul, nI_clamp, nI_leI, nI_ltI, nI_eq, inb, u2_s2, u2_ne2, if_pos, if_neg, Option.bind_some, nx, add_n0, cO, cN, cF, cU, true_or, or_true, if_true, if_false, not_true_eq_false, not_false_eq_true, true_and, and_true]
      · simp (disch := omega) only [fa_lit, nI_add, pk_sub, pk_mul, nI_clamp, nI_leI, nI_ltI, nI_eq, inb, u2_s2, u2_ne2, if_pos, if_neg, Option.bind_some, nx, add_n0, cO, cN, cF, cU, true_or, or_true, if_true, if_false, not_true_eq_false, not_false_eq_true, true_and, and_true]
      · simp (disch := omega) only [fa_lit, nI_add, pk_sub, pk_mul, nI_clamp, nI_leI, nI_ltI, nI_eq, inb, u2_s2, u2_ne2, if_pos, if_neg, Option.bind_some, nx, add_n0, cO, cN, cF, cU, true_or, or_true, if_true, if_false, not_true_eq_false, not_false_eq_true, true_and, and_true]
      · simp (disch := omega) only [fa_lit, nI_add, pk_sub, pk_mul, nI_clamp, nI_leI, nI_ltI, nI_eq, inb, u2_s2, u2_ne2, if_pos, if_neg, Option.bind_some, nx, add_n0, cO, cN, cF, cU, true_or, or_true, if_true, if_false, not_true_eq_false, not_false_eq_true, true_and, and_true]
      · simp (disch := omega) only [fa_lit, nI_add, pk_sub, pk_mul, nI_clamp, nI_leI, nI_ltI, nI_eq, inb, u2_s2, u2_ne2, if_pos, if_neg, Option.bind_some, nx, add_n0, cO, cN, cF, cU, true_or, or_true, if_true, if_false, not_true_eq_false, not_false_eq_true, true_and, and_true]
        rw [m3l, n3w, ← hL]
        simp only [shf, va_cpy]
        rw [if_pos (by omega), if_pos (by omega), show 41 + k - 4 = 41 + (k - 4) by omega, c4 (k - 4) (by omega), Nat.zero_add]
    · simp (disch := omega) only [fa_lit, nI_add, pk_sub, pk_mul, nI_clamp, nI_leI, nI_ltI, nI_eq, inb, u2_s2, u2_ne2, if_pos, if_neg, Option.bind_some, nx, add_n0, cO, cN, cF, cU, true_or, or_true, if_true, if_false, not_true_eq_false, not_false_eq_true, true_and, and_true]; rw [n3a _ (by omega), m3r _ (by omega) (by omega)]; exact p1 k hk
    · simp (disch := omega) only [fa_lit, nI_add, pk_sub, pk_mul, nI_clamp, nI_leI, nI_ltI, nI_eq, inb, u2_s2, u2_ne2, if_pos, if_neg, Option.bind_some, nx, add_n0, cO, cN, cF, cU, true_or, or_true, if_true, if_false, not_true_eq_false, not_false_eq_true, true_and, and_true]; rw [n3a _ (by omega), m3r _ (by omega) (by omega)]; exact p2 k hk
    · obtain ⟨q1, u, q2, q3⟩ := p3 q hq
      by_cases hqt : q = t
      · subst hqt
        refine ⟨?_, v, hv, ?_⟩
        · simp (disch := omega) only [fa_lit, nI_add, pk_sub, pk_mul, nI_clamp, nI_leI, nI_ltI, nI_eq, inb, u2_s2, u2_ne2, if_pos, if_neg, Option.bind_some, nx, add_n0, cO, cN, cF, cU, true_or, or_true, if_true, if_false, not_true_eq_false, not_false_eq_true, true_and, and_true]; rw [m3v]; simp
        · simp (disch := omega) only [fa_lit, nI_add, pk_sub, pk_mul, nI_clamp, nI_leI, nI_ltI, nI_eq, inb, u2_s2, u2_ne2, if_pos, if_neg, Option.bind_some, nx, add_n0, cO, cN, cF, cU, true_or, or_true, if_true, if_false, not_true_eq_false, not_false_eq_true, true_and, and_true]; rw [m3v]; simp
      · refine ⟨?_, u, q2, ?_⟩
        · simp (disch := omega) only [fa_lit, nI_add, pk_sub, pk_mul, nI_clamp, nI_leI, nI_ltI, nI_eq, inb, u2_s2, u2_ne2, if_pos, if_neg, Option.bind_some, nx, add_n0, cO, cN, cF, cU, true_or, or_true, if_true, if_false, not_true_eq_false, not_false_eq_true, true_and, and_true]; rw [n3a _ (by omega), m3v, if_neg hqt]; exact q1
        · simp (disch := omega) only [fa_lit, nI_add, pk_sub, pk_mul, nI_clamp, nI_leI, nI_ltI, nI_eq, inb, u2_s2, u2_ne2, if_pos, if_neg, Option.bind_some, nx, add_n0, cO, cN, cF, cU, true_or, or_true, if_true, if_false, not_true_eq_false, not_false_eq_true, true_and, and_true]; rw [m3v, if_neg hqt]; exact q3
    · simp (disch := omega) only [fa_lit, nI_add, pk_sub, pk_mul, nI_clamp, nI_leI, nI_ltI, nI_eq, inb, u2_s2, u2_ne2, if_pos, if_neg, Option.bind_some, nx, add_n0, cO, cN, cF, cU, true_or, or_true, if_true, if_false, not_true_eq_false, not_false_eq_true, true_and, and_true]; rw [n3a _ (by omega), m3r _ (by omega) (by omega)]; exact p4 k hk
  · simp (disch := omega) only [fa_lit, nI_add, pk_sub, pk_mul, nI_clamp, nI_leI, nI_ltI, nI_eq, inb, u2_s2, u2_ne2, if_pos, if_neg, Option.bind_some, nx, add_n0, cO, cN, cF, cU, true_or, or_true, if_true, if_false, not_true_eq_false, not_false_eq_true, true_and, and_true]; rw [m3r _ (by omega) (by omega)]
  · rw [u2_row (by omega), u2_row (by omega), u2_row (by omega), u2_row (by omega), u2_row (by omega)]; exact m3r i (by omega) (by omega)
  · rw [u2_row hi, u2_row hi, u2_row hi, u2_row hi, u2_row hi, u2_row hi]; exact n3r i hi
