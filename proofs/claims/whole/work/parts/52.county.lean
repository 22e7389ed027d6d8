/-! 52: county: the class starts anew; a text with a fault -/
theorem v_s20 {ld : Nat} : ∀ (c n k : Nat) (mi : Mi), 2 - k = c → k ≤ 2 → c < n → ∃ mi' : Mi, (∀ K : Int32 → Mi → Option Mi, lp_X7_startAnew_20 ld K n (nI k) mi = K (nI 2) mi') ∧ (∀ i, i ≠ 209 → mi' i = mi i) ∧ (∀ j, k ≤ j → j < 2 → mi' 209 j = nI 0) ∧ ∀ j, j < k → mi' 209 j = mi 209 j := by
  intro c
  induction c with
  | zero =>
    intro n k mi h1 h2 h3
    obtain ⟨n, rfl⟩ : ∃ q, n = q + 1 := ⟨n - 1, by omega⟩
    have : k = 2 := by omega
    subst this
    exact ⟨mi, fun K => by rw [lp_X7_startAnew_20, if_pos (show (2 : Int32) ≤ nI 2 from (nI_leI (a := 2) (by omega) (by omega)).2 (Nat.le_refl _))], fun _ _ => rfl, fun j _ _ => by omega, fun _ _ => rfl⟩
  | succ c ih =>
    intro n k mi h1 h2 h3
    obtain ⟨n, rfl⟩ : ∃ q, n = q + 1 := ⟨n - 1, by omega⟩
    obtain ⟨mi', e1, e2, e3, e4⟩ := ih n (k + 1) (u2 mi 209 k 0) (by omega) (by omega) (by omega)
    have hi : inb (nI k) 2 := by simp (disch := omega) only [fa_lit, nI_add, pk_sub, pk_mul, nI_clamp, nI_leI, nI_ltI, nI_eq, inb, u2_s2, u2_ne2, if_pos, if_neg, Option.bind_some, nx, add_n0, cO, cN, cF, cU, true_or, or_true, if_true, if_false, not_true_eq_false, not_false_eq_true, true_and, and_true]; omega
    have hc : (nI k).toNatClampNeg = k := nI_clamp (by omega)
    refine ⟨mi', fun K => ?_, fun i h => by rw [e2 i h, u2_row h], fun j g1 g2 => ?_, fun j g => ?_⟩
    · rw [lp_X7_startAnew_20, if_neg (show ¬ (2 : Int32) ≤ nI k from fun e => absurd ((nI_leI (a := 2) (by omega) (by omega)).1 e) (by omega)), if_pos hi, hc, show nI k + 1 = nI (k + 1) from nI_add _ 1]
      exact e1 K
    · by_cases hj : j = k
      · subst hj; rw [e4 j (by omega), u2_s2 ⟨rfl, rfl⟩]; rfl
      · rw [e3 j (by omega) g2]
    · rw [e4 j (by omega), u2_ne2 (by omega)]
theorem v_anew {mi : Mi} {ld m : Nat} (hld : ld = 4 ∨ ld = 210) (hm : m ≤ 8) (h5 : mi ld 5 = nI m) : ∃ mi' : Mi, f_X7_startAnew mi ld = some mi' ∧ (∀ i, (i < 11 ∨ 15 < i) → i ≠ 17 → i ≠ 199 → i ≠ 204 → i ≠ 209 → mi' i = mi i) ∧ (mi' 11 0 = nI 0 ∧ mi' 11 1 = nI 0 ∧ mi' 11 2 = nI 0) ∧ (∀ j, j < 3 → mi' 12 j = nI 0 ∧ mi' 13 j = nI 0) ∧ (∀ j, j < 8 → mi' 14 j = if j < m then mi (ld + 3) j else nI 0) ∧ (∀ j, j < 24 → mi' 15 j = -nI 1) ∧ (mi' 17 2 = nI 0 ∧ mi' 17 1 = nI 0) ∧ mi' 199 4 = nI 0 ∧ mi' 204 2 = nI 0 ∧ ∀ j, j < 2 → mi' 209 j = nI 0 := by
  obtain ⟨m1, a1, a2, a3, a4, a5, a6, a7, a8⟩ := v_begin hld hm h5
  obtain ⟨m2, b1, b2, b3, -⟩ := v_s20 (ld := ld) 2 FU 0 (u2 (u2 m1 17 1 0) 17 2 0) (by omega) (by omega) (by rw [FU_eq]; omega)
  have g : ∀ i, i ≠ 17 → i ≠ 209 → m2 i = m1 i := fun i h1 h2 => by rw [b2 i h2, u2_row h1, u2_row h1]
  have g17 : m2 17 = (u2 (u2 m1 17 1 0) 17 2 0) 17 := b2 17 (by omega)
  refine ⟨u2 (u2 m2 199 4 0) 204 2 0, ?_, fun i h1 h2 h3 h4 h5 => ?_, ⟨?_, ?_, ?_⟩, fun j hj => ?_, fun j hj => ?_, fun j hj => ?_, ⟨?_, ?_⟩, by simp (disch := omega) only [u2_ne2, u2_s2]; rfl, by simp (disch := omega) only [u2_ne2, u2_s2]; rfl, fun j hj => ?_⟩
  · unfold f_X7_startAnew f_X4_forget
    rw [a1, Option.bind_some, Option.bind_some]
    exact b1 _
  · rw [u2_row h4, u2_row h3, g i h2 h5, a2 i h1]
  · rw [u2_row (by omega), u2_row (by omega), g 11 (by omega) (by omega)]; exact a3
  · rw [u2_row (by omega), u2_row (by omega), g 11 (by omega) (by omega)]; exact a4
  · rw [u2_row (by omega), u2_row (by omega), g 11 (by omega) (by omega)]; exact a5
  · rw [u2_row (by omega), u2_row (by omega), u2_row (by omega), u2_row (by omega), g 12 (by omega) (by omega), g 13 (by omega) (by omega)]; exact a6 j hj
  · rw [u2_row (by omega), u2_row (by omega), g 14 (by omega) (by omega)]; exact a7 j hj
  · rw [u2_row (by omega), u2_row (by omega), g 15 (by omega) (by omega)]; exact a8 j hj
  · rw [u2_row (by omega), u2_row (by omega), g17]; simp (disch := omega) only [u2_ne2, u2_s2]; rfl
  · rw [u2_row (by omega), u2_row (by omega), g17]; simp (disch := omega) only [u2_ne2, u2_s2]; rfl
  · rw [u2_row (by omega), u2_row (by omega)]; exact b3 j (by omega) hj
/-- the text, for the reader -/
theorem RT.tx {mi mj : Mi} (h : RT mi mj) : ∃ (L : Nat) (T : Nat → Nat), TC mi L T ∧ TM mj L T := by
  obtain ⟨L, l1, l2, l3, l4⟩ := h
  have key : ∀ k, k < L → mi 2 k = nI (mi 2 k).toNatClampNeg ∧ (mi 2 k).toNatClampNeg < 256 := fun k hk => by
    obtain ⟨-, v, v1, v2⟩ := l4 k hk
    rw [v2, nI_clamp (by omega)]
    exact ⟨rfl, v1⟩
  exact ⟨L, fun k => (mi 2 k).toNatClampNeg, ⟨l1, l2, key⟩, ⟨l1, l3, fun k hk => ⟨(l4 k hk).1.trans (key k hk).1, (key k hk).2⟩⟩⟩
theorem RT.none {mi mj : Mi} (h1 : mi 1 1 = nI 0) (h2 : mj 229 0 = nI 0) : RT mi mj := ⟨0, by omega, h1, h2, fun k hk => absurd hk (by omega)⟩
/-- a text with a fault: the county stands -/
theorem c_bad {mi mj mi1 mj1 : Mi} {ml : Ml} {ld dr m wn sn L f s : Nat} (h : RR mi mj ml ld m wn sn) (hp : (ld = 4 ∧ dr = 210) ∨ (ld = 210 ∧ dr = 4)) (b : BS mi mi1 dr L f s) (c : BM mj mj1 f s) (e : f_X8_readsCounty mj = some (nI 0, mj1)) :
    f_X8_county mj = some (-10 - nI f, u2 (u2 mj1 229 0 0) 229 5 (nI s)) ∧ mi1 3 3 = nI f ∧ mi1 3 4 = nI s ∧ RR (u2 (u2 mi1 1 1 0) 0 10 (nI s)) (u2 (u2 mj1 229 0 0) 229 5 (nI s)) ml ld m wn sn := by
  obtain ⟨d, hT, hF, hI, hD, hB⟩ := h
  obtain ⟨b1, -, ⟨-, -, b2⟩, ⟨-, b3⟩, -⟩ := b
  obtain ⟨⟨c1, c2⟩, c3, c4⟩ := c
  have z00 : nI 0 = (0 : Int32) := rfl
  have e2 : (u2 mj1 229 0 0) 229 2 = nI s := by rw [u2_ne2 (by omega)]; exact c4
  have e4 : (u2 (u2 mj1 229 0 0) 229 5 (nI s)) 229 4 = nI f := by rw [u2_ne2 (by omega), u2_ne2 (by omega)]; exact c3
  have g : ∀ i, i ≠ 0 → i ≠ 1 → i ≠ 3 → (i < dr ∨ dr + 6 < i) → (u2 (u2 mi1 1 1 0) 0 10 (nI s)) i = mi i := fun i h1 h2 h3 h4 => by rw [u2_row h1, u2_row h2]; exact b1 i h3 h4
  have g0 : ∀ k, k ≠ 10 → (u2 (u2 mi1 1 1 0) 0 10 (nI s)) 0 k = mi 0 k := fun k hk => by rw [u2_ne2 (by omega), u2_ne2 (by omega), b1 0 (by omega) (by omega)]
  have k1 : ∀ i, i ≠ 229 → (i < 231 ∨ 234 < i) → (u2 (u2 mj1 229 0 0) 229 5 (nI s)) i = mj i := fun i h1 h2 => by rw [u2_row h1, u2_row h1]; exact c1 i h1 h2
  have k2 : ∀ k, k ≠ 0 → k ≠ 5 → (k < 2 ∨ 12 < k) → (u2 (u2 mj1 229 0 0) 229 5 (nI s)) 229 k = mj 229 k := fun k h1 h2 h3 => by rw [u2_ne2 (by omega), u2_ne2 (by omega)]; exact c2 k (by omega)
  refine ⟨?_, b2, b3, ?_, RT.none (by simp (disch := omega) only [u2_ne2, u2_s2]; rfl) (by simp (disch := omega) only [u2_ne2, u2_s2]; rfl), by simp (disch := omega) only [u2_ne2, u2_s2], ?_, ?_, ?_⟩
  · unfold f_X8_county
    rw [e, Option.bind_some, if_pos z00, if_pos z00]
    dsimp only
    rw [e2, e4]
  · obtain ⟨hK, hE, hU, sd, s1, s2, s3⟩ := d
    refine ⟨?_, ?_, ?_, sd, s1, by rw [g0 11 (by omega)]; exact s2, s3⟩
    · exact hK.to (g _ (by omega) (by omega) (by omega) (by omega)) (g _ (by omega) (by omega) (by omega) (by omega)) (g _ (by omega) (by omega) (by omega) (by omega)) (g _ (by omega) (by omega) (by omega) (by omega)) (g _ (by omega) (by omega) (by omega) (by omega)) (g _ (by omega) (by omega) (by omega) (by omega)) (fun j _ _ => k2 _ (by omega) (by omega) (by omega)) (k1 _ (by omega) (by omega)) (k1 _ (by omega) (by omega)) (k1 _ (by omega) (by omega))
    · exact hE.to (g _ (by omega) (by omega) (by omega) (by omega)) (g _ (by omega) (by omega) (by omega) (by omega)) (g _ (by omega) (by omega) (by omega) (by omega)) (g _ (by omega) (by omega) (by omega) (by omega)) (g _ (by omega) (by omega) (by omega) (by omega)) (g _ (by omega) (by omega) (by omega) (by omega)) (fun j _ => by rw [k1 238 (by omega) (by omega)])
    · exact hU.to (g _ (by omega) (by omega) (by omega) (by omega)) (fun i _ _ => g _ (by omega) (by omega) (by omega) (by omega)) (k2 _ (by omega) (by omega) (by omega)) (k2 _ (by omega) (by omega) (by omega)) (k1 _ (by omega) (by omega))
  · intro i hi
    obtain ⟨i1, i2⟩ := hI i hi
    rw [k1 246 (by omega) (by omega), k1 247 (by omega) (by omega), g 209 (by omega) (by omega) (by omega) (by omega), g 208 (by omega) (by omega) (by omega) (by omega)]
    exact ⟨i1, i2.elim Or.inl (fun b => Or.inr ⟨b.1, b.2.1.to (g _ (by omega) (by omega) (by omega) (by omega)) (g _ (by omega) (by omega) (by omega) (by omega)) (g _ (by omega) (by omega) (by omega) (by omega)) (g _ (by omega) (by omega) (by omega) (by omega)) (g _ (by omega) (by omega) (by omega) (by omega)) (g _ (by omega) (by omega) (by omega) (by omega)) (fun _ _ => rfl), b.2.2⟩)⟩
  · exact hD.to (by rw [g 199 (by omega) (by omega) (by omega) (by omega)]) (g _ (by omega) (by omega) (by omega) (by omega)) (g _ (by omega) (by omega) (by omega) (by omega)) (g _ (by omega) (by omega) (by omega) (by omega)) (k2 _ (by omega) (by omega) (by omega)) (k1 _ (by omega) (by omega)) (k1 _ (by omega) (by omega)) (k1 _ (by omega) (by omega))
  · exact hB.to (by rw [g 204 (by omega) (by omega) (by omega) (by omega)]) (g _ (by omega) (by omega) (by omega) (by omega)) (g _ (by omega) (by omega) (by omega) (by omega)) (k2 _ (by omega) (by omega) (by omega)) (k1 _ (by omega) (by omega)) (k1 _ (by omega) (by omega))
