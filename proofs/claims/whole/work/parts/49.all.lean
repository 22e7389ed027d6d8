/-! 49: the whole text -/
def RES (m0 n0 : Mi) (dr L : Nat) (o1 o2 : Option (Int32 × Mi)) : Prop :=
  (∃ (mi' mj' : Mi) (q m wn sn ln : Nat), o1 = some (nI 1, mi') ∧ o2 = some (nI 1, mj') ∧ JR m0 n0 mi' mj' dr L q m wn sn ln) ∨
  ∃ (mi' mj' : Mi) (f s : Nat), o1 = some (nI 0, mi') ∧ o2 = some (nI 0, mj') ∧ BS m0 mi' dr L f s ∧ BM n0 mj' f s
def KA (_ : Int32) (mi12 : Mi) : Option (Int32 × Mi) := if (mi12 3 3) = 0 then (some (1, mi12)) else (some (0, mi12))
def KB (v1_11 : Int32) (mi11 : Mi) : Option (Int32 × Mi) := if v1_11 = 0 ∨ v1_11 = 1 then some (v1_11, mi11) else none
theorem j_all {m0 n0 : Mi} {dr L : Nat} {T : Nat → Nat} (hdr : dr = 4 ∨ dr = 210) (t : TC m0 L T) (t2 : TM n0 L T) :
    ∀ (c i n1 n2 p m wn sn ln : Nat) (mi mj : Mi), JR m0 n0 mi mj dr L p m wn sn ln → i ≤ p → L - p ≤ c → c + 1 < n1 → c + 1 < n2 →
      RES m0 n0 dr L ((f_X5_skipBlanks mi).bind (fun mi10 => lp_X5_readAll_28 dr KA n1 (nI i) mi10)) (lp_X8_readsCounty_42 KB n2 (nI 1) mj) := by
  have z0 : ¬ nI 1 = (0 : Int32) := nI_ne0 (by omega) (by omega)
  have hTT : ∀ k, k < L → T k < 256 := fun k hk => (t.2.2 k hk).2
  have hL := t.1
  intro c
  induction c with
  | zero =>
    intro i n1 n2 p m wn sn ln mi mj h hi hc h1 h2
    obtain ⟨n1, rfl⟩ : ∃ k, n1 = k + 1 := ⟨n1 - 1, by omega⟩
    obtain ⟨n2, rfl⟩ : ∃ k, n2 = k + 1 := ⟨n2 - 1, by omega⟩
    obtain ⟨a1, a2, a3, a4, a5, a6, -⟩ := id h
    have hsk := sk_le (T := T) a5
    have hq : sk L T p = L := by omega
    have J := h.mv hdr (q := L) (mj' := u2 mj 229 2 (nI L)) (FN.p (by omega) FN.rf) (u2_s2 ⟨rfl, rfl⟩) (by omega)
    have hK : KA (nI i) (u2 mi 3 2 (nI L)) = some (nI 1, u2 mi 3 2 (nI L)) := by
      unfold KA
      rw [if_pos (show (u2 mi 3 2 (nI L)) 3 3 = 0 from J.2.2.2.2.2.1)]; rfl
    refine Or.inl ⟨u2 mi 3 2 (nI L), u2 mj 229 2 (nI L), L, m, wn, sn, ln, ?_, ?_, J⟩
    · rw [c_skip (a1.tx hdr t) a3 a5, hq, Option.bind_some, lp_X5_readAll_28]
      by_cases h240 : (240 : Int32) ≤ nI i
      · rw [if_pos h240, hK]
      · rw [if_neg h240, if_pos (show (u2 mi 3 2 (nI L)) 3 3 = 0 from J.2.2.2.2.2.1), (J.1.tx hdr t).2.1, u2_s2 ⟨rfl, rfl⟩, if_pos ((nI_leI (by omega) (by omega)).2 (Nat.le_refl _)), hK]
    · rw [lp_X8_readsCounty_42, if_neg z0, m_next (a2.tx t2) a4 a5, hq, Option.bind_some, if_pos (show tl L T L = -1 from if_neg (by omega))]
      unfold KB
      rw [if_pos (show nI 1 = 0 ∨ nI 1 = 1 from Or.inr rfl)]
  | succ c ih =>
    intro i n1 n2 p m wn sn ln mi mj h hi hc h1 h2
    obtain ⟨n1, rfl⟩ : ∃ k, n1 = k + 1 := ⟨n1 - 1, by omega⟩
    obtain ⟨n2, rfl⟩ : ∃ k, n2 = k + 1 := ⟨n2 - 1, by omega⟩
    obtain ⟨a1, a2, a3, a4, a5, a6, -⟩ := id h
    have hsk := sk_le (T := T) a5
    have hss := sk_sk (T := T) a5
    have J := h.mv hdr (q := sk L T p) (mj' := u2 mj 229 2 (nI (sk L T p))) (FN.p (by omega) FN.rf) (u2_s2 ⟨rfl, rfl⟩) hsk.2
    rw [c_skip (a1.tx hdr t) a3 a5, Option.bind_some, lp_X5_readAll_28, lp_X8_readsCounty_42, if_neg z0, m_next (a2.tx t2) a4 a5, Option.bind_some]
    generalize sk L T p = q at *
    have j33 : (u2 mi 3 2 (nI q)) 3 3 = 0 := J.2.2.2.2.2.1
    have hK : KA (nI i) (u2 mi 3 2 (nI q)) = some (nI 1, u2 mi 3 2 (nI q)) := by
      unfold KA
      rw [if_pos j33]; rfl
    by_cases hq : q = L
    · subst hq
      refine Or.inl ⟨u2 mi 3 2 (nI q), u2 mj 229 2 (nI q), q, m, wn, sn, ln, ?_, ?_, J⟩
      · by_cases h240 : (240 : Int32) ≤ nI i
        · rw [if_pos h240, hK]
        · rw [if_neg h240, if_pos j33, (J.1.tx hdr t).2.1, u2_s2 ⟨rfl, rfl⟩, if_pos ((nI_leI (by omega) (by omega)).2 (Nat.le_refl _)), hK]
      · rw [if_pos (show tl q T q = -1 from if_neg (by omega))]
        unfold KB
        rw [if_pos (show nI 1 = 0 ∨ nI 1 = 1 from Or.inr rfl)]
    · have hlt : q < L := by omega
      have hTq := hTT q hlt
      have e3 : nI i + 1 = nI (i + 1) := nI_add _ 1
      rw [if_neg (show ¬ (240 : Int32) ≤ nI i from fun e => absurd ((nI_leI (a := 240) (by omega) (by omega)).1 e) (by omega)), if_pos j33, (J.1.tx hdr t).2.1, u2_s2 ⟨rfl, rfl⟩, if_neg (show ¬ nI L ≤ nI q from fun e => absurd ((nI_leI (by omega) (by omega)).1 e) (by omega)), if_neg (show ¬ tl L T q = -1 from by rw [show tl L T q = nI (T q) from if_pos hlt]; exact nI_nm (by omega))]
      dsimp only
      rcases K_clause J hdr t t2 hlt hss with ⟨mi', mj', q', m', wn', sn', ln', e1, e2, k3, k4⟩ | ⟨mi', mj', f, s, e1, e2, k3, k4⟩
      · rw [e1, Option.bind_some, e2, Option.bind_some, e3]
        exact ih (i + 1) n1 n2 q' m' wn' sn' ln' mi' mj' k3 (by omega) (by omega) (by omega) (by omega)
      · obtain ⟨mb, y1, y2⟩ := B_skip k3 hdr t
        obtain ⟨n1, rfl⟩ : ∃ k, n1 = k + 1 := ⟨n1 - 1, by omega⟩
        obtain ⟨n2, rfl⟩ : ∃ k, n2 = k + 1 := ⟨n2 - 1, by omega⟩
        have n33 : ¬ mb 3 3 = 0 := by
          obtain ⟨-, -, ⟨x1, x2, x3⟩, -⟩ := y2
          rw [x3]; exact nI_ne0 (by omega) (by omega)
        have hK2 : KA (nI (i + 1)) mb = some (nI 0, mb) := by
          unfold KA
          rw [if_neg n33]; rfl
        refine Or.inr ⟨mb, mj', f, s, ?_, ?_, y2, k4⟩
        · rw [e1, Option.bind_some, y1, Option.bind_some, e3, lp_X5_readAll_28]
          by_cases h240 : (240 : Int32) ≤ nI (i + 1)
          · rw [if_pos h240, hK2]
          · rw [if_neg h240, if_neg n33, hK2]
        · rw [e2, Option.bind_some]
          dsimp only
          rw [lp_X8_readsCounty_42, if_pos (show nI 0 = 0 from rfl)]
          unfold KB
          rw [if_pos (show nI 0 = 0 ∨ nI 0 = 1 from Or.inl rfl)]
theorem JR.start {mi mj : Mi} {dr L : Nat} (hdr : dr = 4 ∨ dr = 210) : JR mi mj (u2 (u2 (u2 (u2 (u2 (u2 (u2 (u2 (u2 (u2 (u2 mi 3 2 0) 3 3 0) 3 4 (-1)) dr 0 0) dr 1 0) dr 2 0) dr 3 0) dr 4 0) dr 5 0) dr 6 0) dr 7 0) (u2 (u2 (u2 (u2 (u2 (u2 (u2 (u2 mj 229 2 0) 229 6 0) 229 7 0) 229 8 0) 229 9 0) 229 10 0) 229 11 0) 229 12 0) dr L 0 0 0 0 0 := by
  refine ⟨?_, ?_, by simp (disch := omega) only [u2_ne2, u2_s2]; rfl, by simp (disch := omega) only [u2_ne2, u2_s2]; rfl, by omega, by simp (disch := omega) only [u2_ne2, u2_s2]; rfl, by simp (disch := omega) only [u2_ne2, u2_s2]; rfl, by omega, by omega, by omega, by omega, ⟨by simp (disch := omega) only [u2_ne2, u2_s2]; rfl, by simp (disch := omega) only [u2_ne2, u2_s2]; rfl⟩, ⟨by simp (disch := omega) only [u2_ne2, u2_s2]; rfl, by simp (disch := omega) only [u2_ne2, u2_s2]; rfl⟩, ⟨by simp (disch := omega) only [u2_ne2, u2_s2]; rfl, by simp (disch := omega) only [u2_ne2, u2_s2]; rfl⟩, ⟨by simp (disch := omega) only [u2_ne2, u2_s2]; rfl, by simp (disch := omega) only [u2_ne2, u2_s2]; rfl⟩, ⟨by simp (disch := omega) only [u2_ne2, u2_s2], by simp (disch := omega) only [u2_ne2, u2_s2], by simp (disch := omega) only [u2_ne2, u2_s2]⟩, Or.inl ⟨by simp (disch := omega) only [u2_ne2, u2_s2]; rfl, by simp (disch := omega) only [u2_ne2, u2_s2]; rfl, rfl⟩, fun k hk => absurd hk (by omega), fun k hk => absurd hk (by omega), fun k hk => absurd hk (by omega)⟩
  · exact fun i h1 h2 => by rw [u2_row (by omega), u2_row (by omega), u2_row (by omega), u2_row (by omega), u2_row (by omega), u2_row (by omega), u2_row (by omega), u2_row (by omega), u2_row (by omega), u2_row (by omega), u2_row (by omega)]
  · exact ⟨fun i h1 h2 => by rw [u2_row (by omega), u2_row (by omega), u2_row (by omega), u2_row (by omega), u2_row (by omega), u2_row (by omega), u2_row (by omega), u2_row (by omega)], fun k hk => by simp (disch := omega) only [u2_ne2, u2_s2]⟩
theorem J_read {mi mj : Mi} {dr L : Nat} {T : Nat → Nat} (hdr : dr = 4 ∨ dr = 210) (t : TC mi L T) (t2 : TM mj L T) : RES mi mj dr L (f_X5_readAll mi dr) (f_X8_readsCounty mj) := by
  have hL := t.1
  have z := j_all hdr t t2 240 0 FU FU 0 0 0 0 0 _ _ (JR.start hdr) (by omega) (by omega) (by rw [FU_eq]; omega) (by rw [FU_eq]; omega)
  unfold f_X5_readAll f_X8_readsCounty f_X1_empty
  rw [Option.bind_some]
  exact z
