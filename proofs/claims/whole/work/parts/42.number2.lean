/-! 42: a number, both sides -/
def FN (mj mj' : Mi) : Prop := (∀ i, i ≠ 229 → mj' i = mj i) ∧ ∀ k, k < 2 ∨ 4 < k → mj' 229 k = mj 229 k
theorem FN.p {mj mj' : Mi} {k : Nat} {x : Int32} (hk : 2 ≤ k ∧ k ≤ 4) (h : FN mj mj') : FN mj (u2 mj' 229 k x) := ⟨fun i hi => by rw [u2_row hi]; exact h.1 i hi, fun j hj => by rw [u2_ne2 (by omega)]; exact h.2 j hj⟩
theorem FN.rf {mj : Mi} : FN mj mj := ⟨fun _ _ => rfl, fun _ _ => rfl⟩
theorem FN.tr {a b c : Mi} (h : FN a b) (g : FN b c) : FN a c := ⟨fun i hi => (g.1 i hi).trans (h.1 i hi), fun k hk => (g.2 k hk).trans (h.2 k hk)⟩
theorem j_num {mi mj : Mi} {L p : Nat} {T : Nat → Nat} (hC : TC mi L T) (hM : TM mj L T) (hp : mi 3 2 = nI p) (hq : mj 229 2 = nI p) (hl : p ≤ L) (x1 x2 : Int32) :
    ∃ n q : Nat, n < 1000 ∧ p ≤ q ∧ q ≤ L ∧
      ((f_X5_readNumber mi x1 x2 = some (nI n, u2 mi 3 2 (nI q)) ∧ p < q ∧ f_X7_isWithin (nI n) x1 x2 = some (nI 1) ∧ ∃ mj' : Mi, f_X8_readsNumber mj x1 x2 = some (nI n, mj') ∧ mj' 229 2 = nI q ∧ FN mj mj') ∨
       ∃ f s : Nat, 1 ≤ f ∧ f ≤ 2 ∧ s ≤ L ∧ f_X5_readNumber mi x1 x2 = some (nI n, ac (u2 mi 3 2 (nI q)) f s) ∧ ∃ mj' : Mi, f_X8_readsNumber mj x1 x2 = some (-nI 1, mj') ∧ mj' 229 4 = nI f ∧ mj' 229 2 = nI s ∧ FN mj mj') := by
  have hL := hC.1
  have hTT : ∀ k, k < L → T k < 256 := fun k hk => (hC.2.2 k hk).2
  have hs := sk_le (T := T) hl
  have r1 := c_skip hC hp hl
  have r2 := m_next hM hq hl
  generalize sk L T p = s at *
  have hC1 := hC.at2 2 (nI s)
  have hM1 := (hM.at2 (k := 2) (by omega) (nI s)).at2 (k := 3) (by omega) (nI s)
  have m3 : (u2 (u2 mj 229 2 (nI s)) 229 3 (nI s)) 229 2 = nI s := by rw [u2_ne2 (by omega), u2_s2 ⟨rfl, rfl⟩]
  obtain ⟨e, a, b, w1, w2, w3, w4, w5, w6, w7, w8, w9⟩ := j_digits (s := s) x1 x2 x1 x2 (L - s) s 0 0 FU FU _ _ hC1 hM1 (u2_s2 ⟨rfl, rfl⟩) m3 (by omega) (by omega) (by omega) (by omega) (fun _ => rfl) (fun _ => rfl) (fun h => by omega) (fun h => by omega) (by rw [FU_eq]; omega) (by rw [FU_eq]; omega)
  have z0 : ¬ nI 1 = (0 : Int32) := nI_ne0 (by omega) (by omega)
  have c1 : ∀ o, (if nI e = nI s then ((f_X5_accuse (u2 mi 3 2 (nI e)) 1 (nI s)).bind (fun mi22 => some (nI a, mi22))) else (if 3 < nI e - nI s then ((f_X5_accuse (u2 mi 3 2 (nI e)) 2 (nI s)).bind (fun mi15 => some (nI a, mi15))) else ((f_X7_isWithin (nI a) x1 x2).bind (fun r17 => if r17 = 0 then ((f_X5_accuse (u2 mi 3 2 (nI e)) 2 (nI s)).bind (fun mi20 => some (nI a, mi20))) else (some (nI a, u2 mi 3 2 (nI e))))))) = o → f_X5_readNumber mi x1 x2 = o := by
    intro o ho
    unfold f_X5_readNumber
    rw [r1, Option.bind_some]
    refine Eq.trans ?_ ho
    have e1 : (u2 mi 3 2 (nI s)) 3 2 = nI s := u2_s2 ⟨rfl, rfl⟩
    rw [e1]
    refine Eq.trans (w8 _) ?_
    rw [u2_u2, u2_s2 ⟨rfl, rfl⟩]
  generalize hmk : (u2 (u2 (u2 mj 229 2 (nI s)) 229 3 (nI s)) 229 2 (nI e)) = mk at w9
  have k1 : mk 229 2 = nI e := by rw [← hmk, u2_s2 ⟨rfl, rfl⟩]
  have k2 : mk 229 3 = nI s := by rw [← hmk, u2_ne2 (by omega), u2_s2 ⟨rfl, rfl⟩]
  have k3 : FN mj mk := by rw [← hmk]; exact FN.p (by omega) (FN.p (by omega) (FN.p (by omega) FN.rf))
  have c2 : ∀ o, (if 3 < nI e - nI s then ((f_X8_fails mk 2 (nI s)).bind (fun q21 => some (q21.1, q21.2))) else ((f_X8_in (nI b) x1 x2).bind (fun r22 => if r22 = 0 then ((f_X8_fails mk 2 (nI s)).bind (fun q28 => some (q28.1, q28.2))) else (some (nI b, mk))))) = o → dg L T s → f_X8_readsNumber mj x1 x2 = o := by
    intro o ho hd
    unfold f_X8_readsNumber
    rw [r2, Option.bind_some]
    rw [show f_X8_in (tl L T s) 48 57 = some (nI 1) from (tl_y hd).2.2, Option.bind_some, if_neg z0]
    have e1 : (u2 mj 229 2 (nI s)) 229 2 = nI s := u2_s2 ⟨rfl, rfl⟩
    simp only [e1]
    refine Eq.trans (w9 _) ?_
    rw [k1, k2]
    exact ho
  by_cases hd : dg L T s
  · have h1 := w3 hd
    have x0 : ¬ nI e = nI s := by rw [nI_eq (by omega) (by omega)]; omega
    have x1' : nI e - nI s = nI (e - s) := pk_sub (by omega)
    by_cases h3 : 3 < e - s
    · have x2' : (3 : Int32) < nI (e - s) := (nI_ltI (a := 3) (by omega) (by omega)).2 h3
      refine ⟨a, e, w5, by omega, w2, Or.inr ⟨2, s, by omega, by omega, by omega, c1 _ ?_, u2 (u2 mk 229 4 (nI 2)) 229 2 (nI s), c2 _ ?_ hd, ?_, ?_, ?_⟩⟩
      · rw [if_neg x0, x1', if_pos x2', show f_X5_accuse (u2 mi 3 2 (nI e)) 2 (nI s) = _ from v_ac _ 2 s, Option.bind_some]
      · rw [x1', if_pos x2', f_X8_fails, Option.bind_some]; rfl
      · rw [u2_ne2 (by omega), u2_s2 ⟨rfl, rfl⟩]
      · rw [u2_s2 ⟨rfl, rfl⟩]
      · exact FN.p (by omega) (FN.p (by omega) k3)
    · have x2' : ¬ (3 : Int32) < nI (e - s) := fun h => h3 ((nI_ltI (a := 3) (by omega) (by omega)).1 h)
      have hab := w7 (by omega)
      subst hab
      rcases in_two (nI a) x1 x2 with hi | hi
      · refine ⟨a, e, w5, by omega, w2, Or.inl ⟨c1 _ ?_, by omega, hi, mk, c2 _ ?_ hd, k1, k3⟩⟩
        · rw [if_neg x0, x1', if_neg x2', hi, Option.bind_some, if_neg z0]
        · rw [x1', if_neg x2', show f_X8_in (nI a) x1 x2 = _ from hi, Option.bind_some, if_neg z0]
      · refine ⟨a, e, w5, by omega, w2, Or.inr ⟨2, s, by omega, by omega, by omega, c1 _ ?_, u2 (u2 mk 229 4 (nI 2)) 229 2 (nI s), c2 _ ?_ hd, ?_, ?_, ?_⟩⟩
        · rw [if_neg x0, x1', if_neg x2', hi, Option.bind_some, if_pos (show nI 0 = 0 from rfl), show f_X5_accuse (u2 mi 3 2 (nI e)) 2 (nI s) = _ from v_ac _ 2 s, Option.bind_some]
        · rw [x1', if_neg x2', show f_X8_in (nI a) x1 x2 = _ from hi, Option.bind_some, if_pos (show nI 0 = 0 from rfl), f_X8_fails, Option.bind_some]; rfl
        · rw [u2_ne2 (by omega), u2_s2 ⟨rfl, rfl⟩]
        · rw [u2_s2 ⟨rfl, rfl⟩]
        · exact FN.p (by omega) (FN.p (by omega) k3)
  · have he := w4 hd
    subst he
    refine ⟨a, e, w5, by omega, w2, Or.inr ⟨1, e, by omega, by omega, by omega, c1 _ ?_, u2 (u2 (u2 mj 229 2 (nI e)) 229 4 (nI 1)) 229 2 (nI e), ?_, ?_, ?_, ?_⟩⟩
    · rw [if_pos rfl, show f_X5_accuse (u2 mi 3 2 (nI e)) 1 (nI e) = _ from v_ac _ 1 e, Option.bind_some]
    · unfold f_X8_readsNumber
      rw [r2, Option.bind_some]
      rw [show f_X8_in (tl L T e) 48 57 = some (nI 0) from (tl_n hTT hd).2, Option.bind_some, if_pos (show nI 0 = 0 from rfl)]
      have e1 : (u2 mj 229 2 (nI e)) 229 2 = nI e := u2_s2 ⟨rfl, rfl⟩
      simp only [e1]
      rw [f_X8_fails, Option.bind_some]; rfl
    · rw [u2_ne2 (by omega), u2_s2 ⟨rfl, rfl⟩]
    · rw [u2_s2 ⟨rfl, rfl⟩]
    · exact FN.p (by omega) (FN.p (by omega) (FN.p (by omega) FN.rf))
