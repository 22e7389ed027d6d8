/-! 48: a clause -/
theorem OUT.bk {m0 n0 : Mi} {dr L p : Nat} {o1 : Option Mi} {o2 : Option (Int32 × Mi)} (h : OUT m0 n0 dr L p o1 o2) : OUT m0 n0 dr L p o1 (o2.bind (fun q => if q.1 = 0 ∨ q.1 = 1 then some (q.1, q.2) else none)) := by
  rcases h with ⟨mi', mj', q, m, wn, sn, ln, e1, e2, e3, e4⟩ | ⟨mi', mj', f, s, e1, e2, e3, e4⟩
  · exact Or.inl ⟨mi', mj', q, m, wn, sn, ln, e1, by rw [e2, Option.bind_some, if_pos (show nI 1 = 0 ∨ nI 1 = 1 from Or.inr rfl)], e3, e4⟩
  · exact Or.inr ⟨mi', mj', f, s, e1, by rw [e2, Option.bind_some, if_pos (show nI 0 = 0 ∨ nI 0 = 1 from Or.inl rfl)], e3, e4⟩
/-- a fault at the word -/
theorem OUT.no {m0 n0 mi mj : Mi} {dr L p m wn sn ln : Nat} (h : JR m0 n0 mi mj dr L p m wn sn ln) (hdr : dr = 4 ∨ dr = 210) {f : Nat} (hf : 1 ≤ f ∧ f ≤ 3) : OUT m0 n0 dr L p (some (ac mi f p)) (some (nI 0, u2 (u2 (u2 mj 229 2 (nI (p + 1))) 229 4 (nI f)) 229 2 (nI p))) := by
  obtain ⟨a1, a2, a3, a4, a5, -⟩ := id h
  have b := h.bad (f := f) (s := p) (q := p) hdr hf a5 a5
  rw [u2_self _ _ _ a3] at b
  exact Or.inr ⟨_, _, f, p, rfl, rfl, b, a2.f (FN.p (by omega) (FN.p (by omega) (FN.p (by omega) FN.rf))), by rw [u2_ne2 (by omega), u2_s2 ⟨rfl, rfl⟩], u2_s2 ⟨rfl, rfl⟩⟩
theorem nqq {a b : Nat} (ha : a < 256) (hb : b < 256) (h : a ≠ b) : ¬ nI a = nI b := fun e => h ((nI_eq (by omega) (by omega)).1 e)
theorem is_word {w : Nat} (hw : w = 99 ∨ w = 115 ∨ w = 116 ∨ w = 108 ∨ w = 119) : f_X5_isWord (nI w) = some (nI 1) := by
  rcases hw with rfl | rfl | rfl | rfl | rfl <;> decide
theorem no_word {w : Nat} (hb : w < 256) (h1 : w ≠ 99) (h2 : w ≠ 115) (h3 : w ≠ 116) (h4 : w ≠ 108) (h5 : w ≠ 119) : f_X5_isWord (nI w) = some (nI 0) := by
  unfold f_X5_isWord
  rw [if_neg (show ¬ nI w = 99 from nqq (b := 99) hb (by omega) h1), if_neg (show ¬ nI w = 115 from nqq (b := 115) hb (by omega) h2), if_neg (show ¬ nI w = 116 from nqq (b := 116) hb (by omega) h3), if_neg (show ¬ nI w = 108 from nqq (b := 108) hb (by omega) h4), if_neg (show ¬ nI w = 119 from nqq (b := 119) hb (by omega) h5)]
  rfl
/-- what a clause starts from -/
theorem k_pre {m0 n0 mi mj : Mi} {dr L p m wn sn ln : Nat} {T : Nat → Nat} (h : JR m0 n0 mi mj dr L p m wn sn ln) (hdr : dr = 4 ∨ dr = 210) (t : TC m0 L T) (t2 : TM n0 L T) (hp : p < L) (hs : sk L T p = p) : f_X8_nextLetter mj = some (nI (T p), mj) ∧ f_X6_letterAt mi (nI p) = some (nI (T p)) ∧ JR m0 n0 (u2 mi 3 2 (nI (p + 1))) (u2 mj 229 2 (nI (p + 1))) dr L (p + 1) m wn sn ln := by
  obtain ⟨a1, a2, a3, a4, a5, a6, a7, a8⟩ := id h
  have hL := t.1
  have hn := m_next (a2.tx t2) a4 a5
  rw [hs, u2_self _ _ _ a4, show tl L T p = nI (T p) from if_pos hp] at hn
  have hl := c_let (a1.tx hdr t) a5
  rw [show tl L T p = nI (T p) from if_pos hp] at hl
  exact ⟨hn, hl, h.mv hdr (FN.p (by omega) FN.rf) (u2_s2 ⟨rfl, rfl⟩) (by omega)⟩
theorem fl (M : Mi) (f s : Int32) : f_X8_fails M f s = some (-1, u2 (u2 M 229 4 f) 229 2 s) := rfl
theorem k99_n {m0 n0 mi mj : Mi} {dr L p m wn sn ln : Nat} {T : Nat → Nat} (h : JR m0 n0 mi mj dr L p m wn sn ln) (hdr : dr = 4 ∨ dr = 210) (t : TC m0 L T) (t2 : TM n0 L T) (hp : p < L) (hs : sk L T p = p) (hw : T p = 99) (x1 : mi dr 0 = nI 0) : OUT m0 n0 dr L p (f_X5_readClause mi dr) (f_X8_readsClause mj) := by
  obtain ⟨hn, hl, J⟩ := k_pre h hdr t t2 hp hs
  rw [hw] at hn hl
  obtain ⟨a1, a2, a3, a4, a5, a6, a7, a8⟩ := id h
  obtain ⟨d1, d2, d3, d4, ⟨d5, d5'⟩, ⟨d6, d6'⟩, ⟨d7, d7'⟩, ⟨d8, d8'⟩, ⟨d9, d9', d9''⟩, d10, d11, d12, d13⟩ := a8
  clear d11 d12 d13
  have z0 : ¬ nI 1 = (0 : Int32) := nI_ne0 (by omega) (by omega)
  have z00 : nI 0 = (0 : Int32) := rfl
  have isw99 : f_X5_isWord (nI 99) = some (nI 1) := is_word (by omega)
  have v1 : f_X5_accuse mi 1 (nI p) = some (ac mi 1 p) := v_ac _ 1 _
  have v3 : f_X5_accuse mi 3 (nI p) = some (ac mi 3 p) := v_ac _ 3 _
  have e1p : nI p + 1 = nI (p + 1) := nI_add _ 1
  have nq : ∀ a b : Nat, a < 256 → b < 256 → a ≠ b → ¬ nI a = nI b := fun a b => nqq
  have h7 : (u2 mj 229 2 (nI (p + 1))) 229 7 = 0 := by
    rw [u2_ne2 (by omega), d9']
    rcases d10 with ⟨-, y, -⟩ | ⟨y, -⟩
    · exact y
    · rw [x1] at y; exact absurd y.symm z0
  clear d10
  have rm : f_X1_hasRoomFor mi dr (nI 99) = some (nI 1) := by unfold f_X1_hasRoomFor; rw [if_pos (show nI 99 = 99 from rfl), if_pos (show mi dr 0 = 0 from x1)]; rfl
  have ea : mj 229 2 + 1 = nI (p + 1) := by rw [a4]; exact nI_add _ 1
  rw [← ea] at h7
  unfold f_X5_readClause f_X8_readsClause
  rw [a3, hl, Option.bind_some, isw99, Option.bind_some, if_neg z0, if_pos (show mi dr 0 = 0 from x1), if_pos (show nI 99 = 99 from rfl), rm, Option.bind_some, if_neg z0, if_pos (show nI 99 = 99 from rfl), e1p]
  rw [hn, Option.bind_some]
  rw [if_pos (show nI 99 = 99 from rfl), if_pos h7]
  dsimp only
  rw [ea]
  exact (K_day J hdr t t2).bk.lt (by omega)
theorem k99_yf {m0 n0 mi mj : Mi} {dr L p m wn sn ln : Nat} {T : Nat → Nat} (h : JR m0 n0 mi mj dr L p m wn sn ln) (hdr : dr = 4 ∨ dr = 210) (t : TC m0 L T) (t2 : TM n0 L T) (hp : p < L) (hs : sk L T p = p) (hw : T p = 99) (x1 : mi dr 0 = nI 1) : OUT m0 n0 dr L p (f_X5_readClause mi dr) (f_X8_readsClause mj) := by
  obtain ⟨hn, hl, J⟩ := k_pre h hdr t t2 hp hs
  rw [hw] at hn hl
  obtain ⟨a1, a2, a3, a4, a5, a6, a7, a8⟩ := id h
  obtain ⟨d1, d2, d3, d4, ⟨d5, d5'⟩, ⟨d6, d6'⟩, ⟨d7, d7'⟩, ⟨d8, d8'⟩, ⟨d9, d9', d9''⟩, d10, d11, d12, d13⟩ := a8
  clear d11 d12 d13
  have z0 : ¬ nI 1 = (0 : Int32) := nI_ne0 (by omega) (by omega)
  have z00 : nI 0 = (0 : Int32) := rfl
  have isw99 : f_X5_isWord (nI 99) = some (nI 1) := is_word (by omega)
  have v1 : f_X5_accuse mi 1 (nI p) = some (ac mi 1 p) := v_ac _ 1 _
  have v3 : f_X5_accuse mi 3 (nI p) = some (ac mi 3 p) := v_ac _ 3 _
  have e1p : nI p + 1 = nI (p + 1) := nI_add _ 1
  have nq : ∀ a b : Nat, a < 256 → b < 256 → a ≠ b → ¬ nI a = nI b := fun a b => nqq
  have x1n : ¬ mi dr 0 = 0 := by rw [x1]; exact z0
  have h7 : ¬ (u2 mj 229 2 (nI (p + 1))) 229 7 = 0 := by
    rw [u2_ne2 (by omega), d9']
    rcases d10 with ⟨y, -⟩ | ⟨-, d, y1, y2, y3⟩
    · rw [x1] at y; exact absurd y z0
    · rw [y3]; exact nI_ne0 y1 (by omega)
  clear d10
  have rm : f_X1_hasRoomFor mi dr (nI 99) = some (nI 0) := by unfold f_X1_hasRoomFor; rw [if_pos (show nI 99 = 99 from rfl), if_neg x1n]; rfl
  have ag : f_X8_isAgain (u2 mj 229 2 (nI (p + 1))) (nI 99) = some (nI 1) := rfl
  have ea : mj 229 2 + 1 = nI (p + 1) := by rw [a4]; exact nI_add _ 1
  rw [← ea] at h7
  rw [← ea] at ag
  unfold f_X5_readClause f_X8_readsClause
  rw [a3, hl, Option.bind_some, isw99, Option.bind_some, if_neg z0, if_neg x1n, rm, Option.bind_some, if_pos z00, v3, Option.bind_some]
  rw [hn, Option.bind_some]
  rw [if_pos (show nI 99 = 99 from rfl), if_neg h7, if_pos (show nI 99 = 99 from rfl), if_neg h7, ag, Option.bind_some, if_neg z0, fl, Option.bind_some]
  dsimp only
  rw [ea, a4]
  exact OUT.no h hdr (f := 3) (by omega)
theorem k115_n {m0 n0 mi mj : Mi} {dr L p m wn sn ln : Nat} {T : Nat → Nat} (h : JR m0 n0 mi mj dr L p m wn sn ln) (hdr : dr = 4 ∨ dr = 210) (t : TC m0 L T) (t2 : TM n0 L T) (hp : p < L) (hs : sk L T p = p) (hw : T p = 115) (x1 : mi dr 0 = nI 0) : OUT m0 n0 dr L p (f_X5_readClause mi dr) (f_X8_readsClause mj) := by
  obtain ⟨hn, hl, J⟩ := k_pre h hdr t t2 hp hs
  rw [hw] at hn hl
  obtain ⟨a1, a2, a3, a4, a5, a6, a7, a8⟩ := id h
  obtain ⟨d1, d2, d3, d4, ⟨d5, d5'⟩, ⟨d6, d6'⟩, ⟨d7, d7'⟩, ⟨d8, d8'⟩, ⟨d9, d9', d9''⟩, d10, d11, d12, d13⟩ := a8
  clear d11 d12 d13
  have z0 : ¬ nI 1 = (0 : Int32) := nI_ne0 (by omega) (by omega)
  have z00 : nI 0 = (0 : Int32) := rfl
  have isw115 : f_X5_isWord (nI 115) = some (nI 1) := is_word (by omega)
  have v1 : f_X5_accuse mi 1 (nI p) = some (ac mi 1 p) := v_ac _ 1 _
  have v3 : f_X5_accuse mi 3 (nI p) = some (ac mi 3 p) := v_ac _ 3 _
  have e1p : nI p + 1 = nI (p + 1) := nI_add _ 1
  have nq : ∀ a b : Nat, a < 256 → b < 256 → a ≠ b → ¬ nI a = nI b := fun a b => nqq
  have h7 : (u2 mj 229 2 (nI (p + 1))) 229 7 = 0 := by
    rw [u2_ne2 (by omega), d9']
    rcases d10 with ⟨-, y, -⟩ | ⟨y, -⟩
    · exact y
    · rw [x1] at y; exact absurd y.symm z0
  clear d10
  have ea : mj 229 2 + 1 = nI (p + 1) := by rw [a4]; exact nI_add _ 1
  rw [← ea] at h7
  unfold f_X5_readClause f_X8_readsClause
  rw [a3, hl, Option.bind_some, isw115, Option.bind_some, if_neg z0, if_pos (show mi dr 0 = 0 from x1), if_neg (show ¬ nI 115 = 99 from nq 115 99 (by omega) (by omega) (by omega)), v1, Option.bind_some]
  rw [hn, Option.bind_some]
  rw [if_neg (show ¬ nI 115 = 99 from nq 115 99 (by omega) (by omega) (by omega)), if_neg (show ¬ nI 115 = 99 from nq 115 99 (by omega) (by omega) (by omega)), if_pos (show nI 115 = 115 from rfl), if_pos h7, fl, Option.bind_some]
  dsimp only
  rw [ea, a4]
  exact OUT.no h hdr (f := 1) (by omega)
theorem k115_yr {m0 n0 mi mj : Mi} {dr L p m wn sn ln : Nat} {T : Nat → Nat} (h : JR m0 n0 mi mj dr L p m wn sn ln) (hdr : dr = 4 ∨ dr = 210) (t : TC m0 L T) (t2 : TM n0 L T) (hp : p < L) (hs : sk L T p = p) (hw : T p = 115) (x1 : mi dr 0 = nI 1) (hr : sn = 0) : OUT m0 n0 dr L p (f_X5_readClause mi dr) (f_X8_readsClause mj) := by
  obtain ⟨hn, hl, J⟩ := k_pre h hdr t t2 hp hs
  rw [hw] at hn hl
  obtain ⟨a1, a2, a3, a4, a5, a6, a7, a8⟩ := id h
  obtain ⟨d1, d2, d3, d4, ⟨d5, d5'⟩, ⟨d6, d6'⟩, ⟨d7, d7'⟩, ⟨d8, d8'⟩, ⟨d9, d9', d9''⟩, d10, d11, d12, d13⟩ := a8
  clear d11 d12 d13
  have z0 : ¬ nI 1 = (0 : Int32) := nI_ne0 (by omega) (by omega)
  have z00 : nI 0 = (0 : Int32) := rfl
  have isw115 : f_X5_isWord (nI 115) = some (nI 1) := is_word (by omega)
  have v1 : f_X5_accuse mi 1 (nI p) = some (ac mi 1 p) := v_ac _ 1 _
  have v3 : f_X5_accuse mi 3 (nI p) = some (ac mi 3 p) := v_ac _ 3 _
  have e1p : nI p + 1 = nI (p + 1) := nI_add _ 1
  have nq : ∀ a b : Nat, a < 256 → b < 256 → a ≠ b → ¬ nI a = nI b := fun a b => nqq
  have x1n : ¬ mi dr 0 = 0 := by rw [x1]; exact z0
  have h7 : ¬ (u2 mj 229 2 (nI (p + 1))) 229 7 = 0 := by
    rw [u2_ne2 (by omega), d9']
    rcases d10 with ⟨y, -⟩ | ⟨-, d, y1, y2, y3⟩
    · rw [x1] at y; exact absurd y z0
    · rw [y3]; exact nI_ne0 y1 (by omega)
  clear d10
  have rm : f_X1_hasRoomFor mi dr (nI 115) = some (nI 1) := by unfold f_X1_hasRoomFor; simp (disch := omega) only [fa_lit, nI_add, pk_sub, pk_mul, nI_clamp, nI_leI, nI_ltI, nI_eq, inb, u2_s2, u2_ne2, if_pos, if_neg, Option.bind_some, nx, add_n0, cO, cN, cF, cU, true_or, or_true, if_true, if_false, not_true_eq_false, not_false_eq_true, true_and, and_true, d7]
  have ag : f_X8_isAgain (u2 mj 229 2 (nI (p + 1))) (nI 115) = some (nI 0) := by unfold f_X8_isAgain; simp (disch := omega) only [fa_lit, nI_add, pk_sub, pk_mul, nI_clamp, nI_leI, nI_ltI, nI_eq, inb, u2_s2, u2_ne2, if_pos, if_neg, Option.bind_some, nx, add_n0, cO, cN, cF, cU, true_or, or_true, if_true, if_false, not_true_eq_false, not_false_eq_true, true_and, and_true, d7']
  have ea : mj 229 2 + 1 = nI (p + 1) := by rw [a4]; exact nI_add _ 1
  rw [← ea] at h7
  rw [← ea] at ag
  unfold f_X5_readClause f_X8_readsClause
  rw [a3, hl, Option.bind_some, isw115, Option.bind_some, if_neg z0, if_neg x1n, rm, Option.bind_some, if_neg z0, if_neg (show ¬ nI 115 = 99 from nq 115 99 (by omega) (by omega) (by omega)), if_neg (show ¬ nI 115 = 108 from nq 115 108 (by omega) (by omega) (by omega)), if_pos (show nI 115 = 115 from rfl), e1p]
  rw [hn, Option.bind_some]
  rw [if_neg (show ¬ nI 115 = 99 from nq 115 99 (by omega) (by omega) (by omega)), if_neg (show ¬ nI 115 = 99 from nq 115 99 (by omega) (by omega) (by omega)), if_pos (show nI 115 = 115 from rfl), if_neg h7, ag, Option.bind_some, if_pos z00, if_pos (show nI 115 = 115 from rfl)]
  dsimp only
  rw [ea]
  subst hr
  exact (K_season J hdr t t2).bk.lt (by omega)
theorem k115_yf {m0 n0 mi mj : Mi} {dr L p m wn sn ln : Nat} {T : Nat → Nat} (h : JR m0 n0 mi mj dr L p m wn sn ln) (hdr : dr = 4 ∨ dr = 210) (t : TC m0 L T) (t2 : TM n0 L T) (hp : p < L) (hs : sk L T p = p) (hw : T p = 115) (x1 : mi dr 0 = nI 1) (hr : ¬ (sn = 0)) : OUT m0 n0 dr L p (f_X5_readClause mi dr) (f_X8_readsClause mj) := by
  obtain ⟨hn, hl, J⟩ := k_pre h hdr t t2 hp hs
  rw [hw] at hn hl
  obtain ⟨a1, a2, a3, a4, a5, a6, a7, a8⟩ := id h
  obtain ⟨d1, d2, d3, d4, ⟨d5, d5'⟩, ⟨d6, d6'⟩, ⟨d7, d7'⟩, ⟨d8, d8'⟩, ⟨d9, d9', d9''⟩, d10, d11, d12, d13⟩ := a8
  clear d11 d12 d13
  have z0 : ¬ nI 1 = (0 : Int32) := nI_ne0 (by omega) (by omega)
  have z00 : nI 0 = (0 : Int32) := rfl
  have isw115 : f_X5_isWord (nI 115) = some (nI 1) := is_word (by omega)
  have v1 : f_X5_accuse mi 1 (nI p) = some (ac mi 1 p) := v_ac _ 1 _
  have v3 : f_X5_accuse mi 3 (nI p) = some (ac mi 3 p) := v_ac _ 3 _
  have e1p : nI p + 1 = nI (p + 1) := nI_add _ 1
  have nq : ∀ a b : Nat, a < 256 → b < 256 → a ≠ b → ¬ nI a = nI b := fun a b => nqq
  have x1n : ¬ mi dr 0 = 0 := by rw [x1]; exact z0
  have h7 : ¬ (u2 mj 229 2 (nI (p + 1))) 229 7 = 0 := by
    rw [u2_ne2 (by omega), d9']
    rcases d10 with ⟨y, -⟩ | ⟨-, d, y1, y2, y3⟩
    · rw [x1] at y; exact absurd y z0
    · rw [y3]; exact nI_ne0 y1 (by omega)
  clear d10
  have rm : f_X1_hasRoomFor mi dr (nI 115) = some (nI 0) := by unfold f_X1_hasRoomFor; simp (disch := omega) only [fa_lit, nI_add, pk_sub, pk_mul, nI_clamp, nI_leI, nI_ltI, nI_eq, inb, u2_s2, u2_ne2, if_pos, if_neg, Option.bind_some, nx, add_n0, cO, cN, cF, cU, true_or, or_true, if_true, if_false, not_true_eq_false, not_false_eq_true, true_and, and_true, d7]
  have ag : f_X8_isAgain (u2 mj 229 2 (nI (p + 1))) (nI 115) = some (nI 1) := by unfold f_X8_isAgain; simp (disch := omega) only [fa_lit, nI_add, pk_sub, pk_mul, nI_clamp, nI_leI, nI_ltI, nI_eq, inb, u2_s2, u2_ne2, if_pos, if_neg, Option.bind_some, nx, add_n0, cO, cN, cF, cU, true_or, or_true, if_true, if_false, not_true_eq_false, not_false_eq_true, true_and, and_true, d7']
  have ea : mj 229 2 + 1 = nI (p + 1) := by rw [a4]; exact nI_add _ 1
  rw [← ea] at h7
  rw [← ea] at ag
  unfold f_X5_readClause f_X8_readsClause
  rw [a3, hl, Option.bind_some, isw115, Option.bind_some, if_neg z0, if_neg x1n, rm, Option.bind_some, if_pos z00, v3, Option.bind_some]
  rw [hn, Option.bind_some]
  rw [if_neg (show ¬ nI 115 = 99 from nq 115 99 (by omega) (by omega) (by omega)), if_neg (show ¬ nI 115 = 99 from nq 115 99 (by omega) (by omega) (by omega)), if_pos (show nI 115 = 115 from rfl), if_neg h7, ag, Option.bind_some, if_neg z0, fl, Option.bind_some]
  dsimp only
  rw [ea, a4]
  exact OUT.no h hdr (f := 3) (by omega)
theorem k116_n {m0 n0 mi mj : Mi} {dr L p m wn sn ln : Nat} {T : Nat → Nat} (h : JR m0 n0 mi mj dr L p m wn sn ln) (hdr : dr = 4 ∨ dr = 210) (t : TC m0 L T) (t2 : TM n0 L T) (hp : p < L) (hs : sk L T p = p) (hw : T p = 116) (x1 : mi dr 0 = nI 0) : OUT m0 n0 dr L p (f_X5_readClause mi dr) (f_X8_readsClause mj) := by
  obtain ⟨hn, hl, J⟩ := k_pre h hdr t t2 hp hs
  rw [hw] at hn hl
  obtain ⟨a1, a2, a3, a4, a5, a6, a7, a8⟩ := id h
  obtain ⟨d1, d2, d3, d4, ⟨d5, d5'⟩, ⟨d6, d6'⟩, ⟨d7, d7'⟩, ⟨d8, d8'⟩, ⟨d9, d9', d9''⟩, d10, d11, d12, d13⟩ := a8
  clear d11 d12 d13
  have z0 : ¬ nI 1 = (0 : Int32) := nI_ne0 (by omega) (by omega)
  have z00 : nI 0 = (0 : Int32) := rfl
  have isw116 : f_X5_isWord (nI 116) = some (nI 1) := is_word (by omega)
  have v1 : f_X5_accuse mi 1 (nI p) = some (ac mi 1 p) := v_ac _ 1 _
  have v3 : f_X5_accuse mi 3 (nI p) = some (ac mi 3 p) := v_ac _ 3 _
  have e1p : nI p + 1 = nI (p + 1) := nI_add _ 1
  have nq : ∀ a b : Nat, a < 256 → b < 256 → a ≠ b → ¬ nI a = nI b := fun a b => nqq
  have h7 : (u2 mj 229 2 (nI (p + 1))) 229 7 = 0 := by
    rw [u2_ne2 (by omega), d9']
    rcases d10 with ⟨-, y, -⟩ | ⟨y, -⟩
    · exact y
    · rw [x1] at y; exact absurd y.symm z0
  clear d10
  have ea : mj 229 2 + 1 = nI (p + 1) := by rw [a4]; exact nI_add _ 1
  rw [← ea] at h7
  unfold f_X5_readClause f_X8_readsClause
  rw [a3, hl, Option.bind_some, isw116, Option.bind_some, if_neg z0, if_pos (show mi dr 0 = 0 from x1), if_neg (show ¬ nI 116 = 99 from nq 116 99 (by omega) (by omega) (by omega)), v1, Option.bind_some]
  rw [hn, Option.bind_some]
  rw [if_neg (show ¬ nI 116 = 99 from nq 116 99 (by omega) (by omega) (by omega)), if_neg (show ¬ nI 116 = 99 from nq 116 99 (by omega) (by omega) (by omega)), if_neg (show ¬ nI 116 = 115 from nq 116 115 (by omega) (by omega) (by omega)), if_pos (show nI 116 = 116 from rfl), if_pos h7, fl, Option.bind_some]
  dsimp only
  rw [ea, a4]
  exact OUT.no h hdr (f := 1) (by omega)
theorem k116_yr {m0 n0 mi mj : Mi} {dr L p m wn sn ln : Nat} {T : Nat → Nat} (h : JR m0 n0 mi mj dr L p m wn sn ln) (hdr : dr = 4 ∨ dr = 210) (t : TC m0 L T) (t2 : TM n0 L T) (hp : p < L) (hs : sk L T p = p) (hw : T p = 116) (x1 : mi dr 0 = nI 1) (hr : m < 8) : OUT m0 n0 dr L p (f_X5_readClause mi dr) (f_X8_readsClause mj) := by
  obtain ⟨hn, hl, J⟩ := k_pre h hdr t t2 hp hs
  rw [hw] at hn hl
  obtain ⟨a1, a2, a3, a4, a5, a6, a7, a8⟩ := id h
  obtain ⟨d1, d2, d3, d4, ⟨d5, d5'⟩, ⟨d6, d6'⟩, ⟨d7, d7'⟩, ⟨d8, d8'⟩, ⟨d9, d9', d9''⟩, d10, d11, d12, d13⟩ := a8
  clear d11 d12 d13
  have z0 : ¬ nI 1 = (0 : Int32) := nI_ne0 (by omega) (by omega)
  have z00 : nI 0 = (0 : Int32) := rfl
  have isw116 : f_X5_isWord (nI 116) = some (nI 1) := is_word (by omega)
  have v1 : f_X5_accuse mi 1 (nI p) = some (ac mi 1 p) := v_ac _ 1 _
  have v3 : f_X5_accuse mi 3 (nI p) = some (ac mi 3 p) := v_ac _ 3 _
  have e1p : nI p + 1 = nI (p + 1) := nI_add _ 1
  have nq : ∀ a b : Nat, a < 256 → b < 256 → a ≠ b → ¬ nI a = nI b := fun a b => nqq
  have x1n : ¬ mi dr 0 = 0 := by rw [x1]; exact z0
  have h7 : ¬ (u2 mj 229 2 (nI (p + 1))) 229 7 = 0 := by
    rw [u2_ne2 (by omega), d9']
    rcases d10 with ⟨y, -⟩ | ⟨-, d, y1, y2, y3⟩
    · rw [x1] at y; exact absurd y z0
    · rw [y3]; exact nI_ne0 y1 (by omega)
  clear d10
  have rm : f_X1_hasRoomFor mi dr (nI 116) = some (nI 1) := by unfold f_X1_hasRoomFor; simp (disch := omega) only [fa_lit, nI_add, pk_sub, pk_mul, nI_clamp, nI_leI, nI_ltI, nI_eq, inb, u2_s2, u2_ne2, if_pos, if_neg, Option.bind_some, nx, add_n0, cO, cN, cF, cU, true_or, or_true, if_true, if_false, not_true_eq_false, not_false_eq_true, true_and, and_true, d5]
  have ag : f_X8_isAgain (u2 mj 229 2 (nI (p + 1))) (nI 116) = some (nI 0) := by unfold f_X8_isAgain; simp (disch := omega) only [fa_lit, nI_add, pk_sub, pk_mul, nI_clamp, nI_leI, nI_ltI, nI_eq, inb, u2_s2, u2_ne2, if_pos, if_neg, Option.bind_some, nx, add_n0, cO, cN, cF, cU, true_or, or_true, if_true, if_false, not_true_eq_false, not_false_eq_true, true_and, and_true, d5']
  have ea : mj 229 2 + 1 = nI (p + 1) := by rw [a4]; exact nI_add _ 1
  rw [← ea] at h7
  rw [← ea] at ag
  unfold f_X5_readClause f_X8_readsClause
  rw [a3, hl, Option.bind_some, isw116, Option.bind_some, if_neg z0, if_neg x1n, rm, Option.bind_some, if_neg z0, if_neg (show ¬ nI 116 = 99 from nq 116 99 (by omega) (by omega) (by omega)), if_neg (show ¬ nI 116 = 108 from nq 116 108 (by omega) (by omega) (by omega)), if_neg (show ¬ nI 116 = 115 from nq 116 115 (by omega) (by omega) (by omega)), if_pos (show nI 116 = 116 from rfl), e1p]
  rw [hn, Option.bind_some]
  rw [if_neg (show ¬ nI 116 = 99 from nq 116 99 (by omega) (by omega) (by omega)), if_neg (show ¬ nI 116 = 99 from nq 116 99 (by omega) (by omega) (by omega)), if_neg (show ¬ nI 116 = 115 from nq 116 115 (by omega) (by omega) (by omega)), if_pos (show nI 116 = 116 from rfl), if_neg h7, ag, Option.bind_some, if_pos z00, if_neg (show ¬ nI 116 = 115 from nq 116 115 (by omega) (by omega) (by omega)), if_pos (show nI 116 = 116 from rfl)]
  dsimp only
  rw [ea]
  exact (K_thing J hdr t t2 (by rw [u2_ne2 (by omega)]; exact x1) (by omega)).bk.lt (by omega)
theorem k116_yf {m0 n0 mi mj : Mi} {dr L p m wn sn ln : Nat} {T : Nat → Nat} (h : JR m0 n0 mi mj dr L p m wn sn ln) (hdr : dr = 4 ∨ dr = 210) (t : TC m0 L T) (t2 : TM n0 L T) (hp : p < L) (hs : sk L T p = p) (hw : T p = 116) (x1 : mi dr 0 = nI 1) (hr : ¬ (m < 8)) : OUT m0 n0 dr L p (f_X5_readClause mi dr) (f_X8_readsClause mj) := by
  obtain ⟨hn, hl, J⟩ := k_pre h hdr t t2 hp hs
  rw [hw] at hn hl
  obtain ⟨a1, a2, a3, a4, a5, a6, a7, a8⟩ := id h
  obtain ⟨d1, d2, d3, d4, ⟨d5, d5'⟩, ⟨d6, d6'⟩, ⟨d7, d7'⟩, ⟨d8, d8'⟩, ⟨d9, d9', d9''⟩, d10, d11, d12, d13⟩ := a8
  clear d11 d12 d13
  have z0 : ¬ nI 1 = (0 : Int32) := nI_ne0 (by omega) (by omega)
  have z00 : nI 0 = (0 : Int32) := rfl
  have isw116 : f_X5_isWord (nI 116) = some (nI 1) := is_word (by omega)
  have v1 : f_X5_accuse mi 1 (nI p) = some (ac mi 1 p) := v_ac _ 1 _
  have v3 : f_X5_accuse mi 3 (nI p) = some (ac mi 3 p) := v_ac _ 3 _
  have e1p : nI p + 1 = nI (p + 1) := nI_add _ 1
  have nq : ∀ a b : Nat, a < 256 → b < 256 → a ≠ b → ¬ nI a = nI b := fun a b => nqq
  have x1n : ¬ mi dr 0 = 0 := by rw [x1]; exact z0
  have h7 : ¬ (u2 mj 229 2 (nI (p + 1))) 229 7 = 0 := by
    rw [u2_ne2 (by omega), d9']
    rcases d10 with ⟨y, -⟩ | ⟨-, d, y1, y2, y3⟩
    · rw [x1] at y; exact absurd y z0
    · rw [y3]; exact nI_ne0 y1 (by omega)
  clear d10
  have rm : f_X1_hasRoomFor mi dr (nI 116) = some (nI 0) := by unfold f_X1_hasRoomFor; simp (disch := omega) only [fa_lit, nI_add, pk_sub, pk_mul, nI_clamp, nI_leI, nI_ltI, nI_eq, inb, u2_s2, u2_ne2, if_pos, if_neg, Option.bind_some, nx, add_n0, cO, cN, cF, cU, true_or, or_true, if_true, if_false, not_true_eq_false, not_false_eq_true, true_and, and_true, d5]
  have ag : f_X8_isAgain (u2 mj 229 2 (nI (p + 1))) (nI 116) = some (nI 1) := by unfold f_X8_isAgain; simp (disch := omega) only [fa_lit, nI_add, pk_sub, pk_mul, nI_clamp, nI_leI, nI_ltI, nI_eq, inb, u2_s2, u2_ne2, if_pos, if_neg, Option.bind_some, nx, add_n0, cO, cN, cF, cU, true_or, or_true, if_true, if_false, not_true_eq_false, not_false_eq_true, true_and, and_true, d5']
  have ea : mj 229 2 + 1 = nI (p + 1) := by rw [a4]; exact nI_add _ 1
  rw [← ea] at h7
  rw [← ea] at ag
  unfold f_X5_readClause f_X8_readsClause
  rw [a3, hl, Option.bind_some, isw116, Option.bind_some, if_neg z0, if_neg x1n, rm, Option.bind_some, if_pos z00, v3, Option.bind_some]
  rw [hn, Option.bind_some]
  rw [if_neg (show ¬ nI 116 = 99 from nq 116 99 (by omega) (by omega) (by omega)), if_neg (show ¬ nI 116 = 99 from nq 116 99 (by omega) (by omega) (by omega)), if_neg (show ¬ nI 116 = 115 from nq 116 115 (by omega) (by omega) (by omega)), if_pos (show nI 116 = 116 from rfl), if_neg h7, ag, Option.bind_some, if_neg z0, fl, Option.bind_some]
  dsimp only
  rw [ea, a4]
  exact OUT.no h hdr (f := 3) (by omega)
theorem k108_n {m0 n0 mi mj : Mi} {dr L p m wn sn ln : Nat} {T : Nat → Nat} (h : JR m0 n0 mi mj dr L p m wn sn ln) (hdr : dr = 4 ∨ dr = 210) (t : TC m0 L T) (t2 : TM n0 L T) (hp : p < L) (hs : sk L T p = p) (hw : T p = 108) (x1 : mi dr 0 = nI 0) : OUT m0 n0 dr L p (f_X5_readClause mi dr) (f_X8_readsClause mj) := by
  obtain ⟨hn, hl, J⟩ := k_pre h hdr t t2 hp hs
  rw [hw] at hn hl
  obtain ⟨a1, a2, a3, a4, a5, a6, a7, a8⟩ := id h
  obtain ⟨d1, d2, d3, d4, ⟨d5, d5'⟩, ⟨d6, d6'⟩, ⟨d7, d7'⟩, ⟨d8, d8'⟩, ⟨d9, d9', d9''⟩, d10, d11, d12, d13⟩ := a8
  clear d11 d12 d13
  have z0 : ¬ nI 1 = (0 : Int32) := nI_ne0 (by omega) (by omega)
  have z00 : nI 0 = (0 : Int32) := rfl
  have isw108 : f_X5_isWord (nI 108) = some (nI 1) := is_word (by omega)
  have v1 : f_X5_accuse mi 1 (nI p) = some (ac mi 1 p) := v_ac _ 1 _
  have v3 : f_X5_accuse mi 3 (nI p) = some (ac mi 3 p) := v_ac _ 3 _
  have e1p : nI p + 1 = nI (p + 1) := nI_add _ 1
  have nq : ∀ a b : Nat, a < 256 → b < 256 → a ≠ b → ¬ nI a = nI b := fun a b => nqq
  have h7 : (u2 mj 229 2 (nI (p + 1))) 229 7 = 0 := by
    rw [u2_ne2 (by omega), d9']
    rcases d10 with ⟨-, y, -⟩ | ⟨y, -⟩
    · exact y
    · rw [x1] at y; exact absurd y.symm z0
  clear d10
  have ea : mj 229 2 + 1 = nI (p + 1) := by rw [a4]; exact nI_add _ 1
  rw [← ea] at h7
  unfold f_X5_readClause f_X8_readsClause
  rw [a3, hl, Option.bind_some, isw108, Option.bind_some, if_neg z0, if_pos (show mi dr 0 = 0 from x1), if_neg (show ¬ nI 108 = 99 from nq 108 99 (by omega) (by omega) (by omega)), v1, Option.bind_some]
  rw [hn, Option.bind_some]
  rw [if_neg (show ¬ nI 108 = 99 from nq 108 99 (by omega) (by omega) (by omega)), if_neg (show ¬ nI 108 = 99 from nq 108 99 (by omega) (by omega) (by omega)), if_neg (show ¬ nI 108 = 115 from nq 108 115 (by omega) (by omega) (by omega)), if_neg (show ¬ nI 108 = 116 from nq 108 116 (by omega) (by omega) (by omega)), if_pos (show nI 108 = 108 from rfl), if_pos h7, fl, Option.bind_some]
  dsimp only
  rw [ea, a4]
  exact OUT.no h hdr (f := 1) (by omega)
theorem k108_yr {m0 n0 mi mj : Mi} {dr L p m wn sn ln : Nat} {T : Nat → Nat} (h : JR m0 n0 mi mj dr L p m wn sn ln) (hdr : dr = 4 ∨ dr = 210) (t : TC m0 L T) (t2 : TM n0 L T) (hp : p < L) (hs : sk L T p = p) (hw : T p = 108) (x1 : mi dr 0 = nI 1) (hr : ln < 6) : OUT m0 n0 dr L p (f_X5_readClause mi dr) (f_X8_readsClause mj) := by
  obtain ⟨hn, hl, J⟩ := k_pre h hdr t t2 hp hs
  rw [hw] at hn hl
  obtain ⟨a1, a2, a3, a4, a5, a6, a7, a8⟩ := id h
  obtain ⟨d1, d2, d3, d4, ⟨d5, d5'⟩, ⟨d6, d6'⟩, ⟨d7, d7'⟩, ⟨d8, d8'⟩, ⟨d9, d9', d9''⟩, d10, d11, d12, d13⟩ := a8
  clear d11 d12 d13
  have z0 : ¬ nI 1 = (0 : Int32) := nI_ne0 (by omega) (by omega)
  have z00 : nI 0 = (0 : Int32) := rfl
  have isw108 : f_X5_isWord (nI 108) = some (nI 1) := is_word (by omega)
  have v1 : f_X5_accuse mi 1 (nI p) = some (ac mi 1 p) := v_ac _ 1 _
  have v3 : f_X5_accuse mi 3 (nI p) = some (ac mi 3 p) := v_ac _ 3 _
  have e1p : nI p + 1 = nI (p + 1) := nI_add _ 1
  have nq : ∀ a b : Nat, a < 256 → b < 256 → a ≠ b → ¬ nI a = nI b := fun a b => nqq
  have x1n : ¬ mi dr 0 = 0 := by rw [x1]; exact z0
  have h7 : ¬ (u2 mj 229 2 (nI (p + 1))) 229 7 = 0 := by
    rw [u2_ne2 (by omega), d9']
    rcases d10 with ⟨y, -⟩ | ⟨-, d, y1, y2, y3⟩
    · rw [x1] at y; exact absurd y z0
    · rw [y3]; exact nI_ne0 y1 (by omega)
  clear d10
  have rm : f_X1_hasRoomFor mi dr (nI 108) = some (nI 1) := by unfold f_X1_hasRoomFor; simp (disch := omega) only [fa_lit, nI_add, pk_sub, pk_mul, nI_clamp, nI_leI, nI_ltI, nI_eq, inb, u2_s2, u2_ne2, if_pos, if_neg, Option.bind_some, nx, add_n0, cO, cN, cF, cU, true_or, or_true, if_true, if_false, not_true_eq_false, not_false_eq_true, true_and, and_true, d8]
  have ag : f_X8_isAgain (u2 mj 229 2 (nI (p + 1))) (nI 108) = some (nI 0) := by unfold f_X8_isAgain; simp (disch := omega) only [fa_lit, nI_add, pk_sub, pk_mul, nI_clamp, nI_leI, nI_ltI, nI_eq, inb, u2_s2, u2_ne2, if_pos, if_neg, Option.bind_some, nx, add_n0, cO, cN, cF, cU, true_or, or_true, if_true, if_false, not_true_eq_false, not_false_eq_true, true_and, and_true, d8']
  have ea : mj 229 2 + 1 = nI (p + 1) := by rw [a4]; exact nI_add _ 1
  rw [← ea] at h7
  rw [← ea] at ag
  unfold f_X5_readClause f_X8_readsClause
  rw [a3, hl, Option.bind_some, isw108, Option.bind_some, if_neg z0, if_neg x1n, rm, Option.bind_some, if_neg z0, if_neg (show ¬ nI 108 = 99 from nq 108 99 (by omega) (by omega) (by omega)), if_pos (show nI 108 = 108 from rfl), e1p]
  rw [hn, Option.bind_some]
  rw [if_neg (show ¬ nI 108 = 99 from nq 108 99 (by omega) (by omega) (by omega)), if_neg (show ¬ nI 108 = 99 from nq 108 99 (by omega) (by omega) (by omega)), if_neg (show ¬ nI 108 = 115 from nq 108 115 (by omega) (by omega) (by omega)), if_neg (show ¬ nI 108 = 116 from nq 108 116 (by omega) (by omega) (by omega)), if_pos (show nI 108 = 108 from rfl), if_neg h7, ag, Option.bind_some, if_pos z00, if_neg (show ¬ nI 108 = 115 from nq 108 115 (by omega) (by omega) (by omega)), if_neg (show ¬ nI 108 = 116 from nq 108 116 (by omega) (by omega) (by omega)), if_pos (show nI 108 = 108 from rfl)]
  dsimp only
  rw [ea]
  exact (K_land J hdr t t2 (by omega)).bk.lt (by omega)
theorem k108_yf {m0 n0 mi mj : Mi} {dr L p m wn sn ln : Nat} {T : Nat → Nat} (h : JR m0 n0 mi mj dr L p m wn sn ln) (hdr : dr = 4 ∨ dr = 210) (t : TC m0 L T) (t2 : TM n0 L T) (hp : p < L) (hs : sk L T p = p) (hw : T p = 108) (x1 : mi dr 0 = nI 1) (hr : ¬ (ln < 6)) : OUT m0 n0 dr L p (f_X5_readClause mi dr) (f_X8_readsClause mj) := by
  obtain ⟨hn, hl, J⟩ := k_pre h hdr t t2 hp hs
  rw [hw] at hn hl
  obtain ⟨a1, a2, a3, a4, a5, a6, a7, a8⟩ := id h
  obtain ⟨d1, d2, d3, d4, ⟨d5, d5'⟩, ⟨d6, d6'⟩, ⟨d7, d7'⟩, ⟨d8, d8'⟩, ⟨d9, d9', d9''⟩, d10, d11, d12, d13⟩ := a8
  clear d11 d12 d13
  have z0 : ¬ nI 1 = (0 : Int32) := nI_ne0 (by omega) (by omega)
  have z00 : nI 0 = (0 : Int32) := rfl
  have isw108 : f_X5_isWord (nI 108) = some (nI 1) := is_word (by omega)
  have v1 : f_X5_accuse mi 1 (nI p) = some (ac mi 1 p) := v_ac _ 1 _
  have v3 : f_X5_accuse mi 3 (nI p) = some (ac mi 3 p) := v_ac _ 3 _
  have e1p : nI p + 1 = nI (p + 1) := nI_add _ 1
  have nq : ∀ a b : Nat, a < 256 → b < 256 → a ≠ b → ¬ nI a = nI b := fun a b => nqq
  have x1n : ¬ mi dr 0 = 0 := by rw [x1]; exact z0
  have h7 : ¬ (u2 mj 229 2 (nI (p + 1))) 229 7 = 0 := by
    rw [u2_ne2 (by omega), d9']
    rcases d10 with ⟨y, -⟩ | ⟨-, d, y1, y2, y3⟩
    · rw [x1] at y; exact absurd y z0
    · rw [y3]; exact nI_ne0 y1 (by omega)
  clear d10
  have rm : f_X1_hasRoomFor mi dr (nI 108) = some (nI 0) := by unfold f_X1_hasRoomFor; simp (disch := omega) only [fa_lit, nI_add, pk_sub, pk_mul, nI_clamp, nI_leI, nI_ltI, nI_eq, inb, u2_s2, u2_ne2, if_pos, if_neg, Option.bind_some, nx, add_n0, cO, cN, cF, cU, true_or, or_true, if_true, if_false, not_true_eq_false, not_false_eq_true, true_and, and_true, d8]
  have ag : f_X8_isAgain (u2 mj 229 2 (nI (p + 1))) (nI 108) = some (nI 1) := by unfold f_X8_isAgain; simp (disch := omega) only [fa_lit, nI_add, pk_sub, pk_mul, nI_clamp, nI_leI, nI_ltI, nI_eq, inb, u2_s2, u2_ne2, if_pos, if_neg, Option.bind_some, nx, add_n0, cO, cN, cF, cU, true_or, or_true, if_true, if_false, not_true_eq_false, not_false_eq_true, true_and, and_true, d8']
  have ea : mj 229 2 + 1 = nI (p + 1) := by rw [a4]; exact nI_add _ 1
  rw [← ea] at h7
  rw [← ea] at ag
  unfold f_X5_readClause f_X8_readsClause
  rw [a3, hl, Option.bind_some, isw108, Option.bind_some, if_neg z0, if_neg x1n, rm, Option.bind_some, if_pos z00, v3, Option.bind_some]
  rw [hn, Option.bind_some]
  rw [if_neg (show ¬ nI 108 = 99 from nq 108 99 (by omega) (by omega) (by omega)), if_neg (show ¬ nI 108 = 99 from nq 108 99 (by omega) (by omega) (by omega)), if_neg (show ¬ nI 108 = 115 from nq 108 115 (by omega) (by omega) (by omega)), if_neg (show ¬ nI 108 = 116 from nq 108 116 (by omega) (by omega) (by omega)), if_pos (show nI 108 = 108 from rfl), if_neg h7, ag, Option.bind_some, if_neg z0, fl, Option.bind_some]
  dsimp only
  rw [ea, a4]
  exact OUT.no h hdr (f := 3) (by omega)
theorem k119_n {m0 n0 mi mj : Mi} {dr L p m wn sn ln : Nat} {T : Nat → Nat} (h : JR m0 n0 mi mj dr L p m wn sn ln) (hdr : dr = 4 ∨ dr = 210) (t : TC m0 L T) (t2 : TM n0 L T) (hp : p < L) (hs : sk L T p = p) (hw : T p = 119) (x1 : mi dr 0 = nI 0) : OUT m0 n0 dr L p (f_X5_readClause mi dr) (f_X8_readsClause mj) := by
  obtain ⟨hn, hl, J⟩ := k_pre h hdr t t2 hp hs
  rw [hw] at hn hl
  obtain ⟨a1, a2, a3, a4, a5, a6, a7, a8⟩ := id h
  obtain ⟨d1, d2, d3, d4, ⟨d5, d5'⟩, ⟨d6, d6'⟩, ⟨d7, d7'⟩, ⟨d8, d8'⟩, ⟨d9, d9', d9''⟩, d10, d11, d12, d13⟩ := a8
  clear d11 d12 d13
  have z0 : ¬ nI 1 = (0 : Int32) := nI_ne0 (by omega) (by omega)
  have z00 : nI 0 = (0 : Int32) := rfl
  have isw119 : f_X5_isWord (nI 119) = some (nI 1) := is_word (by omega)
  have v1 : f_X5_accuse mi 1 (nI p) = some (ac mi 1 p) := v_ac _ 1 _
  have v3 : f_X5_accuse mi 3 (nI p) = some (ac mi 3 p) := v_ac _ 3 _
  have e1p : nI p + 1 = nI (p + 1) := nI_add _ 1
  have nq : ∀ a b : Nat, a < 256 → b < 256 → a ≠ b → ¬ nI a = nI b := fun a b => nqq
  have h7 : (u2 mj 229 2 (nI (p + 1))) 229 7 = 0 := by
    rw [u2_ne2 (by omega), d9']
    rcases d10 with ⟨-, y, -⟩ | ⟨y, -⟩
    · exact y
    · rw [x1] at y; exact absurd y.symm z0
  clear d10
  have ea : mj 229 2 + 1 = nI (p + 1) := by rw [a4]; exact nI_add _ 1
  rw [← ea] at h7
  unfold f_X5_readClause f_X8_readsClause
  rw [a3, hl, Option.bind_some, isw119, Option.bind_some, if_neg z0, if_pos (show mi dr 0 = 0 from x1), if_neg (show ¬ nI 119 = 99 from nq 119 99 (by omega) (by omega) (by omega)), v1, Option.bind_some]
  rw [hn, Option.bind_some]
  rw [if_neg (show ¬ nI 119 = 99 from nq 119 99 (by omega) (by omega) (by omega)), if_neg (show ¬ nI 119 = 99 from nq 119 99 (by omega) (by omega) (by omega)), if_neg (show ¬ nI 119 = 115 from nq 119 115 (by omega) (by omega) (by omega)), if_neg (show ¬ nI 119 = 116 from nq 119 116 (by omega) (by omega) (by omega)), if_neg (show ¬ nI 119 = 108 from nq 119 108 (by omega) (by omega) (by omega)), if_pos (show nI 119 = 119 from rfl), if_pos h7, fl, Option.bind_some]
  dsimp only
  rw [ea, a4]
  exact OUT.no h hdr (f := 1) (by omega)
theorem k119_yr {m0 n0 mi mj : Mi} {dr L p m wn sn ln : Nat} {T : Nat → Nat} (h : JR m0 n0 mi mj dr L p m wn sn ln) (hdr : dr = 4 ∨ dr = 210) (t : TC m0 L T) (t2 : TM n0 L T) (hp : p < L) (hs : sk L T p = p) (hw : T p = 119) (x1 : mi dr 0 = nI 1) (hr : wn < 10) : OUT m0 n0 dr L p (f_X5_readClause mi dr) (f_X8_readsClause mj) := by
  obtain ⟨hn, hl, J⟩ := k_pre h hdr t t2 hp hs
  rw [hw] at hn hl
  obtain ⟨a1, a2, a3, a4, a5, a6, a7, a8⟩ := id h
  obtain ⟨d1, d2, d3, d4, ⟨d5, d5'⟩, ⟨d6, d6'⟩, ⟨d7, d7'⟩, ⟨d8, d8'⟩, ⟨d9, d9', d9''⟩, d10, d11, d12, d13⟩ := a8
  clear d11 d12 d13
  have z0 : ¬ nI 1 = (0 : Int32) := nI_ne0 (by omega) (by omega)
  have z00 : nI 0 = (0 : Int32) := rfl
  have isw119 : f_X5_isWord (nI 119) = some (nI 1) := is_word (by omega)
  have v1 : f_X5_accuse mi 1 (nI p) = some (ac mi 1 p) := v_ac _ 1 _
  have v3 : f_X5_accuse mi 3 (nI p) = some (ac mi 3 p) := v_ac _ 3 _
  have e1p : nI p + 1 = nI (p + 1) := nI_add _ 1
  have nq : ∀ a b : Nat, a < 256 → b < 256 → a ≠ b → ¬ nI a = nI b := fun a b => nqq
  have x1n : ¬ mi dr 0 = 0 := by rw [x1]; exact z0
  have h7 : ¬ (u2 mj 229 2 (nI (p + 1))) 229 7 = 0 := by
    rw [u2_ne2 (by omega), d9']
    rcases d10 with ⟨y, -⟩ | ⟨-, d, y1, y2, y3⟩
    · rw [x1] at y; exact absurd y z0
    · rw [y3]; exact nI_ne0 y1 (by omega)
  clear d10
  have rm : f_X1_hasRoomFor mi dr (nI 119) = some (nI 1) := by unfold f_X1_hasRoomFor; simp (disch := omega) only [fa_lit, nI_add, pk_sub, pk_mul, nI_clamp, nI_leI, nI_ltI, nI_eq, inb, u2_s2, u2_ne2, if_pos, if_neg, Option.bind_some, nx, add_n0, cO, cN, cF, cU, true_or, or_true, if_true, if_false, not_true_eq_false, not_false_eq_true, true_and, and_true, d6]
  have ag : f_X8_isAgain (u2 mj 229 2 (nI (p + 1))) (nI 119) = some (nI 0) := by unfold f_X8_isAgain; simp (disch := omega) only [fa_lit, nI_add, pk_sub, pk_mul, nI_clamp, nI_leI, nI_ltI, nI_eq, inb, u2_s2, u2_ne2, if_pos, if_neg, Option.bind_some, nx, add_n0, cO, cN, cF, cU, true_or, or_true, if_true, if_false, not_true_eq_false, not_false_eq_true, true_and, and_true, d6']
  have ea : mj 229 2 + 1 = nI (p + 1) := by rw [a4]; exact nI_add _ 1
  rw [← ea] at h7
  rw [← ea] at ag
  unfold f_X5_readClause f_X8_readsClause
  rw [a3, hl, Option.bind_some, isw119, Option.bind_some, if_neg z0, if_neg x1n, rm, Option.bind_some, if_neg z0, if_neg (show ¬ nI 119 = 99 from nq 119 99 (by omega) (by omega) (by omega)), if_neg (show ¬ nI 119 = 108 from nq 119 108 (by omega) (by omega) (by omega)), if_neg (show ¬ nI 119 = 115 from nq 119 115 (by omega) (by omega) (by omega)), if_neg (show ¬ nI 119 = 116 from nq 119 116 (by omega) (by omega) (by omega)), e1p]
  rw [hn, Option.bind_some]
  rw [if_neg (show ¬ nI 119 = 99 from nq 119 99 (by omega) (by omega) (by omega)), if_neg (show ¬ nI 119 = 99 from nq 119 99 (by omega) (by omega) (by omega)), if_neg (show ¬ nI 119 = 115 from nq 119 115 (by omega) (by omega) (by omega)), if_neg (show ¬ nI 119 = 116 from nq 119 116 (by omega) (by omega) (by omega)), if_neg (show ¬ nI 119 = 108 from nq 119 108 (by omega) (by omega) (by omega)), if_pos (show nI 119 = 119 from rfl), if_neg h7, ag, Option.bind_some, if_pos z00, if_neg (show ¬ nI 119 = 115 from nq 119 115 (by omega) (by omega) (by omega)), if_neg (show ¬ nI 119 = 116 from nq 119 116 (by omega) (by omega) (by omega)), if_neg (show ¬ nI 119 = 108 from nq 119 108 (by omega) (by omega) (by omega))]
  dsimp only
  rw [ea]
  exact (K_want J hdr t t2 (by omega)).bk.lt (by omega)
theorem k119_yf {m0 n0 mi mj : Mi} {dr L p m wn sn ln : Nat} {T : Nat → Nat} (h : JR m0 n0 mi mj dr L p m wn sn ln) (hdr : dr = 4 ∨ dr = 210) (t : TC m0 L T) (t2 : TM n0 L T) (hp : p < L) (hs : sk L T p = p) (hw : T p = 119) (x1 : mi dr 0 = nI 1) (hr : ¬ (wn < 10)) : OUT m0 n0 dr L p (f_X5_readClause mi dr) (f_X8_readsClause mj) := by
  obtain ⟨hn, hl, J⟩ := k_pre h hdr t t2 hp hs
  rw [hw] at hn hl
  obtain ⟨a1, a2, a3, a4, a5, a6, a7, a8⟩ := id h
  obtain ⟨d1, d2, d3, d4, ⟨d5, d5'⟩, ⟨d6, d6'⟩, ⟨d7, d7'⟩, ⟨d8, d8'⟩, ⟨d9, d9', d9''⟩, d10, d11, d12, d13⟩ := a8
  clear d11 d12 d13
  have z0 : ¬ nI 1 = (0 : Int32) := nI_ne0 (by omega) (by omega)
  have z00 : nI 0 = (0 : Int32) := rfl
  have isw119 : f_X5_isWord (nI 119) = some (nI 1) := is_word (by omega)
  have v1 : f_X5_accuse mi 1 (nI p) = some (ac mi 1 p) := v_ac _ 1 _
  have v3 : f_X5_accuse mi 3 (nI p) = some (ac mi 3 p) := v_ac _ 3 _
  have e1p : nI p + 1 = nI (p + 1) := nI_add _ 1
  have nq : ∀ a b : Nat, a < 256 → b < 256 → a ≠ b → ¬ nI a = nI b := fun a b => nqq
  have x1n : ¬ mi dr 0 = 0 := by rw [x1]; exact z0
  have h7 : ¬ (u2 mj 229 2 (nI (p + 1))) 229 7 = 0 := by
    rw [u2_ne2 (by omega), d9']
    rcases d10 with ⟨y, -⟩ | ⟨-, d, y1, y2, y3⟩
    · rw [x1] at y; exact absurd y z0
    · rw [y3]; exact nI_ne0 y1 (by omega)
  clear d10
  have rm : f_X1_hasRoomFor mi dr (nI 119) = some (nI 0) := by unfold f_X1_hasRoomFor; simp (disch := omega) only [fa_lit, nI_add, pk_sub, pk_mul, nI_clamp, nI_leI, nI_ltI, nI_eq, inb, u2_s2, u2_ne2, if_pos, if_neg, Option.bind_some, nx, add_n0, cO, cN, cF, cU, true_or, or_true, if_true, if_false, not_true_eq_false, not_false_eq_true, true_and, and_true, d6]
  have ag : f_X8_isAgain (u2 mj 229 2 (nI (p + 1))) (nI 119) = some (nI 1) := by unfold f_X8_isAgain; simp (disch := omega) only [fa_lit, nI_add, pk_sub, pk_mul, nI_clamp, nI_leI, nI_ltI, nI_eq, inb, u2_s2, u2_ne2, if_pos, if_neg, Option.bind_some, nx, add_n0, cO, cN, cF, cU, true_or, or_true, if_true, if_false, not_true_eq_false, not_false_eq_true, true_and, and_true, d6']
  have ea : mj 229 2 + 1 = nI (p + 1) := by rw [a4]; exact nI_add _ 1
  rw [← ea] at h7
  rw [← ea] at ag
  unfold f_X5_readClause f_X8_readsClause
  rw [a3, hl, Option.bind_some, isw119, Option.bind_some, if_neg z0, if_neg x1n, rm, Option.bind_some, if_pos z00, v3, Option.bind_some]
  rw [hn, Option.bind_some]
  rw [if_neg (show ¬ nI 119 = 99 from nq 119 99 (by omega) (by omega) (by omega)), if_neg (show ¬ nI 119 = 99 from nq 119 99 (by omega) (by omega) (by omega)), if_neg (show ¬ nI 119 = 115 from nq 119 115 (by omega) (by omega) (by omega)), if_neg (show ¬ nI 119 = 116 from nq 119 116 (by omega) (by omega) (by omega)), if_neg (show ¬ nI 119 = 108 from nq 119 108 (by omega) (by omega) (by omega)), if_pos (show nI 119 = 119 from rfl), if_neg h7, ag, Option.bind_some, if_neg z0, fl, Option.bind_some]
  dsimp only
  rw [ea, a4]
  exact OUT.no h hdr (f := 3) (by omega)
theorem k_none {m0 n0 mi mj : Mi} {dr L p m wn sn ln : Nat} {T : Nat → Nat} (h : JR m0 n0 mi mj dr L p m wn sn ln) (hdr : dr = 4 ∨ dr = 210) (t : TC m0 L T) (t2 : TM n0 L T) (hp : p < L) (hs : sk L T p = p) (h1 : T p ≠ 99) (h2 : T p ≠ 115) (h3 : T p ≠ 116) (h4 : T p ≠ 108) (h5 : T p ≠ 119) : OUT m0 n0 dr L p (f_X5_readClause mi dr) (f_X8_readsClause mj) := by
  obtain ⟨hn, hl, J⟩ := k_pre h hdr t t2 hp hs
  have hT := (t.2.2 p hp).2
  obtain ⟨a1, a2, a3, a4, a5, a6, a7, a8⟩ := id h
  have v1 : f_X5_accuse mi 1 (nI p) = some (ac mi 1 p) := v_ac _ 1 _
  have e1p : nI p + 1 = nI (p + 1) := nI_add _ 1
  have y1 : ¬ nI (T p) = 99 := nqq (b := 99) hT (by omega) h1
  have y2 : ¬ nI (T p) = 115 := nqq (b := 115) hT (by omega) h2
  have y3 : ¬ nI (T p) = 116 := nqq (b := 116) hT (by omega) h3
  have y4 : ¬ nI (T p) = 108 := nqq (b := 108) hT (by omega) h4
  have y5 : ¬ nI (T p) = 119 := nqq (b := 119) hT (by omega) h5
  have ea : mj 229 2 + 1 = nI (p + 1) := by rw [a4]; exact nI_add _ 1
  unfold f_X5_readClause f_X8_readsClause
  rw [a3, hl, Option.bind_some, no_word hT h1 h2 h3 h4 h5, Option.bind_some, if_pos (show nI 0 = 0 from rfl), v1, Option.bind_some]
  rw [hn, Option.bind_some]
  rw [if_neg y1, if_neg y1, if_neg y2, if_neg y3, if_neg y4, if_neg y5, fl, Option.bind_some]
  dsimp only
  rw [ea, a4]
  exact OUT.no h hdr (f := 1) (by omega)
theorem K_clause {m0 n0 mi mj : Mi} {dr L p m wn sn ln : Nat} {T : Nat → Nat} (h : JR m0 n0 mi mj dr L p m wn sn ln) (hdr : dr = 4 ∨ dr = 210) (t : TC m0 L T) (t2 : TM n0 L T) (hp : p < L) (hs : sk L T p = p) : OUT m0 n0 dr L p (f_X5_readClause mi dr) (f_X8_readsClause mj) := by
  have hx : mi dr 0 = nI 0 ∨ mi dr 0 = nI 1 := by
    obtain ⟨-, -, -, -, -, -, -, -, -, -, -, -, -, -, -, -, d10, -⟩ := h
    exact d10.elim (fun a => Or.inl a.1) (fun a => Or.inr a.1)
  by_cases h1 : T p = 99
  · exact hx.elim (fun x => k99_n h hdr t t2 hp hs h1 x) (fun x => k99_yf h hdr t t2 hp hs h1 x)
  · by_cases h2 : T p = 115
    · refine hx.elim (fun x => k115_n h hdr t t2 hp hs h2 x) (fun x => ?_)
      by_cases hr : sn = 0
      · exact k115_yr h hdr t t2 hp hs h2 x hr
      · exact k115_yf h hdr t t2 hp hs h2 x hr
    · by_cases h3 : T p = 116
      · refine hx.elim (fun x => k116_n h hdr t t2 hp hs h3 x) (fun x => ?_)
        by_cases hr : m < 8
        · exact k116_yr h hdr t t2 hp hs h3 x hr
        · exact k116_yf h hdr t t2 hp hs h3 x hr
      · by_cases h4 : T p = 108
        · refine hx.elim (fun x => k108_n h hdr t t2 hp hs h4 x) (fun x => ?_)
          by_cases hr : ln < 6
          · exact k108_yr h hdr t t2 hp hs h4 x hr
          · exact k108_yf h hdr t t2 hp hs h4 x hr
        · by_cases h5 : T p = 119
          · refine hx.elim (fun x => k119_n h hdr t t2 hp hs h5 x) (fun x => ?_)
            by_cases hr : wn < 10
            · exact k119_yr h hdr t t2 hp hs h5 x hr
            · exact k119_yf h hdr t t2 hp hs h5 x hr
          · exact k_none h hdr t t2 hp hs h1 h2 h3 h4 h5
