/-! 44: clauses -/
def OUT (m0 n0 : Mi) (dr L p : Nat) (o1 : Option Mi) (o2 : Option (Int32 × Mi)) : Prop :=
  (∃ (mi' mj' : Mi) (q m wn sn ln : Nat), o1 = some mi' ∧ o2 = some (nI 1, mj') ∧ JR m0 n0 mi' mj' dr L q m wn sn ln ∧ p < q) ∨
  ∃ (mi' mj' : Mi) (f s : Nat), o1 = some mi' ∧ o2 = some (nI 0, mj') ∧ BS m0 mi' dr L f s ∧ BM n0 mj' f s
theorem BM.s {n0 mj : Mi} {f s : Nat} (h : BM n0 mj f s) {k : Nat} (hk : 6 ≤ k ∧ k ≤ 12) (x : Int32) : BM n0 (u2 mj 229 k x) f s := ⟨h.1.s hk x, by rw [u2_ne2 (by omega)]; exact h.2.1, by rw [u2_ne2 (by omega)]; exact h.2.2⟩
theorem BM.d {n0 mj : Mi} {f s : Nat} (h : BM n0 mj f s) {r : Nat} (hr : 231 ≤ r ∧ r ≤ 234) (k : Nat) (x : Int32) : BM n0 (u2 mj r k x) f s := ⟨h.1.d hr k x, by rw [u2_ne2 (by omega)]; exact h.2.1, by rw [u2_ne2 (by omega)]; exact h.2.2⟩
theorem BS.put {m0 mi : Mi} {dr L f s : Nat} (h : BS m0 mi dr L f s) (hdr : dr = 4 ∨ dr = 210) {r k : Nat} {x : Int32} (hr : dr ≤ r ∧ r ≤ dr + 6) (h4 : r = dr → k = 4 → ∃ n : Nat, n ≤ 12 ∧ x = nI n) (h5 : r = dr → k = 5 → ∃ n : Nat, n ≤ 8 ∧ x = nI n) (h7 : r = dr → k = 7 → ∃ n : Nat, n ≤ 10 ∧ x = nI n) : BS m0 (u2 mi r k x) dr L f s := by
  have n3 : r ≠ 3 := by clear h4 h5 h7; omega
  obtain ⟨b1, ⟨p, p1, p2⟩, ⟨b2, b3, b4⟩, ⟨b5, b6⟩, c4, c5, c7⟩ := h
  refine ⟨b1.d hr _ _, ⟨p, p1, by rw [u2_ne2 (fun e => n3 e.1.symm)]; exact p2⟩, ⟨b2, b3, by rw [u2_ne2 (fun e => n3 e.1.symm)]; exact b4⟩, ⟨b5, by rw [u2_ne2 (fun e => n3 e.1.symm)]; exact b6⟩, ?_, ?_, ?_⟩
  · by_cases hh : r = dr ∧ k = 4
    · rw [u2_s2 ⟨hh.1.symm, hh.2.symm⟩]; exact h4 hh.1 hh.2
    · rw [u2_ne2 (fun e => hh ⟨e.1.symm, e.2.symm⟩)]; exact c4
  · by_cases hh : r = dr ∧ k = 5
    · rw [u2_s2 ⟨hh.1.symm, hh.2.symm⟩]; exact h5 hh.1 hh.2
    · rw [u2_ne2 (fun e => hh ⟨e.1.symm, e.2.symm⟩)]; exact c5
  · by_cases hh : r = dr ∧ k = 7
    · rw [u2_s2 ⟨hh.1.symm, hh.2.symm⟩]; exact h7 hh.1 hh.2
    · rw [u2_ne2 (fun e => hh ⟨e.1.symm, e.2.symm⟩)]; exact c7
/-- a slot that no count is -/
theorem BS.p0 {m0 mi : Mi} {dr L f s : Nat} (h : BS m0 mi dr L f s) (hdr : dr = 4 ∨ dr = 210) {r k : Nat} (x : Int32) (hr : dr ≤ r ∧ r ≤ dr + 6) (hk : r ≠ dr ∨ (k ≠ 4 ∧ k ≠ 5 ∧ k ≠ 7)) : BS m0 (u2 mi r k x) dr L f s := h.put hdr hr (fun a b => by omega) (fun a b => by omega) (fun a b => by omega)
theorem B_day {m0 mi : Mi} {dr L f s : Nat} (h : BS m0 mi dr L f s) (hdr : dr = 4 ∨ dr = 210) (x y : Int32) : ∃ mi' : Mi, f_X1_addDay mi dr x y = some mi' ∧ BS m0 mi' dr L f s :=
  ⟨_, rfl, ((h.p0 hdr _ (by omega) (by omega)).p0 hdr _ (by omega) (by omega)).p0 hdr _ (by omega) (by omega)⟩
theorem B_land {m0 mi : Mi} {dr L f s : Nat} (h : BS m0 mi dr L f s) (hdr : dr = 4 ∨ dr = 210) (x : Int32) : ∃ mi' : Mi, f_X1_addLand mi dr x = some mi' ∧ BS m0 mi' dr L f s :=
  ⟨_, rfl, (h.p0 hdr _ (by omega) (by omega)).p0 hdr _ (by omega) (by omega)⟩
theorem B_season {m0 mi : Mi} {dr L f s : Nat} (h : BS m0 mi dr L f s) (hdr : dr = 4 ∨ dr = 210) (x : Int32) : ∃ mi' : Mi, f_X1_addSeason mi dr x = some mi' ∧ BS m0 mi' dr L f s := by
  obtain ⟨n, n1, n2⟩ := h.2.2.2.2.1
  unfold f_X1_addSeason
  by_cases hn : n = 12
  · subst hn
    exact ⟨mi, by simp (disch := omega) only [fa_lit, nI_add, pk_sub, pk_mul, nI_clamp, nI_leI, nI_ltI, nI_eq, inb, u2_s2, u2_ne2, if_pos, if_neg, Option.bind_some, nx, add_n0, cO, cN, cF, cU, true_or, or_true, if_true, if_false, not_true_eq_false, not_false_eq_true, true_and, and_true, n2], h⟩
  · exact ⟨u2 (u2 mi (dr + 1) n x) dr 4 (nI (n + 1)), by simp (disch := omega) only [fa_lit, nI_add, pk_sub, pk_mul, nI_clamp, nI_leI, nI_ltI, nI_eq, inb, u2_s2, u2_ne2, if_pos, if_neg, Option.bind_some, nx, add_n0, cO, cN, cF, cU, true_or, or_true, if_true, if_false, not_true_eq_false, not_false_eq_true, true_and, and_true, n2], (h.p0 hdr _ (by omega) (by omega)).put hdr (by omega) (fun _ _ => ⟨n + 1, by omega, rfl⟩) (fun a b => by omega) (fun a b => by omega)⟩
theorem B_thing {m0 mi : Mi} {dr L f s : Nat} (h : BS m0 mi dr L f s) (hdr : dr = 4 ∨ dr = 210) (x y : Int32) : ∃ mi' : Mi, f_X1_addThing mi dr x y = some mi' ∧ BS m0 mi' dr L f s := by
  obtain ⟨n, n1, n2⟩ := h.2.2.2.2.2.1
  unfold f_X1_addThing
  by_cases hn : n = 8
  · subst hn
    exact ⟨mi, by simp (disch := omega) only [fa_lit, nI_add, pk_sub, pk_mul, nI_clamp, nI_leI, nI_ltI, nI_eq, inb, u2_s2, u2_ne2, if_pos, if_neg, Option.bind_some, nx, add_n0, cO, cN, cF, cU, true_or, or_true, if_true, if_false, not_true_eq_false, not_false_eq_true, true_and, and_true, n2], h⟩
  · exact ⟨u2 (u2 (u2 mi (dr + 2) n x) (dr + 3) n y) dr 5 (nI (n + 1)), by simp (disch := omega) only [fa_lit, nI_add, pk_sub, pk_mul, nI_clamp, nI_leI, nI_ltI, nI_eq, inb, u2_s2, u2_ne2, if_pos, if_neg, Option.bind_some, nx, add_n0, cO, cN, cF, cU, true_or, or_true, if_true, if_false, not_true_eq_false, not_false_eq_true, true_and, and_true, n2], ((h.p0 hdr _ (by omega) (by omega)).p0 hdr _ (by omega) (by omega)).put hdr (by omega) (fun a b => by omega) (fun _ _ => ⟨n + 1, by omega, rfl⟩) (fun a b => by omega)⟩
theorem B_want {m0 mi : Mi} {dr L f s : Nat} (h : BS m0 mi dr L f s) (hdr : dr = 4 ∨ dr = 210) (x y z : Int32) : ∃ mi' : Mi, f_X1_addWant mi dr x y z = some mi' ∧ BS m0 mi' dr L f s := by
  obtain ⟨n, n1, n2⟩ := h.2.2.2.2.2.2
  unfold f_X1_addWant
  by_cases hn : n = 10
  · subst hn
    exact ⟨mi, by simp (disch := omega) only [fa_lit, nI_add, pk_sub, pk_mul, nI_clamp, nI_leI, nI_ltI, nI_eq, inb, u2_s2, u2_ne2, if_pos, if_neg, Option.bind_some, nx, add_n0, cO, cN, cF, cU, true_or, or_true, if_true, if_false, not_true_eq_false, not_false_eq_true, true_and, and_true, n2], h⟩
  · exact ⟨u2 (u2 (u2 (u2 mi (dr + 4) n x) (dr + 5) n y) (dr + 6) n z) dr 7 (nI (n + 1)), by simp (disch := omega) only [fa_lit, nI_add, pk_sub, pk_mul, nI_clamp, nI_leI, nI_ltI, nI_eq, inb, u2_s2, u2_ne2, if_pos, if_neg, Option.bind_some, nx, add_n0, cO, cN, cF, cU, true_or, or_true, if_true, if_false, not_true_eq_false, not_false_eq_true, true_and, and_true, n2], (((h.p0 hdr _ (by omega) (by omega)).p0 hdr _ (by omega) (by omega)).p0 hdr _ (by omega) (by omega)).put hdr (by omega) (fun a b => by omega) (fun a b => by omega) (fun _ _ => ⟨n + 1, by omega, rfl⟩)⟩
/-- a number, from a good place -/
theorem j_numR {m0 n0 mi mj : Mi} {dr L p m wn sn ln : Nat} {T : Nat → Nat} (h : JR m0 n0 mi mj dr L p m wn sn ln) (hdr : dr = 4 ∨ dr = 210) (t : TC m0 L T) (t2 : TM n0 L T) (x1 x2 : Int32) :
    (∃ (n q : Nat) (mj' : Mi), n < 1000 ∧ f_X5_readNumber mi x1 x2 = some (nI n, u2 mi 3 2 (nI q)) ∧ f_X8_readsNumber mj x1 x2 = some (nI n, mj') ∧ f_X7_isWithin (nI n) x1 x2 = some (nI 1) ∧ JR m0 n0 (u2 mi 3 2 (nI q)) mj' dr L q m wn sn ln ∧ p < q ∧ FN mj mj') ∨
    ∃ (v : Int32) (mi' mj' : Mi) (f s : Nat), f_X5_readNumber mi x1 x2 = some (v, mi') ∧ f_X8_readsNumber mj x1 x2 = some (-nI 1, mj') ∧ BS m0 mi' dr L f s ∧ BM n0 mj' f s ∧ FN mj mj' := by
  obtain ⟨a1, a2, a3, a4, a5, -⟩ := id h
  obtain ⟨n, q, h1, h2, h3, h4⟩ := j_num (a1.tx hdr t) (a2.tx t2) a3 a4 a5 x1 x2
  rcases h4 with ⟨e1, e2, e3, mj', e4, e5, e6⟩ | ⟨f, s, f1, f2, f3, e1, mj', e2, e3, e4, e5⟩
  · exact Or.inl ⟨n, q, mj', h1, e1, e4, e3, h.mv hdr e6 e5 h3, e2, e6⟩
  · exact Or.inr ⟨_, _, mj', f, s, e1, e2, h.bad hdr (by omega) f3 h3, ⟨a2.f e5, e3, e4⟩, e5⟩
theorem in_rng {n a b : Nat} (hn : n < 1000) (ha : a < 2 ^ 31) (hb : b < 2 ^ 31) (h : f_X7_isWithin (nI n) (nI a) (nI b) = some (nI 1)) : a ≤ n ∧ n ≤ b := by
  unfold f_X7_isWithin at h
  by_cases h1 : n < a
  · rw [if_pos ((nI_ltI (by omega) ha).2 h1)] at h
    exact absurd (Option.some.inj h) (by decide)
  · rw [if_neg (fun e => h1 ((nI_ltI (by omega) ha).1 e))] at h
    by_cases h2 : b < n
    · rw [if_pos ((nI_ltI hb (by omega)).2 h2)] at h
      exact absurd (Option.some.inj h) (by decide)
    · omega
theorem nI_nm {n : Nat} (hn : n < 2 ^ 31) : ¬ nI n = (-1 : Int32) := fun e => by
  have h := neg_lt hn
  rw [e] at h
  exact absurd h (by decide)
theorem j_tail {m0 n0 mi mj : Mi} {dr L p m wn sn ln : Nat} {T : Nat → Nat} (h : JR m0 n0 mi mj dr L p m wn sn ln) (hdr : dr = 4 ∨ dr = 210) (t : TC m0 L T) (t2 : TM n0 L T) :
    OUT m0 n0 dr L p (f_X5_readEnd mi) ((f_X8_readsSign mj 59).bind (fun q => if q.1 = 0 then (some (0, q.2)) else (some (1, q.2)))) := by
  rcases j_end h hdr t t2 with ⟨mi', mj', q, e1, e2, e3, e4⟩ | ⟨mi', mj', f, s, e1, e2, e3, e4⟩
  · exact Or.inl ⟨mi', mj', q, m, wn, sn, ln, e1, by rw [e2, Option.bind_some, if_neg (show ¬ nI 1 = 0 from nI_ne0 (by omega) (by omega))]; rfl, e3, e4⟩
  · exact Or.inr ⟨mi', mj', f, s, e1, by rw [e2, Option.bind_some, if_pos (show nI 0 = 0 from rfl)]; rfl, e3, e4⟩
theorem OUT.lt {m0 n0 : Mi} {dr L p p' : Nat} {o1 : Option Mi} {o2 : Option (Int32 × Mi)} (h : OUT m0 n0 dr L p o1 o2) (hp : p' ≤ p) : OUT m0 n0 dr L p' o1 o2 := by
  rcases h with ⟨mi', mj', q, m, wn, sn, ln, a, b, c, d⟩ | h
  · exact Or.inl ⟨mi', mj', q, m, wn, sn, ln, a, b, c, by omega⟩
  · exact Or.inr h
theorem JR.day {m0 n0 mi mj : Mi} {dr L p m wn sn ln : Nat} (h : JR m0 n0 mi mj dr L p m wn sn ln) (hdr : dr = 4 ∨ dr = 210) (n1 : Nat) {n2 : Nat} (h1 : 0 < n2) (h2 : n2 < 24) : JR m0 n0 (u2 (u2 (u2 mi dr 0 1) dr 1 (nI n1)) dr 2 (nI n2)) (u2 (u2 mj 229 6 (nI n1)) 229 7 (nI n2)) dr L p m wn sn ln := by
  obtain ⟨c1, c2, c3, c4, c5, c6, c7, c8⟩ := h
  obtain ⟨d1, d2, d3, d4, ⟨d5, d5'⟩, ⟨d6, d6'⟩, ⟨d7, d7'⟩, ⟨d8, d8'⟩, ⟨d9, d9', d9''⟩, d10, d11, d12, d13⟩ := c8
  refine ⟨((c1.d (by omega) _ _).d (by omega) _ _).d (by omega) _ _, (c2.s (by omega) _).s (by omega) _, by simp (disch := omega) only [u2_ne2, u2_s2]; exact c3, by simp (disch := omega) only [u2_ne2, u2_s2]; exact c4, c5, by simp (disch := omega) only [u2_ne2, u2_s2]; exact c6, by simp (disch := omega) only [u2_ne2, u2_s2]; exact c7, d1, d2, d3, d4, ⟨by simp (disch := omega) only [u2_ne2, u2_s2]; exact d5, by simp (disch := omega) only [u2_ne2, u2_s2]; exact d5'⟩, ⟨by simp (disch := omega) only [u2_ne2, u2_s2]; exact d6, by simp (disch := omega) only [u2_ne2, u2_s2]; exact d6'⟩, ⟨by simp (disch := omega) only [u2_ne2, u2_s2]; exact d7, by simp (disch := omega) only [u2_ne2, u2_s2]; exact d7'⟩, ⟨by simp (disch := omega) only [u2_ne2, u2_s2]; exact d8, by simp (disch := omega) only [u2_ne2, u2_s2]; exact d8'⟩, ⟨by simp (disch := omega) only [u2_ne2, u2_s2], by simp (disch := omega) only [u2_ne2, u2_s2], by simp (disch := omega) only [u2_ne2, u2_s2]; exact d9''⟩, Or.inr ⟨by simp (disch := omega) only [u2_ne2, u2_s2]; rfl, n2, h1, h2, by simp (disch := omega) only [u2_ne2, u2_s2]⟩, ?_, ?_, ?_⟩
  · intro k hk; simp (disch := omega) only [u2_ne2, u2_s2]; exact d11 k hk
  · intro k hk; simp (disch := omega) only [u2_ne2, u2_s2]; exact d12 k hk
  · intro k hk; simp (disch := omega) only [u2_ne2, u2_s2]; exact d13 k hk
theorem K_day {m0 n0 mi mj : Mi} {dr L p m wn sn ln : Nat} {T : Nat → Nat} (h : JR m0 n0 mi mj dr L p m wn sn ln) (hdr : dr = 4 ∨ dr = 210) (t : TC m0 L T) (t2 : TM n0 L T) :
    OUT m0 n0 dr L p ((f_X5_readDay mi dr).bind (fun a => (f_X5_readEnd a).bind (fun b => some b))) (f_X8_readsHead mj) := by
  unfold f_X5_readDay f_X8_readsHead
  rcases j_numR h hdr t t2 1 11 with ⟨n1, q1, m1, a1, a2, a3, a4, a5, a6, a7⟩ | ⟨v, mi', m1, f, s, a1, a2, a3, a4, a5⟩
  · rw [a2, Option.bind_some, a3, Option.bind_some]
    rw [if_neg (nI_nm (by omega))]
    rcases j_numR a5 hdr t t2 13 23 with ⟨n2, q2, m2, b1, b2, b3, b4, b5, b6, b7⟩ | ⟨v, mi', m2, f, s, b1, b2, b3, b4, b5⟩
    · dsimp only
      rw [b2, Option.bind_some, b3, Option.bind_some]
      rw [if_neg (nI_nm (by omega))]
      dsimp only
      rw [f_X1_addDay, Option.bind_some, Option.bind_some]
      have hr := in_rng (a := 13) (b := 23) b1 (by omega) (by omega) b4
      have J := b5.day hdr n1 (n2 := n2) (by omega) (by omega)
      rcases j_tail J hdr t t2 with ⟨mi', mj', q, m', wn', sn', ln', e1, e2, e3, e4⟩ | ⟨mi', mj', f, s, e1, e2, e3, e4⟩
      · exact Or.inl ⟨mi', mj', q, m', wn', sn', ln', by rw [e1, Option.bind_some], e2, e3, by omega⟩
      · exact Or.inr ⟨mi', mj', f, s, by rw [e1, Option.bind_some], e2, e3, e4⟩
    · dsimp only
      rw [b1, Option.bind_some, b2, Option.bind_some]
      rw [if_pos (show (-nI 1 : Int32) = -1 from rfl)]
      obtain ⟨ma, g1, g2⟩ := B_day b3 hdr (nI n1) v
      obtain ⟨mb, k1, k2⟩ := B_end g2 hdr t
      exact Or.inr ⟨mb, _, f, s, by dsimp only; rw [g1, Option.bind_some, Option.bind_some, k1, Option.bind_some], rfl, k2, (b4.s (by omega) _).s (by omega) _⟩
  · rw [a1, Option.bind_some, a2, Option.bind_some]
    rw [if_pos (show (-nI 1 : Int32) = -1 from rfl)]
    obtain ⟨v2, mb, g1, g2⟩ := B_num a3 hdr t 13 23
    obtain ⟨mc, k1, k2⟩ := B_day g2 hdr v v2
    obtain ⟨md, l1, l2⟩ := B_end k2 hdr t
    exact Or.inr ⟨md, _, f, s, by dsimp only; rw [g1, Option.bind_some]; dsimp only; rw [k1, Option.bind_some, Option.bind_some, l1, Option.bind_some], rfl, l2, (a4.s (by omega) _).s (by omega) _⟩
