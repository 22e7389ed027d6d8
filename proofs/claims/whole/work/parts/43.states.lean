/-! 43: reading: where both stand -/
def GC (m0 mi : Mi) (dr : Nat) : Prop := ∀ i, i ≠ 3 → (i < dr ∨ dr + 6 < i) → mi i = m0 i
def GN (n0 mj : Mi) : Prop := (∀ i, i ≠ 229 → (i < 231 ∨ 234 < i) → mj i = n0 i) ∧ ∀ k, k < 2 ∨ k = 5 ∨ 12 < k → mj 229 k = n0 229 k
/-- the class behind a fault -/
def BS (m0 mi : Mi) (dr L f s : Nat) : Prop := GC m0 mi dr ∧ (∃ p : Nat, p ≤ L ∧ mi 3 2 = nI p) ∧ (1 ≤ f ∧ f ≤ 3 ∧ mi 3 3 = nI f) ∧ (s ≤ L ∧ mi 3 4 = nI s) ∧ (∃ n : Nat, n ≤ 12 ∧ mi dr 4 = nI n) ∧ (∃ n : Nat, n ≤ 8 ∧ mi dr 5 = nI n) ∧ ∃ n : Nat, n ≤ 10 ∧ mi dr 7 = nI n
/-- the reference behind a fault -/
def BM (n0 mj : Mi) (f s : Nat) : Prop := GN n0 mj ∧ mj 229 4 = nI f ∧ mj 229 2 = nI s
def RQ (mi mj : Mi) (dr m wn sn ln : Nat) : Prop := m ≤ 8 ∧ wn ≤ 10 ∧ sn ≤ 12 ∧ ln ≤ 6 ∧ (mi dr 5 = nI m ∧ mj 229 9 = nI m) ∧ (mi dr 7 = nI wn ∧ mj 229 12 = nI wn) ∧ (mi dr 4 = nI sn ∧ mj 229 8 = nI sn) ∧ (mi dr 6 = nI ln ∧ mj 229 11 = nI ln) ∧
  (mj 229 6 = mi dr 1 ∧ mj 229 7 = mi dr 2 ∧ mj 229 10 = mi dr 3) ∧
  ((mi dr 0 = nI 0 ∧ mi dr 2 = nI 0 ∧ m = 0) ∨ (mi dr 0 = nI 1 ∧ ∃ d : Nat, 0 < d ∧ d < 24 ∧ mi dr 2 = nI d)) ∧
  (∀ k : Nat, k < sn → mj 231 k = mi (dr + 1) k) ∧
  (∀ t : Nat, t < m → mj 232 t = mi (dr + 2) t ∧ (∃ k : Nat, k < 4 ∧ mi (dr + 2) t = nI k) ∧ mj 233 t = mi (dr + 3) t ∧ ∃ v : Nat, v < 10 ∧ mi (dr + 3) t = nI v) ∧
  ∀ w : Nat, w < wn → mj 234 (3 * w) = mi (dr + 4) w ∧ mj 234 (3 * w + 1) = mi (dr + 5) w ∧ mj 234 (3 * w + 2) = mi (dr + 6) w ∧ (∃ t : Nat, t < m ∧ mi (dr + 5) w = nI t) ∧ ∃ v : Nat, v < 10 ∧ mi (dr + 6) w = nI v
def JR (m0 n0 mi mj : Mi) (dr L p m wn sn ln : Nat) : Prop := GC m0 mi dr ∧ GN n0 mj ∧ mi 3 2 = nI p ∧ mj 229 2 = nI p ∧ p ≤ L ∧ mi 3 3 = nI 0 ∧ mi 3 4 = -nI 1 ∧ RQ mi mj dr m wn sn ln
theorem GC.tx {m0 mi : Mi} {dr L : Nat} {T : Nat → Nat} (h : GC m0 mi dr) (hdr : dr = 4 ∨ dr = 210) (t : TC m0 L T) : TC mi L T := t.to (h 1 (by omega) (by omega)) (h 2 (by omega) (by omega))
theorem GN.tx {n0 mj : Mi} {L : Nat} {T : Nat → Nat} (h : GN n0 mj) (t : TM n0 L T) : TM mj L T := t.to (h.2 0 (by omega)) (h.1 230 (by omega) (by omega))
theorem GC.s {m0 mi : Mi} {dr : Nat} (h : GC m0 mi dr) (k : Nat) (x : Int32) : GC m0 (u2 mi 3 k x) dr := fun i h1 h2 => by rw [u2_row h1]; exact h i h1 h2
theorem GC.d {m0 mi : Mi} {dr : Nat} (h : GC m0 mi dr) {r : Nat} (hr : dr ≤ r ∧ r ≤ dr + 6) (k : Nat) (x : Int32) : GC m0 (u2 mi r k x) dr := fun i h1 h2 => by rw [u2_row (by omega)]; exact h i h1 h2
theorem GN.f {n0 mj mj' : Mi} (h : GN n0 mj) (g : FN mj mj') : GN n0 mj' := ⟨fun i h1 h2 => (g.1 i h1).trans (h.1 i h1 h2), fun k hk => (g.2 k (by omega)).trans (h.2 k hk)⟩
theorem GN.s {n0 mj : Mi} (h : GN n0 mj) {k : Nat} (hk : 6 ≤ k ∧ k ≤ 12) (x : Int32) : GN n0 (u2 mj 229 k x) := ⟨fun i h1 h2 => by rw [u2_row h1]; exact h.1 i h1 h2, fun j hj => by rw [u2_ne2 (by omega)]; exact h.2 j hj⟩
theorem GN.d {n0 mj : Mi} (h : GN n0 mj) {r : Nat} (hr : 231 ≤ r ∧ r ≤ 234) (k : Nat) (x : Int32) : GN n0 (u2 mj r k x) := ⟨fun i h1 h2 => by rw [u2_row (by omega)]; exact h.1 i h1 h2, fun j hj => by rw [u2_ne2 (by omega)]; exact h.2 j hj⟩
theorem RQ.to {mi mj mi' mj' : Mi} {dr m wn sn ln : Nat} (h : RQ mi mj dr m wn sn ln) (h1 : ∀ i, dr ≤ i → i ≤ dr + 6 → mi' i = mi i) (h2 : ∀ i, 231 ≤ i → i ≤ 234 → mj' i = mj i) (h3 : ∀ k, 6 ≤ k → k ≤ 12 → mj' 229 k = mj 229 k) : RQ mi' mj' dr m wn sn ln := by
  unfold RQ at *
  rw [h1 dr (by omega) (by omega), h1 (dr + 1) (by omega) (by omega), h1 (dr + 2) (by omega) (by omega), h1 (dr + 3) (by omega) (by omega), h1 (dr + 4) (by omega) (by omega), h1 (dr + 5) (by omega) (by omega), h1 (dr + 6) (by omega) (by omega), h2 231 (by omega) (by omega), h2 232 (by omega) (by omega), h2 233 (by omega) (by omega), h2 234 (by omega) (by omega), h3 6 (by omega) (by omega), h3 7 (by omega) (by omega), h3 8 (by omega) (by omega), h3 9 (by omega) (by omega), h3 10 (by omega) (by omega), h3 11 (by omega) (by omega), h3 12 (by omega) (by omega)]
  exact h
/-- both go on to another place -/
theorem JR.mv {m0 n0 mi mj mj' : Mi} {dr L p q m wn sn ln : Nat} (h : JR m0 n0 mi mj dr L p m wn sn ln) (hdr : dr = 4 ∨ dr = 210) (g : FN mj mj') (e : mj' 229 2 = nI q) (hq : q ≤ L) : JR m0 n0 (u2 mi 3 2 (nI q)) mj' dr L q m wn sn ln := by
  obtain ⟨a1, a2, a3, a4, a5, a6, a7, a8⟩ := h
  exact ⟨a1.s _ _, a2.f g, u2_s2 ⟨rfl, rfl⟩, e, hq, by rw [u2_ne2 (by omega)]; exact a6, by rw [u2_ne2 (by omega)]; exact a7, a8.to (fun i h1 h2 => u2_row (by omega)) (fun i h1 h2 => g.1 i (by omega)) (fun k h1 h2 => g.2 k (by omega))⟩
/-- a first fault -/
theorem JR.bad {m0 n0 mi mj : Mi} {dr L p q m wn sn ln f s : Nat} (h : JR m0 n0 mi mj dr L p m wn sn ln) (hdr : dr = 4 ∨ dr = 210) (hf : 1 ≤ f ∧ f ≤ 3) (hs : s ≤ L) (hq : q ≤ L) : BS m0 (ac (u2 mi 3 2 (nI q)) f s) dr L f s := by
  obtain ⟨a1, a2, a3, a4, a5, a6, a7, a8⟩ := h
  obtain ⟨q1, q2, q3, q4, ⟨q5, -⟩, ⟨q6, -⟩, ⟨q7, -⟩, -⟩ := a8
  unfold ac
  rw [if_pos (by rw [u2_ne2 (by omega)]; exact a6)]
  refine ⟨((a1.s _ _).s _ _).s _ _, ⟨q, hq, ?_⟩, ⟨hf.1, hf.2, ?_⟩, ⟨hs, ?_⟩, ⟨sn, q3, ?_⟩, ⟨m, q1, ?_⟩, ⟨wn, q2, ?_⟩⟩
  · simp (disch := omega) only [fa_lit, nI_add, pk_sub, pk_mul, nI_clamp, nI_leI, nI_ltI, nI_eq, inb, u2_s2, u2_ne2, if_pos, if_neg, Option.bind_some, nx, add_n0, cO, cN, cF, cU, true_or, or_true, if_true, if_false, not_true_eq_false, not_false_eq_true, true_and, and_true]
  · simp (disch := omega) only [fa_lit, nI_add, pk_sub, pk_mul, nI_clamp, nI_leI, nI_ltI, nI_eq, inb, u2_s2, u2_ne2, if_pos, if_neg, Option.bind_some, nx, add_n0, cO, cN, cF, cU, true_or, or_true, if_true, if_false, not_true_eq_false, not_false_eq_true, true_and, and_true]
  · simp (disch := omega) only [fa_lit, nI_add, pk_sub, pk_mul, nI_clamp, nI_leI, nI_ltI, nI_eq, inb, u2_s2, u2_ne2, if_pos, if_neg, Option.bind_some, nx, add_n0, cO, cN, cF, cU, true_or, or_true, if_true, if_false, not_true_eq_false, not_false_eq_true, true_and, and_true]
  · simp (disch := omega) only [fa_lit, nI_add, pk_sub, pk_mul, nI_clamp, nI_leI, nI_ltI, nI_eq, inb, u2_s2, u2_ne2, if_pos, if_neg, Option.bind_some, nx, add_n0, cO, cN, cF, cU, true_or, or_true, if_true, if_false, not_true_eq_false, not_false_eq_true, true_and, and_true, q7]
  · simp (disch := omega) only [fa_lit, nI_add, pk_sub, pk_mul, nI_clamp, nI_leI, nI_ltI, nI_eq, inb, u2_s2, u2_ne2, if_pos, if_neg, Option.bind_some, nx, add_n0, cO, cN, cF, cU, true_or, or_true, if_true, if_false, not_true_eq_false, not_false_eq_true, true_and, and_true, q5]
  · simp (disch := omega) only [fa_lit, nI_add, pk_sub, pk_mul, nI_clamp, nI_leI, nI_ltI, nI_eq, inb, u2_s2, u2_ne2, if_pos, if_neg, Option.bind_some, nx, add_n0, cO, cN, cF, cU, true_or, or_true, if_true, if_false, not_true_eq_false, not_false_eq_true, true_and, and_true, q6]
theorem BS.nac {m0 mi : Mi} {dr L f s : Nat} (h : BS m0 mi dr L f s) (f' s' : Nat) : ac mi f' s' = mi := by
  obtain ⟨-, -, ⟨h1, h2, h3⟩, -⟩ := h
  unfold ac
  rw [if_neg (by rw [h3, nI_eq (by omega) (by omega)]; omega)]
theorem BS.at2 {m0 mi : Mi} {dr L f s q : Nat} (h : BS m0 mi dr L f s) (hdr : dr = 4 ∨ dr = 210) (hq : q ≤ L) : BS m0 (u2 mi 3 2 (nI q)) dr L f s := by
  obtain ⟨b1, -, ⟨b2, b3, b4⟩, ⟨b5, b6⟩, ⟨n1, c1, c2⟩, ⟨n2, d1, d2⟩, ⟨n3, e1, e2⟩⟩ := h
  exact ⟨b1.s _ _, ⟨q, hq, u2_s2 ⟨rfl, rfl⟩⟩, ⟨b2, b3, by rw [u2_ne2 (by omega)]; exact b4⟩, ⟨b5, by rw [u2_ne2 (by omega)]; exact b6⟩, ⟨n1, c1, by rw [u2_ne2 (by omega)]; exact c2⟩, ⟨n2, d1, by rw [u2_ne2 (by omega)]; exact d2⟩, ⟨n3, e1, by rw [u2_ne2 (by omega)]; exact e2⟩⟩
/-- behind a fault the class reads on -/
theorem B_num {m0 mi : Mi} {dr L f s : Nat} {T : Nat → Nat} (h : BS m0 mi dr L f s) (hdr : dr = 4 ∨ dr = 210) (t : TC m0 L T) (x1 x2 : Int32) : ∃ (v : Int32) (mi' : Mi), f_X5_readNumber mi x1 x2 = some (v, mi') ∧ BS m0 mi' dr L f s := by
  obtain ⟨p, p1, p2⟩ := h.2.1
  have hC := h.1.tx hdr t
  have hM : TM (fun i k => if i = 229 then (if k = 0 then nI L else nI p) else mi 2 k) L T := ⟨t.1, by simp (disch := omega) only [fa_lit, nI_add, pk_sub, pk_mul, nI_clamp, nI_leI, nI_ltI, nI_eq, inb, u2_s2, u2_ne2, if_pos, if_neg, Option.bind_some, nx, add_n0, cO, cN, cF, cU, true_or, or_true, if_true, if_false, not_true_eq_false, not_false_eq_true, true_and, and_true], fun k hk => by
    have := hC.2.2 k hk
    exact this⟩
  obtain ⟨n, q, h1, h2, h3, h4⟩ := j_num hC hM p2 (by simp (disch := omega) only [fa_lit, nI_add, pk_sub, pk_mul, nI_clamp, nI_leI, nI_ltI, nI_eq, inb, u2_s2, u2_ne2, if_pos, if_neg, Option.bind_some, nx, add_n0, cO, cN, cF, cU, true_or, or_true, if_true, if_false, not_true_eq_false, not_false_eq_true, true_and, and_true]) p1 x1 x2
  rcases h4 with ⟨e, -⟩ | ⟨f', s', -, -, -, e, -⟩
  · exact ⟨_, _, e, h.at2 hdr h3⟩
  · rw [(h.at2 hdr h3).nac] at e
    exact ⟨_, _, e, h.at2 hdr h3⟩
theorem B_skip {m0 mi : Mi} {dr L f s : Nat} {T : Nat → Nat} (h : BS m0 mi dr L f s) (hdr : dr = 4 ∨ dr = 210) (t : TC m0 L T) : ∃ mi' : Mi, f_X5_skipBlanks mi = some mi' ∧ BS m0 mi' dr L f s := by
  obtain ⟨p, p1, p2⟩ := h.2.1
  exact ⟨_, c_skip (h.1.tx hdr t) p2 p1, h.at2 hdr (sk_le p1).2⟩
theorem B_end {m0 mi : Mi} {dr L f s : Nat} {T : Nat → Nat} (h : BS m0 mi dr L f s) (hdr : dr = 4 ∨ dr = 210) (t : TC m0 L T) : ∃ mi' : Mi, f_X5_readEnd mi = some mi' ∧ BS m0 mi' dr L f s := by
  obtain ⟨p, p1, p2⟩ := h.2.1
  have hq := (sk_le (T := T) p1).2
  have hTT : ∀ k, k < L → T k < 256 := fun k hk => (t.2.2 k hk).2
  have hb := h.at2 hdr hq
  unfold f_X5_readEnd
  rw [c_skip (h.1.tx hdr t) p2 p1, Option.bind_some, u2_s2 ⟨rfl, rfl⟩, c_let (hb.1.tx hdr t) hq, Option.bind_some]
  generalize sk L T p = q at *
  by_cases hx : tl L T q = nI 59
  · obtain ⟨x1, x2⟩ := (tl_eq hTT (by omega)).1 hx
    rw [if_pos (show tl L T q = 59 from hx), show nI q + 1 = nI (q + 1) from nI_add _ 1]
    exact ⟨_, rfl, hb.at2 hdr (by omega)⟩
  · rw [if_neg (show ¬ tl L T q = 59 from hx), show f_X5_accuse (u2 mi 3 2 (nI q)) 1 (nI q) = _ from v_ac _ 1 q, Option.bind_some, hb.nac]
    exact ⟨_, rfl, hb⟩
/-- the end of a clause, both -/
theorem j_end {m0 n0 mi mj : Mi} {dr L p m wn sn ln : Nat} {T : Nat → Nat} (h : JR m0 n0 mi mj dr L p m wn sn ln) (hdr : dr = 4 ∨ dr = 210) (t : TC m0 L T) (t2 : TM n0 L T) :
    (∃ (mi' mj' : Mi) (q : Nat), f_X5_readEnd mi = some mi' ∧ f_X8_readsSign mj 59 = some (nI 1, mj') ∧ JR m0 n0 mi' mj' dr L q m wn sn ln ∧ p < q) ∨
    ∃ (mi' mj' : Mi) (f s : Nat), f_X5_readEnd mi = some mi' ∧ f_X8_readsSign mj 59 = some (nI 0, mj') ∧ BS m0 mi' dr L f s ∧ BM n0 mj' f s := by
  obtain ⟨a1, a2, a3, a4, a5, -⟩ := id h
  have hq := sk_le (T := T) a5
  have hTT : ∀ k, k < L → T k < 256 := fun k hk => (t.2.2 k hk).2
  have hb := h.mv hdr (mj' := u2 mj 229 2 (nI (sk L T p))) (FN.p (by omega) FN.rf) (u2_s2 ⟨rfl, rfl⟩) hq.2
  unfold f_X5_readEnd f_X8_readsSign
  rw [c_skip (a1.tx hdr t) a3 a5, Option.bind_some, u2_s2 ⟨rfl, rfl⟩, c_let (hb.1.tx hdr t) hq.2, Option.bind_some, m_next (a2.tx t2) a4 a5, Option.bind_some]
  generalize sk L T p = q at *
  by_cases hx : tl L T q = nI 59
  · obtain ⟨x1, x2⟩ := (tl_eq hTT (by omega)).1 hx
    refine Or.inl ⟨u2 (u2 mi 3 2 (nI q)) 3 2 (nI (q + 1)), u2 (u2 mj 229 2 (nI q)) 229 2 (nI (q + 1)), q + 1, ?_, ?_, hb.mv hdr (FN.p (by omega) FN.rf) (u2_s2 ⟨rfl, rfl⟩) (by omega), by omega⟩
    · rw [if_pos (show tl L T q = 59 from hx), show nI q + 1 = nI (q + 1) from nI_add _ 1]
    · rw [if_pos (show tl L T q = 59 from hx)]; dsimp only; rw [u2_s2 ⟨rfl, rfl⟩, show nI q + 1 = nI (q + 1) from nI_add _ 1]; rfl
  · refine Or.inr ⟨ac (u2 mi 3 2 (nI q)) 1 q, u2 (u2 (u2 mj 229 2 (nI q)) 229 4 (nI 1)) 229 2 (nI q), 1, q, ?_, ?_, h.bad hdr (by omega) hq.2 hq.2, a2.f (FN.p (by omega) (FN.p (by omega) (FN.p (by omega) FN.rf))), by rw [u2_ne2 (by omega), u2_s2 ⟨rfl, rfl⟩], u2_s2 ⟨rfl, rfl⟩⟩
    · rw [if_neg (show ¬ tl L T q = 59 from hx), show f_X5_accuse (u2 mi 3 2 (nI q)) 1 (nI q) = _ from v_ac _ 1 q, Option.bind_some]
    · rw [if_neg (show ¬ tl L T q = 59 from hx), f_X8_fails, Option.bind_some]; dsimp only; rw [u2_s2 ⟨rfl, rfl⟩]; rfl
