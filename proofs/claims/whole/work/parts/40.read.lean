/-! 40: reading: letters, blanks, figures -/
theorem u2_u2 {α : Type} (f : Nat → Nat → α) (i j : Nat) (x y : α) : u2 (u2 f i j x) i j y = u2 f i j y := by
  funext a b; by_cases h : a = i ∧ b = j
  · rw [u2_s2 h, u2_s2 h]
  · rw [u2_ne2 h, u2_ne2 h, u2_ne2 h]
theorem u2_self {α : Type} (f : Nat → Nat → α) (i j : Nat) {x : α} (h : f i j = x) : u2 f i j x = f := by
  funext a b; by_cases h1 : a = i ∧ b = j
  · rw [u2_s2 h1, h1.1, h1.2, h]
  · rw [u2_ne2 h1]
def TC (mi : Mi) (L : Nat) (T : Nat → Nat) : Prop := L ≤ 240 ∧ mi 1 1 = nI L ∧ ∀ k : Nat, k < L → mi 2 k = nI (T k) ∧ T k < 256
def TM (mj : Mi) (L : Nat) (T : Nat → Nat) : Prop := L ≤ 240 ∧ mj 229 0 = nI L ∧ ∀ k : Nat, k < L → mj 230 k = nI (T k) ∧ T k < 256
/-- the letter at a place -/
def tl (L : Nat) (T : Nat → Nat) (p : Nat) : Int32 := if p < L then nI (T p) else -nI 1
theorem c_let {mi : Mi} {L p : Nat} {T : Nat → Nat} (h : TC mi L T) (hp : p ≤ L) : f_X6_letterAt mi (nI p) = some (tl L T p) := by
  obtain ⟨h1, h2, h3⟩ := h
  unfold f_X6_letterAt tl
  by_cases hl : p < L
  · obtain ⟨h4, h5⟩ := h3 p hl
    simp (disch := omega) only [fa_lit, nI_add, pk_sub, pk_mul, nI_clamp, nI_leI, nI_ltI, nI_eq, inb, u2_s2, u2_ne2, if_pos, if_neg, Option.bind_some, nx, add_n0, cO, cN, cF, cU, true_or, or_true, if_true, if_false, not_true_eq_false, not_false_eq_true, true_and, and_true, h2, h4]
  · simp (disch := omega) only [fa_lit, nI_add, pk_sub, pk_mul, nI_clamp, nI_leI, nI_ltI, nI_eq, inb, u2_s2, u2_ne2, if_pos, if_neg, Option.bind_some, nx, add_n0, cO, cN, cF, cU, true_or, or_true, if_true, if_false, not_true_eq_false, not_false_eq_true, true_and, and_true, h2]
theorem m_let {mj : Mi} {L p : Nat} {T : Nat → Nat} (h : TM mj L T) (hp : p ≤ L) : f_X8_letterAt mj (nI p) = some (tl L T p) := by
  obtain ⟨h1, h2, h3⟩ := h
  unfold f_X8_letterAt tl
  by_cases hl : p < L
  · obtain ⟨h4, h5⟩ := h3 p hl
    simp (disch := omega) only [fa_lit, nI_add, pk_sub, pk_mul, nI_clamp, nI_leI, nI_ltI, nI_eq, inb, u2_s2, u2_ne2, if_pos, if_neg, Option.bind_some, nx, add_n0, cO, cN, cF, cU, true_or, or_true, if_true, if_false, not_true_eq_false, not_false_eq_true, true_and, and_true, h2, h4]
  · simp (disch := omega) only [fa_lit, nI_add, pk_sub, pk_mul, nI_clamp, nI_leI, nI_ltI, nI_eq, inb, u2_s2, u2_ne2, if_pos, if_neg, Option.bind_some, nx, add_n0, cO, cN, cF, cU, true_or, or_true, if_true, if_false, not_true_eq_false, not_false_eq_true, true_and, and_true, h2]
theorem TC.to {mi mi' : Mi} {L : Nat} {T : Nat → Nat} (h : TC mi L T) (h1 : mi' 1 = mi 1) (h2 : mi' 2 = mi 2) : TC mi' L T := by
  unfold TC at *; rw [h1, h2]; exact h
theorem TM.to {mj mj' : Mi} {L : Nat} {T : Nat → Nat} (h : TM mj L T) (h1 : mj' 229 0 = mj 229 0) (h2 : mj' 230 = mj 230) : TM mj' L T := by
  unfold TM at *; rw [h1, h2]; exact h
theorem TC.at2 {mi : Mi} {L : Nat} {T : Nat → Nat} (h : TC mi L T) (k : Nat) (x : Int32) : TC (u2 mi 3 k x) L T := h.to (u2_row (by omega)) (u2_row (by omega))
theorem TM.at2 {mj : Mi} {L : Nat} {T : Nat → Nat} (h : TM mj L T) {k : Nat} (hk : 0 < k) (x : Int32) : TM (u2 mj 229 k x) L T := h.to (u2_ne2 (by omega)) (u2_row (by omega))
/-- behind the blanks -/
def skc (T : Nat → Nat) : Nat → Nat → Nat
  | 0, p => p
  | c + 1, p => if T p = 32 then skc T c (p + 1) else p
theorem skc_le (T : Nat → Nat) : ∀ c p, p ≤ skc T c p ∧ skc T c p ≤ p + c := by
  intro c
  induction c with
  | zero => intro p; exact ⟨Nat.le_refl _, Nat.le_refl _⟩
  | succ c ih =>
    intro p
    have := ih (p + 1)
    rw [skc]
    by_cases h : T p = 32
    · rw [if_pos h]; omega
    · rw [if_neg h]; omega
theorem skc_end (T : Nat → Nat) : ∀ c p, skc T c p = p + c ∨ (skc T c p < p + c ∧ T (skc T c p) ≠ 32) := by
  intro c
  induction c with
  | zero => intro p; exact Or.inl rfl
  | succ c ih =>
    intro p
    have := ih (p + 1)
    rw [skc]
    by_cases h : T p = 32
    · rw [if_pos h]; rcases this with a | ⟨a, b⟩
      · exact Or.inl (by omega)
      · exact Or.inr ⟨by omega, b⟩
    · rw [if_neg h]; exact Or.inr ⟨by omega, h⟩
theorem tl_eq {L p n : Nat} {T : Nat → Nat} (hT : ∀ k, k < L → T k < 256) (hn : n < 256) : tl L T p = nI n ↔ p < L ∧ T p = n := by
  unfold tl
  by_cases h : p < L
  · have := hT p h
    rw [if_pos h, nI_eq (by omega) (by omega)]; exact ⟨fun a => ⟨h, a⟩, fun a => a.2⟩
  · rw [if_neg h]
    refine ⟨fun a => absurd a ?_, fun a => absurd a.1 h⟩
    intro e
    have h1 : (-nI 1 : Int32) < nI 0 := by decide
    rw [e, nI_ltI (by omega) (by omega)] at h1
    omega
theorem v_skc {L : Nat} {T : Nat → Nat} (K : Mi → Option Mi) : ∀ (c n p : Nat) (mi : Mi), TC mi L T → mi 3 2 = nI p → p + c = L → c < n → lp_X5_skipBlanks_0 K n mi = K (u2 mi 3 2 (nI (skc T c p))) := by
  intro c
  induction c with
  | zero =>
    intro n p mi hT hp hc hn
    obtain ⟨n, rfl⟩ : ∃ k, n = k + 1 := ⟨n - 1, by omega⟩
    obtain ⟨t1, t2, t3⟩ := id hT
    rw [lp_X5_skipBlanks_0, t2, hp, if_pos ((nI_leI (by omega) (by omega)).2 (by omega)), skc, u2_self _ _ _ hp]
  | succ c ih =>
    intro n p mi hT hp hc hn
    obtain ⟨n, rfl⟩ : ∃ k, n = k + 1 := ⟨n - 1, by omega⟩
    obtain ⟨t1, t2, t3⟩ := id hT
    have hTT : ∀ k, k < L → T k < 256 := fun k hk => (t3 k hk).2
    rw [lp_X5_skipBlanks_0, t2, hp, if_neg (show ¬ nI L ≤ nI p by rw [nI_leI (by omega) (by omega)]; omega), c_let hT (by omega), Option.bind_some, skc]
    by_cases h : T p = 32
    · rw [if_pos (show tl L T p = 32 from (tl_eq (n := 32) hTT (by omega)).2 ⟨by omega, h⟩), if_pos h, show nI p + 1 = nI (p + 1) from nI_add _ 1, ih n (p + 1) _ (hT.at2 _ _) (u2_s2 ⟨rfl, rfl⟩) (by omega) (by omega), u2_u2]
    · rw [if_neg (show ¬ tl L T p = 32 from fun e => h ((tl_eq (n := 32) hTT (by omega)).1 e).2), if_neg h, u2_self _ _ _ hp]
theorem v_skm {L : Nat} {T : Nat → Nat} (K : Mi → Option (Int32 × Mi)) : ∀ (c n p : Nat) (mj : Mi), TM mj L T → mj 229 2 = nI p → p + c = L → c < n → lp_X8_nextLetter_0 K n mj = K (u2 mj 229 2 (nI (skc T c p))) := by
  intro c
  induction c with
  | zero =>
    intro n p mj hT hp hc hn
    obtain ⟨n, rfl⟩ : ∃ k, n = k + 1 := ⟨n - 1, by omega⟩
    obtain ⟨t1, t2, t3⟩ := id hT
    have hTT : ∀ k, k < L → T k < 256 := fun k hk => (t3 k hk).2
    rw [lp_X8_nextLetter_0, hp, m_let hT (by omega), Option.bind_some, if_neg (show ¬ tl L T p = 32 from fun e => absurd ((tl_eq (n := 32) hTT (by omega)).1 e).1 (by omega)), skc, u2_self _ _ _ hp]
  | succ c ih =>
    intro n p mj hT hp hc hn
    obtain ⟨n, rfl⟩ : ∃ k, n = k + 1 := ⟨n - 1, by omega⟩
    obtain ⟨t1, t2, t3⟩ := id hT
    have hTT : ∀ k, k < L → T k < 256 := fun k hk => (t3 k hk).2
    rw [lp_X8_nextLetter_0, hp, m_let hT (by omega), Option.bind_some, skc]
    by_cases h : T p = 32
    · rw [if_pos (show tl L T p = 32 from (tl_eq (n := 32) hTT (by omega)).2 ⟨by omega, h⟩), if_pos h, show nI p + 1 = nI (p + 1) from nI_add _ 1, ih n (p + 1) _ (hT.at2 (by omega) _) (u2_s2 ⟨rfl, rfl⟩) (by omega) (by omega), u2_u2]
    · rw [if_neg (show ¬ tl L T p = 32 from fun e => h ((tl_eq (n := 32) hTT (by omega)).1 e).2), if_neg h, u2_self _ _ _ hp]
/-- the place behind the blanks from p -/
def sk (L : Nat) (T : Nat → Nat) (p : Nat) : Nat := skc T (L - p) p
theorem sk_le {L p : Nat} {T : Nat → Nat} (hp : p ≤ L) : p ≤ sk L T p ∧ sk L T p ≤ L := by
  have := skc_le T (L - p) p
  unfold sk; omega
theorem sk_sk {L p : Nat} {T : Nat → Nat} (hp : p ≤ L) : sk L T (sk L T p) = sk L T p := by
  have h1 := sk_le (T := T) hp
  rcases skc_end T (L - p) p with h | ⟨h, g⟩
  · have e : sk L T p = L := by unfold sk; omega
    rw [e]; unfold sk; rw [Nat.sub_self, skc]
  · have e : sk L T p < L := by unfold sk; omega
    have g2 : T (sk L T p) ≠ 32 := g
    generalize sk L T p = q at *
    unfold sk
    obtain ⟨d, hd⟩ : ∃ d, L - q = d + 1 := ⟨L - q - 1, by omega⟩
    rw [hd, skc, if_neg g2]
theorem c_skip {mi : Mi} {L p : Nat} {T : Nat → Nat} (h : TC mi L T) (hp : mi 3 2 = nI p) (hl : p ≤ L) : f_X5_skipBlanks mi = some (u2 mi 3 2 (nI (sk L T p))) := by
  have hL := h.1
  unfold f_X5_skipBlanks
  exact v_skc (fun mi5 => some mi5) (L - p) FU p mi h hp (by omega) (by rw [FU_eq]; omega)
theorem m_next {mj : Mi} {L p : Nat} {T : Nat → Nat} (h : TM mj L T) (hp : mj 229 2 = nI p) (hl : p ≤ L) : f_X8_nextLetter mj = some (tl L T (sk L T p), u2 mj 229 2 (nI (sk L T p))) := by
  have hL := h.1
  have h2 := sk_le (T := T) hl
  unfold f_X8_nextLetter
  have z := v_skm (T := T) (fun mi4 => (f_X8_letterAt mi4 (mi4 229 2)).bind (fun r5 => some (r5, mi4))) (L - p) FU p mj h hp (by omega) (by rw [FU_eq]; omega)
  refine Eq.trans z ?_
  show (f_X8_letterAt (u2 mj 229 2 (nI (sk L T p))) ((u2 mj 229 2 (nI (sk L T p))) 229 2)).bind _ = _
  rw [u2_s2 ⟨rfl, rfl⟩, m_let (h.at2 (by omega) _) (by omega), Option.bind_some]
  rfl
