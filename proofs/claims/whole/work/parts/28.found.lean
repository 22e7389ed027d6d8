/-! 28: what may change beside a relation; what was found; the book -/
theorem RK.to {mi mj mi' mj' : Mi} {ld m wn sn : Nat} (h : RK mi mj ld m wn sn) (h0 : mi' ld = mi ld) (h1 : mi' (ld + 1) = mi (ld + 1)) (h2 : mi' (ld + 2) = mi (ld + 2)) (h4 : mi' (ld + 4) = mi (ld + 4)) (h5 : mi' (ld + 5) = mi (ld + 5)) (h6 : mi' (ld + 6) = mi (ld + 6))
    (k : ∀ j : Nat, 17 ≤ j → j ≤ 23 → mj' 229 j = mj 229 j) (k5 : mj' 235 = mj 235) (k6 : mj' 236 = mj 236) (k7 : mj' 237 = mj 237) : RK mi' mj' ld m wn sn := by
  unfold RK at *
  rw [h0, h1, h2, h4, h5, h6, k 17 (by omega) (by omega), k 18 (by omega) (by omega), k 19 (by omega) (by omega), k 20 (by omega) (by omega), k 21 (by omega) (by omega), k 22 (by omega) (by omega), k 23 (by omega) (by omega), k5, k6, k7]
  exact h
theorem RE.to {mi mi' : Mi} {e : Nat} {w w' : Nat → Int32} (h : RE mi e w) (h0 : mi' e = mi e) (h1 : mi' (e + 1) = mi (e + 1)) (h2 : mi' (e + 2) = mi (e + 2)) (h3 : mi' (e + 3) = mi (e + 3)) (h4 : mi' (e + 4) = mi (e + 4)) (h5 : mi' (e + 5) = mi (e + 5)) (k : ∀ j : Nat, j < 121 → w' j = w j) : RE mi' e w' := by
  obtain ⟨⟨h, a1, a2, a3⟩, ⟨d, b1, b2, b3⟩, ⟨c, c1, c2, c3, c4⟩, p1, p2, p3, p4⟩ := h
  refine ⟨⟨h, a1, by rw [h0]; exact a2, by rw [k 0 (by omega)]; exact a3⟩, ⟨d, b1, by rw [h0]; exact b2, by rw [k 1 (by omega)]; exact b3⟩, ⟨c, c1, by rw [h0]; exact c2, by rw [k 40 (by omega)]; exact c3, fun j hj => by rw [k _ (by omega), h5]; exact c4 j hj⟩, fun j hj => by rw [k _ (by omega), h1]; exact p1 j hj, fun j hj => by rw [k _ (by omega), h2]; exact p2 j hj, fun j hj => by rw [k _ (by omega), h3]; exact p3 j hj, fun j hj => by rw [k _ (by omega), h4]; exact p4 j hj⟩
theorem RD.to {mi mj mi' mj' : Mi} {m : Nat} (h : RD mi mj m) (h0 : mi' 199 4 = mi 199 4) (h1 : mi' 200 = mi 200) (h2 : mi' 201 = mi 201) (h3 : mi' 202 = mi 202) (k : mj' 229 32 = mj 229 32) (k0 : mj' 240 = mj 240) (k1 : mj' 241 = mj 241) (k2 : mj' 242 = mj 242) : RD mi' mj' m := by
  unfold RD at *
  rw [h0, h1, h2, h3, k, k0, k1, k2]; exact h
theorem RB.to {mi mj mi' mj' : Mi} {m : Nat} (h : RB mi mj m) (h0 : mi' 204 2 = mi 204 2) (h1 : mi' 205 = mi 205) (h2 : mi' 206 = mi 206) (k : mj' 229 37 = mj 229 37) (k0 : mj' 244 = mj 244) (k1 : mj' 245 = mj 245) : RB mi' mj' m := by
  unfold RB at *
  rw [h0, h1, h2, k, k0, k1]; exact h
theorem RT.to {mi mj mi' mj' : Mi} (h : RT mi mj) (h0 : mi' 1 = mi 1) (h1 : mi' 2 = mi 2) (k : mj' 229 0 = mj 229 0) (k0 : mj' 230 = mj 230) : RT mi' mj' := by
  unfold RT at *
  rw [h0, h1, k, k0]; exact h
theorem RU.to {mi mj mi' mj' : Mi} (h : RU mi mj) (h0 : mi' 17 = mi 17) (h1 : ∀ i : Nat, 19 ≤ i → i < 199 → mi' i = mi i) (k : mj' 229 28 = mj 229 28) (k1 : mj' 229 29 = mj 229 29) (k0 : mj' 239 = mj 239) : RU mi' mj' := by
  obtain ⟨c, f, a, c1, c2, c3, c4, c5, c6, c7, c8⟩ := h
  refine ⟨c, f, a, c1, c2, c3, by rw [h0]; exact c4, by rw [h0]; exact c5, by rw [k]; exact c6, by rw [k1]; exact c7, fun i hi => ?_⟩
  have := Nat.mod_lt (f + i) (show 0 < 30 by omega)
  exact (c8 i hi).to (h1 _ (by omega) (by omega)) (h1 _ (by omega) (by omega)) (h1 _ (by omega) (by omega)) (h1 _ (by omega) (by omega)) (h1 _ (by omega) (by omega)) (h1 _ (by omega) (by omega)) (fun j _ => by rw [k0])
theorem j_seen {mi mj : Mi} (hE : RE mi 11 (mj 238)) {t n : Nat} (ht : t < 8) (hn : n < 80) : ∃ u : Nat, u < 10 ∧ f_X3_seen mi 11 (nI t) (nI (n / 10)) (nI (n % 10)) = some (nI u) ∧ f_X8_valueBy mj (nI n) (nI t) = some (nI u) := by
  obtain ⟨-, -, -, -, -, hv, -⟩ := hE
  obtain ⟨q1, u, q2, q3⟩ := hv t ht
  have e1 : nI n / nI 10 = nI (n / 10) := n_div _ (by omega) 10 (by omega) (by omega)
  have e2 : nI n - nI (n / 10) * nI 10 = nI (n % 10) := by rw [pk_mul, pk_sub (by omega)]; congr 1; omega
  unfold f_X3_seen f_X8_valueBy
  by_cases h : n / 10 = t
  · refine ⟨n % 10, by omega, by simp (disch := omega) only [fa_lit, nI_add, pk_sub, pk_mul, nI_clamp, nI_leI, nI_ltI, nI_eq, inb, u2_s2, u2_ne2, if_pos, if_neg, Option.bind_some, nx, add_n0, cO, cN, cF, cU, true_or, or_true, if_true, if_false, not_true_eq_false, not_false_eq_true, true_and, and_true], ?_⟩
    simp only [fa_lit, e1, e2]; simp (disch := omega) only [fa_lit, nI_add, pk_sub, pk_mul, nI_clamp, nI_leI, nI_ltI, nI_eq, inb, u2_s2, u2_ne2, if_pos, if_neg, Option.bind_some, nx, add_n0, cO, cN, cF, cU, true_or, or_true, if_true, if_false, not_true_eq_false, not_false_eq_true, true_and, and_true]
  · refine ⟨u, q2, by simp (disch := omega) only [fa_lit, nI_add, pk_sub, pk_mul, nI_clamp, nI_leI, nI_ltI, nI_eq, inb, u2_s2, u2_ne2, if_pos, if_neg, Option.bind_some, nx, add_n0, cO, cN, cF, cU, true_or, or_true, if_true, if_false, not_true_eq_false, not_false_eq_true, true_and, and_true, q3], ?_⟩
    simp only [fa_lit, e1]; simp (disch := omega) only [fa_lit, nI_add, pk_sub, pk_mul, nI_clamp, nI_leI, nI_ltI, nI_eq, inb, u2_s2, u2_ne2, if_pos, if_neg, Option.bind_some, nx, add_n0, cO, cN, cF, cU, true_or, or_true, if_true, if_false, not_true_eq_false, not_false_eq_true, true_and, and_true, q1, q3]
theorem v_isFit0 {mj : Mi} {c : Nat} (hc : c ≤ 6) (hj : mj 229 32 = nI c) (x : Int32) (K : Int32 → Int32 → Option Int32) :
    ∀ (d n1 k : Nat), c - k = d → k ≤ c → d < n1 → lp_X8_isFit_4 mj x K n1 (nI 0) (nI k) = K (nI 0) (nI c) := by
  intro d
  induction d with
  | zero =>
    intro n1 k h2 h3 h5
    obtain ⟨n1, rfl⟩ : ∃ n, n1 = n + 1 := ⟨n1 - 1, by omega⟩
    have : k = c := by omega
    subst this
    unfold lp_X8_isFit_4; simp (disch := omega) only [fa_lit, nI_add, pk_sub, pk_mul, nI_clamp, nI_leI, nI_ltI, nI_eq, inb, u2_s2, u2_ne2, if_pos, if_neg, Option.bind_some, nx, add_n0, cO, cN, cF, cU, true_or, or_true, if_true, if_false, not_true_eq_false, not_false_eq_true, true_and, and_true, hj]
  | succ d ih =>
    intro n1 k h2 h3 h5
    obtain ⟨n1, rfl⟩ : ∃ n, n1 = n + 1 := ⟨n1 - 1, by omega⟩
    have z := ih n1 (k + 1) (by omega) (by omega) (by omega)
    unfold lp_X8_isFit_4; simp (disch := omega) only [fa_lit, nI_add, pk_sub, pk_mul, nI_clamp, nI_leI, nI_ltI, nI_eq, inb, u2_s2, u2_ne2, if_pos, if_neg, Option.bind_some, nx, add_n0, cO, cN, cF, cU, true_or, or_true, if_true, if_false, not_true_eq_false, not_false_eq_true, true_and, and_true, hj, z]
theorem j_fitL {mi mj : Mi} {m : Nat} (hm : m ≤ 8) (hE : RE mi 11 (mj 238)) (hD : RD mi mj m) {p : Nat} (hp : p < 80) (K : Int32 → Int32 → Option Int32) {c : Nat} (hc : c ≤ 6) (hci : mi 199 4 = nI c) (hcj : mj 229 32 = nI c) :
    ∀ (d n1 n2 k : Nat), c - k = d → k ≤ c → d < n1 → d < n2 → ∃ b : Nat, b < 2 ∧ lp_X3_fit_3 11 mi (nI (p / 10)) (nI (p % 10)) (fun _ => some (nI 1)) n1 (nI k) = some (nI b) ∧ lp_X8_isFit_4 mj (nI p) K n2 (nI 1) (nI k) = K (nI b) (nI c) := by
  have hf : ∀ k : Nat, k < c → mj 240 k = mi 200 k ∧ mj 241 k = mi 201 k ∧ mj 242 k = mi 202 k ∧ (∃ t : Nat, t < m ∧ mi 200 k = nI t) ∧ (∃ v : Nat, v < 10 ∧ mi 201 k = nI v) ∧ ∃ b : Nat, b < 2 ∧ mi 202 k = nI b := by
    obtain ⟨c', c1, c2, c3, c4⟩ := hD
    have : c' = c := (nI_eq (by omega) (by omega)).mp (c2.symm.trans hci)
    subst this; exact c4
  intro d
  induction d with
  | zero =>
    intro n1 n2 k h2 h3 h5 h6
    obtain ⟨n1, rfl⟩ : ∃ n, n1 = n + 1 := ⟨n1 - 1, by omega⟩
    obtain ⟨n2, rfl⟩ : ∃ n, n2 = n + 1 := ⟨n2 - 1, by omega⟩
    have : k = c := by omega
    subst this
    exact ⟨1, by omega, by unfold lp_X3_fit_3; simp (disch := omega) only [fa_lit, nI_add, pk_sub, pk_mul, nI_clamp, nI_leI, nI_ltI, nI_eq, inb, u2_s2, u2_ne2, if_pos, if_neg, Option.bind_some, nx, add_n0, cO, cN, cF, cU, true_or, or_true, if_true, if_false, not_true_eq_false, not_false_eq_true, true_and, and_true, hci], by unfold lp_X8_isFit_4; simp (disch := omega) only [fa_lit, nI_add, pk_sub, pk_mul, nI_clamp, nI_leI, nI_ltI, nI_eq, inb, u2_s2, u2_ne2, if_pos, if_neg, Option.bind_some, nx, add_n0, cO, cN, cF, cU, true_or, or_true, if_true, if_false, not_true_eq_false, not_false_eq_true, true_and, and_true, hcj]⟩
  | succ d ih =>
    intro n1 n2 k h2 h3 h5 h6
    obtain ⟨n1, rfl⟩ : ∃ n, n1 = n + 1 := ⟨n1 - 1, by omega⟩
    obtain ⟨n2, rfl⟩ : ∃ n, n2 = n + 1 := ⟨n2 - 1, by omega⟩
    obtain ⟨f1, f2, f3, ⟨t, t1, t2⟩, ⟨v, v1, v2⟩, b, b1, b2⟩ := hf k (by omega)
    obtain ⟨u, u1, u2', u3⟩ := j_seen hE (show t < 8 by omega) hp
    obtain ⟨z, z1, z2, z3⟩ := ih n1 n2 (k + 1) (by omega) (by omega) (by omega) (by omega)
    have z0 := v_isFit0 hc hcj (nI p) K (c - (k + 1)) n2 (k + 1) (by omega) (by omega) (by omega)
    by_cases huv : u = v
    · by_cases hb : b = 1
      · subst hb
        exact ⟨z, z1, by unfold lp_X3_fit_3; simp (disch := omega) only [fa_lit, nI_add, pk_sub, pk_mul, nI_clamp, nI_leI, nI_ltI, nI_eq, inb, u2_s2, u2_ne2, if_pos, if_neg, Option.bind_some, nx, add_n0, cO, cN, cF, cU, true_or, or_true, if_true, if_false, not_true_eq_false, not_false_eq_true, true_and, and_true, hci, t2, v2, b2, u2', z2], by unfold lp_X8_isFit_4; simp (disch := omega) only [fa_lit, nI_add, pk_sub, pk_mul, nI_clamp, nI_leI, nI_ltI, nI_eq, inb, u2_s2, u2_ne2, if_pos, if_neg, Option.bind_some, nx, add_n0, cO, cN, cF, cU, true_or, or_true, if_true, if_false, not_true_eq_false, not_false_eq_true, true_and, and_true, hcj, f1, f2, f3, t2, v2, b2, u3, z3]⟩
      · have hb : b = 0 := by omega
        subst hb
        exact ⟨0, by omega, by unfold lp_X3_fit_3; simp (disch := omega) only [fa_lit, nI_add, pk_sub, pk_mul, nI_clamp, nI_leI, nI_ltI, nI_eq, inb, u2_s2, u2_ne2, if_pos, if_neg, Option.bind_some, nx, add_n0, cO, cN, cF, cU, true_or, or_true, if_true, if_false, not_true_eq_false, not_false_eq_true, true_and, and_true, hci, t2, v2, b2, u2'], by unfold lp_X8_isFit_4; simp (disch := omega) only [fa_lit, nI_add, pk_sub, pk_mul, nI_clamp, nI_leI, nI_ltI, nI_eq, inb, u2_s2, u2_ne2, if_pos, if_neg, Option.bind_some, nx, add_n0, cO, cN, cF, cU, true_or, or_true, if_true, if_false, not_true_eq_false, not_false_eq_true, true_and, and_true, hcj, f1, f2, f3, t2, v2, b2, u3, z0]⟩
    · by_cases hb : b = 1
      · subst hb
        exact ⟨0, by omega, by unfold lp_X3_fit_3; simp (disch := omega) only [fa_lit, nI_add, pk_sub, pk_mul, nI_clamp, nI_leI, nI_ltI, nI_eq, inb, u2_s2, u2_ne2, if_pos, if_neg, Option.bind_some, nx, add_n0, cO, cN, cF, cU, true_or, or_true, if_true, if_false, not_true_eq_false, not_false_eq_true, true_and, and_true, hci, t2, v2, b2, u2'], by unfold lp_X8_isFit_4; simp (disch := omega) only [fa_lit, nI_add, pk_sub, pk_mul, nI_clamp, nI_leI, nI_ltI, nI_eq, inb, u2_s2, u2_ne2, if_pos, if_neg, Option.bind_some, nx, add_n0, cO, cN, cF, cU, true_or, or_true, if_true, if_false, not_true_eq_false, not_false_eq_true, true_and, and_true, hcj, f1, f2, f3, t2, v2, b2, u3, z0]⟩
      · have hb : b = 0 := by omega
        subst hb
        exact ⟨z, z1, by unfold lp_X3_fit_3; simp (disch := omega) only [fa_lit, nI_add, pk_sub, pk_mul, nI_clamp, nI_leI, nI_ltI, nI_eq, inb, u2_s2, u2_ne2, if_pos, if_neg, Option.bind_some, nx, add_n0, cO, cN, cF, cU, true_or, or_true, if_true, if_false, not_true_eq_false, not_false_eq_true, true_and, and_true, hci, t2, v2, b2, u2', z2], by unfold lp_X8_isFit_4; simp (disch := omega) only [fa_lit, nI_add, pk_sub, pk_mul, nI_clamp, nI_leI, nI_ltI, nI_eq, inb, u2_s2, u2_ne2, if_pos, if_neg, Option.bind_some, nx, add_n0, cO, cN, cF, cU, true_or, or_true, if_true, if_false, not_true_eq_false, not_false_eq_true, true_and, and_true, hcj, f1, f2, f3, t2, v2, b2, u3, z3]⟩
theorem j_fit {mi mj : Mi} {m : Nat} (hm : m ≤ 8) (hE : RE mi 11 (mj 238)) (hD : RD mi mj m) (p : Nat) (hp : p < 80) : ∃ b : Nat, b < 2 ∧ f_X3_fit mi 11 (nI (p / 10)) (nI (p % 10)) = some (nI b) ∧ f_X8_isFit mj (nI p) = some (nI b) := by
  obtain ⟨c, c1, c2, c3, -⟩ := id hD
  obtain ⟨b, b1, b2, b3⟩ := j_fitL hm hE hD hp (fun v _ => if v = nI 0 ∨ v = nI 1 then some v else none) c1 c2 c3 c FU FU 0 (by omega) (by omega) (by rw [FU_eq]; omega) (by rw [FU_eq]; omega)
  refine ⟨b, b1, b2, ?_⟩
  unfold f_X8_isFit
  refine Eq.trans b3 ?_
  rcases (show b = 0 ∨ b = 1 by omega) with rfl | rfl
  · simp (disch := omega) only [fa_lit, nI_add, pk_sub, pk_mul, nI_clamp, nI_leI, nI_ltI, nI_eq, inb, u2_s2, u2_ne2, if_pos, if_neg, Option.bind_some, nx, add_n0, cO, cN, cF, cU, true_or, or_true, if_true, if_false, not_true_eq_false, not_false_eq_true, true_and, and_true]
  · simp (disch := omega) only [fa_lit, nI_add, pk_sub, pk_mul, nI_clamp, nI_leI, nI_ltI, nI_eq, inb, u2_s2, u2_ne2, if_pos, if_neg, Option.bind_some, nx, add_n0, cO, cN, cF, cU, true_or, or_true, if_true, if_false, not_true_eq_false, not_false_eq_true, true_and, and_true]
/-- which pairs fit -/
def fb (mj : Mi) (p : Nat) : Nat := ((f_X8_isFit mj (nI p)).getD 0).toNatClampNeg
theorem j_fb {mi mj : Mi} {m : Nat} (hm : m ≤ 8) (hE : RE mi 11 (mj 238)) (hD : RD mi mj m) (p : Nat) (hp : p < 80) : fb mj p < 2 ∧ f_X3_fit mi 11 (nI (p / 10)) (nI (p % 10)) = some (nI (fb mj p)) ∧ f_X8_isFit mj (nI p) = some (nI (fb mj p)) := by
  obtain ⟨b, b1, b2, b3⟩ := j_fit hm hE hD p hp
  have e : fb mj p = b := by unfold fb; rw [b3]; exact nI_clamp (by omega)
  rw [e]; exact ⟨b1, b2, b3⟩
def cnt (b : Nat → Nat) : Nat → Nat
  | 0 => 0
  | n + 1 => cnt b n + b n
theorem cnt_le {b : Nat → Nat} (h : ∀ p, p < 80 → b p < 2) : ∀ n, n ≤ 80 → cnt b n ≤ n
  | 0, _ => Nat.le_refl _
  | n + 1, hn => by have := cnt_le h n (by omega); have := h n (by omega); simp only [cnt]; omega
def fst' (b : Nat → Nat) : Nat → Option Nat
  | 0 => none
  | n + 1 => match fst' b n with
    | some i => some i
    | none => if b n = 0 then none else some n
theorem fst_up {b : Nat → Nat} {k : Nat} (h : fst' b k = none) (hk : ¬ b k = 0) : ∀ n, k < n → fst' b n = some k
  | 0, h => absurd h (by omega)
  | n + 1, hn => by
    rcases (show k = n ∨ k < n by omega) with rfl | q
    · simp only [fst', h, if_neg hk]
    · simp only [fst', fst_up h hk n q]
theorem n_dm (p : Nat) (hp : p < 1000) : nI p / nI 10 = nI (p / 10) ∧ nI p - nI (p / 10) * nI 10 = nI (p % 10) := by
  refine ⟨n_div _ (by omega) 10 (by omega) (by omega), ?_⟩
  rw [pk_mul, pk_sub (by omega)]; congr 1; omega
theorem v_fitCount {mi mj : Mi} {ld m wn sn : Nat} (hK : RK mi mj ld m wn sn) (hE : RE mi 11 (mj 238)) (hD : RD mi mj m) :
    ∀ (c n1 k : Nat), m * 10 - k = c → k ≤ m * 10 → c < n1 → lp_X3_fitCount_5 ld 11 mi (fun a _ => some a) n1 (nI (cnt (fb mj) k)) (nI k) = some (nI (cnt (fb mj) (m * 10))) := by
  obtain ⟨-, -, -, hm, c2, c3⟩ := w_cnt hK
  intro c
  induction c with
  | zero =>
    intro n1 k h2 h3 h5
    obtain ⟨n1, rfl⟩ : ∃ n, n1 = n + 1 := ⟨n1 - 1, by omega⟩
    have : k = m * 10 := by omega
    subst this
    unfold lp_X3_fitCount_5; simp (disch := omega) only [fa_lit, nI_add, pk_sub, pk_mul, nI_clamp, nI_leI, nI_ltI, nI_eq, inb, u2_s2, u2_ne2, if_pos, if_neg, Option.bind_some, nx, add_n0, cO, cN, cF, cU, true_or, or_true, if_true, if_false, not_true_eq_false, not_false_eq_true, true_and, and_true, c2]
  | succ c ih =>
    intro n1 k h2 h3 h5
    obtain ⟨n1, rfl⟩ : ∃ n, n1 = n + 1 := ⟨n1 - 1, by omega⟩
    obtain ⟨b1, b2, b3⟩ := j_fb hm hE hD k (by omega)
    obtain ⟨q1, q2⟩ := n_dm k (by omega)
    have z := ih n1 (k + 1) (by omega) (by omega) (by omega)
    unfold lp_X3_fitCount_5
    simp only [fa_lit, q1, q2, b2, Option.bind_some]
    by_cases hb : fb mj k = 0
    · simp only [cnt, hb, Nat.add_zero] at z
      simp (disch := omega) only [fa_lit, nI_add, pk_sub, pk_mul, nI_clamp, nI_leI, nI_ltI, nI_eq, inb, u2_s2, u2_ne2, if_pos, if_neg, Option.bind_some, nx, add_n0, cO, cN, cF, cU, true_or, or_true, if_true, if_false, not_true_eq_false, not_false_eq_true, true_and, and_true, c2, hb, z]
    · have hb1 : fb mj k = 1 := by omega
      simp only [cnt, hb1] at z
      simp (disch := omega) only [fa_lit, nI_add, pk_sub, pk_mul, nI_clamp, nI_leI, nI_ltI, nI_eq, inb, u2_s2, u2_ne2, if_pos, if_neg, Option.bind_some, nx, add_n0, cO, cN, cF, cU, true_or, or_true, if_true, if_false, not_true_eq_false, not_false_eq_true, true_and, and_true, c2, hb1, z]
theorem v_leastFit {mi mj : Mi} {ld m wn sn : Nat} (hK : RK mi mj ld m wn sn) (hE : RE mi 11 (mj 238)) (hD : RD mi mj m) :
    ∀ (c n1 k : Nat), m * 10 - k = c → k ≤ m * 10 → fst' (fb mj) k = none → c < n1 → lp_X3_leastFit_2 ld 11 mi (fun _ => some (-nI 1)) n1 (nI k) = some (match fst' (fb mj) (m * 10) with | some i => nI i | none => (-nI 1)) := by
  obtain ⟨-, -, -, hm, c2, c3⟩ := w_cnt hK
  intro c
  induction c with
  | zero =>
    intro n1 k h2 h3 h4 h5
    obtain ⟨n1, rfl⟩ : ∃ n, n1 = n + 1 := ⟨n1 - 1, by omega⟩
    have : k = m * 10 := by omega
    subst this
    unfold lp_X3_leastFit_2; simp (disch := omega) only [fa_lit, nI_add, pk_sub, pk_mul, nI_clamp, nI_leI, nI_ltI, nI_eq, inb, u2_s2, u2_ne2, if_pos, if_neg, Option.bind_some, nx, add_n0, cO, cN, cF, cU, true_or, or_true, if_true, if_false, not_true_eq_false, not_false_eq_true, true_and, and_true, c2, h4]
  | succ c ih =>
    intro n1 k h2 h3 h4 h5
    obtain ⟨n1, rfl⟩ : ∃ n, n1 = n + 1 := ⟨n1 - 1, by omega⟩
    obtain ⟨b1, b2, b3⟩ := j_fb hm hE hD k (by omega)
    obtain ⟨q1, q2⟩ := n_dm k (by omega)
    unfold lp_X3_leastFit_2
    simp only [fa_lit, q1, q2, b2, Option.bind_some]
    by_cases hb : fb mj k = 0
    · have z := ih n1 (k + 1) (by omega) (by omega) (by simp only [fst', h4, hb, if_true]) (by omega)
      simp (disch := omega) only [fa_lit, nI_add, pk_sub, pk_mul, nI_clamp, nI_leI, nI_ltI, nI_eq, inb, u2_s2, u2_ne2, if_pos, if_neg, Option.bind_some, nx, add_n0, cO, cN, cF, cU, true_or, or_true, if_true, if_false, not_true_eq_false, not_false_eq_true, true_and, and_true, c2, hb, z]
    · have hb1 : fb mj k = 1 := by omega
      simp (disch := omega) only [fa_lit, nI_add, pk_sub, pk_mul, nI_clamp, nI_leI, nI_ltI, nI_eq, inb, u2_s2, u2_ne2, if_pos, if_neg, Option.bind_some, nx, add_n0, cO, cN, cF, cU, true_or, or_true, if_true, if_false, not_true_eq_false, not_false_eq_true, true_and, and_true, c2, hb1]
      rw [fst_up h4 hb _ (by omega)]
theorem v_fits {mi mj : Mi} {ld m wn sn : Nat} (hK : RK mi mj ld m wn sn) (hE : RE mi 11 (mj 238)) (hD : RD mi mj m) (x : Int32) (K : Int32 → Int32 → Int32 → Option Int32) :
    ∀ (j n1 a : Nat) (l : Int32), j ≤ m * 10 → a + j ≤ 80 → j < n1 → lp_X8_fits_27 mj x K n1 (nI a) l (nI j + (-nI 1)) = K (nI (a + cnt (fb mj) j)) (match fst' (fb mj) j with | some i => nI i | none => l) (-nI 1) := by
  obtain ⟨-, -, -, hm, c2, c3⟩ := w_cnt hK
  intro j
  induction j with
  | zero =>
    intro n1 a l h1 h2 h3
    obtain ⟨n1, rfl⟩ : ∃ n, n1 = n + 1 := ⟨n1 - 1, by omega⟩
    unfold lp_X8_fits_27; simp only [fa_lit, dn0, m1_lt, if_true, cnt, fst', Nat.add_zero]
  | succ j ih =>
    intro n1 a l h1 h2 h3
    obtain ⟨n1, rfl⟩ : ∃ n, n1 = n + 1 := ⟨n1 - 1, by omega⟩
    obtain ⟨b1, b2, b3⟩ := j_fb hm hE hD j (by omega)
    rw [dnS]
    unfold lp_X8_fits_27
    by_cases hb : fb mj j = 0
    · have z := ih n1 a l (by omega) (by omega) (by omega)
      simp only [fa_lit, b3, Option.bind_some]
      simp (disch := omega) only [fa_lit, nI_add, pk_sub, pk_mul, nI_clamp, nI_leI, nI_ltI, nI_eq, inb, u2_s2, u2_ne2, if_pos, if_neg, Option.bind_some, nx, add_n0, cO, cN, cF, cU, true_or, or_true, if_true, if_false, not_true_eq_false, not_false_eq_true, true_and, and_true, hb, z]
      simp only [cnt, fst', hb, Nat.add_zero, if_true]
      cases fst' (fb mj) j <;> rfl
    · have hb1 : fb mj j = 1 := by omega
      have z := ih n1 (a + 1) (nI j) (by omega) (by omega) (by omega)
      simp only [fa_lit, b3, Option.bind_some]
      simp (disch := omega) only [fa_lit, nI_add, pk_sub, pk_mul, nI_clamp, nI_leI, nI_ltI, nI_eq, inb, u2_s2, u2_ne2, if_pos, if_neg, Option.bind_some, nx, add_n0, cO, cN, cF, cU, true_or, or_true, if_true, if_false, not_true_eq_false, not_false_eq_true, true_and, and_true, hb1, z]
      simp only [cnt, fst', hb1]
      rw [show a + 1 + cnt (fb mj) j = a + (cnt (fb mj) j + 1) by omega]
      cases fst' (fb mj) j <;> rfl
