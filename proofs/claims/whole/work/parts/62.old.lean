/-! 62: what stays while ThreeHeirs is built -/
def OLD (s : Nat) (V V1 : Vw) : Prop := V.1 ≤ V1.1 ∧ (∀ j, j < V.1 → V1.2.1 j = V.2.1 j) ∧ (∀ j, j < V.1 → j ≠ 0 → V1.2.2.1 j = V.2.2.1 j) ∧ ∀ b, b < s → V1.2.2.1 0 b = V.2.2.1 0 b
theorem OLD.rf {s : Nat} {V : Vw} : OLD s V V := ⟨Nat.le_refl _, fun _ _ => rfl, fun _ _ _ => rfl, fun _ _ => rfl⟩
theorem OLD.tr {s s' : Nat} {V V1 V2 : Vw} (h : OLD s V V1) (g : OLD s' V1 V2) (hs : s ≤ s') : OLD s V V2 :=
  ⟨Nat.le_trans h.1 g.1, fun j hj => (g.2.1 j (Nat.lt_of_lt_of_le hj h.1)).trans (h.2.1 j hj), fun j hj h0 => (g.2.2.1 j (Nat.lt_of_lt_of_le hj h.1) h0).trans (h.2.2.1 j hj h0), fun b hb => (g.2.2.2 b (Nat.lt_of_lt_of_le hb hs)).trans (h.2.2.2 b hb)⟩
theorem OLD.gr {s : Nat} {V V1 : Vw} {mi m1 : Mi} {ml l1 : Ml} (h : GR V.1 V mi ml V1 m1 l1) (h0 : 0 < V.1) : OLD s V V1 := by
  obtain ⟨h1, h2, h3, h4, h5, h6⟩ := h
  exact ⟨h1, h3, fun j hj _ => h4 j hj (by omega), fun b _ => by rw [h4 0 h0 (by omega)]⟩
theorem OLD.pr {s f a : Nat} {V V1 : Vw} (h : OLD s V V1) (hf : s ≤ f) : OLD s V (pr V1 0 f a) :=
  ⟨h.1, h.2.1, fun j hj h0 => by show u2 V1.2.2.1 0 f (some a) j = _; rw [u2_row h0]; exact h.2.2.1 j hj h0, fun b hb => by show u2 V1.2.2.1 0 f (some a) 0 b = _; rw [u2_ne2 (by omega)]; exact h.2.2.2 b hb⟩
theorem LayE.old {s e : Nat} {V V1 : Vw} (h : LayE V e) (g : OLD s V V1) (he : e + 6 ≤ V.1) (hi : e ≠ 0) : LayE V1 e := by
  obtain ⟨g1, g3, g4, -⟩ := g
  unfold LayE at *
  rw [g3 e (by omega), g3 (e + 1) (by omega), g3 (e + 2) (by omega), g3 (e + 3) (by omega), g3 (e + 4) (by omega), g3 (e + 5) (by omega), g4 e (by omega) hi]
  exact h
theorem LayC.old {s e : Nat} {V V1 : Vw} (h : LayC V e) (g : OLD s V V1) (he : e + 7 ≤ V.1) (hi : e ≠ 0) : LayC V1 e := by
  obtain ⟨g1, g3, g4, -⟩ := g
  unfold LayC at *
  rw [g3 e (by omega), g3 (e + 1) (by omega), g3 (e + 2) (by omega), g3 (e + 3) (by omega), g3 (e + 4) (by omega), g3 (e + 5) (by omega), g3 (e + 6) (by omega), g4 e (by omega) hi]
  exact h
/-- an inner constructor changes nothing that was there -/
theorem GR.inner {V V1 : Vw} {mi m1 : Mi} {ml l1 : Ml} {sh : Nat × Nat} (hfl : V.2.2.2 = true) (p : GR V.1 (vn V sh) (ur mi V.1 (fun _ => 0)) (ur ml V.1 (fun _ => 0)) V1 m1 l1) : GR V.1 V mi ml V1 m1 l1 := ((GR.rf (i := V.1) (mi := mi) (ml := ml) hfl).new (sh := sh)).then p (Nat.le_refl _)
