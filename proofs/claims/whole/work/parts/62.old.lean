/-! 62: what stays while ThreeHeirs is built -/
def OLD (s : Nat) (V V1 : Vw) : Prop := V.1 ≤ V1.1 ∧ (∀ j, j < V.1 → V1.2.1 j = V.2.1 j) ∧ (∀ j, j < V.1 → j ≠ 0 → j ≠ 207 → V1.2.2.1 j = V.2.2.1 j) ∧ ∀ b, b < s → V1.2.2.1 0 b = V.2.2.1 0 b
theorem OLD.rf {s : Nat} {V : Vw} : OLD s V V := ⟨Nat.le_refl _, fun _ _ => rfl, fun _ _ _ _ => rfl, fun _ _ => rfl⟩
theorem OLD.tr {s s' : Nat} {V V1 V2 : Vw} (h : OLD s V V1) (g : OLD s' V1 V2) (hs : s ≤ s') : OLD s V V2 :=
  ⟨Nat.le_trans h.1 g.1, fun j hj => (g.2.1 j (Nat.lt_of_lt_of_le hj h.1)).trans (h.2.1 j hj), fun j hj h0 h7 => (g.2.2.1 j (Nat.lt_of_lt_of_le hj h.1) h0 h7).trans (h.2.2.1 j hj h0 h7), fun b hb => (g.2.2.2 b (Nat.lt_of_lt_of_le hb hs)).trans (h.2.2.2 b hb)⟩
theorem OLD.gr {s : Nat} {V V1 : Vw} {mi m1 : Mi} {ml l1 : Ml} (h : GR V.1 V mi ml V1 m1 l1) (h0 : 0 < V.1) : OLD s V V1 := by
  obtain ⟨h1, h2, h3, h4, h5, h6⟩ := h
  exact ⟨h1, h3, fun j hj _ _ => h4 j hj (by omega), fun b _ => by rw [h4 0 h0 (by omega)]⟩
theorem OLD.pr {s f a : Nat} {V V1 : Vw} (h : OLD s V V1) (hf : s ≤ f) : OLD s V (pr V1 0 f a) :=
  ⟨h.1, h.2.1, fun j hj h0 h7 => by show u2 V1.2.2.1 0 f (some a) j = _; rw [u2_row h0]; exact h.2.2.1 j hj h0 h7, fun b hb => by show u2 V1.2.2.1 0 f (some a) 0 b = _; rw [u2_ne2 (by omega)]; exact h.2.2.2 b hb⟩
theorem LayE.old {s e : Nat} {V V1 : Vw} (h : LayE V e) (g : OLD s V V1) (he : e + 6 ≤ V.1) (hi : e ≠ 0) (h7 : e ≠ 207) : LayE V1 e := by
  obtain ⟨g1, g3, g4, -⟩ := g
  unfold LayE at *
  rw [g3 e (by omega), g3 (e + 1) (by omega), g3 (e + 2) (by omega), g3 (e + 3) (by omega), g3 (e + 4) (by omega), g3 (e + 5) (by omega), g4 e (by omega) hi h7]
  exact h
theorem LayC.old {s e : Nat} {V V1 : Vw} (h : LayC V e) (g : OLD s V V1) (he : e + 7 ≤ V.1) (hi : e ≠ 0) (h7 : e ≠ 207) : LayC V1 e := by
  obtain ⟨g1, g3, g4, -⟩ := g
  unfold LayC at *
  rw [g3 e (by omega), g3 (e + 1) (by omega), g3 (e + 2) (by omega), g3 (e + 3) (by omega), g3 (e + 4) (by omega), g3 (e + 5) (by omega), g3 (e + 6) (by omega), g4 e (by omega) hi h7]
  exact h
/-- an inner constructor changes nothing that was there -/
theorem GR.inner {V V1 : Vw} {mi m1 : Mi} {ml l1 : Ml} {sh : Nat × Nat} (hfl : V.2.2.2 = true) (p : GR V.1 (vn V sh) (ur mi V.1 (fun _ => 0)) (ur ml V.1 (fun _ => 0)) V1 m1 l1) : GR V.1 V mi ml V1 m1 l1 := ((GR.rf (i := V.1) (mi := mi) (ml := ml) hfl).new (sh := sh)).then p (Nat.le_refl _)
theorem old_st1 {s f : Nat} {V : Vw} {sh : Nat × Nat} (h0 : 0 < V.1) (hf : s ≤ f) : OLD s V (st1 V sh 0 f) :=
  ⟨by rw [st1_n]; omega, fun j hj => st1_o (by omega), fun j hj h0 _ => funext fun b => st1_ro (by omega) (by omega), fun b hb => st1_ro (by omega) (by omega)⟩
theorem old_p7 {s f a : Nat} {V V1 : Vw} (h : OLD s V V1) : OLD s V (pr V1 207 f a) :=
  ⟨h.1, h.2.1, fun j hj h0 h7 => by show u2 V1.2.2.1 207 f (some a) j = _; rw [u2_row h7]; exact h.2.2.1 j hj h0 h7, fun b hb => by show u2 V1.2.2.1 207 f (some a) 0 b = _; rw [u2_ne2 (by omega)]; exact h.2.2.2 b hb⟩
/-- one field of ThreeHeirs is built -/
theorem stg {V0 V V' : Vw} {mi m m' : Mi} {ml l l' : Ml} {sh : Nat × Nat} {f a : Nat} (G : GR 0 V0 mi ml V m l) (h0 : V0.1 = 1) (p : GR V.1 (vn V sh) (ur m V.1 (fun _ => 0)) (ur l V.1 (fun _ => 0)) V' m' l') : GR 0 V0 mi ml (pr V' 0 f a) m' l' ∧ OLD f V (pr V' 0 f a) := by
  have q := GR.inner G.2.1 p
  exact ⟨(G.then q G.1).pr, (OLD.gr q (by have := G.1; omega)).pr (Nat.le_refl _)⟩
theorem gr_puz {i c f : Nat} {x : Int32} {V V1 : Vw} {mi m1 : Mi} {ml l1 : Ml} (h : GR i V mi ml V1 m1 l1) (hc : c < V.1) : GR i V (u2 mi c f x) ml V1 (u2 m1 c f x) l1 := by
  obtain ⟨h1, h2, h3, h4, h5, h6⟩ := h
  refine ⟨h1, h2, h3, h4, fun j hj => ⟨?_, (h5 j hj).2⟩, fun j a b => ⟨by rw [u2_row (by omega)]; exact (h6 j a b).1, (h6 j a b).2⟩⟩
  funext b
  show (if j = c ∧ b = f then x else m1 j b) = if j = c ∧ b = f then x else mi j b
  rw [(h5 j hj).1]
def q1 (V : Vw) : Prop := V.2.1 1 = (6, 0) ∧ V.2.1 2 = (9, 240) ∧ V.2.2.1 0 0 = some 1 ∧ V.2.2.1 1 0 = some 2
def q2 (V : Vw) : Prop := V.2.1 3 = (5, 0) ∧ V.2.2.1 0 1 = some 3 ∧ V.2.2.1 3 0 = some 1 ∧ V.2.2.1 3 1 = some 4 ∧ LayC V 4
def q3 (V : Vw) : Prop := V.2.2.1 0 2 = some 11 ∧ LayE V 11
def q4 (V : Vw) : Prop := V.2.1 17 = (4, 0) ∧ V.2.1 18 = (12, 30) ∧ V.2.2.1 0 3 = some 17 ∧ V.2.2.1 17 0 = some 18 ∧ ∀ j : Nat, j < 30 → V.2.2.1 18 j = some (19 + 6 * j) ∧ LayE V (19 + 6 * j)
def q5 (V : Vw) : Prop := V.2.1 199 = (3, 0) ∧ V.2.1 200 = (9, 6) ∧ V.2.1 201 = (9, 6) ∧ V.2.1 202 = (10, 6) ∧ V.2.1 203 = (9, 10) ∧ V.2.2.1 0 4 = some 199 ∧ V.2.2.1 199 0 = some 200 ∧ V.2.2.1 199 1 = some 201 ∧ V.2.2.1 199 2 = some 202 ∧ V.2.2.1 199 3 = some 203
def q6 (V : Vw) : Prop := V.2.1 204 = (0, 0) ∧ V.2.1 205 = (9, 20) ∧ V.2.1 206 = (9, 20) ∧ V.2.2.1 0 5 = some 204 ∧ V.2.2.1 204 0 = some 205 ∧ V.2.2.1 204 1 = some 206
def q7 (V : Vw) : Prop := V.2.1 207 = (12, 2) ∧ V.2.2.1 0 6 = some 207
def q8 (V : Vw) : Prop := V.2.1 208 = (9, 2) ∧ V.2.2.1 0 7 = some 208
def q9 (V : Vw) : Prop := V.2.1 209 = (10, 2) ∧ V.2.2.1 0 8 = some 209
def q10 (V : Vw) : Prop := V.2.2.1 0 9 = some 210 ∧ LayC V 210
theorem q1.old {s : Nat} {V V1 : Vw} (h : q1 V) (g : OLD s V V1) (hs : 1 ≤ s) (hn : 3 ≤ V.1) : q1 V1 := by
  obtain ⟨g1, g2, g3, g4⟩ := g
  unfold q1 at *
  rw [g2 1 (by omega), g2 2 (by omega), g4 0 (by omega), g3 1 (by omega) (by omega) (by omega)]
  exact h
theorem q2.old {s : Nat} {V V1 : Vw} (h : q2 V) (g : OLD s V V1) (hs : 2 ≤ s) (hn : 11 ≤ V.1) : q2 V1 := by
  have c := h.2.2.2.2.old g (by omega) (by omega) (by omega)
  obtain ⟨g1, g2, g3, g4⟩ := g
  obtain ⟨h1, h2, h3, h4, -⟩ := h
  unfold q2
  rw [g2 3 (by omega), g4 1 (by omega), g3 3 (by omega) (by omega) (by omega)]
  exact ⟨h1, h2, h3, h4, c⟩
theorem q3.old {s : Nat} {V V1 : Vw} (h : q3 V) (g : OLD s V V1) (hs : 3 ≤ s) (hn : 17 ≤ V.1) : q3 V1 :=
  ⟨(g.2.2.2 2 (by omega)).trans h.1, h.2.old g (by omega) (by omega) (by omega)⟩
theorem q4.old {s : Nat} {V V1 : Vw} (h : q4 V) (g : OLD s V V1) (hs : 4 ≤ s) (hn : 199 ≤ V.1) : q4 V1 := by
  obtain ⟨h1, h2, h3, h4, h5⟩ := h
  have c : ∀ j : Nat, j < 30 → LayE V1 (19 + 6 * j) := fun j hj => (h5 j hj).2.old g (by omega) (by omega) (by omega)
  obtain ⟨g1, g2, g3, g4⟩ := g
  unfold q4
  rw [g2 17 (by omega), g2 18 (by omega), g4 3 (by omega), g3 17 (by omega) (by omega) (by omega), g3 18 (by omega) (by omega) (by omega)]
  exact ⟨h1, h2, h3, h4, fun j hj => ⟨(h5 j hj).1, c j hj⟩⟩
theorem q5.old {s : Nat} {V V1 : Vw} (h : q5 V) (g : OLD s V V1) (hs : 5 ≤ s) (hn : 204 ≤ V.1) : q5 V1 := by
  obtain ⟨g1, g2, g3, g4⟩ := g
  unfold q5 at *
  rw [g2 199 (by omega), g2 200 (by omega), g2 201 (by omega), g2 202 (by omega), g2 203 (by omega), g4 4 (by omega), g3 199 (by omega) (by omega) (by omega)]
  exact h
theorem q6.old {s : Nat} {V V1 : Vw} (h : q6 V) (g : OLD s V V1) (hs : 6 ≤ s) (hn : 207 ≤ V.1) : q6 V1 := by
  obtain ⟨g1, g2, g3, g4⟩ := g
  unfold q6 at *
  rw [g2 204 (by omega), g2 205 (by omega), g2 206 (by omega), g4 5 (by omega), g3 204 (by omega) (by omega) (by omega)]
  exact h
theorem q7.old {s : Nat} {V V1 : Vw} (h : q7 V) (g : OLD s V V1) (hs : 7 ≤ s) (hn : 208 ≤ V.1) : q7 V1 := ⟨(g.2.1 207 (by omega)).trans h.1, (g.2.2.2 6 (by omega)).trans h.2⟩
theorem q8.old {s : Nat} {V V1 : Vw} (h : q8 V) (g : OLD s V V1) (hs : 8 ≤ s) (hn : 209 ≤ V.1) : q8 V1 := ⟨(g.2.1 208 (by omega)).trans h.1, (g.2.2.2 7 (by omega)).trans h.2⟩
theorem q9.old {s : Nat} {V V1 : Vw} (h : q9 V) (g : OLD s V V1) (hs : 9 ≤ s) (hn : 210 ≤ V.1) : q9 V1 := ⟨(g.2.1 209 (by omega)).trans h.1, (g.2.2.2 8 (by omega)).trans h.2⟩
theorem q10.old {s : Nat} {V V1 : Vw} (h : q10 V) (g : OLD s V V1) (hs : 10 ≤ s) (hn : 217 ≤ V.1) : q10 V1 := ⟨(g.2.2.2 9 (by omega)).trans h.1, h.2.old g (by omega) (by omega) (by omega)⟩
/-- all but the images' Estates -/
def qA (V : Vw) : Prop := q1 V ∧ q2 V ∧ q3 V ∧ q4 V ∧ q5 V ∧ q6 V ∧ q7 V ∧ q8 V ∧ q9 V ∧ q10 V
theorem qA.old {s : Nat} {V V1 : Vw} (h : qA V) (g : OLD s V V1) (hs : 10 ≤ s) (hn : 217 ≤ V.1) : qA V1 := by
  obtain ⟨h1, h2, h3, h4, h5, h6, h7, h8, h9, h10⟩ := h
  exact ⟨h1.old g (by omega) (by omega), h2.old g (by omega) (by omega), h3.old g (by omega) (by omega), h4.old g (by omega) (by omega), h5.old g (by omega) (by omega), h6.old g (by omega) (by omega), h7.old g (by omega) (by omega), h8.old g (by omega) (by omega), h9.old g (by omega) (by omega), h10.old g (by omega) (by omega)⟩
theorem qA.lay {V : Vw} (h : qA V) (h0 : V.2.1 0 = (7, 0)) (hi : ∀ j : Nat, j < 2 → V.2.2.1 207 j = some (217 + 6 * j) ∧ LayE V (217 + 6 * j)) : LayT (V.1, V.2.1, V.2.2.1, false) 210 4 := by
  obtain ⟨h1, h2, h3, h4, h5, h6, h7, h8, h9, h10⟩ := h
  exact ⟨h0, h1.1, h1.2.1, h2.1, h4.1, h4.2.1, h5.1, h5.2.1, h5.2.2.1, h5.2.2.2.1, h5.2.2.2.2.1, h6.1, h6.2.1, h6.2.2.1, h7.1, h8.1, h9.1, h1.2.2.1, h2.2.1, h3.1, h4.2.2.1, h5.2.2.2.2.2.1, h6.2.2.2.1, h7.2, h8.2, h9.2, h10.1, h1.2.2.2, h2.2.2.1, h2.2.2.2.1, h4.2.2.2.1, h5.2.2.2.2.2.2.1, h5.2.2.2.2.2.2.2.1, h5.2.2.2.2.2.2.2.2.1, h5.2.2.2.2.2.2.2.2.2, h6.2.2.2.2.1, h6.2.2.2.2.2, h3.2, h4.2.2.2.2, hi, h10.2, h2.2.2.2.2, rfl⟩
