/-! 70b: the law's entry -/
theorem k_class {s : State} {args : Array Value} (hts : ∀ w ∈ TW, w.before args s = true) (c : Nat) : ∃ (cC : ClassId) (iS : Nat → Nat), ∀ q : vw_C, vwCl[c]? = some q → u_Kn s q.1 q.2.1 q.2.2 cC iS := by
  by_cases hc : c < 9
  · have key : ∀ q : vw_C, vwCl[c]? = some q → ∃ n, Cond.instantiable q.1 n ∈ TW := by
      intro q hq
      rcases (show c = 0 ∨ c = 1 ∨ c = 2 ∨ c = 3 ∨ c = 4 ∨ c = 5 ∨ c = 6 ∨ c = 7 ∨ c = 8 by omega) with rfl | rfl | rfl | rfl | rfl | rfl | rfl | rfl | rfl <;> cases hq
      · exact ⟨_, tk_281⟩
      · exact ⟨_, tk_107⟩
      · exact ⟨_, tk_196⟩
      · exact ⟨_, tk_257⟩
      · exact ⟨_, tk_237⟩
      · exact ⟨_, tk_101⟩
      · exact ⟨_, tk_85⟩
      · exact ⟨_, tk_77⟩
      · exact ⟨_, tk_793⟩
    cases hq : vwCl[c]? with
    | none => exact ⟨0, fun _ => 0, fun q h => by cases h⟩
    | some q =>
      obtain ⟨n, hn⟩ := key q hq
      obtain ⟨cC, iS, h⟩ := u_known (C := q.1) (T := q.2.1) (N := q.2.2) (n := n) hts (cl_ok hq).2.2.1 (hts _ hn)
      exact ⟨cC, iS, fun q' h' => by cases h'; exact h⟩
  · exact ⟨0, fun _ => 0, fun q h => absurd (List.getElem?_eq_some_iff.mp h).1 (by show ¬ c < 9; omega)⟩
theorem k_arr {s : State} {args : Array Value} (hts : ∀ w ∈ TW, w.before args s = true) (hao : va_AO "ThreeHeirs$Estate" s) (k : Nat) : ∃ cA : ClassId, ∀ t : FieldType, ([.int, .boolean, .long, .object "ThreeHeirs$Estate"] : List FieldType)[k]? = some t → ArrOfT s cA t ∧ va_RA s cA t := by
  have pl : ∀ t : FieldType, (Cond.arrayClass t).before args s = true → (∀ cA, s.vm.findClass ("[" ++ t.toString) = some cA → va_RA s cA t) → ∃ cA : ClassId, ArrOfT s cA t ∧ va_RA s cA t := fun t ht hr => by
    obtain ⟨cA, kA, comp, h1, h2, h3⟩ := Cond.arrayClass_spec ht
    exact ⟨cA, fun n z => ⟨fun k h => (by cases h), kA, h2, comp, h3⟩, hr cA h1⟩
  match k with
  | 0 => obtain ⟨cA, h⟩ := pl .int (hts _ tw_aI) (fun cA h => h); exact ⟨cA, fun t ht => by cases ht; exact h⟩
  | 1 => obtain ⟨cA, h⟩ := pl .boolean (hts _ tw_aZ) (fun cA h => h); exact ⟨cA, fun t ht => by cases ht; exact h⟩
  | 2 => obtain ⟨cA, h⟩ := pl .long (hts _ tw_aJ) (fun cA h => h); exact ⟨cA, fun t ht => by cases ht; exact h⟩
  | 3 =>
    obtain ⟨comp, cA, kA, h1, h2, h3, h4, h5⟩ := Cond.arrayOver_spec hao
    exact ⟨cA, fun t ht => by cases ht; exact ⟨fun n z => ⟨fun k h => (by cases h), kA, h3, comp, h4⟩, kA, comp, h3, h4, h1, h5⟩⟩
  | k + 4 => exact ⟨0, fun t ht => by simp at ht⟩
/-- YOUR PART: from the entry, for every script of at most 3072 ints, the law comes to its end with true -/
theorem whole_start {p : Program} {e : Env} {s : State} {m : MethodId} {below : List Frame} {meth : Method} {c : Code} (l : Launch) {b L : Nat} {xs : Nat → Int32} (hL : L ≤ 3072) (C0 : lw_At p s m meth c b L xs) : W p l e room_1 s m #[Value.ref b] below meth c s.heap [] 0 0 (lw_Z below #[Value.ref b] s) (entryFrame m ([Value.ref b] : List Value).toArray 4) := by
  obtain ⟨hx, hb, hr, hml, hown, hts, hX, hbl, hlocks, hgv⟩ := id C0
  have hT : ∀ w ∈ TW, w.before #[Value.ref b] s = true := fun w hw => hts w (List.mem_filter.mp hw).1
  have hao : va_AO "ThreeHeirs$Estate" s := va_AO.of (hts (Cond.arrayOver (.object "ThreeHeirs$Estate")) (by decide +kernel))
  obtain ⟨D, hD⟩ : ∃ D : va_G, ∀ (k : Nat) (q : vw_C), vwCl[k]? = some q → u_Kn s q.1 q.2.1 q.2.2 (D.1 k) (D.2 k) :=
    ⟨(fun k => (k_class hT k).choose, fun k => (k_class hT k).choose_spec.choose), fun k q hq => (k_class hT k).choose_spec.choose_spec q hq⟩
  obtain ⟨A, hA⟩ : ∃ A : Nat → ClassId, ∀ (k : Nat) (t : FieldType), ([.int, .boolean, .long, .object "ThreeHeirs$Estate"] : List FieldType)[k]? = some t → ArrOfT s (A k) t ∧ va_RA s (A k) t :=
    ⟨fun k => (k_arr hT hao k).choose, fun k t ht => (k_arr hT hao k).choose_spec t ht⟩
  have hK : Kx (l, s.heap.size, D, A) s := by
    refine ⟨⟨hD, fun k q hq => ?_⟩, fun w hw => ?_, hao, Nat.le_refl _⟩
    · match k, hq with
      | 0, hq => cases hq; exact hA 0 _ rfl
      | 1, hq => cases hq; exact hA 1 _ rfl
      | 2, hq => cases hq; exact hA 2 _ rfl
      | 3, hq => cases hq; exact hA 3 _ rfl
      | k + 4, hq => simp [tyA] at hq
    · have hn := (List.mem_filter.mp hw).2
      have h1 := hts w (List.mem_filter.mp hw).1
      cases w <;> first | exact va_Nw.of rfl h1 | (exfalso; revert hn; simp [isNest])
  rw [lg_entry_eq]
  exact l_begin (g := (l, s.heap.size, D, A)) (nm := meth.name) hL p e s m _ below meth c s.heap [] _ ⟨hx, hb, hr, hml, hown, hT, hlocks, rfl, hK⟩ ⟨rfl, hX, hbl, rfl⟩ ⟨fun _ => rfl, fun k q h => by simp [wl] at h, fun _ _ => rfl⟩ va_S.rf (LH.entry rfl (Nat.le_of_ble_eq_true rfl) rfl)
