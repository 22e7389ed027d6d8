/-! 65: one memory for both -/
theorem RR.cg {mi mj mi' mj' : Mi} {ml : Ml} {ld m wn sn : Nat} (h : RR mi mj ml ld m wn sn) (h1 : ∀ i, i < 229 → mi' i = mi i) (h2 : ∀ i, 229 ≤ i → mj' i = mj i) : RR mi' mj' ml ld m wn sn := by
  obtain ⟨d, hT, hF, hI, hD, hB⟩ := h
  refine ⟨d.fr (fun i hi => h1 i (by omega)) (by rw [h1 0 (by omega)]) (fun i _ _ => h2 i (by omega)) (fun k _ _ => by rw [h2 229 (by omega)]) rfl, ?_, ?_, ?_, ?_, ?_⟩
  · exact hT.to (h1 _ (by omega)) (h1 _ (by omega)) (by rw [h2 229 (by omega)]) (h2 _ (by omega))
  · rw [h1 0 (by omega), h2 229 (by omega)]; exact hF
  · exact hI.to (fun i _ _ => h1 _ (by omega)) (h2 _ (by omega)) (h2 _ (by omega)) rfl
  · exact hD.to (by rw [h1 199 (by omega)]) (h1 _ (by omega)) (h1 _ (by omega)) (h1 _ (by omega)) (by rw [h2 229 (by omega)]) (h2 _ (by omega)) (h2 _ (by omega)) (h2 _ (by omega))
  · exact hB.to (by rw [h1 204 (by omega)]) (h1 _ (by omega)) (h1 _ (by omega)) (by rw [h2 229 (by omega)]) (h2 _ (by omega)) (h2 _ (by omega))
theorem SM.one {ml : Ml} {ld m wn sn : Nat} {o1 o2 : Mi → Option (Int32 × Mi)} {M : Mi} (h : RR M M ml ld m wn sn) (S : ∀ mi mj : Mi, RR mi mj ml ld m wn sn → SM mi mj ml ld m wn sn (o1 mi) (o2 mj)) : ∃ (r : Int32) (m1 m2 : Mi), o1 M = some (r, m1) ∧ o2 m1 = some (r, m2) ∧ RR m2 m2 ml ld m wn sn := by
  obtain ⟨r, mi', mj', a1, a2, a3, a4, a5⟩ := S M M h
  obtain ⟨r2, mi2, mj2, b1, b2, b3, b4, b5⟩ := S M mi' (h.cg (fun _ _ => rfl) a4)
  rw [a1] at b1
  have e := Option.some.inj b1
  have e1 : r = r2 := congrArg Prod.fst e
  have e2 : mi' = mi2 := congrArg Prod.snd e
  subst e1 e2
  exact ⟨r, mi', mj2, a1, b2, b3.cg b5 (fun _ _ => rfl)⟩
theorem SO.one {ml : Ml} {ld m wn sn : Nat} {o1 : Mi → Option (Int32 × Mi)} {o2 : Mi → Option (Int32 × Mi × Ml)} {M : Mi} (h : RR M M ml ld m wn sn) (S : ∀ mi mj : Mi, RR mi mj ml ld m wn sn → SO mi mj ml ld m wn sn (o1 mi) (o2 mj)) : ∃ (r : Int32) (m1 m2 : Mi) (l2 : Ml), o1 M = some (r, m1) ∧ o2 m1 = some (r, m2, l2) ∧ RR m2 m2 l2 ld m wn sn := by
  obtain ⟨r, mi', mj', ml', a1, a2, a3, a4, a5⟩ := S M M h
  obtain ⟨r2, mi2, mj2, ml2, b1, b2, b3, b4, b5⟩ := S M mi' (h.cg (fun _ _ => rfl) a4)
  rw [a1] at b1
  have e := Option.some.inj b1
  have e1 : r = r2 := congrArg Prod.fst e
  have e2 : mi' = mi2 := congrArg Prod.snd e
  subst e1 e2
  exact ⟨r, mi', mj2, ml2, a1, b2, b3.cg b5 (fun _ _ => rfl)⟩
theorem S_lookAt {mi mj : Mi} {ml : Ml} {ld m wn sn : Nat} (h : RR mi mj ml ld m wn sn) : SM mi mj ml ld m wn sn (f_X7_lookAt mi ld) (f_X8_lookAt mj) := by
  obtain ⟨d, hT, hF, hI, hD, hB⟩ := h
  obtain ⟨r, p, q, a1, a2⟩ := J_lookAt d.1 d.2.1 hD
  refine ⟨r, _, _, a1, a2, ⟨d.fr (fun i hi => ur_ne (by omega)) (by rw [ur_ne (by omega)]) (fun i _ _ => ur_ne (by omega)) (fun k _ _ => by rw [ur_ne (by omega)]) rfl, ?_, ?_, ?_, ?_, ?_⟩, fun i hi => ur_ne (by omega), fun i hi => ur_ne (by omega)⟩
  · exact hT.to (ur_ne (by omega)) (ur_ne (by omega)) (by rw [ur_ne (by omega)]) (ur_ne (by omega))
  · rw [ur_ne (by omega), ur_ne (by omega)]; exact hF
  · exact hI.to (fun i _ _ => ur_ne (by omega)) (ur_ne (by omega)) (ur_ne (by omega)) rfl
  · exact hD.to (by rw [ur_ne (by omega)]) (ur_ne (by omega)) (ur_ne (by omega)) (ur_ne (by omega)) (by rw [ur_ne (by omega)]) (ur_ne (by omega)) (ur_ne (by omega)) (ur_ne (by omega))
  · exact hB.to (by rw [ur_ne (by omega)]) (ur_ne (by omega)) (ur_ne (by omega)) (by rw [ur_ne (by omega)]) (ur_ne (by omega)) (ur_ne (by omega))
theorem laym_sw {V : Vw} {ld dr : Nat} (h : LayM V) : LayM (sw V ld dr) := by
  unfold LayM at *
  have e : (sw V ld dr).2.2.1 229 = V.2.2.1 229 := by funext b; exact sw_r (by omega) (by omega)
  rw [e]
  exact h
