/-! 07b: new cells -/
def c_nw (Y : Ym) (pc kd pc' : Nat) : Prop := ∃ (i : Nat) (r : vw_C), decode Y.2.1 pc = .ok (.new i, 3) ∧ pc' = pc + 3 ∧ vwCl[kd]? = some r ∧ Cond.classLink Y.1.cls i r.1 ∈ TW ∧ Cond.instantiable r.1 r.2.2 ∈ TW ∧ Cond.initialized r.1 ∈ TW
theorem tw_aI : Cond.arrayClass .int ∈ TW := by decide +kernel
theorem tw_aZ : Cond.arrayClass .boolean ∈ TW := by decide +kernel
theorem tw_aJ : Cond.arrayClass .long ∈ TW := by decide +kernel
/-- the layout with one more cell -/
def vn (V : Vw) (sh : Nat × Nat) : Vw := (V.1 + 1, va_up V.2.1 V.1 sh, ur V.2.2.1 V.1 (fun _ => none), true)
section Alloc
variable {g : Gm} {Y Y' : Ym} {E : Ex} {QF : Qf} {V : Vw} {k : Nat × Nat} {pc pc' tgt : Nat} {L : List (Option Value)} {st st0 : List Value} {mi : Mi} {ml : Ml} {Post : Ps}
theorem dflt_fvl {t : FieldType} (h : okT t = true) : defaultValue t = fvl g t 0 0 none := by
  cases t <;> first | rfl | (exfalso; revert h; simp [okT])
theorem ce_vn {sh : Nat × Nat} {i : Nat} (h : i ≠ V.1) : ce g (vn V sh) (ur mi V.1 (fun _ => 0)) (ur ml V.1 (fun _ => 0)) i = ce g V mi ml i := by
  have e1 : (vn V sh).2.1 i = V.2.1 i := by simp [vn, va_up, h]
  have e2 : (vn V sh).2.2.1 i = V.2.2.1 i := by simp [vn, ur_ne h]
  unfold ce
  rw [e1, e2, ur_ne h, ur_ne h]
theorem Wd.push {H H1 : Heap} {sh : Nat × Nat} (hW : Wd g V mi ml H) (hfl : V.2.2.2 = true) (z1 : H1.size = H.size + 1) (o1 : ∀ q, q < H.size → H1[q]? = H[q]?) (hn : va_at g.2.2.1 vwCl (g.2.1 + V.1, ce g (vn V sh) (ur mi V.1 (fun _ => 0)) (ur ml V.1 (fun _ => 0)) V.1) H1) : Wd g (vn V sh) (ur mi V.1 (fun _ => 0)) (ur ml V.1 (fun _ => 0)) H1 := by
  have hz := hW.1 hfl
  refine ⟨fun _ => by rw [z1, hz]; show _ = g.2.1 + (V.1 + 1); omega, fun i q hq => ?_, fun i hi => ?_⟩
  · obtain ⟨hi, rfl⟩ := wl_of hq
    by_cases he : i = V.1
    · subst he; exact hn
    · have hi' : i < V.1 := by have : i < V.1 + 1 := hi; omega
      rw [ce_vn he]
      exact (hW.2.1 i _ (wl_get hi')).kept (o1 _ (by rw [hz]; show g.2.1 + i < _; omega))
  · have hi' : V.1 + 1 ≤ i := hi
    show (va_up V.2.1 V.1 sh i).1 = 99
    rw [va_up_ne _ _ (by omega)]
    exact hW.2.2 i (by omega)
theorem a_new {kd : Nat} (ct : c_nw Y pc kd pc') (hfl : V.2.2.2 = true) (hk : k.1 + 1 ≤ Y.2.2.2.2.cells ∧ k.2 + fN kd ≤ Y.2.2.2.2.slots)
    (kk : At g Y E QF (vn V (kd, 0)) (k.1 + 1, k.2 + fN kd) pc' L (rf g V.1 :: st) (ur mi V.1 (fun _ => 0)) (ur ml V.1 (fun _ => 0))) : At g Y E QF V k pc L st mi ml := by
  intro p e s m args below meth c H locs ls C hE hW hS hL
  obtain ⟨ix, r, hd, rfl, hc, h1, h2, h3⟩ := ct
  have ok := cl_ok hc
  obtain ⟨CC, T, N⟩ := r
  have hN : N = fN kd := ok.2.1
  subst hN
  have hts := C.2.2.2.2.2.1
  have hKn := C.2.2.2.2.2.2.2.2.1.1 kd _ hc
  refine W.newcK C.1 C.2.1 C.2.2.2.2.1 (hts _ h1) (hts _ h2) (hts _ h3) rfl hd hk.1 hk.2 hKn.2.1 (hW.1 hfl) fun H1 kC hkC e1 z1 o1 => ?_
  have hz := hW.1 hfl
  refine kk p e s m args below meth c H1 locs ls C hE (hW.push hfl (by rw [z1, hz]) (fun q hq => o1 q (by rw [← hz]; exact hq)) ?_) ⟨Nat.le_trans hS.1 (by omega), fun q q1 q2 => (o1 q (by have := hS.1; omega)).trans (hS.2.1 q q1 q2), hS.2.2⟩ hL
  rw [ce_o ok.1 (by simp [vn, va_up])]
  refine ⟨_, hc, (u_born (fty kd) hts ok.2.2.1 hKn hkC e1 ok.2.2.2.1).to (fun j hj => ?_)⟩
  rw [dflt_fvl (g := g) (ok.2.2.2.2.2 j hj)]
  have hj' : j < fN kd := hj
  simp [vp_V, fsl, hj', ur, vn]
theorem ra_name {t : FieldType} {cA : ClassId} {U : State} (h : va_RA U cA t) (ht : t = .int ∨ t = .boolean ∨ t = .long) : U.vm.findClass ("[" ++ t.toString) = some cA := by
  rcases ht with rfl | rfl | rfl <;> exact h
theorem a_newI {x : Int32} {N : Nat} (ct : decode Y.2.1 pc = .ok (.newarray .int, 2) ∧ pc' = pc + 2) (hfl : V.2.2.2 = true) (hx : ¬ x < 0) (hN : x.toNatClampNeg = N) (hb : N ≤ 100000) (hk : k.1 + 1 ≤ Y.2.2.2.2.cells ∧ k.2 + N ≤ Y.2.2.2.2.slots)
    (kk : At g Y E QF (vn V (9, N)) (k.1 + 1, k.2 + N) pc' L (rf g V.1 :: st) (ur mi V.1 (fun _ => 0)) (ur ml V.1 (fun _ => 0))) : At g Y E QF V k pc L (.int x :: st) mi ml := by
  intro p e s m args below meth c H locs ls C hE hW hS hL
  obtain ⟨hd, rfl⟩ := ct
  have hts := C.2.2.2.2.2.1
  have hz := hW.1 hfl
  refine va_newaK C.1 C.2.1 (atype := .int) (hts _ tw_aI) rfl hd rfl hx hN (by show N * 4 ≤ _; omega) hk.1 hk.2 hz fun H1 cA e1 z1 o1 hAr hNm => ?_
  have hcA : cA = g.2.2.2 0 := Option.some.inj (hNm.symm.trans (ra_name (C.2.2.2.2.2.2.2.2.1.2 0 _ rfl).2 (Or.inl rfl)))
  subst hcA
  refine kk p e s m args below meth c H1 locs ls C hE (hW.push hfl (by rw [z1, hz]) (fun q hq => o1 q (by rw [← hz]; exact hq)) ?_) ⟨Nat.le_trans hS.1 (by omega), fun q q1 q2 => (o1 q (by have := hS.1; omega)).trans (hS.2.1 q q1 q2), hS.2.2⟩ hL
  rw [ce_i (N := N) (by simp [vn, va_up]), ur_s]
  exact e1
theorem a_newZ {x : Int32} {N : Nat} (ct : decode Y.2.1 pc = .ok (.newarray .boolean, 2) ∧ pc' = pc + 2) (hfl : V.2.2.2 = true) (hx : ¬ x < 0) (hN : x.toNatClampNeg = N) (hb : N ≤ 100000) (hk : k.1 + 1 ≤ Y.2.2.2.2.cells ∧ k.2 + N ≤ Y.2.2.2.2.slots)
    (kk : At g Y E QF (vn V (10, N)) (k.1 + 1, k.2 + N) pc' L (rf g V.1 :: st) (ur mi V.1 (fun _ => 0)) (ur ml V.1 (fun _ => 0))) : At g Y E QF V k pc L (.int x :: st) mi ml := by
  intro p e s m args below meth c H locs ls C hE hW hS hL
  obtain ⟨hd, rfl⟩ := ct
  have hts := C.2.2.2.2.2.1
  have hz := hW.1 hfl
  refine va_newaK C.1 C.2.1 (atype := .boolean) (hts _ tw_aZ) rfl hd rfl hx hN (by show N * 1 ≤ _; omega) hk.1 hk.2 hz fun H1 cA e1 z1 o1 hAr hNm => ?_
  have hcA : cA = g.2.2.2 1 := Option.some.inj (hNm.symm.trans (ra_name (C.2.2.2.2.2.2.2.2.1.2 1 _ rfl).2 (Or.inr (Or.inl rfl))))
  subst hcA
  refine kk p e s m args below meth c H1 locs ls C hE (hW.push hfl (by rw [z1, hz]) (fun q hq => o1 q (by rw [← hz]; exact hq)) ?_) ⟨Nat.le_trans hS.1 (by omega), fun q q1 q2 => (o1 q (by have := hS.1; omega)).trans (hS.2.1 q q1 q2), hS.2.2⟩ hL
  rw [ce_z (N := N) (by simp [vn, va_up]), ur_s]
  exact e1
theorem a_newJ {x : Int32} {N : Nat} (ct : decode Y.2.1 pc = .ok (.newarray .long, 2) ∧ pc' = pc + 2) (hfl : V.2.2.2 = true) (hx : ¬ x < 0) (hN : x.toNatClampNeg = N) (hb : N ≤ 100000) (hk : k.1 + 1 ≤ Y.2.2.2.2.cells ∧ k.2 + N ≤ Y.2.2.2.2.slots)
    (kk : At g Y E QF (vn V (11, N)) (k.1 + 1, k.2 + N) pc' L (rf g V.1 :: st) (ur mi V.1 (fun _ => 0)) (ur ml V.1 (fun _ => 0))) : At g Y E QF V k pc L (.int x :: st) mi ml := by
  intro p e s m args below meth c H locs ls C hE hW hS hL
  obtain ⟨hd, rfl⟩ := ct
  have hts := C.2.2.2.2.2.1
  have hz := hW.1 hfl
  refine va_newaK C.1 C.2.1 (atype := .long) (hts _ tw_aJ) rfl hd rfl hx hN (by show N * 8 ≤ _; omega) hk.1 hk.2 hz fun H1 cA e1 z1 o1 hAr hNm => ?_
  have hcA : cA = g.2.2.2 2 := Option.some.inj (hNm.symm.trans (ra_name (C.2.2.2.2.2.2.2.2.1.2 2 _ rfl).2 (Or.inr (Or.inr rfl))))
  subst hcA
  refine kk p e s m args below meth c H1 locs ls C hE (hW.push hfl (by rw [z1, hz]) (fun q hq => o1 q (by rw [← hz]; exact hq)) ?_) ⟨Nat.le_trans hS.1 (by omega), fun q q1 q2 => (o1 q (by have := hS.1; omega)).trans (hS.2.1 q q1 q2), hS.2.2⟩ hL
  rw [ce_l (N := N) (by simp [vn, va_up]), ur_s]
  exact e1
theorem a_newE {x : Int32} {N : Nat} (ct : ∃ ix : Nat, decode Y.2.1 pc = .ok (.anewarray ix, 3) ∧ pc' = pc + 3 ∧ Cond.classLink Y.1.cls ix "ThreeHeirs$Estate" ∈ TW) (hfl : V.2.2.2 = true) (hx : ¬ x < 0) (hN : x.toNatClampNeg = N) (hb : N ≤ 100000) (hk : k.1 + 1 ≤ Y.2.2.2.2.cells ∧ k.2 + N ≤ Y.2.2.2.2.slots)
    (kk : At g Y E QF (vn V (12, N)) (k.1 + 1, k.2 + N) pc' L (rf g V.1 :: st) (ur mi V.1 (fun _ => 0)) (ur ml V.1 (fun _ => 0))) : At g Y E QF V k pc L (.int x :: st) mi ml := by
  intro p e s m args below meth c H locs ls C hE hW hS hL
  obtain ⟨ix, hd, rfl, hl⟩ := ct
  have hts := C.2.2.2.2.2.1
  have hz := hW.1 hfl
  subst hN
  refine W.anew C.1 C.2.1 C.2.2.2.2.1 (hts _ hl) (va_AO.use C.2.2.2.2.2.2.2.2.2.2.1) rfl hd rfl hx (by omega) hk.1 hk.2 fun cA kA comp f1 f2 f3 f4 => ?_
  obtain ⟨kA', comp', b1, b2, b3, b4⟩ := (C.2.2.2.2.2.2.2.2.1.2 3 _ rfl).2
  have hcA : cA = g.2.2.2 3 := Option.some.inj (f1.symm.trans b4)
  subst hcA
  generalize hH1 : H.push ({ cls := g.2.2.2 3, slots := Array.replicate x.toNatClampNeg .null, vm := .none } : Cell) = H1
  have z1 : H1.size = H.size + 1 := by rw [← hH1, Array.size_push]
  have e1 : H1[H.size]? = some (arrV (g.2.2.2 3) x.toNatClampNeg (fun _ => .null)) := by rw [← hH1, Array.getElem?_push_size, ← arrV_new]
  have o1 : ∀ q : Nat, q < H.size → H1[q]? = H[q]? := fun q hq => by rw [← hH1, Array.getElem?_push, if_neg (Nat.ne_of_lt hq)]
  rw [hz]
  refine kk p e s m args below meth c H1 locs ls C hE (hW.push hfl z1 o1 ?_) ⟨Nat.le_trans hS.1 (by omega), fun q q1 q2 => (o1 q (by have := hS.1; omega)).trans (hS.2.1 q q1 q2), hS.2.2⟩ hL
  rw [ce_q (N := x.toNatClampNeg) (by simp [vn, va_up])]
  rw [hz] at e1
  show H1[g.2.1 + V.1]? = some (vp_cell _ _)
  rw [vp_cell_q, e1]
  simp [vn, ur_s, va_rf]
end Alloc
