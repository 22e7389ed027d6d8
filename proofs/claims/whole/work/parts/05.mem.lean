/-! 05: rows for fields, arrays, calls, returns -/
theorem in_X0 : ∀ w ∈ u_ws RX0 TX0 3, w ∈ TW := by decide +kernel
theorem in_X1 : ∀ w ∈ u_ws RX1 TX1 14, w ∈ TW := by decide +kernel
theorem in_X2 : ∀ w ∈ u_ws RX2 TX2 8, w ∈ TW := by decide +kernel
theorem in_X3 : ∀ w ∈ u_ws RX3 TX3 5, w ∈ TW := by decide +kernel
theorem in_X4 : ∀ w ∈ u_ws RX4 TX4 3, w ∈ TW := by decide +kernel
theorem in_X5 : ∀ w ∈ u_ws RX5 TX5 5, w ∈ TW := by decide +kernel
theorem in_X6 : ∀ w ∈ u_ws RX6 TX6 2, w ∈ TW := by decide +kernel
theorem in_X7 : ∀ w ∈ u_ws RX7 TX7 12, w ∈ TW := by decide +kernel
theorem in_X8 : ∀ w ∈ u_ws RX8 TX8 43, w ∈ TW := by decide +kernel
def okT (t : FieldType) : Bool := match t with
  | .int => true | .boolean => true | .long => true | .object _ => true | .array _ => true | _ => false
def ClOk (kd : Nat) (r : vw_C) : Prop := kd < 9 ∧ r.2.2 = fN kd ∧ (∀ w ∈ u_ws r.1 r.2.1 r.2.2, w ∈ TW) ∧ (∀ j, j < r.2.2 → parseFieldDescriptor (r.2.1 j).2.2.1 = some (fty kd j)) ∧ (∀ a, a < r.2.2 → ∀ b, b < r.2.2 → a ≠ b → (r.2.1 a).2.1 ≠ (r.2.1 b).2.1) ∧ (∀ j, j < r.2.2 → okT (fty kd j) = true)
theorem cl_ok {kd : Nat} {r : vw_C} (h : vwCl[kd]? = some r) : ClOk kd r := by
  have hl : kd < 9 := (List.getElem?_eq_some_iff.mp h).1
  rcases (show kd = 0 ∨ kd = 1 ∨ kd = 2 ∨ kd = 3 ∨ kd = 4 ∨ kd = 5 ∨ kd = 6 ∨ kd = 7 ∨ kd = 8 by omega) with rfl | rfl | rfl | rfl | rfl | rfl | rfl | rfl | rfl
  · have e : (RX0, TX0, 3) = r := Option.some.inj h
    subst e; exact ⟨by decide, rfl, in_X0, tyX0_ok, nmX0, by decide⟩
  · have e : (RX1, TX1, 14) = r := Option.some.inj h
    subst e; exact ⟨by decide, rfl, in_X1, tyX1_ok, nmX1, by decide⟩
  · have e : (RX2, TX2, 8) = r := Option.some.inj h
    subst e; exact ⟨by decide, rfl, in_X2, tyX2_ok, nmX2, by decide⟩
  · have e : (RX3, TX3, 5) = r := Option.some.inj h
    subst e; exact ⟨by decide, rfl, in_X3, tyX3_ok, nmX3, by decide⟩
  · have e : (RX4, TX4, 3) = r := Option.some.inj h
    subst e; exact ⟨by decide, rfl, in_X4, tyX4_ok, nmX4, by decide⟩
  · have e : (RX5, TX5, 5) = r := Option.some.inj h
    subst e; exact ⟨by decide, rfl, in_X5, tyX5_ok, nmX5, by decide⟩
  · have e : (RX6, TX6, 2) = r := Option.some.inj h
    subst e; exact ⟨by decide, rfl, in_X6, tyX6_ok, nmX6, by decide⟩
  · have e : (RX7, TX7, 12) = r := Option.some.inj h
    subst e; exact ⟨by decide, rfl, in_X7, tyX7_ok, nmX7, by decide⟩
  · have e : (RX8, TX8, 43) = r := Option.some.inj h
    subst e; exact ⟨by decide, rfl, in_X8, tyX8_ok, nmX8, by decide⟩
def c_lk (Y : Ym) (r : vw_C) (i j : Nat) : Prop := Cond.fieldLink Y.1.cls i (r.2.1 j).1 (r.2.1 j).2.1 (r.2.1 j).2.2.1 ∈ TW ∨ ∃ h : String, Cond.fieldLinkNest Y.1.cls i (r.2.1 j).1 (r.2.1 j).2.1 (r.2.1 j).2.2.1 h ∈ NW
def c_gf (Y : Ym) (pc kd j pc' : Nat) : Prop := ∃ (i : Nat) (r : vw_C), decode Y.2.1 pc = .ok (.getfield i, 3) ∧ pc' = pc + 3 ∧ vwCl[kd]? = some r ∧ j < r.2.2 ∧ c_lk Y r i j
def c_pf (Y : Ym) (pc kd j pc' : Nat) : Prop := ∃ (i : Nat) (r : vw_C), decode Y.2.1 pc = .ok (.putfield i, 3) ∧ pc' = pc + 3 ∧ vwCl[kd]? = some r ∧ j < r.2.2 ∧ (((r.2.1 j).2.2.2 = false ∧ c_lk Y r i j) ∨ ((r.2.1 j).2.2.2 = true ∧ Y.1.name = "<init>" ∧ (r.2.1 j).1 = Y.1.cls ∧ Cond.fieldLink Y.1.cls i (r.2.1 j).1 (r.2.1 j).2.1 (r.2.1 j).2.2.1 ∈ TW))
theorem mr_set {n j : Nat} {f f' : Nat → Value} {v : Value} (hj : f' j = v) (ho : ∀ q, q ≠ j → f' q = f q) : ((List.range n).map f).set j v = (List.range n).map f' := by
  apply List.ext_getElem?
  intro q
  by_cases hq : q < n
  · by_cases hjq : j = q
    · subst hjq
      rw [List.getElem?_set_self (by simpa using hq)]
      simp [hq, hj]
    · rw [List.getElem?_set_ne hjq]
      simp [hq, ho q (fun h => hjq h.symm)]
  · rw [List.getElem?_eq_none (by simp; omega), List.getElem?_eq_none (by simp; omega)]
section Mem
variable {g : Gm} {Y : Ym} {E : Ex} {QF : Qf} {V : Vw} {k : Nat × Nat} {pc pc' tgt : Nat} {L : List (Option Value)} {st : List Value} {mi : Mi} {ml : Ml}
theorem a_get {i kd j : Nat} {v : Value} (ct : c_gf Y pc kd j pc') (hs : V.2.1 i = (kd, 0)) (hv : fvl g (fty kd j) (mi i j) (ml i j) (V.2.2.1 i j) = v) (kk : At g Y E QF V k pc' L (v :: st) mi ml) : At g Y E QF V k pc L (rf g i :: st) mi ml := by
  intro p e s m args below meth c H locs ls C hE hW hS hL
  obtain ⟨ix, r, hd, rfl, hc, hj, hlk⟩ := ct
  have ok := cl_ok hc
  obtain ⟨CC, T, N⟩ := r
  have hN : N = fN kd := ok.2.1
  have he : (wl g V mi ml)[i]? = some (g.2.1 + i, .inr (kd, fsl g V mi ml i kd)) := by rw [hW.at hs (by have := ok.1; omega), ce_o ok.1 hs]
  have hv' : (fsl g V mi ml i kd)[j]? = some v := by
    have hj' : j < fN kd := by rw [← hN]; exact hj
    simp [fsl, hj', hv]
  have k2 := kk p e s m args below meth c H locs ls C hE hW hS hL
  rcases hlk with hl | ⟨host, hl⟩
  · exact va_get C.1 C.2.1 C.2.2.2.2.2.1 ok.2.2.1 C.2.2.2.2.1 C.2.2.2.2.2.2.2.2.1 hW.2.1 i he hc j hj (C.2.2.2.2.2.1 _ hl) (fun _ h => h) hv' hd k2
  · exact va_getN C.1 C.2.1 C.2.2.2.2.2.1 ok.2.2.1 C.2.2.2.2.1 C.2.2.2.2.2.2.2.2.1 hW.2.1 i he hc j hj (va_Nw.use rfl (C.2.2.2.2.2.2.2.2.2.1 _ hl)) (fun _ h => h) hv' hd k2
def isI (t : FieldType) : Bool := match t with
  | .int => true | .boolean => true | _ => false
def isR (t : FieldType) : Bool := match t with
  | .object _ => true | .array _ => true | _ => false
theorem fvl_I {t : FieldType} {x : Int32} {y : Int64} {r : Option Nat} (h : isI t = true) : fvl g t x y r = .int x := by
  cases t <;> first | rfl | (exfalso; revert h; simp [isI])
theorem fvl_R {t : FieldType} {x : Int32} {y : Int64} {r : Option Nat} (h : isR t = true) : fvl g t x y r = ov g r := by
  cases t <;> first | rfl | (exfalso; revert h; simp [isR])
theorem a_geti {i kd j : Nat} (ct : c_gf Y pc kd j pc') (hs : V.2.1 i = (kd, 0)) (ht : isI (fty kd j) = true) (kk : At g Y E QF V k pc' L (.int (mi i j) :: st) mi ml) : At g Y E QF V k pc L (rf g i :: st) mi ml :=
  a_get ct hs (fvl_I ht) kk
theorem a_getr {i kd j a : Nat} (ct : c_gf Y pc kd j pc') (hs : V.2.1 i = (kd, 0)) (ht : isR (fty kd j) = true) (hr : V.2.2.1 i j = some a) (kk : At g Y E QF V k pc' L (rf g a :: st) mi ml) : At g Y E QF V k pc L (rf g i :: st) mi ml :=
  a_get ct hs (by rw [fvl_R ht, hr]; rfl) kk
theorem a_getl {i kd j : Nat} (ct : c_gf Y pc kd j pc') (hs : V.2.1 i = (kd, 0)) (ht : fty kd j = .long) (kk : At g Y E QF V k pc' L (.long (ml i j) :: st) mi ml) : At g Y E QF V k pc L (rf g i :: st) mi ml :=
  a_get ct hs (by rw [ht]; rfl) kk
theorem a_put {i kd j : Nat} {v : Value} {V' : Vw} {mi' : Mi} {ml' : Ml} (ct : c_pf Y pc kd j pc') (hs : V.2.1 i = (kd, 0)) (hn : narrow (fty kd j) v = v) (hfit : fits (fty kd j) v = true) (h1 : V'.1 = V.1) (h2 : V'.2.1 = V.2.1) (h3 : V'.2.2.2 = V.2.2.2)
    (hself : (fsl g V mi ml i kd).set j v = fsl g V' mi' ml' i kd) (hother : ∀ q, q ≠ i → ce g V' mi' ml' q = ce g V mi ml q) (kk : At g Y E QF V' k pc' L st mi' ml') : At g Y E QF V k pc L (v :: rf g i :: st) mi ml := by
  intro p e s m args below meth c H locs ls C hE hW hS hL
  obtain ⟨ix, r, hd, rfl, hc, hj, hlk⟩ := ct
  have ok := cl_ok hc
  obtain ⟨CC, T, N⟩ := r
  have hN : N = fN kd := ok.2.1
  have hi : i < V.1 := hW.lt hs (by have := ok.1; omega)
  have he : (wl g V mi ml)[i]? = some (g.2.1 + i, .inr (kd, fsl g V mi ml i kd)) := by rw [wl_get hi, ce_o ok.1 hs]
  have hset : (wl g V mi ml).set i (g.2.1 + i, .inr (kd, (fsl g V mi ml i kd).set j v)) = wl g V' mi' ml' :=
    wl_set hi h1 (by rw [ce_o ok.1 (by rw [h2]; exact hs), hself]) hother
  have hl : j < (fsl g V mi ml i kd).length := by simp [fsl, ← hN]; exact hj
  have hty : parseFieldDescriptor (T j).2.2.1 = some (fty kd j) := ok.2.2.2.1 j hj
  have fin : ∀ (H1 : Heap) (locs1 : List Loc), va_P g.2.2.1 vwCl ((wl g V mi ml).set i (g.2.1 + i, .inr (kd, (fsl g V mi ml i kd).set j v))) H1 → va_S (fun q => g.2.1 ≤ q) s.heap H1 locs1 → H1.size = H.size → W p g.1 e Y.2.2.2.2 s m args below meth c H1 locs1 k.1 k.2 (QF below args s) (F0 m (pc + 3) ls st) := by
    intro H1 locs1 hP hS1 hz
    rw [hset] at hP
    exact kk p e s m args below meth c H1 locs1 ls C hE ⟨fun h => by rw [hz, hW.1 (by rw [← h3]; exact h), h1], hP, by rw [h1, h2]; exact hW.2.2⟩ hS1 hL
  have hap := va_apart (own := Y.1.cls) C.2.2.2.2.2.1 ok.2.2.1 (fty kd) ok.2.2.2.1 ok.2.2.2.2.1 C.2.2.2.2.2.2.2.2.1 hc
  obtain ⟨r', g1, cell, q1, q2, q3, q4⟩ := hW.2.1 i _ he
  have hr : r' = (CC, T, N) := Option.some.inj (g1.symm.trans hc)
  subst hr
  obtain ⟨hSl, hfc, kC, hkC, hkind⟩ := C.2.2.2.2.2.2.2.2.1.1 kd _ hc
  obtain ⟨cf, kf, fi, f, hif, hsl⟩ := hSl j hj
  have hst := (u_facts hfc hkC (u_lays C.2.2.2.2.2.1 ok.2.2.1 hj) hif).1
  have hlay := C.2.2.2.2.2.1 _ (ok.2.2.1 _ (u_in_lay hj))
  unfold u_lay at hlay
  have last : ∀ (H' : Heap), H'[g.2.1 + i]? = some (cell.setSlot f.slot v) → H'.size = H.size → (∀ q, q ≠ g.2.1 + i → H'[q]? = H[q]?) → W p g.1 e Y.2.2.2.2 s m args below meth c H' (locs ++ [⟨g.2.1 + i, f.slot⟩]) k.1 k.2 (QF below args s) (F0 m (pc + 3) ls st) := by
    intro H' e1 e2 e3
    rw [hsl] at e1 ⊢
    refine fin H' _ (hW.2.1.set wl_D he ⟨_, hc, t_OB.to (V := updV (vp_V (fsl g V mi ml i kd)) j v) ⟨_, e1, q2, q3, t_set q4 hap hj v⟩ (fun a _ => vp_updV_set hl v a)⟩ e3) (hS.put e2 e3 (Nat.le_add_right _ _)) e2
  rcases hlk with ⟨hf, hlk⟩ | ⟨hf, hnm, hdc, hl1⟩
  · rw [if_neg (by rw [hf]; decide)] at hlay
    have h6 := u_store hfc hkC hkind hlay hif hty hn hfit
    rcases hlk with hl1 | ⟨host, hl1⟩
    · exact W.putK C.1 C.2.1 (f := f) ⟨C.2.2.2.2.1, C.2.2.2.2.2.1 _ hl1, ⟨_, _, _, hif⟩, hst⟩ (by rw [q2]; exact h6) q1 q3 (by rw [hsl]; exact k2_hasslot (q4 j hj)) rfl rfl hd last
    · exact va_WputK C.1 C.2.1 (f := f) C.2.2.2.2.1 (va_Nw.use rfl (C.2.2.2.2.2.2.2.2.2.1 _ hl1)) hif hst (by rw [q2]; exact h6) q1 q3 (by rw [hsl]; exact k2_hasslot (q4 j hj)) rfl rfl hd last
  · rw [if_pos hf] at hlay
    have hcf : m.cls = cf := by
      obtain ⟨_, _, c', _, _, _, -, -, hf', -, -, -, hown2, -⟩ := Cond.laysFinal_spec hlay
      have e1 : c' = cf := by have := hif.symm.trans hf'; simp at this; exact this.1.symm
      rw [show (T j).1 = Y.1.cls from hdc] at hown2
      rw [← e1]; exact Option.some.inj (C.2.2.2.2.1.symm.trans hown2)
    have h6 := u_fits hfc hkC hkind (Or.inr hlay) hif hty hn hfit
    exact W.putFinK C.1 C.2.1 C.2.2.2.2.1 (C.2.2.2.2.2.1 _ hl1) hif hst hcf (by rw [C.2.2.2.2.2.2.2.1]; exact hnm) (by rw [q2]; exact h6) q1 q3 (by rw [hsl]; exact k2_hasslot (q4 j hj)) rfl rfl hd last
theorem a_puti {i kd j : Nat} {x : Int32} (ct : c_pf Y pc kd j pc') (hs : V.2.1 i = (kd, 0)) (ht : isI (fty kd j) = true) (hn : narrow (fty kd j) (.int x) = .int x) (hfit : fits (fty kd j) (.int x) = true) (kk : At g Y E QF V k pc' L st (u2 mi i j x) ml) : At g Y E QF V k pc L (.int x :: rf g i :: st) mi ml :=
  a_put ct hs hn hfit rfl rfl rfl (mr_set (by rw [fvl_I ht, u2_s]) (fun q hq => by rw [u2_ne (by simp [hq])])) (fun q hq => by simp [ce, u2_row hq]) kk
theorem a_putl {i kd j : Nat} {x : Int64} (ct : c_pf Y pc kd j pc') (hs : V.2.1 i = (kd, 0)) (ht : fty kd j = .long) (kk : At g Y E QF V k pc' L st mi (u2 ml i j x)) : At g Y E QF V k pc L (.long x :: rf g i :: st) mi ml :=
  a_put ct hs (by rw [ht]; rfl) (by rw [ht]; rfl) rfl rfl rfl (mr_set (by rw [ht, u2_s]; rfl) (fun q hq => by rw [u2_ne (by simp [hq])])) (fun q hq => by simp [ce, u2_row hq]) kk
theorem a_putr {i kd j a : Nat} (ct : c_pf Y pc kd j pc') (hs : V.2.1 i = (kd, 0)) (ht : isR (fty kd j) = true) (kk : At g Y E QF (V.1, V.2.1, u2 V.2.2.1 i j (some a), V.2.2.2) k pc' L st mi ml) : At g Y E QF V k pc L (rf g a :: rf g i :: st) mi ml :=
  a_put (V' := (V.1, V.2.1, u2 V.2.2.1 i j (some a), V.2.2.2)) (mi' := mi) (ml' := ml) ct hs (by revert ht; cases fty kd j <;> first | (intro _; rfl) | (intro h; exfalso; revert h; simp [isR])) (by revert ht; cases fty kd j <;> first | (intro _; rfl) | (intro h; exfalso; revert h; simp [isR])) rfl rfl rfl (mr_set (by rw [fvl_R ht]; show ov g (u2 V.2.2.1 i j (some a) i j) = _; rw [u2_s]; rfl) (fun q hq => by show fvl g (fty kd q) (mi i q) (ml i q) (u2 V.2.2.1 i j (some a) i q) = _; rw [u2_ne (by simp [hq])])) (fun q hq => by simp [ce, u2_row hq]) kk
theorem a_iald {i N : Nat} {x : Int32} (ct : c_op Y pc .iaload pc') (hs : V.2.1 i = (9, N)) (hin : vp_in x N) (kk : At g Y E QF V k pc' L (.int (mi i x.toNatClampNeg) :: st) mi ml) : At g Y E QF V k pc L (.int x :: rf g i :: st) mi ml := by
  intro p e s m args below meth c H locs ls C hE hW hS hL
  obtain ⟨hd, rfl⟩ := ct
  exact va_iald C.1 C.2.1 C.2.2.2.2.2.2.2.2.1 hW.2.1 i 0 (by rw [hW.at hs (by decide), ce_i hs]) rfl hin hd (kk p e s m args below meth c H locs ls C hE hW hS hL)
theorem a_zald {i N : Nat} {x : Int32} (ct : c_op Y pc .baload pc') (hs : V.2.1 i = (10, N)) (hin : vp_in x N) (kk : At g Y E QF V k pc' L (.int (mi i x.toNatClampNeg) :: st) mi ml) : At g Y E QF V k pc L (.int x :: rf g i :: st) mi ml := by
  intro p e s m args below meth c H locs ls C hE hW hS hL
  obtain ⟨hd, rfl⟩ := ct
  exact va_zald C.1 C.2.1 C.2.2.2.2.2.2.2.2.1 hW.2.1 i 1 (by rw [hW.at hs (by decide), ce_z hs]) rfl hin hd (kk p e s m args below meth c H locs ls C hE hW hS hL)
theorem a_lald {i N : Nat} {x : Int32} (ct : c_op Y pc .laload pc') (hs : V.2.1 i = (11, N)) (hin : vp_in x N) (kk : At g Y E QF V k pc' L (.long (ml i x.toNatClampNeg) :: st) mi ml) : At g Y E QF V k pc L (.int x :: rf g i :: st) mi ml := by
  intro p e s m args below meth c H locs ls C hE hW hS hL
  obtain ⟨hd, rfl⟩ := ct
  exact va_lald C.1 C.2.1 C.2.2.2.2.2.2.2.2.1 hW.2.1 i 2 (by rw [hW.at hs (by decide), ce_l hs]) rfl hin hd (kk p e s m args below meth c H locs ls C hE hW hS hL)
theorem a_aald {i N a : Nat} {x : Int32} (ct : c_op Y pc .aaload pc') (hs : V.2.1 i = (12, N)) (hin : vp_in x N) (hr : V.2.2.1 i x.toNatClampNeg = some a) (kk : At g Y E QF V k pc' L (rf g a :: st) mi ml) : At g Y E QF V k pc L (.int x :: rf g i :: st) mi ml := by
  intro p e s m args below meth c H locs ls C hE hW hS hL
  obtain ⟨hd, rfl⟩ := ct
  refine va_aldq C.1 C.2.1 C.2.2.2.2.2.2.2.2.1 hW.2.1 i 3 (by rw [hW.at hs (by decide), ce_q hs]) rfl hin hd ?_
  rw [hr]
  exact kk p e s m args below meth c H locs ls C hE hW hS hL
theorem Wd.row {V' : Vw} {mi' : Mi} {ml' : Ml} {H H1 : Heap} {i : Nat} {e : va_E} (hW : Wd g V mi ml H) (hi : i < V.1) (hn : V'.1 = V.1) (hsh : V'.2.1 = V.2.1) (hfl : V'.2.2.2 = V.2.2.2) (he : ce g V' mi' ml' i = e) (ho : ∀ j, j ≠ i → ce g V' mi' ml' j = ce g V mi ml j) (hz : H1.size = H.size) (hP : va_P g.2.2.1 vwCl ((wl g V mi ml).set i (g.2.1 + i, e)) H1) : Wd g V' mi' ml' H1 := by
  rw [wl_set hi hn he ho] at hP
  exact ⟨fun h => by rw [hz, hW.1 (by rw [← hfl]; exact h), hn], hP, by rw [hn, hsh]; exact hW.2.2⟩
theorem a_iast {i N : Nat} {x v : Int32} (ct : c_op Y pc .iastore pc') (hs : V.2.1 i = (9, N)) (hin : vp_in x N) (kk : At g Y E QF V k pc' L st (u2 mi i x.toNatClampNeg v) ml) : At g Y E QF V k pc L (.int v :: .int x :: rf g i :: st) mi ml := by
  intro p e s m args below meth c H locs ls C hE hW hS hL
  obtain ⟨hd, rfl⟩ := ct
  have hi := hW.lt hs (by decide)
  have ha : (wl g V mi ml)[i]? = some (g.2.1 + i, .inl (g.2.2.2 0, N, .inl (mi i))) := by rw [wl_get hi, ce_i hs]
  refine W.iast C.1 C.2.1 (hW.2.1 i _ ha) ((C.2.2.2.2.2.2.2.2.1.2 0 _ rfl).1 N (fun j => .int (mi i j))) (fun q => by cases q) (by show ¬ (x < 0 ∨ (arrV _ _ _).slots.size ≤ _); rw [arrV_size]; exact hin) rfl rfl hd fun H1 e1 z oq => ?_
  have hrow : u2 mi i x.toNatClampNeg v i = upd (mi i) x.toNatClampNeg v := by funext b; simp [u2, upd]
  refine kk p e s m args below meth c H1 _ ls C hE (hW.row hi rfl rfl rfl (ce_i hs) (fun q hq => by simp [ce, u2_row hq]) z (hW.2.1.set wl_D ha ?_ oq)) (hS.put z oq (Nat.le_add_right _ _)) hL
  show H1[g.2.1 + i]? = some (vp_cell _ _)
  rw [e1, vp_cell_i, vp_cell_i, arrV_store, hrow]
  congr 2
  funext q
  by_cases hq : q = x.toNatClampNeg
  · subst hq; simp [updV, upd]
  · simp [updV, upd, hq]
theorem a_zast {i N : Nat} {x v : Int32} (ct : c_op Y pc .bastore pc') (hs : V.2.1 i = (10, N)) (hin : vp_in x N) (hv : narrow .boolean (.int v) = .int v) (kk : At g Y E QF V k pc' L st (u2 mi i x.toNatClampNeg v) ml) : At g Y E QF V k pc L (.int v :: .int x :: rf g i :: st) mi ml := by
  intro p e s m args below meth c H locs ls C hE hW hS hL
  obtain ⟨hd, rfl⟩ := ct
  have hi := hW.lt hs (by decide)
  have ha : (wl g V mi ml)[i]? = some (g.2.1 + i, .inl (g.2.2.2 1, N, .inl (mi i))) := by rw [wl_get hi, ce_z hs]
  refine W.zast C.1 C.2.1 (hW.2.1 i _ ha) ((C.2.2.2.2.2.2.2.2.1.2 1 _ rfl).1 N (fun j => .int (mi i j))) (fun q => by cases q) (by show ¬ (x < 0 ∨ (arrV _ _ _).slots.size ≤ _); rw [arrV_size]; exact hin) rfl rfl hd fun H1 e1 z oq => ?_
  have hrow : u2 mi i x.toNatClampNeg v i = upd (mi i) x.toNatClampNeg v := by funext b; simp [u2, upd]
  refine kk p e s m args below meth c H1 _ ls C hE (hW.row hi rfl rfl rfl (ce_z hs) (fun q hq => by simp [ce, u2_row hq]) z (hW.2.1.set wl_D ha ?_ oq)) (hS.put z oq (Nat.le_add_right _ _)) hL
  show H1[g.2.1 + i]? = some (vp_cell _ _)
  rw [e1, hv, vp_cell_i, vp_cell_i, arrV_store, hrow]
  congr 2
  funext q
  by_cases hq : q = x.toNatClampNeg
  · subst hq; simp [updV, upd]
  · simp [updV, upd, hq]
theorem a_last {i N : Nat} {x : Int32} {v : Int64} (ct : c_op Y pc .lastore pc') (hs : V.2.1 i = (11, N)) (hin : vp_in x N) (kk : At g Y E QF V k pc' L st mi (u2 ml i x.toNatClampNeg v)) : At g Y E QF V k pc L (.long v :: .int x :: rf g i :: st) mi ml := by
  intro p e s m args below meth c H locs ls C hE hW hS hL
  obtain ⟨hd, rfl⟩ := ct
  have hi := hW.lt hs (by decide)
  have ha : (wl g V mi ml)[i]? = some (g.2.1 + i, .inl (g.2.2.2 2, N, .inr (.inl (ml i)))) := by rw [wl_get hi, ce_l hs]
  refine W.last C.1 C.2.1 (hW.2.1 i _ ha) ((C.2.2.2.2.2.2.2.2.1.2 2 _ rfl).1 N (fun j => .long (ml i j))) (fun q => by cases q) (by show ¬ (x < 0 ∨ (arrV _ _ _).slots.size ≤ _); rw [arrV_size]; exact hin) rfl rfl hd fun H1 e1 z oq => ?_
  have hrow : u2 ml i x.toNatClampNeg v i = vp_updL (ml i) x.toNatClampNeg v := by funext b; simp [u2, vp_updL]
  refine kk p e s m args below meth c H1 _ ls C hE (hW.row hi rfl rfl rfl (ce_l hs) (fun q hq => by simp [ce, u2_row hq]) z (hW.2.1.set wl_D ha ?_ oq)) (hS.put z oq (Nat.le_add_right _ _)) hL
  show H1[g.2.1 + i]? = some (vp_cell _ _)
  rw [e1, vp_cell_l, vp_cell_l, arrV_store, hrow]
  congr 2
  funext q
  by_cases hq : q = x.toNatClampNeg
  · subst hq; simp [updV, vp_updL]
  · simp [updV, vp_updL, hq]
theorem a_aast {i N a : Nat} {x : Int32} (ct : c_op Y pc .aastore pc') (hs : V.2.1 i = (12, N)) (hin : vp_in x N) (ha2 : V.2.1 a = (2, 0)) (kk : At g Y E QF (V.1, V.2.1, u2 V.2.2.1 i x.toNatClampNeg (some a), V.2.2.2) k pc' L st mi ml) : At g Y E QF V k pc L (rf g a :: .int x :: rf g i :: st) mi ml := by
  intro p e s m args below meth c H locs ls C hE hW hS hL
  obtain ⟨hd, rfl⟩ := ct
  have hi := hW.lt hs (by decide)
  have ha : (wl g V mi ml)[i]? = some (g.2.1 + i, .inl (g.2.2.2 3, N, .inr (.inr (.inr (.inr (fun j => (V.2.2.1 i j).map (fun a => g.2.1 + a))))))) := by rw [wl_get hi, ce_q hs]
  have hv : (wl g V mi ml)[a]? = some (g.2.1 + a, .inr (2, fsl g V mi ml a 2)) := by rw [hW.at ha2 (by decide), ce_o (by decide) ha2]
  have hlt : x.toNatClampNeg < N := Nat.not_le.mp fun q => hin (Or.inr q)
  have h0 : ¬ x < 0 := fun q => hin (Or.inl q)
  obtain ⟨r', hr', cellV, g1, g2, g3, -⟩ := hW.2.1 a _ hv
  have hK := C.2.2.2.2.2.2.2.2.1
  have hcls := (hK.1 2 (RX2, TX2, 8) rfl).2
  obtain ⟨kA, comp, k1, k2, k3, -⟩ := (hK.2 3 _ rfl).2
  have hcomp : comp = g.2.2.1.1 2 := Option.some.inj (k3.symm.trans hcls.1)
  subst hcomp
  obtain ⟨kC, hkC, -⟩ := hcls.2
  refine W.aast C.1 C.2.1 (hW.2.1 i _ ha) (fun q h => by cases h) (fun h => by cases h) k1 k2 rfl hkC ⟨h0, by show _ < (arrV _ _ _).slots.size; rw [arrV_size]; exact hlt⟩ g1 (fun q h => by rw [g3] at h; cases h) (by rw [g2]; exact hkC) (by rw [g2]; exact va_assign hcls) rfl rfl hd fun H1 e1 z oq => ?_
  refine kk p e s m args below meth c H1 _ ls C hE (hW.row (V' := (V.1, V.2.1, u2 V.2.2.1 i x.toNatClampNeg (some a), V.2.2.2)) (mi' := mi) (ml' := ml) hi rfl rfl rfl (ce_q hs) (fun q hq => by simp [ce, u2_row hq]) z (hW.2.1.set wl_D ha ?_ oq)) (hS.put z oq (Nat.le_add_right _ _)) hL
  show H1[g.2.1 + i]? = some (vp_cell _ _)
  rw [e1, vp_cell_q, vp_cell_q, arrV_store]
  congr 2
  funext q
  by_cases hq : q = x.toNatClampNeg
  · subst hq; simp [updV, u2, va_rf]
  · simp [updV, u2, hq]
end Mem
