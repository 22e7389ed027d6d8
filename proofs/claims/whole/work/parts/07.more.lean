/-! 07: Math.min, Math.max, System.arraycopy, switches, new cells -/
def c_M (Y : Ym) (pc : Nat) (y : MethodName) (pc' : Nat) : Prop := ∃ i : Nat, decode Y.2.1 pc = .ok (.invokestatic i, 3) ∧ pc' = pc + 3 ∧ Cond.methodLink Y.1.cls i y ∈ TW
theorem tw_min1 : Cond.static Lib.Math.min.name ∈ TW := by decide +kernel
theorem tw_min2 : Cond.initialized "java/lang/Math" ∈ TW := by decide +kernel
theorem tw_min3 : Cond.code Lib.Math.min.name Lib.Math.min.code 2 (some .int) ∈ TW := by decide +kernel
theorem tw_max1 : Cond.static Lib.Math.max.name ∈ TW := by decide +kernel
theorem tw_max3 : Cond.code Lib.Math.max.name Lib.Math.max.code 2 (some .int) ∈ TW := by decide +kernel
theorem tw_cp1 : Cond.native arraycopyName ∈ TW := by decide +kernel
theorem tw_cp2 : Cond.static arraycopyName ∈ TW := by decide +kernel
theorem tw_cp3 : Cond.initialized "java/lang/System" ∈ TW := by decide +kernel
theorem tw_oi1 : Cond.instanceMethod Lib.objectInit ∈ TW := by decide +kernel
theorem tw_oi2 : Cond.code Lib.objectInit ⟨#[0xb1]⟩ 1 none ∈ TW := by decide +kernel
section More
variable {g : Gm} {Y Y' : Ym} {E : Ex} {QF : Qf} {V : Vw} {k : Nat × Nat} {pc pc' tgt : Nat} {L : List (Option Value)} {st st0 : List Value} {mi : Mi} {ml : Ml} {Post : Ps}
theorem a_max {x y : Int32} (ct : c_M Y pc Lib.Math.max.name pc') (hR : 1 ≤ Y.2.2.2.2.frames ∧ (st.map fun v => v.category).sum + 13 ≤ Y.2.2.2.2.locals) (hk : fitE k Y) (kk : At g Y E QF V k pc' L (.int (if x < y then y else x) :: st) mi ml) : At g Y E QF V k pc L (.int y :: .int x :: st) mi ml := by
  intro p e s m args below meth c H locs ls C hE hW hS hL
  obtain ⟨i, hd, rfl, hl⟩ := ct
  exact va_mmax C.1 C.2.1 (by rw [C.2.2.2.1, hL.1]) C.2.2.2.2.1 (C.2.2.2.2.2.1 _ hl) (C.2.2.2.2.2.1 _ tw_max1) (C.2.2.2.2.2.1 _ tw_min2) (C.2.2.2.2.2.1 _ tw_max3) hR.1 hR.2 hk.1 hk.2 hd (kk p e s m args below meth c H locs ls C hE hW hS hL)
theorem a_min {x y : Int32} (ct : c_M Y pc Lib.Math.min.name pc') (hR : 1 ≤ Y.2.2.2.2.frames ∧ (st.map fun v => v.category).sum + 13 ≤ Y.2.2.2.2.locals) (hk : fitE k Y) (kk : At g Y E QF V k pc' L (.int (if y < x then y else x) :: st) mi ml) : At g Y E QF V k pc L (.int y :: .int x :: st) mi ml := by
  intro p e s m args below meth c H locs ls C hE hW hS hL
  obtain ⟨i, hd, rfl, hl⟩ := ct
  exact va_mmin C.1 C.2.1 (by rw [C.2.2.2.1, hL.1]) C.2.2.2.2.1 (C.2.2.2.2.2.1 _ hl) (C.2.2.2.2.2.1 _ tw_min1) (C.2.2.2.2.2.1 _ tw_min2) (C.2.2.2.2.2.1 _ tw_min3) hR.1 hR.2 hk.1 hk.2 hd (kk p e s m args below meth c H locs ls C hE hW hS hL)
theorem a_copy {i j N0 N1 : Nat} {sp dp n : Int32} (ct : c_M Y pc arraycopyName pc') (hfl : V.2.2.2 = false) (hs : V.2.1 i = (9, N0)) (hs1 : V.2.1 j = (9, N1)) (h1 : ¬ sp < 0) (h2 : ¬ dp < 0) (h3 : ¬ n < 0) (h4 : sp.toNatClampNeg + n.toNatClampNeg ≤ N0) (h5 : dp.toNatClampNeg + n.toNatClampNeg ≤ N1)
    (hR : 1 ≤ Y.2.2.2.2.frames ∧ (st.map fun v => v.category).sum + (nativeFrameWords "java/lang/System" "arraycopy" 5 + 11) ≤ Y.2.2.2.2.locals) (kk : At g Y E QF V k pc' L st (ur mi j (va_cpy (mi i) (mi j) sp.toNatClampNeg dp.toNatClampNeg n.toNatClampNeg)) ml) : At g Y E QF V k pc L (.int n :: .int dp :: rf g j :: .int sp :: rf g i :: st) mi ml := by
  intro p e s m args below meth c H locs ls C hE hW hS hL
  obtain ⟨ix, hd, rfl, hl⟩ := ct
  have hi := hW.lt hs (by decide)
  have hj := hW.lt hs1 (by decide)
  have ha0 : (wl g V mi ml)[i]? = some (g.2.1 + i, .inl (g.2.2.2 0, N0, .inl (mi i))) := by rw [wl_get hi, ce_i hs]
  have ha1 : (wl g V mi ml)[j]? = some (g.2.1 + j, .inl (g.2.2.2 0, N1, .inl (mi j))) := by rw [wl_get hj, ce_i hs1]
  refine va_copyi C.1 C.2.1 (by rw [C.2.2.2.1, hL.1]) C.2.2.2.2.1 (C.2.2.2.2.2.1 _ hl) (C.2.2.2.2.2.1 _ tw_cp1) (C.2.2.2.2.2.1 _ tw_cp2) (C.2.2.2.2.2.1 _ tw_cp3) C.2.2.2.2.2.2.2.2.1 hW.2.1 wl_D hS i j 0 0 ha0 ha1 rfl rfl rfl h1 h2 h3 h4 h5 (fun _ _ => rfl) hR.1 hR.2 hd fun H1 locs1 hP _ hS1 => ?_
  rw [wl_set (V' := V) (mi' := ur mi j (va_cpy (mi i) (mi j) sp.toNatClampNeg dp.toNatClampNeg n.toNatClampNeg)) (ml' := ml) hj rfl (by rw [ce_i hs1, ur_s]) (fun q hq => by simp [ce, ur_ne hq])] at hP
  exact kk p e s m args below meth c H1 locs1 ls C hE ⟨fun h => absurd (hfl.symm.trans h) (by decide), hP, hW.2.2⟩ hS1 hL
theorem a_objInit {i : Nat} (ct : ∃ ix : Nat, decode Y.2.1 pc = .ok (.invokespecial ix, 3) ∧ pc' = pc + 3 ∧ Cond.methodLink Y.1.cls ix Lib.objectInit ∈ TW) (hR : 1 ≤ Y.2.2.2.2.frames ∧ (st.map fun v => v.category).sum + 12 ≤ Y.2.2.2.2.locals) (kk : At g Y E QF V k pc' L st mi ml) : At g Y E QF V k pc L (rf g i :: st) mi ml := by
  intro p e s m args below meth c H locs ls C hE hW hS hL
  obtain ⟨ix, hd, rfl, hl⟩ := ct
  refine W.objInit C.1 C.2.1 C.2.2.2.2.1 (C.2.2.2.2.2.1 _ hl) (C.2.2.2.2.2.1 _ tw_oi1) (C.2.2.2.2.2.1 _ tw_oi2) rfl (by rw [C.2.2.2.1]; exact hL.1) rfl hd hR.1 (by show 2 * 0 + _ + _ ≤ _; omega) ?_
  exact kk p e s m args below meth c H locs ls C hE hW hS hL
theorem a_unflag (kk : At g Y E QF (V.1, V.2.1, V.2.2.1, false) k pc L st mi ml) : At g Y E QF V k pc L st mi ml := by
  intro p e s m args below meth c H locs ls C hE hW hS hL
  exact kk p e s m args below meth c H locs ls C hE ⟨fun h => absurd (show false = true from h) (by decide), hW.2.1, hW.2.2⟩ hS hL
/-- switches: the case's number is known, or it is none of them -/
def c_tb (Y : Ym) (pc : Nat) (lo hi : Int) (dt : Nat) (ts : List Nat) : Prop := ∃ (d : Int) (offs : Array Int) (len : Nat), decode Y.2.1 pc = .ok (.tableswitch d lo hi offs, len) ∧ (pc : Int) + d = (dt : Int) ∧ offs.toList.map (fun o : Int => (pc : Int) + o) = ts.map (fun t : Nat => (t : Int))
theorem a_tb {lo hi : Int} {dt : Nat} {ts : List Nat} {x : Int32} (ct : c_tb Y pc lo hi dt ts) (h1 : ¬ x.toInt < lo) (h2 : ¬ hi < x.toInt) (ht : ts[(x.toInt - lo).toNat]? = some tgt) (kk : At g Y E QF V k tgt L st mi ml) : At g Y E QF V k pc L (.int x :: st) mi ml := by
  intro p e s m args below meth c H locs ls C hE hW hS hL
  obtain ⟨d, offs, len, hd, -, ho⟩ := ct
  have h3 : (offs.toList.map (fun o : Int => (pc : Int) + o))[(x.toInt - lo).toNat]? = some (tgt : Int) := by rw [ho, List.getElem?_map, ht]; rfl
  rw [List.getElem?_map] at h3
  obtain ⟨o, h4, h5⟩ := Option.map_eq_some_iff.mp h3
  exact lv_tableIn C.1 C.2.1 hd h1 h2 (by rw [← Array.getElem?_toList]; exact h4) h5 (kk p e s m args below meth c H locs ls C hE hW hS hL)
theorem a_tbo {lo hi : Int} {dt : Nat} {ts : List Nat} {x : Int32} (ct : c_tb Y pc lo hi dt ts) (h : x.toInt < lo ∨ hi < x.toInt) (kk : At g Y E QF V k dt L st mi ml) : At g Y E QF V k pc L (.int x :: st) mi ml := by
  intro p e s m args below meth c H locs ls C hE hW hS hL
  obtain ⟨d, offs, len, hd, h5, -⟩ := ct
  exact lv_tableOut C.1 C.2.1 hd h h5 (kk p e s m args below meth c H locs ls C hE hW hS hL)
def lkT : List (Int × Nat) → Nat → Int → Nat
  | [], d, _ => d
  | (a, t) :: r, d, x => if x = a then t else lkT r d x
def c_lw (Y : Ym) (pc : Nat) (dt : Nat) (ts : List (Int × Nat)) : Prop := ∃ (d : Int) (ps : Array (Int × Int)) (len : Nat), decode Y.2.1 pc = .ok (.lookupswitch d ps, len) ∧ (ps.toList.zip (ps.toList.drop 1)).all (fun (a, next) => a.1 < next.1) = true ∧ (pc : Int) + d = (dt : Int) ∧ ps.toList.map (fun o : Int × Int => (o.1, (pc : Int) + o.2)) = ts.map (fun t : Int × Nat => (t.1, (t.2 : Int)))
theorem lk_off {d : Int} {dt : Nat} (hd : (pc : Int) + d = (dt : Int)) (x : Int) : ∀ (ps : List (Int × Int)) (ts : List (Int × Nat)), ps.map (fun o : Int × Int => (o.1, (pc : Int) + o.2)) = ts.map (fun t : Int × Nat => (t.1, (t.2 : Int))) → (pc : Int) + Op.lookupswitch.offset ps d x = ((lkT ts dt x : Nat) : Int)
  | [], [], _ => hd
  | [], _ :: _, h => by simp at h
  | _ :: _, [], h => by simp at h
  | (a, o) :: ps, (b, t) :: ts, h => by
    simp only [List.map_cons, List.cons.injEq, Prod.mk.injEq] at h
    obtain ⟨⟨rfl, h2⟩, h3⟩ := h
    rw [Op.lookupswitch.offset_cons]
    simp only [lkT]
    by_cases hx : x = a
    · rw [if_pos hx]
      first | rw [if_pos hx.symm] | rw [if_pos hx]
      exact h2
    · rw [if_neg hx]
      first | rw [if_neg (fun h => hx h.symm)] | rw [if_neg hx]
      exact lk_off hd x ps ts h3
theorem a_lw {dt : Nat} {ts : List (Int × Nat)} {x : Int32} (ct : c_lw Y pc dt ts) (kk : At g Y E QF V k (lkT ts dt x.toInt) L st mi ml) : At g Y E QF V k pc L (.int x :: st) mi ml := by
  intro p e s m args below meth c H locs ls C hE hW hS hL
  obtain ⟨d, ps, len, hd, hp, h5, ho⟩ := ct
  exact lv_lookup C.1 C.2.1 hd hp rfl (lk_off h5 x.toInt _ _ ho) (kk p e s m args below meth c H locs ls C hE hW hS hL)
end More
