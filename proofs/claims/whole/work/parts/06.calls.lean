/-! 06: calls, returns, the law's own reads, switches -/
def c_V (Y : Ym) (pc : Nat) (Y' : Ym) (pc' : Nat) : Prop := ∃ i : Nat, decode Y.2.1 pc = .ok (.invokevirtual i, 3) ∧ pc' = pc + 3 ∧ (Cond.methodLink Y.1.cls i Y'.1 ∈ TW ∨ ∃ h : String, Cond.methodLinkNest Y.1.cls i Y'.1 h ∈ NW)
def c_S (Y : Ym) (pc : Nat) (Y' : Ym) (pc' : Nat) : Prop := ∃ i : Nat, decode Y.2.1 pc = .ok (.invokestatic i, 3) ∧ pc' = pc + 3 ∧ (Cond.methodLink Y.1.cls i Y'.1 ∈ TW ∨ ∃ h : String, Cond.methodLinkNest Y.1.cls i Y'.1 h ∈ NW)
def c_I (Y : Ym) (pc : Nat) (Y' : Ym) (pc' : Nat) : Prop := ∃ i : Nat, decode Y.2.1 pc = .ok (.invokespecial i, 3) ∧ pc' = pc + 3 ∧ (Cond.methodLink Y.1.cls i Y'.1 ∈ TW ∨ ∃ h : String, Cond.methodLinkNest Y.1.cls i Y'.1 h ∈ NW)
def m_ok (Y : Ym) (n : Nat) : Prop := plainName Y.1.cls = true ∧ Cond.code Y.1 Y.2.1 Y.2.2.1 Y.2.2.2.1 ∈ TW ∧ Cond.initialized Y.1.cls ∈ TW ∧ Y.1.cls ≠ "java/lang/invoke/MethodHandle" ∧ Y.1.cls ≠ "java/lang/invoke/VarHandle" ∧ (parseMethodDescriptor Y.1.desc).map (fun d => d.parameters.length) = some n
def m_in (Y : Ym) (kd : Nat) : Prop := Cond.instanceMethod Y.1 ∈ TW ∧ Cond.selects Y.1.cls Y.1 Y.1 ∈ TW ∧ kd < 9 ∧ (vwCl[kd]?).map (fun r => r.1) = some Y.1.cls
def fitR (Y Y' : Ym) : Prop := Y'.2.2.2.2.frames + 1 ≤ Y.2.2.2.2.frames ∧ 8 + (Y'.2.2.1 + 11) + Y'.2.2.2.2.locals ≤ Y.2.2.2.2.locals
def fitK (k : Nat × Nat) (Y Y' : Ym) : Prop := k.1 + Y'.2.2.2.2.cells ≤ Y.2.2.2.2.cells ∧ k.2 + Y'.2.2.2.2.slots ≤ Y.2.2.2.2.slots
theorem Kx.blind {g : Gm} {U : State} {f : JFrame} {mk : MethodId} {a : Array Value} (h : Kx g U) : Kx g (U.calling f mk a) :=
  ⟨va_K.moved (u := U) (U := U.calling f mk a) (Vm.Alike.refl U.vm) h.1, NW_same (u := U) (U := U.calling f mk a) rfl h.2.1, va_AO.moved (u := U) (U := U.calling f mk a) (Vm.Alike.refl U.vm) h.2.2.1, h.2.2.2⟩
theorem Kx.warm {g : Gm} {s U : State} (hW : s.WarmedH U.vm) (hz : g.2.1 ≤ U.heap.size) (h : Kx g s) : Kx g U :=
  ⟨va_K.moved hW.alike h.1, NW_warm hW h.2.1, va_AO.moved hW.alike h.2.2.1, hz⟩
theorem pre_blind {g : Gm} {V : Vw} {mi : Mi} {ml : Ml} {args : List Value} : FrameBlind (va_Pc args (fun U => Wd g V mi ml U.heap ∧ Kx g U)) := fun a U f mk h => ⟨h.1, h.2.1, h.2.2.blind⟩
section Calls
variable {g : Gm} {Y Y' : Ym} {E : Ex} {QF : Qf} {V : Vw} {k : Nat × Nat} {pc pc' tgt : Nat} {L : List (Option Value)} {st st0 : List Value} {mi : Mi} {ml : Ml} {Post : Ps}
theorem lvargs_mem : ∀ (vs : List Value) (o : Nat), (∀ v ∈ vs, v.category = 1) → ∀ (i : Nat) (v : Value), vs[i]? = some v → (o + i, v) ∈ lv_args o vs
  | [], _, _, i, v, h => by simp at h
  | w :: vs, o, hc, 0, v, h => by
    have e : w = v := by simpa using h
    subst e
    simp [lv_args]
  | w :: vs, o, hc, i + 1, v, h => by
    have hw : ¬ w.category = 2 := by rw [hc w List.mem_cons_self]; decide
    have h1 := lvargs_mem vs (o + 1) (fun v hv => hc v (List.mem_cons_of_mem _ hv)) i v (by simpa using h)
    simp only [lv_args, if_neg hw]
    refine List.mem_cons_of_mem _ ?_
    rw [show o + (i + 1) = o + 1 + i by omega]
    exact h1
theorem LH.entry {args : List Value} {n : Nat} (hc : args.all (fun v => v.category == 1) = true) (hl : (lg_sl args).length ≤ n) (hL : L = args.map some ++ List.replicate (n - args.length) none) : LH ((lg_sl args ++ List.replicate (n - (lg_sl args).length) Slot.unset).toArray) n L := by
  have h := lv_entry args hl
  refine ⟨h.1, h.2.1, fun i v hi => ?_⟩
  refine h.2.2 (i, v) ?_
  have hv : args[i]? = some v := by
    subst hL
    rcases Nat.lt_or_ge i args.length with q | q
    · rw [List.getElem?_append_left (by simpa using q), List.getElem?_map] at hi
      cases ha : args[i]? with
      | none => rw [ha] at hi; simp at hi
      | some w => rw [ha] at hi; simp at hi; rw [hi]
    · rw [List.getElem?_append_right (by simpa using q)] at hi
      rw [List.getElem?_replicate] at hi
      split at hi <;> simp at hi
  have := lvargs_mem args 0 (fun v hv => by have := List.all_eq_true.mp hc v hv; simpa using this) i v hv
  simpa using this
theorem does_of {args : List Value} {n : Nat} (hm : m_ok Y n) (hc : args.all (fun v => v.category == 1) = true) (hl : (lg_sl args).length ≤ Y.2.2.1) (hL : L = args.map some ++ List.replicate (Y.2.2.1 - args.length) none)
    (h : At g Y (fun _ _ => True) (qm g Y Post) V (0, 0) 0 L [] mi ml) : Does g Y V args mi ml Post := by
  refine Met.ofW (cc := Y.2.1) (maxL := Y.2.2.1) (ret := Y.2.2.2.1) hm.1 rfl ?_
  intro p e s m args' below meth c s₁ B hml hv
  obtain ⟨rfl, hW, hK⟩ := hv
  have hts := atoms_spec (ws := Cond.code Y.1 Y.2.1 Y.2.2.1 Y.2.2.2.1 :: TW) B.pre
  rw [lg_entry_eq]
  exact h p e s m _ below meth c s.heap [] _ ⟨B.exec, B.bytes, B.returns, hml, findClass_of_methodNamed B.named, fun w hw => hts w (List.mem_cons_of_mem _ hw), B.notSynchronized, (name_of_methodNamed B.named B.method).1, hK⟩ trivial hW va_S.rf (LH.entry hc hl hL)
theorem run_go {p : Program} {e : Env} {s : State} {m : MethodId} {args : Array Value} {below : List Frame} {meth : Method} {c : Code} {H : Heap} {locs : List Loc} {ls : Array Slot} {a : Array Value} {mc ms : Nat}
    (C : Cx g Y p s m args meth c) (hE : E args s) (hS : va_S (fun q => g.2.1 ≤ q) s.heap H locs) (hL : LH ls Y.2.2.1 L)
    (hr : va_Run p g.1 e Y.2.2.2.2 s m args below meth c H locs k.1 k.2 mc ms (F0 m pc ls st0) st (QQ g Post a) (fun q => g.2.1 ≤ q))
    (kk : ∀ (v : Option Value) (V1 : Vw) (m1 : Mi) (l1 : Ml), Post v V1 m1 l1 → At g Y E QF V1 (k.1 + mc, k.2 + ms) (pc + 3) L (v.toList ++ st) m1 l1) : W p g.1 e Y.2.2.2.2 s m args below meth c H locs k.1 k.2 (QF below args s) (F0 m pc ls st0) := by
  intro T hT X
  obtain ⟨v, s0, t, T', L1, h0, X', hL1, e1, e2, ⟨v', V1, m1, l1, hv, hp, hw, hz, hk⟩, stp⟩ := hr T hT X
  cases hv
  rw [h0] at hz hk
  obtain ⟨t2, a1, b1⟩ := kk v V1 m1 l1 hp p e s m args below meth c T'.heap (locs ++ L1) ls C hE (by rw [e1]; exact hw)
    ⟨Nat.le_trans hS.1 (by rw [e1]; exact hz), fun q h1 h2 => by rw [e1, hk q (Nat.lt_of_lt_of_le h1 hS.1) h2]; exact hS.2.1 q h1 h2, fun q hq => by
      rcases List.mem_append.mp hq with h | h
      · exact hS.2.2 q h
      · exact hL1 q h⟩ hL T' rfl X'
  exact ⟨t2, stp t2 a1, b1⟩
theorem pay_TW {s : State} {args : Array Value} (h : ∀ w ∈ TW, w.before args s = true) (hc : Cond.code Y'.1 Y'.2.1 Y'.2.2.1 Y'.2.2.2.1 ∈ TW) : ∀ w ∈ (Cond.code Y'.1 Y'.2.1 Y'.2.2.1 Y'.2.2.2.1 :: TW), ∀ (a' : Array Value) (U : State), s.WarmedH U.vm → w.before a' U = true :=
  pay_in h (TW_code (fun _ hw => hw) hc)
theorem a_callV {i kd n : Nat} {As : List Value} (ct : c_V Y pc Y' pc') (hm : m_ok Y' n) (hi : m_in Y' kd) (hR : fitR Y Y') (hs : V.2.1 i = (kd, 0)) (hM : Does g Y' V (rf g i :: As) mi ml Post) (hn : As.length = n) (hst : st0 = As.reverse ++ rf g i :: st) (hw : (st.map fun v => v.category).sum ≤ 8) (hf : fitK k Y Y')
    (kk : ∀ (v : Option Value) (V1 : Vw) (m1 : Mi) (l1 : Ml), Post v V1 m1 l1 → At g Y E QF V1 (k.1 + Y'.2.2.2.2.cells, k.2 + Y'.2.2.2.2.slots) pc' L (v.toList ++ st) m1 l1) : At g Y E QF V k pc L st0 mi ml := by
  intro p e s m args below meth c H locs ls C hE hW hS hL
  obtain ⟨ix, hd, rfl, hlk⟩ := ct
  obtain ⟨hx, hb, hret, hml, hown, hts, hlocks, hnm, hK⟩ := id C
  obtain ⟨q1, q2, q3, q4, q5, q6⟩ := hm
  obtain ⟨i1, i2, i3, i4⟩ := hi
  obtain ⟨r, hr, hrn⟩ := Option.map_eq_some_iff.mp i4
  have hrecv := va_recv (q0 := i) hK.1 hW.2.1 hr (by rw [hW.at hs (by omega), ce_o i3 hs])
  rw [hrn] at hrecv
  have hlen : ∀ sig, parseMethodDescriptor Y'.1.desc = some sig → n = sig.parameters.length := fun sig h => by
    rw [h] at q6
    exact (Option.some.inj q6).symm
  have hpre : PreV s H Y'.1.cls (g.2.1 + i) (va_Pc (rf g i :: As) (fun U => Wd g V mi ml U.heap ∧ Kx g U)) As :=
    ⟨pre_blind, hrecv, fun U hU hWm => ⟨rfl, by rw [hU]; exact hW, hK.warm hWm (by rw [hU]; exact Nat.le_trans hK.2.2.2 hS.1)⟩⟩
  rcases hlk with hl | ⟨host, hl⟩
  · refine run_go C hE hS hL (va_runV (Ts := TW) (own := Y.1.cls) (C := Y'.1.cls) (nL := Y.2.2.1) (index := ix) (bytes := Y'.2.1) (maxL := Y'.2.2.1) (ret := Y'.2.2.2.1) (n := n) (b := g.2.1 + i) (As := As) (rest := st) ⟨hx, hb, hml, hown, hts⟩ hM ⟨⟨rfl, rfl, hR.1, hR.2, pay_TW hts q2, List.mem_cons_self, hts _ q2, hts _ q3, ⟨q4, q5⟩, hlen, hts _ hl⟩, hts _ i1, hts _ i2⟩ hpre rfl hn hL.1 hst (lv_room hw) hd hf) kk
  · refine run_go C hE hS hL (va_runVN (Ts := TW) (own := Y.1.cls) (C := Y'.1.cls) (nL := Y.2.2.1) (index := ix) (host := host) (bytes := Y'.2.1) (maxL := Y'.2.2.1) (ret := Y'.2.2.2.1) (n := n) (b := g.2.1 + i) (As := As) (rest := st) ⟨hx, hb, hml, hown, hts⟩ hM ⟨⟨⟨rfl, rfl, hR.1, hR.2, pay_TW hts q2, List.mem_cons_self⟩, hts _ q2, hts _ q3, ⟨q4, q5⟩, hlen, va_Nw.use rfl (hK.2.1 _ hl)⟩, hts _ i1, hts _ i2⟩ hpre rfl hn hL.1 hst (lv_room hw) hd hf) kk
theorem a_callS {n : Nat} {As : List Value} (ct : c_S Y pc Y' pc') (hm : m_ok Y' n) (hi : Cond.static Y'.1 ∈ TW) (hR : fitR Y Y') (hM : Does g Y' V As mi ml Post) (hn : As.length = n) (hst : st0 = As.reverse ++ st) (hw : (st.map fun v => v.category).sum ≤ 8) (hf : fitK k Y Y')
    (kk : ∀ (v : Option Value) (V1 : Vw) (m1 : Mi) (l1 : Ml), Post v V1 m1 l1 → At g Y E QF V1 (k.1 + Y'.2.2.2.2.cells, k.2 + Y'.2.2.2.2.slots) pc' L (v.toList ++ st) m1 l1) : At g Y E QF V k pc L st0 mi ml := by
  intro p e s m args below meth c H locs ls C hE hW hS hL
  obtain ⟨ix, hd, rfl, hlk⟩ := ct
  obtain ⟨hx, hb, hret, hml, hown, hts, hlocks, hnm, hK⟩ := id C
  obtain ⟨q1, q2, q3, q4, q5, q6⟩ := hm
  have hlen : ∀ sig, parseMethodDescriptor Y'.1.desc = some sig → n = sig.parameters.length := fun sig h => by
    rw [h] at q6
    exact (Option.some.inj q6).symm
  have hpre : PreS s H (va_Pc As (fun U => Wd g V mi ml U.heap ∧ Kx g U)) As :=
    ⟨pre_blind, fun U hU hWm => ⟨rfl, by rw [hU]; exact hW, hK.warm hWm (by rw [hU]; exact Nat.le_trans hK.2.2.2 hS.1)⟩⟩
  rcases hlk with hl | ⟨host, hl⟩
  · refine run_go C hE hS hL (va_runS (Ts := TW) (own := Y.1.cls) (nL := Y.2.2.1) (index := ix) (bytes := Y'.2.1) (maxL := Y'.2.2.1) (ret := Y'.2.2.2.1) (n := n) (As := As) (rest := st) ⟨hx, hb, hml, hown, hts⟩ hM ⟨⟨rfl, rfl, hR.1, hR.2, pay_TW hts q2, List.mem_cons_self, hts _ q2, hts _ q3, ⟨q4, q5⟩, hlen, hts _ hl⟩, hts _ hi⟩ hpre rfl hn hL.1 hst (lv_room hw) hd hf) kk
  · refine run_go C hE hS hL (va_runSN (Ts := TW) (own := Y.1.cls) (nL := Y.2.2.1) (index := ix) (host := host) (bytes := Y'.2.1) (maxL := Y'.2.2.1) (ret := Y'.2.2.2.1) (n := n) (As := As) (rest := st) ⟨hx, hb, hml, hown, hts⟩ hM ⟨⟨⟨rfl, rfl, hR.1, hR.2, pay_TW hts q2, List.mem_cons_self⟩, hts _ q2, hts _ q3, ⟨q4, q5⟩, hlen, va_Nw.use rfl (hK.2.1 _ hl)⟩, hts _ hi, trivial⟩ hpre rfl hn hL.1 hst (lv_room hw) hd hf) kk
theorem a_callI {i n : Nat} {As : List Value} (ct : c_I Y pc Y' pc') (hm : m_ok Y' n) (hi : Cond.instanceMethod Y'.1 ∈ TW ∧ Y'.1.name = "<init>" ∧ Y'.2.2.2.1 = none) (hR : fitR Y Y') (hM : Does g Y' V (rf g i :: As) mi ml Post) (hn : As.length = n) (hst : st0 = As.reverse ++ rf g i :: st) (hw : (st.map fun v => v.category).sum ≤ 8) (hf : fitK k Y Y')
    (kk : ∀ (v : Option Value) (V1 : Vw) (m1 : Mi) (l1 : Ml), Post v V1 m1 l1 → At g Y E QF V1 (k.1 + Y'.2.2.2.2.cells, k.2 + Y'.2.2.2.2.slots) pc' L (v.toList ++ st) m1 l1) : At g Y E QF V k pc L st0 mi ml := by
  intro p e s m args below meth c H locs ls C hE hW hS hL
  obtain ⟨ix, hd, rfl, hlk⟩ := ct
  obtain ⟨hx, hb, hret, hml, hown, hts, hlocks, hnm, hK⟩ := id C
  obtain ⟨q1, q2, q3, q4, q5, q6⟩ := hm
  obtain ⟨i1, i2, i3⟩ := hi
  have hlen : ∀ sig, parseMethodDescriptor Y'.1.desc = some sig → n = sig.parameters.length := fun sig h => by
    rw [h] at q6
    exact (Option.some.inj q6).symm
  have hpre : PreS s H (va_Pc (rf g i :: As) (fun U => Wd g V mi ml U.heap ∧ Kx g U)) (.ref (g.2.1 + i) :: As) :=
    ⟨pre_blind, fun U hU hWm => ⟨rfl, by rw [hU]; exact hW, hK.warm hWm (by rw [hU]; exact Nat.le_trans hK.2.2.2 hS.1)⟩⟩
  have q2' : Cond.code Y'.1 Y'.2.1 Y'.2.2.1 none ∈ TW := by rw [← i3]; exact q2
  have hmem : Cond.code Y'.1 Y'.2.1 Y'.2.2.1 none ∈ (Cond.code Y'.1 Y'.2.1 Y'.2.2.1 Y'.2.2.2.1 :: TW) := by rw [i3]; exact List.mem_cons_self
  rcases hlk with hl | ⟨host, hl⟩
  · refine run_go C hE hS hL (va_runI (Ts := TW) (own := Y.1.cls) (nL := Y.2.2.1) (index := ix) (bytes := Y'.2.1) (maxL := Y'.2.2.1) (n := n) (b := g.2.1 + i) (As := As) (rest := st) ⟨hx, hb, hml, hown, hts⟩ hM ⟨⟨rfl, rfl, hR.1, hR.2, pay_TW hts q2, hmem, hts _ q2', hts _ q3, ⟨q4, q5⟩, hlen, hts _ hl⟩, i2, hts _ i1⟩ hpre rfl hn hL.1 hst (lv_room hw) hd hf) kk
  · refine run_go C hE hS hL (va_runIN (Ts := TW) (own := Y.1.cls) (nL := Y.2.2.1) (index := ix) (host := host) (bytes := Y'.2.1) (maxL := Y'.2.2.1) (n := n) (b := g.2.1 + i) (As := As) (rest := st) ⟨hx, hb, hml, hown, hts⟩ hM ⟨⟨⟨rfl, rfl, hR.1, hR.2, pay_TW hts q2, hmem⟩, hts _ q2', hts _ q3, ⟨q4, q5⟩, hlen, va_Nw.use rfl (hK.2.1 _ hl)⟩, i2, hts _ i1⟩ hpre rfl hn hL.1 hst (lv_room hw) hd hf) kk
def fitE (k : Nat × Nat) (Y : Ym) : Prop := k.1 ≤ Y.2.2.2.2.cells ∧ k.2 ≤ Y.2.2.2.2.slots
theorem a_iret {v : Int32} (ct : c_op Y pc .ireturn pc') (hr : Y.2.2.2.1 = some .int) (hk : fitE k Y) (hp : Post (some (.int v)) V mi ml) : At g Y E (qm g Y Post) V k pc L [.int v] mi ml := by
  intro p e s m args below meth c H locs ls C hE hW hS hL
  obtain ⟨hd, rfl⟩ := ct
  refine W.widen hk.1 hk.2 (W.iret C.1 C.2.1 (by rw [C.2.2.1]; exact hr) (fun t ht hWm => ⟨_, V, mi, ml, rfl, hp, by rw [ht]; exact hW, hS.F ht⟩) hS.2.2 hd C.2.2.2.2.2.2.1)
theorem a_zret {v : Int32} (ct : c_op Y pc .ireturn pc') (hr : Y.2.2.2.1 = some .boolean) (hn : narrow .boolean (.int v) = .int v) (hk : fitE k Y) (hp : Post (some (.int v)) V mi ml) : At g Y E (qm g Y Post) V k pc L [.int v] mi ml := by
  intro p e s m args below meth c H locs ls C hE hW hS hL
  obtain ⟨hd, rfl⟩ := ct
  refine W.widen hk.1 hk.2 (W.zret C.1 C.2.1 (by rw [C.2.2.1]; exact hr) hn (fun t ht hWm => ⟨_, V, mi, ml, rfl, hp, by rw [ht]; exact hW, hS.F ht⟩) hS.2.2 hd C.2.2.2.2.2.2.1)
theorem a_vret (ct : c_op Y pc .return_ pc') (hr : Y.2.2.2.1 = none) (hk : fitE k Y) (hp : Post none V mi ml) : At g Y E (qm g Y Post) V k pc L [] mi ml := by
  intro p e s m args below meth c H locs ls C hE hW hS hL
  obtain ⟨hd, rfl⟩ := ct
  refine W.widen hk.1 hk.2 (W.vret C.1 C.2.1 (by rw [C.2.2.1]; exact hr) (fun t ht hWm => ⟨_, V, mi, ml, rfl, hp, by rw [ht]; exact hW, hS.F ht⟩) hS.2.2 hd C.2.2.2.2.2.2.1)
theorem a_aret {a : Nat} {n : String} (ct : c_op Y pc .areturn pc') (hr : Y.2.2.2.1 = some (.object n)) (hk : fitE k Y) (hp : Post (some (rf g a)) V mi ml) : At g Y E (qm g Y Post) V k pc L [rf g a] mi ml := by
  intro p e s m args below meth c H locs ls C hE hW hS hL
  obtain ⟨hd, rfl⟩ := ct
  refine W.widen hk.1 hk.2 (W.aret C.1 C.2.1 (by rw [C.2.2.1]; exact hr) (Or.inl ⟨n, rfl⟩) (Or.inr ⟨_, rfl⟩) (fun t ht hWm => ⟨_, V, mi, ml, rfl, hp, by rw [ht]; exact hW, hS.F ht⟩) hS.2.2 hd C.2.2.2.2.2.2.1)
end Calls
