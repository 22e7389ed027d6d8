/-! 13a.fun.lean.txt: functions of the code and their rows, laid by program -/
def f_X8_in (x0 x1 x2 : Int32) : Option (Int32) := if x0 < x1 then (some 0) else (if x2 < x0 then (some 0) else (some 1))
set_option maxRecDepth 20000 in
set_option maxHeartbeats 4000000 in
theorem c_X8_in {g : Gm} {V : Vw} {mi : Mi} {ml : Ml} {x0 x1 x2 : Int32}  {r : Int32} (h : f_X8_in x0 x1 x2 = some r) : DoI g YX8_in V [.int x0, .int x1, .int x2] mi ml r mi ml := by
  unfold f_X8_in at h
  refine does_of (L := [some (.int x0), some (.int x1), some (.int x2)]) okX8_in rfl (Nat.le_of_ble_eq_true rfl) rfl ?_
  show At g YX8_in _ (qm g YX8_in (pI V r mi ml)) V (0, 0) 0 _ [] mi ml
  refine a_iload iX8_in_0 rfl <| a_iload iX8_in_1 rfl <| ?_
  refine a_icmp_lt iX8_in_2 (fun hc1 => ?_) (fun hc1 => ?_)
  · have h := ot hc1 h
    refine a_const iX8_in_14 <| ?_
    obtain rfl := Option.some.inj h
    exact a_zret iX8_in_15 rfl rfl ⟨Nat.le_refl 0, Nat.le_refl 0⟩ ⟨rfl, rfl, rfl, rfl⟩
  · have h := oe hc1 h
    refine a_iload iX8_in_5 rfl <| a_iload iX8_in_6 rfl <| ?_
    refine a_icmp_gt iX8_in_7 (fun hc2 => ?_) (fun hc2 => ?_)
    · have h := ot hc2 h
      refine a_const iX8_in_14 <| ?_
      obtain rfl := Option.some.inj h
      exact a_zret iX8_in_15 rfl rfl ⟨Nat.le_refl 0, Nat.le_refl 0⟩ ⟨rfl, rfl, rfl, rfl⟩
    · have h := oe hc2 h
      refine a_const iX8_in_10 <| a_goto iX8_in_11 <| ?_
      obtain rfl := Option.some.inj h
      exact a_zret iX8_in_15 rfl rfl ⟨Nat.le_refl 0, Nat.le_refl 0⟩ ⟨rfl, rfl, rfl, rfl⟩
def f_X8_feed (mi : Mi) (x1 : Int32) : Option (Int32 × Mi) := (f_X8_in x1 0 255).bind (fun r1 => if r1 = 0 then (some ((-1000000002), mi)) else (if (mi 229 0) = 240 then (some ((-1000000004), mi)) else (if inb (mi 229 0) 240 then some ((u2 (u2 mi 230 (mi 229 0).toNatClampNeg x1) 229 0 (((u2 mi 230 (mi 229 0).toNatClampNeg x1) 229 0) + 1)) 229 0, u2 (u2 mi 230 (mi 229 0).toNatClampNeg x1) 229 0 (((u2 mi 230 (mi 229 0).toNatClampNeg x1) 229 0) + 1)) else none)))
set_option maxRecDepth 20000 in
set_option maxHeartbeats 4000000 in
theorem c_X8_feed {g : Gm} {V : Vw} {mi : Mi} {ml : Ml} {x1 : Int32} (hM : LayM V) {r : Int32 × Mi} (h : f_X8_feed mi x1 = some r) : DoI g YX8_feed V [rf g 229, .int x1] mi ml (r.1) (r.2) ml := by
  unfold f_X8_feed at h
  refine does_of (L := [some (rf g 229), some (.int x1)]) okX8_feed rfl (Nat.le_of_ble_eq_true rfl) rfl ?_
  show At g YX8_feed _ (qm g YX8_feed (pI V (r.1) (r.2) ml)) V (0, 0) 0 _ [] mi ml
  refine a_iload iX8_feed_0 rfl <| a_const iX8_feed_1 <| a_const iX8_feed_2 <| ?_
  obtain ⟨r1, he2, h⟩ := ob h
  refine a_cSi iX8_feed_5 okX8_in stX8_in ⟨rfl, rfl⟩ (c_X8_in he2) rfl rfl (Nat.le_of_ble_eq_true rfl) ⟨Nat.le_refl 0, Nat.le_refl 0⟩ <| ?_
  refine a_if_ne iX8_feed_8 (fun hc3 => ?_) (fun hc3 => ?_)
  · have h := oe hc3 h
    refine a_aload iX8_feed_14 rfl <| a_geti iX8_feed_15 (lm_s229 hM) rfl <| a_const iX8_feed_18 <| ?_
    refine a_icmp_ne iX8_feed_21 (fun hc4 => ?_) (fun hc4 => ?_)
    · have h := oe hc4 h
      refine a_aload iX8_feed_27 rfl <| a_getr iX8_feed_28 (lm_s229 hM) rfl (lm_r229_1 hM) <| a_aload iX8_feed_31 rfl <| a_geti iX8_feed_32 (lm_s229 hM) rfl <| a_iload iX8_feed_35 rfl <| ?_
      obtain ⟨hg5, h⟩ := og h
      refine a_iast iX8_feed_36 (lm_s230 hM) (inb_vp hg5) <| a_aload iX8_feed_37 rfl <| a_dup iX8_feed_38 rfl <| a_geti iX8_feed_39 (lm_s229 hM) rfl <| a_const iX8_feed_42 <| a_iadd iX8_feed_43 <| a_puti iX8_feed_44 (lm_s229 hM) rfl rfl rfl <| a_aload iX8_feed_47 rfl <| ?_
      refine a_geti iX8_feed_48 (lm_s229 hM) rfl <| ?_
      obtain rfl := Option.some.inj h
      exact a_iret iX8_feed_51 rfl ⟨Nat.le_refl 0, Nat.le_refl 0⟩ ⟨rfl, rfl, rfl, rfl⟩
    · have h := ot hc4 h
      refine a_const iX8_feed_24 <| ?_
      obtain rfl := Option.some.inj h
      exact a_iret iX8_feed_26 rfl ⟨Nat.le_refl 0, Nat.le_refl 0⟩ ⟨rfl, rfl, rfl, rfl⟩
  · have h := ot hc3 h
    refine a_const iX8_feed_11 <| ?_
    obtain rfl := Option.some.inj h
    exact a_iret iX8_feed_13 rfl ⟨Nat.le_refl 0, Nat.le_refl 0⟩ ⟨rfl, rfl, rfl, rfl⟩
def f_X8_letterAt (mi : Mi) (x1 : Int32) : Option (Int32) := if (mi 229 0) ≤ x1 then (some (-1)) else (if inb x1 240 then some (mi 230 x1.toNatClampNeg) else none)
set_option maxRecDepth 20000 in
set_option maxHeartbeats 4000000 in
theorem c_X8_letterAt {g : Gm} {V : Vw} {mi : Mi} {ml : Ml} {x1 : Int32} (hM : LayM V) {r : Int32} (h : f_X8_letterAt mi x1 = some r) : DoI g YX8_letterAt V [rf g 229, .int x1] mi ml r mi ml := by
  unfold f_X8_letterAt at h
  refine does_of (L := [some (rf g 229), some (.int x1)]) okX8_letterAt rfl (Nat.le_of_ble_eq_true rfl) rfl ?_
  show At g YX8_letterAt _ (qm g YX8_letterAt (pI V r mi ml)) V (0, 0) 0 _ [] mi ml
  refine a_iload iX8_letterAt_0 rfl <| a_aload iX8_letterAt_1 rfl <| a_geti iX8_letterAt_2 (lm_s229 hM) rfl <| ?_
  refine a_icmp_ge iX8_letterAt_5 (fun hc1 => ?_) (fun hc1 => ?_)
  · have h := ot hc1 h
    refine a_const iX8_letterAt_17 <| ?_
    obtain rfl := Option.some.inj h
    exact a_iret iX8_letterAt_18 rfl ⟨Nat.le_refl 0, Nat.le_refl 0⟩ ⟨rfl, rfl, rfl, rfl⟩
  · have h := oe hc1 h
    refine a_aload iX8_letterAt_8 rfl <| a_getr iX8_letterAt_9 (lm_s229 hM) rfl (lm_r229_1 hM) <| a_iload iX8_letterAt_12 rfl <| ?_
    obtain ⟨hg2, h⟩ := og h
    refine a_iald iX8_letterAt_13 (lm_s230 hM) (inb_vp hg2) <| a_goto iX8_letterAt_14 <| ?_
    obtain rfl := Option.some.inj h
    exact a_iret iX8_letterAt_18 rfl ⟨Nat.le_refl 0, Nat.le_refl 0⟩ ⟨rfl, rfl, rfl, rfl⟩
def lp_X8_nextLetter_0 (K : Mi → Option (Int32 × Mi)) : Nat → Mi → Option (Int32 × Mi)
  | 0, _ => none
  | n + 1, mi => (f_X8_letterAt mi (mi 229 2)).bind (fun r1 => if r1 = 32 then (lp_X8_nextLetter_0  K n (u2 mi 229 2 ((mi 229 2) + 1))) else (K mi))
def f_X8_nextLetter (mi : Mi) : Option (Int32 × Mi) := lp_X8_nextLetter_0 (fun mi4 => (f_X8_letterAt mi4 (mi4 229 2)).bind (fun r5 => some (r5, mi4))) FU mi
set_option maxRecDepth 20000 in
set_option maxHeartbeats 4000000 in
theorem w_X8_nextLetter_0 {g : Gm} {V : Vw} {E : Ex} {ml : Ml} (hM : LayM V) {K : Mi → Option (Int32 × Mi)} {r : Int32 × Mi} (hK : ∀ (mi : Mi), K mi = some r → At g YX8_nextLetter E (qm g YX8_nextLetter (pI V (r.1) (r.2) ml)) V (0, 0) 26 [some (rf g 229)] [] mi ml) : ∀ (n : Nat) (mi : Mi), lp_X8_nextLetter_0  K n mi = some r → At g YX8_nextLetter E (qm g YX8_nextLetter (pI V (r.1) (r.2) ml)) V (0, 0) 0 [some (rf g 229)] [] mi ml := by
  intro n
  induction n with
  | zero => intro mi h; exact oz h
  | succ n ih =>
    intro mi h
    unfold lp_X8_nextLetter_0 at h
    refine a_aload iX8_nextLetter_0 rfl <| a_aload iX8_nextLetter_1 rfl <| a_geti iX8_nextLetter_2 (lm_s229 hM) rfl <| ?_
    obtain ⟨r1, he2, h⟩ := ob h
    refine a_cVi iX8_nextLetter_5 okX8_letterAt inX8_letterAt ⟨rfl, rfl⟩ (lm_s229 hM) (c_X8_letterAt hM he2) rfl rfl (Nat.le_of_ble_eq_true rfl) ⟨Nat.le_refl 0, Nat.le_refl 0⟩ <| a_const iX8_nextLetter_8 <| ?_
    refine a_icmp_ne iX8_nextLetter_10 (fun hc3 => ?_) (fun hc3 => ?_)
    · have h := oe hc3 h
      exact a_sub (L' := [some (rf g 229)]) (by exact ⟨rfl, trivial⟩) (hK _ h)
    · have h := ot hc3 h
      refine a_aload iX8_nextLetter_13 rfl <| a_dup iX8_nextLetter_14 rfl <| a_geti iX8_nextLetter_15 (lm_s229 hM) rfl <| a_const iX8_nextLetter_18 <| a_iadd iX8_nextLetter_19 <| a_puti iX8_nextLetter_20 (lm_s229 hM) rfl rfl rfl <| a_goto iX8_nextLetter_23 <| ?_
      exact a_sub (L' := [some (rf g 229)]) (by exact ⟨rfl, trivial⟩) (ih _ h)
set_option maxRecDepth 20000 in
set_option maxHeartbeats 4000000 in
theorem c_X8_nextLetter {g : Gm} {V : Vw} {mi : Mi} {ml : Ml} (hM : LayM V) {r : Int32 × Mi} (h : f_X8_nextLetter mi = some r) : DoI g YX8_nextLetter V [rf g 229] mi ml (r.1) (r.2) ml := by
  unfold f_X8_nextLetter at h
  refine does_of (L := [some (rf g 229)]) okX8_nextLetter rfl (Nat.le_of_ble_eq_true rfl) rfl ?_
  show At g YX8_nextLetter _ (qm g YX8_nextLetter (pI V (r.1) (r.2) ml)) V (0, 0) 0 _ [] mi ml
  refine a_sub (L' := [some (rf g 229)]) (by exact ⟨rfl, trivial⟩) (w_X8_nextLetter_0 hM (fun mi4 h => ?_) FU _ h)
  refine a_aload iX8_nextLetter_26 rfl <| a_aload iX8_nextLetter_27 rfl <| a_geti iX8_nextLetter_28 (lm_s229 hM) rfl <| ?_
  obtain ⟨r5, he6, h⟩ := ob h
  refine a_cVi iX8_nextLetter_31 okX8_letterAt inX8_letterAt ⟨rfl, rfl⟩ (lm_s229 hM) (c_X8_letterAt hM he6) rfl rfl (Nat.le_of_ble_eq_true rfl) ⟨Nat.le_refl 0, Nat.le_refl 0⟩ <| ?_
  obtain rfl := Option.some.inj h
  exact a_iret iX8_nextLetter_34 rfl ⟨Nat.le_refl 0, Nat.le_refl 0⟩ ⟨rfl, rfl, rfl, rfl⟩
def f_X8_fails (mi : Mi) (x1 x2 : Int32) : Option (Int32 × Mi) := some ((-1), u2 (u2 mi 229 4 x1) 229 2 x2)
set_option maxRecDepth 20000 in
set_option maxHeartbeats 4000000 in
theorem c_X8_fails {g : Gm} {V : Vw} {mi : Mi} {ml : Ml} {x1 x2 : Int32} (hM : LayM V) {r : Int32 × Mi} (h : f_X8_fails mi x1 x2 = some r) : DoI g YX8_fails V [rf g 229, .int x1, .int x2] mi ml (r.1) (r.2) ml := by
  unfold f_X8_fails at h
  refine does_of (L := [some (rf g 229), some (.int x1), some (.int x2)]) okX8_fails rfl (Nat.le_of_ble_eq_true rfl) rfl ?_
  show At g YX8_fails _ (qm g YX8_fails (pI V (r.1) (r.2) ml)) V (0, 0) 0 _ [] mi ml
  refine a_aload iX8_fails_0 rfl <| a_iload iX8_fails_1 rfl <| a_puti iX8_fails_2 (lm_s229 hM) rfl rfl rfl <| a_aload iX8_fails_5 rfl <| a_iload iX8_fails_6 rfl <| a_puti iX8_fails_7 (lm_s229 hM) rfl rfl rfl <| a_const iX8_fails_10 <| ?_
  obtain rfl := Option.some.inj h
  exact a_iret iX8_fails_11 rfl ⟨Nat.le_refl 0, Nat.le_refl 0⟩ ⟨rfl, rfl, rfl, rfl⟩
def lp_X8_readsNumber_34 (v1 : Int32) (v2 : Int32) (K : Int32 → Mi → Option (Int32 × Mi)) : Nat → Int32 → Mi → Option (Int32 × Mi)
  | 0, _, _ => none
  | n + 1, v3, mi => (f_X8_letterAt mi (mi 229 2)).bind (fun r8 => (f_X8_in r8 48 57).bind (fun r10 => if r10 = 0 then (K v3 mi) else (if v3 ≤ 999 then ((f_X8_letterAt mi (mi 229 2)).bind (fun r14 => lp_X8_readsNumber_34 v1 v2 K n (((10 * v3) + r14) - 48) (u2 mi 229 2 ((mi 229 2) + 1)))) else (lp_X8_readsNumber_34 v1 v2 K n v3 (u2 mi 229 2 ((mi 229 2) + 1))))))
def f_X8_readsNumber (mi : Mi) (x1 x2 : Int32) : Option (Int32 × Mi) := (f_X8_nextLetter mi).bind (fun q4 => (f_X8_in q4.1 48 57).bind (fun r5 => if r5 = 0 then ((f_X8_fails q4.2 1 (q4.2 229 2)).bind (fun q32 => some (q32.1, q32.2))) else (lp_X8_readsNumber_34 x1 x2 (fun v3_16 mi16 => if 3 < ((mi16 229 2) - (mi16 229 3)) then ((f_X8_fails mi16 2 (mi16 229 3)).bind (fun q21 => some (q21.1, q21.2))) else ((f_X8_in v3_16 x1 x2).bind (fun r22 => if r22 = 0 then ((f_X8_fails mi16 2 (mi16 229 3)).bind (fun q28 => some (q28.1, q28.2))) else (some (v3_16, mi16))))) FU 0 (u2 q4.2 229 3 (q4.2 229 2)))))
set_option maxRecDepth 20000 in
set_option maxHeartbeats 4000000 in
theorem w_X8_readsNumber_34 {g : Gm} {V : Vw} {E : Ex} {ml : Ml} {v1 v2 : Int32} (hM : LayM V) {K : Int32 → Mi → Option (Int32 × Mi)} {r : Int32 × Mi} (hK : ∀ (v3 : Int32) (mi : Mi), K v3 mi = some r → At g YX8_readsNumber E (qm g YX8_readsNumber (pI V (r.1) (r.2) ml)) V (0, 0) 93 [some (rf g 229), some (.int v1), some (.int v2), some (.int v3)] [] mi ml) : ∀ (n : Nat) (v3 : Int32) (mi : Mi), lp_X8_readsNumber_34 v1 v2 K n v3 mi = some r → At g YX8_readsNumber E (qm g YX8_readsNumber (pI V (r.1) (r.2) ml)) V (0, 0) 34 [some (rf g 229), some (.int v1), some (.int v2), some (.int v3)] [] mi ml := by
  intro n
  induction n with
  | zero => intro v3 mi h; exact oz h
  | succ n ih =>
    intro v3 mi h
    unfold lp_X8_readsNumber_34 at h
    refine a_aload iX8_readsNumber_34 rfl <| a_aload iX8_readsNumber_35 rfl <| a_geti iX8_readsNumber_36 (lm_s229 hM) rfl <| ?_
    obtain ⟨r8, he9, h⟩ := ob h
    refine a_cVi iX8_readsNumber_39 okX8_letterAt inX8_letterAt ⟨rfl, rfl⟩ (lm_s229 hM) (c_X8_letterAt hM he9) rfl rfl (Nat.le_of_ble_eq_true rfl) ⟨Nat.le_refl 0, Nat.le_refl 0⟩ <| a_const iX8_readsNumber_42 <| a_const iX8_readsNumber_44 <| ?_
    obtain ⟨r10, he11, h⟩ := ob h
    refine a_cSi iX8_readsNumber_46 okX8_in stX8_in ⟨rfl, rfl⟩ (c_X8_in he11) rfl rfl (Nat.le_of_ble_eq_true rfl) ⟨Nat.le_refl 0, Nat.le_refl 0⟩ <| ?_
    refine a_if_eq iX8_readsNumber_49 (fun hc12 => ?_) (fun hc12 => ?_)
    · have h := ot hc12 h
      exact a_sub (L' := [some (rf g 229), some (.int v1), some (.int v2), some (.int v3)]) (by exact ⟨rfl, ⟨rfl, ⟨rfl, ⟨rfl, trivial⟩⟩⟩⟩) (hK _ _ h)
    · have h := oe hc12 h
      refine a_iload iX8_readsNumber_52 rfl <| a_const iX8_readsNumber_53 <| ?_
      refine a_icmp_le iX8_readsNumber_56 (fun hc13 => ?_) (fun hc13 => ?_)
      · have h := ot hc13 h
        refine a_const iX8_readsNumber_63 <| a_iload iX8_readsNumber_65 rfl <| a_imul iX8_readsNumber_66 <| a_aload iX8_readsNumber_67 rfl <| a_aload iX8_readsNumber_68 rfl <| a_geti iX8_readsNumber_69 (lm_s229 hM) rfl <| ?_
        obtain ⟨r14, he15, h⟩ := ob h
        refine a_cVi iX8_readsNumber_72 okX8_letterAt inX8_letterAt ⟨rfl, rfl⟩ (lm_s229 hM) (c_X8_letterAt hM he15) rfl rfl (Nat.le_of_ble_eq_true rfl) ⟨Nat.le_refl 0, Nat.le_refl 0⟩ <| a_iadd iX8_readsNumber_75 <| a_const iX8_readsNumber_76 <| a_isub iX8_readsNumber_78 <| a_istore iX8_readsNumber_79 (by decide) rfl <| a_aload iX8_readsNumber_80 rfl <| a_dup iX8_readsNumber_81 rfl <| a_geti iX8_readsNumber_82 (lm_s229 hM) rfl <| ?_
        refine a_const iX8_readsNumber_85 <| a_iadd iX8_readsNumber_86 <| a_puti iX8_readsNumber_87 (lm_s229 hM) rfl rfl rfl <| a_goto iX8_readsNumber_90 <| ?_
        exact a_sub (L' := [some (rf g 229), some (.int v1), some (.int v2), some (.int (((10 * v3) + r14) - 48))]) (by exact ⟨rfl, ⟨rfl, ⟨rfl, ⟨rfl, trivial⟩⟩⟩⟩) (ih _ _ h)
      · have h := oe hc13 h
        refine a_iload iX8_readsNumber_59 rfl <| a_goto iX8_readsNumber_60 <| a_istore iX8_readsNumber_79 (by decide) rfl <| a_aload iX8_readsNumber_80 rfl <| a_dup iX8_readsNumber_81 rfl <| a_geti iX8_readsNumber_82 (lm_s229 hM) rfl <| a_const iX8_readsNumber_85 <| a_iadd iX8_readsNumber_86 <| ?_
        refine a_puti iX8_readsNumber_87 (lm_s229 hM) rfl rfl rfl <| a_goto iX8_readsNumber_90 <| ?_
        exact a_sub (L' := [some (rf g 229), some (.int v1), some (.int v2), some (.int v3)]) (by exact ⟨rfl, ⟨rfl, ⟨rfl, ⟨rfl, trivial⟩⟩⟩⟩) (ih _ _ h)
set_option maxRecDepth 20000 in
set_option maxHeartbeats 4000000 in
theorem c_X8_readsNumber {g : Gm} {V : Vw} {mi : Mi} {ml : Ml} {x1 x2 : Int32} (hM : LayM V) {r : Int32 × Mi} (h : f_X8_readsNumber mi x1 x2 = some r) : DoI g YX8_readsNumber V [rf g 229, .int x1, .int x2] mi ml (r.1) (r.2) ml := by
  unfold f_X8_readsNumber at h
  refine does_of (L := [some (rf g 229), some (.int x1), some (.int x2), none]) okX8_readsNumber rfl (Nat.le_of_ble_eq_true rfl) rfl ?_
  show At g YX8_readsNumber _ (qm g YX8_readsNumber (pI V (r.1) (r.2) ml)) V (0, 0) 0 _ [] mi ml
  refine a_aload iX8_readsNumber_0 rfl <| ?_
  obtain ⟨⟨r1, mi2⟩, he3, h⟩ := ob h
  refine a_cVi iX8_readsNumber_1 okX8_nextLetter inX8_nextLetter ⟨rfl, rfl⟩ (lm_s229 hM) (c_X8_nextLetter hM he3) rfl rfl (Nat.le_of_ble_eq_true rfl) ⟨Nat.le_refl 0, Nat.le_refl 0⟩ <| a_const iX8_readsNumber_4 <| a_const iX8_readsNumber_6 <| ?_
  obtain ⟨r5, he6, h⟩ := ob h
  refine a_cSi iX8_readsNumber_8 okX8_in stX8_in ⟨rfl, rfl⟩ (c_X8_in he6) rfl rfl (Nat.le_of_ble_eq_true rfl) ⟨Nat.le_refl 0, Nat.le_refl 0⟩ <| ?_
  refine a_if_ne iX8_readsNumber_11 (fun hc7 => ?_) (fun hc7 => ?_)
  · have h := oe hc7 h
    refine a_aload iX8_readsNumber_24 rfl <| a_aload iX8_readsNumber_25 rfl <| a_geti iX8_readsNumber_26 (lm_s229 hM) rfl <| a_puti iX8_readsNumber_29 (lm_s229 hM) rfl rfl rfl <| a_const iX8_readsNumber_32 <| a_istore iX8_readsNumber_33 (by decide) rfl <| ?_
    refine a_sub (L' := [some (rf g 229), some (.int x1), some (.int x2), some (.int 0)]) (by exact ⟨rfl, ⟨rfl, ⟨rfl, ⟨rfl, trivial⟩⟩⟩⟩) (w_X8_readsNumber_34 hM (fun v3_16 mi16 h => ?_) FU _ _ h)
    refine a_aload iX8_readsNumber_93 rfl <| a_geti iX8_readsNumber_94 (lm_s229 hM) rfl <| a_aload iX8_readsNumber_97 rfl <| a_geti iX8_readsNumber_98 (lm_s229 hM) rfl <| a_isub iX8_readsNumber_101 <| a_const iX8_readsNumber_102 <| ?_
    refine a_icmp_gt iX8_readsNumber_103 (fun hc17 => ?_) (fun hc17 => ?_)
    · have h := ot hc17 h
      refine a_aload iX8_readsNumber_115 rfl <| a_const iX8_readsNumber_116 <| a_aload iX8_readsNumber_117 rfl <| a_geti iX8_readsNumber_118 (lm_s229 hM) rfl <| ?_
      obtain ⟨⟨r18, mi19⟩, he20, h⟩ := ob h
      refine a_cVi iX8_readsNumber_121 okX8_fails inX8_fails ⟨rfl, rfl⟩ (lm_s229 hM) (c_X8_fails hM he20) rfl rfl (Nat.le_of_ble_eq_true rfl) ⟨Nat.le_refl 0, Nat.le_refl 0⟩ <| a_goto iX8_readsNumber_124 <| ?_
      obtain rfl := Option.some.inj h
      exact a_iret iX8_readsNumber_128 rfl ⟨Nat.le_refl 0, Nat.le_refl 0⟩ ⟨rfl, rfl, rfl, rfl⟩
    · have h := oe hc17 h
      refine a_iload iX8_readsNumber_106 rfl <| a_iload iX8_readsNumber_107 rfl <| a_iload iX8_readsNumber_108 rfl <| ?_
      obtain ⟨r22, he23, h⟩ := ob h
      refine a_cSi iX8_readsNumber_109 okX8_in stX8_in ⟨rfl, rfl⟩ (c_X8_in he23) rfl rfl (Nat.le_of_ble_eq_true rfl) ⟨Nat.le_refl 0, Nat.le_refl 0⟩ <| ?_
      refine a_if_ne iX8_readsNumber_112 (fun hc24 => ?_) (fun hc24 => ?_)
      · have h := oe hc24 h
        refine a_iload iX8_readsNumber_127 rfl <| ?_
        obtain rfl := Option.some.inj h
        exact a_iret iX8_readsNumber_128 rfl ⟨Nat.le_refl 0, Nat.le_refl 0⟩ ⟨rfl, rfl, rfl, rfl⟩
      · have h := ot hc24 h
        refine a_aload iX8_readsNumber_115 rfl <| a_const iX8_readsNumber_116 <| a_aload iX8_readsNumber_117 rfl <| a_geti iX8_readsNumber_118 (lm_s229 hM) rfl <| ?_
        obtain ⟨⟨r25, mi26⟩, he27, h⟩ := ob h
        refine a_cVi iX8_readsNumber_121 okX8_fails inX8_fails ⟨rfl, rfl⟩ (lm_s229 hM) (c_X8_fails hM he27) rfl rfl (Nat.le_of_ble_eq_true rfl) ⟨Nat.le_refl 0, Nat.le_refl 0⟩ <| a_goto iX8_readsNumber_124 <| ?_
        obtain rfl := Option.some.inj h
        exact a_iret iX8_readsNumber_128 rfl ⟨Nat.le_refl 0, Nat.le_refl 0⟩ ⟨rfl, rfl, rfl, rfl⟩
  · have h := ot hc7 h
    refine a_aload iX8_readsNumber_14 rfl <| a_const iX8_readsNumber_15 <| a_aload iX8_readsNumber_16 rfl <| a_geti iX8_readsNumber_17 (lm_s229 hM) rfl <| ?_
    obtain ⟨⟨r29, mi30⟩, he31, h⟩ := ob h
    refine a_cVi iX8_readsNumber_20 okX8_fails inX8_fails ⟨rfl, rfl⟩ (lm_s229 hM) (c_X8_fails hM he31) rfl rfl (Nat.le_of_ble_eq_true rfl) ⟨Nat.le_refl 0, Nat.le_refl 0⟩ <| ?_
    obtain rfl := Option.some.inj h
    exact a_iret iX8_readsNumber_23 rfl ⟨Nat.le_refl 0, Nat.le_refl 0⟩ ⟨rfl, rfl, rfl, rfl⟩
def f_X8_readsSign (mi : Mi) (x1 : Int32) : Option (Int32 × Mi) := (f_X8_nextLetter mi).bind (fun q4 => if q4.1 = x1 then (some (1, u2 q4.2 229 2 ((q4.2 229 2) + 1))) else ((f_X8_fails q4.2 1 (q4.2 229 2)).bind (fun q9 => some (0, q9.2))))
set_option maxRecDepth 20000 in
set_option maxHeartbeats 4000000 in
theorem c_X8_readsSign {g : Gm} {V : Vw} {mi : Mi} {ml : Ml} {x1 : Int32} (hM : LayM V) {r : Int32 × Mi} (h : f_X8_readsSign mi x1 = some r) : DoI g YX8_readsSign V [rf g 229, .int x1] mi ml (r.1) (r.2) ml := by
  unfold f_X8_readsSign at h
  refine does_of (L := [some (rf g 229), some (.int x1)]) okX8_readsSign rfl (Nat.le_of_ble_eq_true rfl) rfl ?_
  show At g YX8_readsSign _ (qm g YX8_readsSign (pI V (r.1) (r.2) ml)) V (0, 0) 0 _ [] mi ml
  refine a_aload iX8_readsSign_0 rfl <| ?_
  obtain ⟨⟨r1, mi2⟩, he3, h⟩ := ob h
  refine a_cVi iX8_readsSign_1 okX8_nextLetter inX8_nextLetter ⟨rfl, rfl⟩ (lm_s229 hM) (c_X8_nextLetter hM he3) rfl rfl (Nat.le_of_ble_eq_true rfl) ⟨Nat.le_refl 0, Nat.le_refl 0⟩ <| a_iload iX8_readsSign_4 rfl <| ?_
  refine a_icmp_eq iX8_readsSign_5 (fun hc5 => ?_) (fun hc5 => ?_)
  · have h := ot hc5 h
    refine a_aload iX8_readsSign_20 rfl <| a_dup iX8_readsSign_21 rfl <| a_geti iX8_readsSign_22 (lm_s229 hM) rfl <| a_const iX8_readsSign_25 <| a_iadd iX8_readsSign_26 <| a_puti iX8_readsSign_27 (lm_s229 hM) rfl rfl rfl <| a_const iX8_readsSign_30 <| ?_
    obtain rfl := Option.some.inj h
    exact a_zret iX8_readsSign_31 rfl rfl ⟨Nat.le_refl 0, Nat.le_refl 0⟩ ⟨rfl, rfl, rfl, rfl⟩
  · have h := oe hc5 h
    refine a_aload iX8_readsSign_8 rfl <| a_const iX8_readsSign_9 <| a_aload iX8_readsSign_10 rfl <| a_geti iX8_readsSign_11 (lm_s229 hM) rfl <| ?_
    obtain ⟨⟨r6, mi7⟩, he8, h⟩ := ob h
    refine a_cVi iX8_readsSign_14 okX8_fails inX8_fails ⟨rfl, rfl⟩ (lm_s229 hM) (c_X8_fails hM he8) rfl rfl (Nat.le_of_ble_eq_true rfl) ⟨Nat.le_refl 0, Nat.le_refl 0⟩ <| a_pop iX8_readsSign_17 rfl <| a_const iX8_readsSign_18 <| ?_
    obtain rfl := Option.some.inj h
    exact a_zret iX8_readsSign_19 rfl rfl ⟨Nat.le_refl 0, Nat.le_refl 0⟩ ⟨rfl, rfl, rfl, rfl⟩
def f_X8_readsHead (mi : Mi) : Option (Int32 × Mi) := (f_X8_readsNumber mi 1 11).bind (fun q4 => if q4.1 = (-1) then (some (0, u2 (u2 q4.2 229 6 q4.1) 229 7 (-1))) else ((f_X8_readsNumber q4.2 13 23).bind (fun q9 => if q9.1 = (-1) then (some (0, u2 (u2 q9.2 229 6 q4.1) 229 7 q9.1)) else ((f_X8_readsSign (u2 (u2 q9.2 229 6 q4.1) 229 7 q9.1) 59).bind (fun q14 => if q14.1 = 0 then (some (0, q14.2)) else (some (1, q14.2)))))))
set_option maxRecDepth 20000 in
set_option maxHeartbeats 4000000 in
theorem c_X8_readsHead {g : Gm} {V : Vw} {mi : Mi} {ml : Ml} (hM : LayM V) {r : Int32 × Mi} (h : f_X8_readsHead mi = some r) : DoI g YX8_readsHead V [rf g 229] mi ml (r.1) (r.2) ml := by
  unfold f_X8_readsHead at h
  refine does_of (L := [some (rf g 229), none, none]) okX8_readsHead rfl (Nat.le_of_ble_eq_true rfl) rfl ?_
  show At g YX8_readsHead _ (qm g YX8_readsHead (pI V (r.1) (r.2) ml)) V (0, 0) 0 _ [] mi ml
  refine a_aload iX8_readsHead_0 rfl <| a_const iX8_readsHead_1 <| a_const iX8_readsHead_2 <| ?_
  obtain ⟨⟨r1, mi2⟩, he3, h⟩ := ob h
  refine a_cVi iX8_readsHead_4 okX8_readsNumber inX8_readsNumber ⟨rfl, rfl⟩ (lm_s229 hM) (c_X8_readsNumber hM he3) rfl rfl (Nat.le_of_ble_eq_true rfl) ⟨Nat.le_refl 0, Nat.le_refl 0⟩ <| a_istore iX8_readsHead_7 (by decide) rfl <| a_iload iX8_readsHead_8 rfl <| a_const iX8_readsHead_9 <| ?_
  refine a_icmp_ne iX8_readsHead_10 (fun hc5 => ?_) (fun hc5 => ?_)
  · have h := oe hc5 h
    refine a_aload iX8_readsHead_17 rfl <| a_const iX8_readsHead_18 <| a_const iX8_readsHead_20 <| ?_
    obtain ⟨⟨r6, mi7⟩, he8, h⟩ := ob h
    refine a_cVi iX8_readsHead_22 okX8_readsNumber inX8_readsNumber ⟨rfl, rfl⟩ (lm_s229 hM) (c_X8_readsNumber hM he8) rfl rfl (Nat.le_of_ble_eq_true rfl) ⟨Nat.le_refl 0, Nat.le_refl 0⟩ <| a_istore iX8_readsHead_25 (by decide) rfl <| a_aload iX8_readsHead_26 rfl <| a_iload iX8_readsHead_27 rfl <| a_puti iX8_readsHead_28 (lm_s229 hM) rfl rfl rfl <| a_aload iX8_readsHead_31 rfl <| a_iload iX8_readsHead_32 rfl <| a_puti iX8_readsHead_33 (lm_s229 hM) rfl rfl rfl <| ?_
    refine a_iload iX8_readsHead_36 rfl <| a_const iX8_readsHead_37 <| ?_
    refine a_icmp_eq iX8_readsHead_38 (fun hc10 => ?_) (fun hc10 => ?_)
    · have h := ot hc10 h
      refine a_const iX8_readsHead_54 <| ?_
      obtain rfl := Option.some.inj h
      exact a_zret iX8_readsHead_55 rfl rfl ⟨Nat.le_refl 0, Nat.le_refl 0⟩ ⟨rfl, rfl, rfl, rfl⟩
    · have h := oe hc10 h
      refine a_aload iX8_readsHead_41 rfl <| a_const iX8_readsHead_42 <| ?_
      obtain ⟨⟨r11, mi12⟩, he13, h⟩ := ob h
      refine a_cVi iX8_readsHead_44 okX8_readsSign inX8_readsSign ⟨rfl, rfl⟩ (lm_s229 hM) (c_X8_readsSign hM he13) rfl rfl (Nat.le_of_ble_eq_true rfl) ⟨Nat.le_refl 0, Nat.le_refl 0⟩ <| ?_
      refine a_if_eq iX8_readsHead_47 (fun hc15 => ?_) (fun hc15 => ?_)
      · have h := ot hc15 h
        refine a_const iX8_readsHead_54 <| ?_
        obtain rfl := Option.some.inj h
        exact a_zret iX8_readsHead_55 rfl rfl ⟨Nat.le_refl 0, Nat.le_refl 0⟩ ⟨rfl, rfl, rfl, rfl⟩
      · have h := oe hc15 h
        refine a_const iX8_readsHead_50 <| a_goto iX8_readsHead_51 <| ?_
        obtain rfl := Option.some.inj h
        exact a_zret iX8_readsHead_55 rfl rfl ⟨Nat.le_refl 0, Nat.le_refl 0⟩ ⟨rfl, rfl, rfl, rfl⟩
  · have h := ot hc5 h
    refine a_const iX8_readsHead_13 <| a_goto iX8_readsHead_14 <| a_istore iX8_readsHead_25 (by decide) rfl <| a_aload iX8_readsHead_26 rfl <| a_iload iX8_readsHead_27 rfl <| a_puti iX8_readsHead_28 (lm_s229 hM) rfl rfl rfl <| a_aload iX8_readsHead_31 rfl <| a_iload iX8_readsHead_32 rfl <| ?_
    refine a_puti iX8_readsHead_33 (lm_s229 hM) rfl rfl rfl <| a_iload iX8_readsHead_36 rfl <| a_const iX8_readsHead_37 <| ?_
    refine a_icmp_eq iX8_readsHead_38 (fun hc16 => ?_) (fun hc16 => absurd hc16 (by decide))
    refine a_const iX8_readsHead_54 <| ?_
    obtain rfl := Option.some.inj h
    exact a_zret iX8_readsHead_55 rfl rfl ⟨Nat.le_refl 0, Nat.le_refl 0⟩ ⟨rfl, rfl, rfl, rfl⟩
def lp_X8_readsSeasons_2 (K : Int32 → Mi → Option (Int32 × Mi)) : Nat → Int32 → Mi → Option (Int32 × Mi)
  | 0, _, _ => none
  | n + 1, v1, mi => if v1 = 0 then (K v1 mi) else ((f_X8_readsNumber mi 0 9).bind (fun q5 => if inb (mi 229 8) 12 then if inb ((u2 q5.2 231 (mi 229 8).toNatClampNeg q5.1) 229 8) 12 then if ((u2 q5.2 231 (mi 229 8).toNatClampNeg q5.1) 231 ((u2 q5.2 231 (mi 229 8).toNatClampNeg q5.1) 229 8).toNatClampNeg) = (-1) then (some (0, u2 q5.2 231 (mi 229 8).toNatClampNeg q5.1)) else ((f_X8_nextLetter (u2 (u2 q5.2 231 (mi 229 8).toNatClampNeg q5.1) 229 8 (((u2 q5.2 231 (mi 229 8).toNatClampNeg q5.1) 229 8) + 1))).bind (fun q12 => if q12.1 = 44 then (if 12 ≤ (q12.2 229 8) then (lp_X8_readsSeasons_2  K n 0 (u2 q12.2 229 2 ((q12.2 229 2) + 0))) else (lp_X8_readsSeasons_2  K n 1 (u2 q12.2 229 2 ((q12.2 229 2) + 1)))) else (lp_X8_readsSeasons_2  K n 0 (u2 q12.2 229 2 ((q12.2 229 2) + 0))))) else none else none))
def f_X8_readsSeasons (mi : Mi) : Option (Int32 × Mi) := lp_X8_readsSeasons_2 (fun v1_18 mi18 => (f_X8_readsSign mi18 59).bind (fun q22 => if q22.1 = 0 ∨ q22.1 = 1 then some (q22.1, q22.2) else none)) FU 1 mi
set_option maxRecDepth 20000 in
set_option maxHeartbeats 4000000 in
theorem w_X8_readsSeasons_2 {g : Gm} {V : Vw} {E : Ex} {ml : Ml} (hM : LayM V) {K : Int32 → Mi → Option (Int32 × Mi)} {r : Int32 × Mi} (hK : ∀ (v1 : Int32) (mi : Mi), K v1 mi = some r → At g YX8_readsSeasons E (qm g YX8_readsSeasons (pI V (r.1) (r.2) ml)) V (0, 0) 92 [some (rf g 229), some (.int v1)] [] mi ml) : ∀ (n : Nat) (v1 : Int32) (mi : Mi), lp_X8_readsSeasons_2  K n v1 mi = some r → At g YX8_readsSeasons E (qm g YX8_readsSeasons (pI V (r.1) (r.2) ml)) V (0, 0) 2 [some (rf g 229), some (.int v1)] [] mi ml := by
  intro n
  induction n with
  | zero => intro v1 mi h; exact oz h
  | succ n ih =>
    intro v1 mi h
    unfold lp_X8_readsSeasons_2 at h
    refine a_iload iX8_readsSeasons_2 rfl <| ?_
    refine a_if_eq iX8_readsSeasons_3 (fun hc1 => ?_) (fun hc1 => ?_)
    · have h := ot hc1 h
      exact a_sub (L' := [some (rf g 229), some (.int v1)]) (by exact ⟨rfl, ⟨rfl, trivial⟩⟩) (hK _ _ h)
    · have h := oe hc1 h
      refine a_aload iX8_readsSeasons_6 rfl <| a_getr iX8_readsSeasons_7 (lm_s229 hM) rfl (lm_r229_13 hM) <| a_aload iX8_readsSeasons_10 rfl <| a_geti iX8_readsSeasons_11 (lm_s229 hM) rfl <| a_aload iX8_readsSeasons_14 rfl <| a_const iX8_readsSeasons_15 <| a_const iX8_readsSeasons_16 <| ?_
      obtain ⟨⟨r2, mi3⟩, he4, h⟩ := ob h
      refine a_cVi iX8_readsSeasons_18 okX8_readsNumber inX8_readsNumber ⟨rfl, rfl⟩ (lm_s229 hM) (c_X8_readsNumber hM he4) rfl rfl (Nat.le_of_ble_eq_true rfl) ⟨Nat.le_refl 0, Nat.le_refl 0⟩ <| ?_
      obtain ⟨hg6, h⟩ := og h
      refine a_iast iX8_readsSeasons_21 (lm_s231 hM) (inb_vp hg6) <| a_aload iX8_readsSeasons_22 rfl <| a_getr iX8_readsSeasons_23 (lm_s229 hM) rfl (lm_r229_13 hM) <| a_aload iX8_readsSeasons_26 rfl <| a_geti iX8_readsSeasons_27 (lm_s229 hM) rfl <| ?_
      obtain ⟨hg7, h⟩ := og h
      refine a_iald iX8_readsSeasons_30 (lm_s231 hM) (inb_vp hg7) <| a_const iX8_readsSeasons_31 <| ?_
      refine a_icmp_ne iX8_readsSeasons_32 (fun hc8 => ?_) (fun hc8 => ?_)
      · have h := oe hc8 h
        refine a_aload iX8_readsSeasons_37 rfl <| a_dup iX8_readsSeasons_38 rfl <| a_geti iX8_readsSeasons_39 (lm_s229 hM) rfl <| a_const iX8_readsSeasons_42 <| a_iadd iX8_readsSeasons_43 <| a_puti iX8_readsSeasons_44 (lm_s229 hM) rfl rfl rfl <| a_aload iX8_readsSeasons_47 rfl <| ?_
        obtain ⟨⟨r9, mi10⟩, he11, h⟩ := ob h
        refine a_cVi iX8_readsSeasons_48 okX8_nextLetter inX8_nextLetter ⟨rfl, rfl⟩ (lm_s229 hM) (c_X8_nextLetter hM he11) rfl rfl (Nat.le_of_ble_eq_true rfl) ⟨Nat.le_refl 0, Nat.le_refl 0⟩ <| a_const iX8_readsSeasons_51 <| ?_
        refine a_icmp_ne iX8_readsSeasons_53 (fun hc13 => ?_) (fun hc13 => ?_)
        · have h := oe hc13 h
          refine a_const iX8_readsSeasons_69 <| a_istore iX8_readsSeasons_70 (by decide) rfl <| a_aload iX8_readsSeasons_71 rfl <| a_dup iX8_readsSeasons_72 rfl <| a_geti iX8_readsSeasons_73 (lm_s229 hM) rfl <| a_iload iX8_readsSeasons_76 rfl <| ?_
          refine a_if_eq iX8_readsSeasons_77 (fun hc14 => ?_) (fun hc14 => absurd hc14 (by decide))
          refine a_const iX8_readsSeasons_84 <| a_iadd iX8_readsSeasons_85 <| a_puti iX8_readsSeasons_86 (lm_s229 hM) rfl rfl rfl <| a_goto iX8_readsSeasons_89 <| ?_
          exact a_sub (L' := [some (rf g 229), some (.int 0)]) (by exact ⟨rfl, ⟨rfl, trivial⟩⟩) (ih _ _ h)
        · have h := ot hc13 h
          refine a_aload iX8_readsSeasons_56 rfl <| a_geti iX8_readsSeasons_57 (lm_s229 hM) rfl <| a_const iX8_readsSeasons_60 <| ?_
          refine a_icmp_ge iX8_readsSeasons_62 (fun hc15 => ?_) (fun hc15 => ?_)
          · have h := ot hc15 h
            refine a_const iX8_readsSeasons_69 <| a_istore iX8_readsSeasons_70 (by decide) rfl <| a_aload iX8_readsSeasons_71 rfl <| a_dup iX8_readsSeasons_72 rfl <| a_geti iX8_readsSeasons_73 (lm_s229 hM) rfl <| a_iload iX8_readsSeasons_76 rfl <| ?_
            refine a_if_eq iX8_readsSeasons_77 (fun hc16 => ?_) (fun hc16 => absurd hc16 (by decide))
            refine a_const iX8_readsSeasons_84 <| a_iadd iX8_readsSeasons_85 <| a_puti iX8_readsSeasons_86 (lm_s229 hM) rfl rfl rfl <| a_goto iX8_readsSeasons_89 <| ?_
            exact a_sub (L' := [some (rf g 229), some (.int 0)]) (by exact ⟨rfl, ⟨rfl, trivial⟩⟩) (ih _ _ h)
          · have h := oe hc15 h
            refine a_const iX8_readsSeasons_65 <| a_goto iX8_readsSeasons_66 <| a_istore iX8_readsSeasons_70 (by decide) rfl <| a_aload iX8_readsSeasons_71 rfl <| a_dup iX8_readsSeasons_72 rfl <| a_geti iX8_readsSeasons_73 (lm_s229 hM) rfl <| a_iload iX8_readsSeasons_76 rfl <| ?_
            refine a_if_eq iX8_readsSeasons_77 (fun hc17 => absurd hc17 (by decide)) (fun hc17 => ?_)
            refine a_const iX8_readsSeasons_80 <| a_goto iX8_readsSeasons_81 <| a_iadd iX8_readsSeasons_85 <| a_puti iX8_readsSeasons_86 (lm_s229 hM) rfl rfl rfl <| a_goto iX8_readsSeasons_89 <| ?_
            exact a_sub (L' := [some (rf g 229), some (.int 1)]) (by exact ⟨rfl, ⟨rfl, trivial⟩⟩) (ih _ _ h)
      · have h := ot hc8 h
        refine a_const iX8_readsSeasons_35 <| ?_
        obtain rfl := Option.some.inj h
        exact a_zret iX8_readsSeasons_36 rfl rfl ⟨Nat.le_refl 0, Nat.le_refl 0⟩ ⟨rfl, rfl, rfl, rfl⟩
set_option maxRecDepth 20000 in
set_option maxHeartbeats 4000000 in
theorem c_X8_readsSeasons {g : Gm} {V : Vw} {mi : Mi} {ml : Ml} (hM : LayM V) {r : Int32 × Mi} (h : f_X8_readsSeasons mi = some r) : DoI g YX8_readsSeasons V [rf g 229] mi ml (r.1) (r.2) ml := by
  unfold f_X8_readsSeasons at h
  refine does_of (L := [some (rf g 229), none]) okX8_readsSeasons rfl (Nat.le_of_ble_eq_true rfl) rfl ?_
  show At g YX8_readsSeasons _ (qm g YX8_readsSeasons (pI V (r.1) (r.2) ml)) V (0, 0) 0 _ [] mi ml
  refine a_const iX8_readsSeasons_0 <| a_istore iX8_readsSeasons_1 (by decide) rfl <| ?_
  refine a_sub (L' := [some (rf g 229), some (.int 1)]) (by exact ⟨rfl, ⟨rfl, trivial⟩⟩) (w_X8_readsSeasons_2 hM (fun v1_18 mi18 h => ?_) FU _ _ h)
  refine a_aload iX8_readsSeasons_92 rfl <| a_const iX8_readsSeasons_93 <| ?_
  obtain ⟨⟨r19, mi20⟩, he21, h⟩ := ob h
  refine a_cVi iX8_readsSeasons_95 okX8_readsSign inX8_readsSign ⟨rfl, rfl⟩ (lm_s229 hM) (c_X8_readsSign hM he21) rfl rfl (Nat.le_of_ble_eq_true rfl) ⟨Nat.le_refl 0, Nat.le_refl 0⟩ <| ?_
  obtain ⟨hz23, h⟩ := og h
  obtain rfl := Option.some.inj h
  exact a_zret iX8_readsSeasons_98 rfl (nb01 hz23) ⟨Nat.le_refl 0, Nat.le_refl 0⟩ ⟨rfl, rfl, rfl, rfl⟩
def f_X8_readsThing (mi : Mi) : Option (Int32 × Mi) := (f_X8_readsNumber mi 0 3).bind (fun q4 => if inb (mi 229 9) 8 then if inb ((u2 q4.2 232 (mi 229 9).toNatClampNeg q4.1) 229 9) 8 then if ((u2 q4.2 232 (mi 229 9).toNatClampNeg q4.1) 232 ((u2 q4.2 232 (mi 229 9).toNatClampNeg q4.1) 229 9).toNatClampNeg) = (-1) then (if inb ((u2 q4.2 232 (mi 229 9).toNatClampNeg q4.1) 229 9) 8 then nx (u2 (u2 q4.2 232 (mi 229 9).toNatClampNeg q4.1) 233 ((u2 q4.2 232 (mi 229 9).toNatClampNeg q4.1) 229 9).toNatClampNeg (-1)) (fun mi24 => if inb (((u2 mi24 229 9 ((mi24 229 9) + 1)) 229 9) - 1) 8 then if ((u2 mi24 229 9 ((mi24 229 9) + 1)) 233 (((u2 mi24 229 9 ((mi24 229 9) + 1)) 229 9) - 1).toNatClampNeg) = (-1) then (some (0, u2 mi24 229 9 ((mi24 229 9) + 1))) else ((f_X8_readsSign (u2 mi24 229 9 ((mi24 229 9) + 1)) 59).bind (fun q30 => if q30.1 = 0 then (some (0, q30.2)) else (some (1, q30.2)))) else none) else none) else ((f_X8_readsNumber (u2 q4.2 232 (mi 229 9).toNatClampNeg q4.1) 0 9).bind (fun q11 => if inb ((u2 q4.2 232 (mi 229 9).toNatClampNeg q4.1) 229 9) 8 then nx (u2 (u2 q11.2 233 ((u2 q4.2 232 (mi 229 9).toNatClampNeg q4.1) 229 9).toNatClampNeg q11.1) 229 9 (((u2 q11.2 233 ((u2 q4.2 232 (mi 229 9).toNatClampNeg q4.1) 229 9).toNatClampNeg q11.1) 229 9) + 1)) (fun mi14 => if inb ((mi14 229 9) - 1) 8 then if (mi14 233 ((mi14 229 9) - 1).toNatClampNeg) = (-1) then (some (0, mi14)) else ((f_X8_readsSign mi14 59).bind (fun q20 => if q20.1 = 0 then (some (0, q20.2)) else (some (1, q20.2)))) else none) else none)) else none else none)
set_option maxRecDepth 20000 in
set_option maxHeartbeats 4000000 in
theorem c_X8_readsThing {g : Gm} {V : Vw} {mi : Mi} {ml : Ml} (hM : LayM V) {r : Int32 × Mi} (h : f_X8_readsThing mi = some r) : DoI g YX8_readsThing V [rf g 229] mi ml (r.1) (r.2) ml := by
  unfold f_X8_readsThing at h
  refine does_of (L := [some (rf g 229)]) okX8_readsThing rfl (Nat.le_of_ble_eq_true rfl) rfl ?_
  show At g YX8_readsThing _ (qm g YX8_readsThing (pI V (r.1) (r.2) ml)) V (0, 0) 0 _ [] mi ml
  refine a_aload iX8_readsThing_0 rfl <| a_getr iX8_readsThing_1 (lm_s229 hM) rfl (lm_r229_14 hM) <| a_aload iX8_readsThing_4 rfl <| a_geti iX8_readsThing_5 (lm_s229 hM) rfl <| a_aload iX8_readsThing_8 rfl <| a_const iX8_readsThing_9 <| a_const iX8_readsThing_10 <| ?_
  obtain ⟨⟨r1, mi2⟩, he3, h⟩ := ob h
  refine a_cVi iX8_readsThing_11 okX8_readsNumber inX8_readsNumber ⟨rfl, rfl⟩ (lm_s229 hM) (c_X8_readsNumber hM he3) rfl rfl (Nat.le_of_ble_eq_true rfl) ⟨Nat.le_refl 0, Nat.le_refl 0⟩ <| ?_
  obtain ⟨hg5, h⟩ := og h
  refine a_iast iX8_readsThing_14 (lm_s232 hM) (inb_vp hg5) <| a_aload iX8_readsThing_15 rfl <| a_getr iX8_readsThing_16 (lm_s229 hM) rfl (lm_r229_15 hM) <| a_aload iX8_readsThing_19 rfl <| a_geti iX8_readsThing_20 (lm_s229 hM) rfl <| a_aload iX8_readsThing_23 rfl <| a_getr iX8_readsThing_24 (lm_s229 hM) rfl (lm_r229_14 hM) <| a_aload iX8_readsThing_27 rfl <| ?_
  refine a_geti iX8_readsThing_28 (lm_s229 hM) rfl <| ?_
  obtain ⟨hg6, h⟩ := og h
  refine a_iald iX8_readsThing_31 (lm_s232 hM) (inb_vp hg6) <| a_const iX8_readsThing_32 <| ?_
  refine a_icmp_ne iX8_readsThing_33 (fun hc7 => ?_) (fun hc7 => ?_)
  · have h := oe hc7 h
    refine a_aload iX8_readsThing_40 rfl <| a_const iX8_readsThing_41 <| a_const iX8_readsThing_42 <| ?_
    obtain ⟨⟨r8, mi9⟩, he10, h⟩ := ob h
    refine a_cVi iX8_readsThing_44 okX8_readsNumber inX8_readsNumber ⟨rfl, rfl⟩ (lm_s229 hM) (c_X8_readsNumber hM he10) rfl rfl (Nat.le_of_ble_eq_true rfl) ⟨Nat.le_refl 0, Nat.le_refl 0⟩ <| ?_
    obtain ⟨hg12, h⟩ := og h
    refine a_iast iX8_readsThing_47 (lm_s233 hM) (inb_vp hg12) <| a_aload iX8_readsThing_48 rfl <| a_dup iX8_readsThing_49 rfl <| a_geti iX8_readsThing_50 (lm_s229 hM) rfl <| a_const iX8_readsThing_53 <| a_iadd iX8_readsThing_54 <| a_puti iX8_readsThing_55 (lm_s229 hM) rfl rfl rfl <| ?_
    obtain ⟨mi14, hm13, h⟩ := onx h
    refine a_mem hm13 <| a_aload iX8_readsThing_58 rfl <| a_getr iX8_readsThing_59 (lm_s229 hM) rfl (lm_r229_15 hM) <| a_aload iX8_readsThing_62 rfl <| a_geti iX8_readsThing_63 (lm_s229 hM) rfl <| a_const iX8_readsThing_66 <| a_isub iX8_readsThing_67 <| ?_
    obtain ⟨hg15, h⟩ := og h
    refine a_iald iX8_readsThing_68 (lm_s233 hM) (inb_vp hg15) <| a_const iX8_readsThing_69 <| ?_
    refine a_icmp_eq iX8_readsThing_70 (fun hc16 => ?_) (fun hc16 => ?_)
    · have h := ot hc16 h
      refine a_const iX8_readsThing_86 <| ?_
      obtain rfl := Option.some.inj h
      exact a_zret iX8_readsThing_87 rfl rfl ⟨Nat.le_refl 0, Nat.le_refl 0⟩ ⟨rfl, rfl, rfl, rfl⟩
    · have h := oe hc16 h
      refine a_aload iX8_readsThing_73 rfl <| a_const iX8_readsThing_74 <| ?_
      obtain ⟨⟨r17, mi18⟩, he19, h⟩ := ob h
      refine a_cVi iX8_readsThing_76 okX8_readsSign inX8_readsSign ⟨rfl, rfl⟩ (lm_s229 hM) (c_X8_readsSign hM he19) rfl rfl (Nat.le_of_ble_eq_true rfl) ⟨Nat.le_refl 0, Nat.le_refl 0⟩ <| ?_
      refine a_if_eq iX8_readsThing_79 (fun hc21 => ?_) (fun hc21 => ?_)
      · have h := ot hc21 h
        refine a_const iX8_readsThing_86 <| ?_
        obtain rfl := Option.some.inj h
        exact a_zret iX8_readsThing_87 rfl rfl ⟨Nat.le_refl 0, Nat.le_refl 0⟩ ⟨rfl, rfl, rfl, rfl⟩
      · have h := oe hc21 h
        refine a_const iX8_readsThing_82 <| a_goto iX8_readsThing_83 <| ?_
        obtain rfl := Option.some.inj h
        exact a_zret iX8_readsThing_87 rfl rfl ⟨Nat.le_refl 0, Nat.le_refl 0⟩ ⟨rfl, rfl, rfl, rfl⟩
  · have h := ot hc7 h
    refine a_const iX8_readsThing_36 <| a_goto iX8_readsThing_37 <| ?_
    obtain ⟨hg22, h⟩ := og h
    refine a_iast iX8_readsThing_47 (lm_s233 hM) (inb_vp hg22) <| ?_
    obtain ⟨mi24, hm23, h⟩ := onx h
    refine a_mem hm23 <| a_aload iX8_readsThing_48 rfl <| a_dup iX8_readsThing_49 rfl <| a_geti iX8_readsThing_50 (lm_s229 hM) rfl <| a_const iX8_readsThing_53 <| a_iadd iX8_readsThing_54 <| a_puti iX8_readsThing_55 (lm_s229 hM) rfl rfl rfl <| a_aload iX8_readsThing_58 rfl <| ?_
    refine a_getr iX8_readsThing_59 (lm_s229 hM) rfl (lm_r229_15 hM) <| a_aload iX8_readsThing_62 rfl <| a_geti iX8_readsThing_63 (lm_s229 hM) rfl <| a_const iX8_readsThing_66 <| a_isub iX8_readsThing_67 <| ?_
    obtain ⟨hg25, h⟩ := og h
    refine a_iald iX8_readsThing_68 (lm_s233 hM) (inb_vp hg25) <| a_const iX8_readsThing_69 <| ?_
    refine a_icmp_eq iX8_readsThing_70 (fun hc26 => ?_) (fun hc26 => ?_)
    · have h := ot hc26 h
      refine a_const iX8_readsThing_86 <| ?_
      obtain rfl := Option.some.inj h
      exact a_zret iX8_readsThing_87 rfl rfl ⟨Nat.le_refl 0, Nat.le_refl 0⟩ ⟨rfl, rfl, rfl, rfl⟩
    · have h := oe hc26 h
      refine a_aload iX8_readsThing_73 rfl <| a_const iX8_readsThing_74 <| ?_
      obtain ⟨⟨r27, mi28⟩, he29, h⟩ := ob h
      refine a_cVi iX8_readsThing_76 okX8_readsSign inX8_readsSign ⟨rfl, rfl⟩ (lm_s229 hM) (c_X8_readsSign hM he29) rfl rfl (Nat.le_of_ble_eq_true rfl) ⟨Nat.le_refl 0, Nat.le_refl 0⟩ <| ?_
      refine a_if_eq iX8_readsThing_79 (fun hc31 => ?_) (fun hc31 => ?_)
      · have h := ot hc31 h
        refine a_const iX8_readsThing_86 <| ?_
        obtain rfl := Option.some.inj h
        exact a_zret iX8_readsThing_87 rfl rfl ⟨Nat.le_refl 0, Nat.le_refl 0⟩ ⟨rfl, rfl, rfl, rfl⟩
      · have h := oe hc31 h
        refine a_const iX8_readsThing_82 <| a_goto iX8_readsThing_83 <| ?_
        obtain rfl := Option.some.inj h
        exact a_zret iX8_readsThing_87 rfl rfl ⟨Nat.le_refl 0, Nat.le_refl 0⟩ ⟨rfl, rfl, rfl, rfl⟩
def f_X8_readsLand (mi : Mi) : Option (Int32 × Mi) := (f_X8_readsNumber mi 1 9).bind (fun q4 => if q4.1 = (-1) then (some (0, u2 (u2 q4.2 229 10 ((q4.2 229 10) + q4.1)) 229 11 (((u2 q4.2 229 10 ((q4.2 229 10) + q4.1)) 229 11) + 1))) else ((f_X8_readsSign (u2 (u2 q4.2 229 10 ((q4.2 229 10) + q4.1)) 229 11 (((u2 q4.2 229 10 ((q4.2 229 10) + q4.1)) 229 11) + 1)) 59).bind (fun q9 => if q9.1 = 0 then (some (0, q9.2)) else (some (1, q9.2)))))
set_option maxRecDepth 20000 in
set_option maxHeartbeats 4000000 in
theorem c_X8_readsLand {g : Gm} {V : Vw} {mi : Mi} {ml : Ml} (hM : LayM V) {r : Int32 × Mi} (h : f_X8_readsLand mi = some r) : DoI g YX8_readsLand V [rf g 229] mi ml (r.1) (r.2) ml := by
  unfold f_X8_readsLand at h
  refine does_of (L := [some (rf g 229), none]) okX8_readsLand rfl (Nat.le_of_ble_eq_true rfl) rfl ?_
  show At g YX8_readsLand _ (qm g YX8_readsLand (pI V (r.1) (r.2) ml)) V (0, 0) 0 _ [] mi ml
  refine a_aload iX8_readsLand_0 rfl <| a_const iX8_readsLand_1 <| a_const iX8_readsLand_2 <| ?_
  obtain ⟨⟨r1, mi2⟩, he3, h⟩ := ob h
  refine a_cVi iX8_readsLand_4 okX8_readsNumber inX8_readsNumber ⟨rfl, rfl⟩ (lm_s229 hM) (c_X8_readsNumber hM he3) rfl rfl (Nat.le_of_ble_eq_true rfl) ⟨Nat.le_refl 0, Nat.le_refl 0⟩ <| a_istore iX8_readsLand_7 (by decide) rfl <| a_aload iX8_readsLand_8 rfl <| a_dup iX8_readsLand_9 rfl <| a_geti iX8_readsLand_10 (lm_s229 hM) rfl <| a_iload iX8_readsLand_13 rfl <| a_iadd iX8_readsLand_14 <| a_puti iX8_readsLand_15 (lm_s229 hM) rfl rfl rfl <| ?_
  refine a_aload iX8_readsLand_18 rfl <| a_dup iX8_readsLand_19 rfl <| a_geti iX8_readsLand_20 (lm_s229 hM) rfl <| a_const iX8_readsLand_23 <| a_iadd iX8_readsLand_24 <| a_puti iX8_readsLand_25 (lm_s229 hM) rfl rfl rfl <| a_iload iX8_readsLand_28 rfl <| a_const iX8_readsLand_29 <| ?_
  refine a_icmp_eq iX8_readsLand_30 (fun hc5 => ?_) (fun hc5 => ?_)
  · have h := ot hc5 h
    refine a_const iX8_readsLand_46 <| ?_
    obtain rfl := Option.some.inj h
    exact a_zret iX8_readsLand_47 rfl rfl ⟨Nat.le_refl 0, Nat.le_refl 0⟩ ⟨rfl, rfl, rfl, rfl⟩
  · have h := oe hc5 h
    refine a_aload iX8_readsLand_33 rfl <| a_const iX8_readsLand_34 <| ?_
    obtain ⟨⟨r6, mi7⟩, he8, h⟩ := ob h
    refine a_cVi iX8_readsLand_36 okX8_readsSign inX8_readsSign ⟨rfl, rfl⟩ (lm_s229 hM) (c_X8_readsSign hM he8) rfl rfl (Nat.le_of_ble_eq_true rfl) ⟨Nat.le_refl 0, Nat.le_refl 0⟩ <| ?_
    refine a_if_eq iX8_readsLand_39 (fun hc10 => ?_) (fun hc10 => ?_)
    · have h := ot hc10 h
      refine a_const iX8_readsLand_46 <| ?_
      obtain rfl := Option.some.inj h
      exact a_zret iX8_readsLand_47 rfl rfl ⟨Nat.le_refl 0, Nat.le_refl 0⟩ ⟨rfl, rfl, rfl, rfl⟩
    · have h := oe hc10 h
      refine a_const iX8_readsLand_42 <| a_goto iX8_readsLand_43 <| ?_
      obtain rfl := Option.some.inj h
      exact a_zret iX8_readsLand_47 rfl rfl ⟨Nat.le_refl 0, Nat.le_refl 0⟩ ⟨rfl, rfl, rfl, rfl⟩
def f_X8_readsWant (mi : Mi) : Option (Int32 × Mi) := (f_X8_readsNumber mi 0 2).bind (fun q4 => if inb (3 * (mi 229 12)) 30 then if inb (3 * (mi 229 12)) 30 then if ((u2 q4.2 234 (3 * (mi 229 12)).toNatClampNeg q4.1) 234 (3 * (mi 229 12)).toNatClampNeg) = (-1) then (if inb ((3 * (mi 229 12)) + 1) 30 then if inb ((3 * (mi 229 12)) + 1) 30 then if ((u2 (u2 q4.2 234 (3 * (mi 229 12)).toNatClampNeg q4.1) 234 ((3 * (mi 229 12)) + 1).toNatClampNeg (-1)) 234 ((3 * (mi 229 12)) + 1).toNatClampNeg) = (-1) then (if inb ((3 * (mi 229 12)) + 2) 30 then nx (u2 (u2 (u2 q4.2 234 (3 * (mi 229 12)).toNatClampNeg q4.1) 234 ((3 * (mi 229 12)) + 1).toNatClampNeg (-1)) 234 ((3 * (mi 229 12)) + 2).toNatClampNeg (-1)) (fun mi58 => if inb ((3 * (mi 229 12)) + 2) 30 then if ((u2 mi58 229 12 ((mi58 229 12) + 1)) 234 ((3 * (mi 229 12)) + 2).toNatClampNeg) = (-1) then (some (0, u2 mi58 229 12 ((mi58 229 12) + 1))) else ((f_X8_readsSign (u2 mi58 229 12 ((mi58 229 12) + 1)) 59).bind (fun q64 => if q64.1 = 0 then (some (0, q64.2)) else (some (1, q64.2)))) else none) else none) else ((f_X8_readsNumber (u2 (u2 q4.2 234 (3 * (mi 229 12)).toNatClampNeg q4.1) 234 ((3 * (mi 229 12)) + 1).toNatClampNeg (-1)) 0 9).bind (fun q45 => if inb ((3 * (mi 229 12)) + 2) 30 then nx (u2 (u2 q45.2 234 ((3 * (mi 229 12)) + 2).toNatClampNeg q45.1) 229 12 (((u2 q45.2 234 ((3 * (mi 229 12)) + 2).toNatClampNeg q45.1) 229 12) + 1)) (fun mi48 => if inb ((3 * (mi 229 12)) + 2) 30 then if (mi48 234 ((3 * (mi 229 12)) + 2).toNatClampNeg) = (-1) then (some (0, mi48)) else ((f_X8_readsSign mi48 59).bind (fun q54 => if q54.1 = 0 then (some (0, q54.2)) else (some (1, q54.2)))) else none) else none)) else none else none) else ((f_X8_readsNumber (u2 q4.2 234 (3 * (mi 229 12)).toNatClampNeg q4.1) 0 (((u2 q4.2 234 (3 * (mi 229 12)).toNatClampNeg q4.1) 229 9) - 1)).bind (fun q11 => if inb ((3 * (mi 229 12)) + 1) 30 then if inb ((3 * (mi 229 12)) + 1) 30 then if ((u2 q11.2 234 ((3 * (mi 229 12)) + 1).toNatClampNeg q11.1) 234 ((3 * (mi 229 12)) + 1).toNatClampNeg) = (-1) then (if inb ((3 * (mi 229 12)) + 2) 30 then nx (u2 (u2 (u2 q11.2 234 ((3 * (mi 229 12)) + 1).toNatClampNeg q11.1) 234 ((3 * (mi 229 12)) + 2).toNatClampNeg (-1)) 229 12 (((u2 (u2 q11.2 234 ((3 * (mi 229 12)) + 1).toNatClampNeg q11.1) 234 ((3 * (mi 229 12)) + 2).toNatClampNeg (-1)) 229 12) + 1)) (fun mi31 => if inb ((3 * (mi 229 12)) + 2) 30 then if (mi31 234 ((3 * (mi 229 12)) + 2).toNatClampNeg) = (-1) then (some (0, mi31)) else ((f_X8_readsSign mi31 59).bind (fun q37 => if q37.1 = 0 then (some (0, q37.2)) else (some (1, q37.2)))) else none) else none) else ((f_X8_readsNumber (u2 q11.2 234 ((3 * (mi 229 12)) + 1).toNatClampNeg q11.1) 0 9).bind (fun q18 => if inb ((3 * (mi 229 12)) + 2) 30 then nx (u2 (u2 q18.2 234 ((3 * (mi 229 12)) + 2).toNatClampNeg q18.1) 229 12 (((u2 q18.2 234 ((3 * (mi 229 12)) + 2).toNatClampNeg q18.1) 229 12) + 1)) (fun mi21 => if inb ((3 * (mi 229 12)) + 2) 30 then if (mi21 234 ((3 * (mi 229 12)) + 2).toNatClampNeg) = (-1) then (some (0, mi21)) else ((f_X8_readsSign mi21 59).bind (fun q27 => if q27.1 = 0 then (some (0, q27.2)) else (some (1, q27.2)))) else none) else none)) else none else none)) else none else none)
set_option maxRecDepth 20000 in
set_option maxHeartbeats 4000000 in
theorem c_X8_readsWant {g : Gm} {V : Vw} {mi : Mi} {ml : Ml} (hM : LayM V) {r : Int32 × Mi} (h : f_X8_readsWant mi = some r) : DoI g YX8_readsWant V [rf g 229] mi ml (r.1) (r.2) ml := by
  unfold f_X8_readsWant at h
  refine does_of (L := [some (rf g 229), none]) okX8_readsWant rfl (Nat.le_of_ble_eq_true rfl) rfl ?_
  show At g YX8_readsWant _ (qm g YX8_readsWant (pI V (r.1) (r.2) ml)) V (0, 0) 0 _ [] mi ml
  refine a_const iX8_readsWant_0 <| a_aload iX8_readsWant_1 rfl <| a_geti iX8_readsWant_2 (lm_s229 hM) rfl <| a_imul iX8_readsWant_5 <| a_istore iX8_readsWant_6 (by decide) rfl <| a_aload iX8_readsWant_7 rfl <| a_getr iX8_readsWant_8 (lm_s229 hM) rfl (lm_r229_16 hM) <| a_iload iX8_readsWant_11 rfl <| ?_
  refine a_aload iX8_readsWant_12 rfl <| a_const iX8_readsWant_13 <| a_const iX8_readsWant_14 <| ?_
  obtain ⟨⟨r1, mi2⟩, he3, h⟩ := ob h
  refine a_cVi iX8_readsWant_15 okX8_readsNumber inX8_readsNumber ⟨rfl, rfl⟩ (lm_s229 hM) (c_X8_readsNumber hM he3) rfl rfl (Nat.le_of_ble_eq_true rfl) ⟨Nat.le_refl 0, Nat.le_refl 0⟩ <| ?_
  obtain ⟨hg5, h⟩ := og h
  refine a_iast iX8_readsWant_18 (lm_s234 hM) (inb_vp hg5) <| a_aload iX8_readsWant_19 rfl <| a_getr iX8_readsWant_20 (lm_s229 hM) rfl (lm_r229_16 hM) <| a_iload iX8_readsWant_23 rfl <| a_const iX8_readsWant_24 <| a_iadd iX8_readsWant_25 <| a_aload iX8_readsWant_26 rfl <| a_getr iX8_readsWant_27 (lm_s229 hM) rfl (lm_r229_16 hM) <| ?_
  refine a_iload iX8_readsWant_30 rfl <| ?_
  obtain ⟨hg6, h⟩ := og h
  refine a_iald iX8_readsWant_31 (lm_s234 hM) (inb_vp hg6) <| a_const iX8_readsWant_32 <| ?_
  refine a_icmp_ne iX8_readsWant_33 (fun hc7 => ?_) (fun hc7 => ?_)
  · have h := oe hc7 h
    refine a_aload iX8_readsWant_40 rfl <| a_const iX8_readsWant_41 <| a_aload iX8_readsWant_42 rfl <| a_geti iX8_readsWant_43 (lm_s229 hM) rfl <| a_const iX8_readsWant_46 <| a_isub iX8_readsWant_47 <| ?_
    obtain ⟨⟨r8, mi9⟩, he10, h⟩ := ob h
    refine a_cVi iX8_readsWant_48 okX8_readsNumber inX8_readsNumber ⟨rfl, rfl⟩ (lm_s229 hM) (c_X8_readsNumber hM he10) rfl rfl (Nat.le_of_ble_eq_true rfl) ⟨Nat.le_refl 0, Nat.le_refl 0⟩ <| ?_
    obtain ⟨hg12, h⟩ := og h
    refine a_iast iX8_readsWant_51 (lm_s234 hM) (inb_vp hg12) <| a_aload iX8_readsWant_52 rfl <| a_getr iX8_readsWant_53 (lm_s229 hM) rfl (lm_r229_16 hM) <| a_iload iX8_readsWant_56 rfl <| a_const iX8_readsWant_57 <| a_iadd iX8_readsWant_58 <| a_aload iX8_readsWant_59 rfl <| a_getr iX8_readsWant_60 (lm_s229 hM) rfl (lm_r229_16 hM) <| ?_
    refine a_iload iX8_readsWant_63 rfl <| a_const iX8_readsWant_64 <| a_iadd iX8_readsWant_65 <| ?_
    obtain ⟨hg13, h⟩ := og h
    refine a_iald iX8_readsWant_66 (lm_s234 hM) (inb_vp hg13) <| a_const iX8_readsWant_67 <| ?_
    refine a_icmp_ne iX8_readsWant_68 (fun hc14 => ?_) (fun hc14 => ?_)
    · have h := oe hc14 h
      refine a_aload iX8_readsWant_75 rfl <| a_const iX8_readsWant_76 <| a_const iX8_readsWant_77 <| ?_
      obtain ⟨⟨r15, mi16⟩, he17, h⟩ := ob h
      refine a_cVi iX8_readsWant_79 okX8_readsNumber inX8_readsNumber ⟨rfl, rfl⟩ (lm_s229 hM) (c_X8_readsNumber hM he17) rfl rfl (Nat.le_of_ble_eq_true rfl) ⟨Nat.le_refl 0, Nat.le_refl 0⟩ <| ?_
      obtain ⟨hg19, h⟩ := og h
      refine a_iast iX8_readsWant_82 (lm_s234 hM) (inb_vp hg19) <| a_aload iX8_readsWant_83 rfl <| a_dup iX8_readsWant_84 rfl <| a_geti iX8_readsWant_85 (lm_s229 hM) rfl <| a_const iX8_readsWant_88 <| a_iadd iX8_readsWant_89 <| a_puti iX8_readsWant_90 (lm_s229 hM) rfl rfl rfl <| ?_
      obtain ⟨mi21, hm20, h⟩ := onx h
      refine a_mem hm20 <| a_aload iX8_readsWant_93 rfl <| a_getr iX8_readsWant_94 (lm_s229 hM) rfl (lm_r229_16 hM) <| a_iload iX8_readsWant_97 rfl <| a_const iX8_readsWant_98 <| a_iadd iX8_readsWant_99 <| ?_
      obtain ⟨hg22, h⟩ := og h
      refine a_iald iX8_readsWant_100 (lm_s234 hM) (inb_vp hg22) <| a_const iX8_readsWant_101 <| ?_
      refine a_icmp_eq iX8_readsWant_102 (fun hc23 => ?_) (fun hc23 => ?_)
      · have h := ot hc23 h
        refine a_const iX8_readsWant_118 <| ?_
        obtain rfl := Option.some.inj h
        exact a_zret iX8_readsWant_119 rfl rfl ⟨Nat.le_refl 0, Nat.le_refl 0⟩ ⟨rfl, rfl, rfl, rfl⟩
      · have h := oe hc23 h
        refine a_aload iX8_readsWant_105 rfl <| a_const iX8_readsWant_106 <| ?_
        obtain ⟨⟨r24, mi25⟩, he26, h⟩ := ob h
        refine a_cVi iX8_readsWant_108 okX8_readsSign inX8_readsSign ⟨rfl, rfl⟩ (lm_s229 hM) (c_X8_readsSign hM he26) rfl rfl (Nat.le_of_ble_eq_true rfl) ⟨Nat.le_refl 0, Nat.le_refl 0⟩ <| ?_
        refine a_if_eq iX8_readsWant_111 (fun hc28 => ?_) (fun hc28 => ?_)
        · have h := ot hc28 h
          refine a_const iX8_readsWant_118 <| ?_
          obtain rfl := Option.some.inj h
          exact a_zret iX8_readsWant_119 rfl rfl ⟨Nat.le_refl 0, Nat.le_refl 0⟩ ⟨rfl, rfl, rfl, rfl⟩
        · have h := oe hc28 h
          refine a_const iX8_readsWant_114 <| a_goto iX8_readsWant_115 <| ?_
          obtain rfl := Option.some.inj h
          exact a_zret iX8_readsWant_119 rfl rfl ⟨Nat.le_refl 0, Nat.le_refl 0⟩ ⟨rfl, rfl, rfl, rfl⟩
    · have h := ot hc14 h
      refine a_const iX8_readsWant_71 <| a_goto iX8_readsWant_72 <| ?_
      obtain ⟨hg29, h⟩ := og h
      refine a_iast iX8_readsWant_82 (lm_s234 hM) (inb_vp hg29) <| a_aload iX8_readsWant_83 rfl <| a_dup iX8_readsWant_84 rfl <| a_geti iX8_readsWant_85 (lm_s229 hM) rfl <| a_const iX8_readsWant_88 <| a_iadd iX8_readsWant_89 <| a_puti iX8_readsWant_90 (lm_s229 hM) rfl rfl rfl <| ?_
      obtain ⟨mi31, hm30, h⟩ := onx h
      refine a_mem hm30 <| a_aload iX8_readsWant_93 rfl <| a_getr iX8_readsWant_94 (lm_s229 hM) rfl (lm_r229_16 hM) <| a_iload iX8_readsWant_97 rfl <| a_const iX8_readsWant_98 <| a_iadd iX8_readsWant_99 <| ?_
      obtain ⟨hg32, h⟩ := og h
      refine a_iald iX8_readsWant_100 (lm_s234 hM) (inb_vp hg32) <| a_const iX8_readsWant_101 <| ?_
      refine a_icmp_eq iX8_readsWant_102 (fun hc33 => ?_) (fun hc33 => ?_)
      · have h := ot hc33 h
        refine a_const iX8_readsWant_118 <| ?_
        obtain rfl := Option.some.inj h
        exact a_zret iX8_readsWant_119 rfl rfl ⟨Nat.le_refl 0, Nat.le_refl 0⟩ ⟨rfl, rfl, rfl, rfl⟩
      · have h := oe hc33 h
        refine a_aload iX8_readsWant_105 rfl <| a_const iX8_readsWant_106 <| ?_
        obtain ⟨⟨r34, mi35⟩, he36, h⟩ := ob h
        refine a_cVi iX8_readsWant_108 okX8_readsSign inX8_readsSign ⟨rfl, rfl⟩ (lm_s229 hM) (c_X8_readsSign hM he36) rfl rfl (Nat.le_of_ble_eq_true rfl) ⟨Nat.le_refl 0, Nat.le_refl 0⟩ <| ?_
        refine a_if_eq iX8_readsWant_111 (fun hc38 => ?_) (fun hc38 => ?_)
        · have h := ot hc38 h
          refine a_const iX8_readsWant_118 <| ?_
          obtain rfl := Option.some.inj h
          exact a_zret iX8_readsWant_119 rfl rfl ⟨Nat.le_refl 0, Nat.le_refl 0⟩ ⟨rfl, rfl, rfl, rfl⟩
        · have h := oe hc38 h
          refine a_const iX8_readsWant_114 <| a_goto iX8_readsWant_115 <| ?_
          obtain rfl := Option.some.inj h
          exact a_zret iX8_readsWant_119 rfl rfl ⟨Nat.le_refl 0, Nat.le_refl 0⟩ ⟨rfl, rfl, rfl, rfl⟩
  · have h := ot hc7 h
    refine a_const iX8_readsWant_36 <| a_goto iX8_readsWant_37 <| ?_
    obtain ⟨hg39, h⟩ := og h
    refine a_iast iX8_readsWant_51 (lm_s234 hM) (inb_vp hg39) <| a_aload iX8_readsWant_52 rfl <| a_getr iX8_readsWant_53 (lm_s229 hM) rfl (lm_r229_16 hM) <| a_iload iX8_readsWant_56 rfl <| a_const iX8_readsWant_57 <| a_iadd iX8_readsWant_58 <| a_aload iX8_readsWant_59 rfl <| a_getr iX8_readsWant_60 (lm_s229 hM) rfl (lm_r229_16 hM) <| ?_
    refine a_iload iX8_readsWant_63 rfl <| a_const iX8_readsWant_64 <| a_iadd iX8_readsWant_65 <| ?_
    obtain ⟨hg40, h⟩ := og h
    refine a_iald iX8_readsWant_66 (lm_s234 hM) (inb_vp hg40) <| a_const iX8_readsWant_67 <| ?_
    refine a_icmp_ne iX8_readsWant_68 (fun hc41 => ?_) (fun hc41 => ?_)
    · have h := oe hc41 h
      refine a_aload iX8_readsWant_75 rfl <| a_const iX8_readsWant_76 <| a_const iX8_readsWant_77 <| ?_
      obtain ⟨⟨r42, mi43⟩, he44, h⟩ := ob h
      refine a_cVi iX8_readsWant_79 okX8_readsNumber inX8_readsNumber ⟨rfl, rfl⟩ (lm_s229 hM) (c_X8_readsNumber hM he44) rfl rfl (Nat.le_of_ble_eq_true rfl) ⟨Nat.le_refl 0, Nat.le_refl 0⟩ <| ?_
      obtain ⟨hg46, h⟩ := og h
      refine a_iast iX8_readsWant_82 (lm_s234 hM) (inb_vp hg46) <| a_aload iX8_readsWant_83 rfl <| a_dup iX8_readsWant_84 rfl <| a_geti iX8_readsWant_85 (lm_s229 hM) rfl <| a_const iX8_readsWant_88 <| a_iadd iX8_readsWant_89 <| a_puti iX8_readsWant_90 (lm_s229 hM) rfl rfl rfl <| ?_
      obtain ⟨mi48, hm47, h⟩ := onx h
      refine a_mem hm47 <| a_aload iX8_readsWant_93 rfl <| a_getr iX8_readsWant_94 (lm_s229 hM) rfl (lm_r229_16 hM) <| a_iload iX8_readsWant_97 rfl <| a_const iX8_readsWant_98 <| a_iadd iX8_readsWant_99 <| ?_
      obtain ⟨hg49, h⟩ := og h
      refine a_iald iX8_readsWant_100 (lm_s234 hM) (inb_vp hg49) <| a_const iX8_readsWant_101 <| ?_
      refine a_icmp_eq iX8_readsWant_102 (fun hc50 => ?_) (fun hc50 => ?_)
      · have h := ot hc50 h
        refine a_const iX8_readsWant_118 <| ?_
        obtain rfl := Option.some.inj h
        exact a_zret iX8_readsWant_119 rfl rfl ⟨Nat.le_refl 0, Nat.le_refl 0⟩ ⟨rfl, rfl, rfl, rfl⟩
      · have h := oe hc50 h
        refine a_aload iX8_readsWant_105 rfl <| a_const iX8_readsWant_106 <| ?_
        obtain ⟨⟨r51, mi52⟩, he53, h⟩ := ob h
        refine a_cVi iX8_readsWant_108 okX8_readsSign inX8_readsSign ⟨rfl, rfl⟩ (lm_s229 hM) (c_X8_readsSign hM he53) rfl rfl (Nat.le_of_ble_eq_true rfl) ⟨Nat.le_refl 0, Nat.le_refl 0⟩ <| ?_
        refine a_if_eq iX8_readsWant_111 (fun hc55 => ?_) (fun hc55 => ?_)
        · have h := ot hc55 h
          refine a_const iX8_readsWant_118 <| ?_
          obtain rfl := Option.some.inj h
          exact a_zret iX8_readsWant_119 rfl rfl ⟨Nat.le_refl 0, Nat.le_refl 0⟩ ⟨rfl, rfl, rfl, rfl⟩
        · have h := oe hc55 h
          refine a_const iX8_readsWant_114 <| a_goto iX8_readsWant_115 <| ?_
          obtain rfl := Option.some.inj h
          exact a_zret iX8_readsWant_119 rfl rfl ⟨Nat.le_refl 0, Nat.le_refl 0⟩ ⟨rfl, rfl, rfl, rfl⟩
    · have h := ot hc41 h
      refine a_const iX8_readsWant_71 <| a_goto iX8_readsWant_72 <| ?_
      obtain ⟨hg56, h⟩ := og h
      refine a_iast iX8_readsWant_82 (lm_s234 hM) (inb_vp hg56) <| ?_
      obtain ⟨mi58, hm57, h⟩ := onx h
      refine a_mem hm57 <| a_aload iX8_readsWant_83 rfl <| a_dup iX8_readsWant_84 rfl <| a_geti iX8_readsWant_85 (lm_s229 hM) rfl <| a_const iX8_readsWant_88 <| a_iadd iX8_readsWant_89 <| a_puti iX8_readsWant_90 (lm_s229 hM) rfl rfl rfl <| a_aload iX8_readsWant_93 rfl <| ?_
      refine a_getr iX8_readsWant_94 (lm_s229 hM) rfl (lm_r229_16 hM) <| a_iload iX8_readsWant_97 rfl <| a_const iX8_readsWant_98 <| a_iadd iX8_readsWant_99 <| ?_
      obtain ⟨hg59, h⟩ := og h
      refine a_iald iX8_readsWant_100 (lm_s234 hM) (inb_vp hg59) <| a_const iX8_readsWant_101 <| ?_
      refine a_icmp_eq iX8_readsWant_102 (fun hc60 => ?_) (fun hc60 => ?_)
      · have h := ot hc60 h
        refine a_const iX8_readsWant_118 <| ?_
        obtain rfl := Option.some.inj h
        exact a_zret iX8_readsWant_119 rfl rfl ⟨Nat.le_refl 0, Nat.le_refl 0⟩ ⟨rfl, rfl, rfl, rfl⟩
      · have h := oe hc60 h
        refine a_aload iX8_readsWant_105 rfl <| a_const iX8_readsWant_106 <| ?_
        obtain ⟨⟨r61, mi62⟩, he63, h⟩ := ob h
        refine a_cVi iX8_readsWant_108 okX8_readsSign inX8_readsSign ⟨rfl, rfl⟩ (lm_s229 hM) (c_X8_readsSign hM he63) rfl rfl (Nat.le_of_ble_eq_true rfl) ⟨Nat.le_refl 0, Nat.le_refl 0⟩ <| ?_
        refine a_if_eq iX8_readsWant_111 (fun hc65 => ?_) (fun hc65 => ?_)
        · have h := ot hc65 h
          refine a_const iX8_readsWant_118 <| ?_
          obtain rfl := Option.some.inj h
          exact a_zret iX8_readsWant_119 rfl rfl ⟨Nat.le_refl 0, Nat.le_refl 0⟩ ⟨rfl, rfl, rfl, rfl⟩
        · have h := oe hc65 h
          refine a_const iX8_readsWant_114 <| a_goto iX8_readsWant_115 <| ?_
          obtain rfl := Option.some.inj h
          exact a_zret iX8_readsWant_119 rfl rfl ⟨Nat.le_refl 0, Nat.le_refl 0⟩ ⟨rfl, rfl, rfl, rfl⟩
def f_X8_isAgain (mi : Mi) (x1 : Int32) : Option (Int32) := if x1 = 99 then (some 1) else (if x1 = 108 then (if (mi 229 11) = 6 then (some 1) else (some 0)) else (if x1 = 115 then (if (mi 229 8) ≤ 0 then (some 0) else (some 1)) else (if x1 = 116 then (if (mi 229 9) = 8 then (some 1) else (some 0)) else (if (mi 229 12) = 10 then (some 1) else (some 0)))))
set_option maxRecDepth 20000 in
set_option maxHeartbeats 4000000 in
theorem c_X8_isAgain {g : Gm} {V : Vw} {mi : Mi} {ml : Ml} {x1 : Int32} (hM : LayM V) {r : Int32} (h : f_X8_isAgain mi x1 = some r) : DoI g YX8_isAgain V [rf g 229, .int x1] mi ml r mi ml := by
  unfold f_X8_isAgain at h
  refine does_of (L := [some (rf g 229), some (.int x1)]) okX8_isAgain rfl (Nat.le_of_ble_eq_true rfl) rfl ?_
  show At g YX8_isAgain _ (qm g YX8_isAgain (pI V r mi ml)) V (0, 0) 0 _ [] mi ml
  refine a_iload iX8_isAgain_0 rfl <| ?_
  by_cases hc1 : x1 = 99
  · have h := ot hc1 h
    refine a_lwv (tgt := 44) iX8_isAgain_1 hc1 (by decide) ?_
    refine a_const iX8_isAgain_44 <| ?_
    obtain rfl := Option.some.inj h
    exact a_zret iX8_isAgain_45 rfl rfl ⟨Nat.le_refl 0, Nat.le_refl 0⟩ ⟨rfl, rfl, rfl, rfl⟩
  · have h := oe hc1 h
    by_cases hc2 : x1 = 108
    · have h := ot hc2 h
      refine a_lwv (tgt := 74) iX8_isAgain_1 hc2 (by decide) ?_
      refine a_aload iX8_isAgain_74 rfl <| a_geti iX8_isAgain_75 (lm_s229 hM) rfl <| a_const iX8_isAgain_78 <| ?_
      refine a_icmp_ne iX8_isAgain_80 (fun hc3 => ?_) (fun hc3 => ?_)
      · have h := oe hc3 h
        refine a_const iX8_isAgain_87 <| ?_
        obtain rfl := Option.some.inj h
        exact a_zret iX8_isAgain_88 rfl rfl ⟨Nat.le_refl 0, Nat.le_refl 0⟩ ⟨rfl, rfl, rfl, rfl⟩
      · have h := ot hc3 h
        refine a_const iX8_isAgain_83 <| a_goto iX8_isAgain_84 <| ?_
        obtain rfl := Option.some.inj h
        exact a_zret iX8_isAgain_88 rfl rfl ⟨Nat.le_refl 0, Nat.le_refl 0⟩ ⟨rfl, rfl, rfl, rfl⟩
    · have h := oe hc2 h
      by_cases hc4 : x1 = 115
      · have h := ot hc4 h
        refine a_lwv (tgt := 46) iX8_isAgain_1 hc4 (by decide) ?_
        refine a_aload iX8_isAgain_46 rfl <| a_geti iX8_isAgain_47 (lm_s229 hM) rfl <| ?_
        refine a_if_le iX8_isAgain_50 (fun hc5 => ?_) (fun hc5 => ?_)
        · have h := ot hc5 h
          refine a_const iX8_isAgain_57 <| ?_
          obtain rfl := Option.some.inj h
          exact a_zret iX8_isAgain_58 rfl rfl ⟨Nat.le_refl 0, Nat.le_refl 0⟩ ⟨rfl, rfl, rfl, rfl⟩
        · have h := oe hc5 h
          refine a_const iX8_isAgain_53 <| a_goto iX8_isAgain_54 <| ?_
          obtain rfl := Option.some.inj h
          exact a_zret iX8_isAgain_58 rfl rfl ⟨Nat.le_refl 0, Nat.le_refl 0⟩ ⟨rfl, rfl, rfl, rfl⟩
      · have h := oe hc4 h
        by_cases hc6 : x1 = 116
        · have h := ot hc6 h
          refine a_lwv (tgt := 59) iX8_isAgain_1 hc6 (by decide) ?_
          refine a_aload iX8_isAgain_59 rfl <| a_geti iX8_isAgain_60 (lm_s229 hM) rfl <| a_const iX8_isAgain_63 <| ?_
          refine a_icmp_ne iX8_isAgain_65 (fun hc7 => ?_) (fun hc7 => ?_)
          · have h := oe hc7 h
            refine a_const iX8_isAgain_72 <| ?_
            obtain rfl := Option.some.inj h
            exact a_zret iX8_isAgain_73 rfl rfl ⟨Nat.le_refl 0, Nat.le_refl 0⟩ ⟨rfl, rfl, rfl, rfl⟩
          · have h := ot hc7 h
            refine a_const iX8_isAgain_68 <| a_goto iX8_isAgain_69 <| ?_
            obtain rfl := Option.some.inj h
            exact a_zret iX8_isAgain_73 rfl rfl ⟨Nat.le_refl 0, Nat.le_refl 0⟩ ⟨rfl, rfl, rfl, rfl⟩
        · have h := oe hc6 h
          refine a_lwd iX8_isAgain_1 (lw_all ⟨lw_ne (k := 99) hc1 (by decide), lw_ne (k := 108) hc2 (by decide), lw_ne (k := 115) hc4 (by decide), lw_ne (k := 116) hc6 (by decide), trivial⟩) ?_
          refine a_aload iX8_isAgain_89 rfl <| a_geti iX8_isAgain_90 (lm_s229 hM) rfl <| a_const iX8_isAgain_93 <| ?_
          refine a_icmp_ne iX8_isAgain_95 (fun hc8 => ?_) (fun hc8 => ?_)
          · have h := oe hc8 h
            refine a_const iX8_isAgain_102 <| ?_
            obtain rfl := Option.some.inj h
            exact a_zret iX8_isAgain_103 rfl rfl ⟨Nat.le_refl 0, Nat.le_refl 0⟩ ⟨rfl, rfl, rfl, rfl⟩
          · have h := ot hc8 h
            refine a_const iX8_isAgain_98 <| a_goto iX8_isAgain_99 <| ?_
            obtain rfl := Option.some.inj h
            exact a_zret iX8_isAgain_103 rfl rfl ⟨Nat.le_refl 0, Nat.le_refl 0⟩ ⟨rfl, rfl, rfl, rfl⟩
def f_X8_readsClause (mi : Mi) : Option (Int32 × Mi) := (f_X8_nextLetter mi).bind (fun q4 => if q4.1 = 99 then (if ((u2 q4.2 229 2 ((q4.2 229 2) + 1)) 229 7) = 0 then ((f_X8_readsHead (u2 q4.2 229 2 ((q4.2 229 2) + 1))).bind (fun q390 => if q390.1 = 0 ∨ q390.1 = 1 then some (q390.1, q390.2) else none)) else (if q4.1 = 99 then (if ((u2 q4.2 229 2 ((q4.2 229 2) + 1)) 229 7) = 0 then ((f_X8_fails (u2 q4.2 229 2 ((q4.2 229 2) + 1)) 1 (q4.2 229 2)).bind (fun q233 => some (0, q233.2))) else ((f_X8_isAgain (u2 q4.2 229 2 ((q4.2 229 2) + 1)) q4.1).bind (fun r200 => if r200 = 0 then (if q4.1 = 115 then ((f_X8_readsSeasons (u2 q4.2 229 2 ((q4.2 229 2) + 1))).bind (fun q224 => if q224.1 = 0 ∨ q224.1 = 1 then some (q224.1, q224.2) else none)) else (if q4.1 = 116 then ((f_X8_readsThing (u2 q4.2 229 2 ((q4.2 229 2) + 1))).bind (fun q219 => if q219.1 = 0 ∨ q219.1 = 1 then some (q219.1, q219.2) else none)) else (if q4.1 = 108 then ((f_X8_readsLand (u2 q4.2 229 2 ((q4.2 229 2) + 1))).bind (fun q214 => if q214.1 = 0 ∨ q214.1 = 1 then some (q214.1, q214.2) else none)) else ((f_X8_readsWant (u2 q4.2 229 2 ((q4.2 229 2) + 1))).bind (fun q209 => if q209.1 = 0 ∨ q209.1 = 1 then some (q209.1, q209.2) else none))))) else ((f_X8_fails (u2 q4.2 229 2 ((q4.2 229 2) + 1)) 3 (q4.2 229 2)).bind (fun q229 => some (0, q229.2)))))) else (if q4.1 = 115 then (if ((u2 q4.2 229 2 ((q4.2 229 2) + 1)) 229 7) = 0 then ((f_X8_fails (u2 q4.2 229 2 ((q4.2 229 2) + 1)) 1 (q4.2 229 2)).bind (fun q270 => some (0, q270.2))) else ((f_X8_isAgain (u2 q4.2 229 2 ((q4.2 229 2) + 1)) q4.1).bind (fun r237 => if r237 = 0 then (if q4.1 = 115 then ((f_X8_readsSeasons (u2 q4.2 229 2 ((q4.2 229 2) + 1))).bind (fun q261 => if q261.1 = 0 ∨ q261.1 = 1 then some (q261.1, q261.2) else none)) else (if q4.1 = 116 then ((f_X8_readsThing (u2 q4.2 229 2 ((q4.2 229 2) + 1))).bind (fun q256 => if q256.1 = 0 ∨ q256.1 = 1 then some (q256.1, q256.2) else none)) else (if q4.1 = 108 then ((f_X8_readsLand (u2 q4.2 229 2 ((q4.2 229 2) + 1))).bind (fun q251 => if q251.1 = 0 ∨ q251.1 = 1 then some (q251.1, q251.2) else none)) else ((f_X8_readsWant (u2 q4.2 229 2 ((q4.2 229 2) + 1))).bind (fun q246 => if q246.1 = 0 ∨ q246.1 = 1 then some (q246.1, q246.2) else none))))) else ((f_X8_fails (u2 q4.2 229 2 ((q4.2 229 2) + 1)) 3 (q4.2 229 2)).bind (fun q266 => some (0, q266.2)))))) else (if q4.1 = 116 then (if ((u2 q4.2 229 2 ((q4.2 229 2) + 1)) 229 7) = 0 then ((f_X8_fails (u2 q4.2 229 2 ((q4.2 229 2) + 1)) 1 (q4.2 229 2)).bind (fun q307 => some (0, q307.2))) else ((f_X8_isAgain (u2 q4.2 229 2 ((q4.2 229 2) + 1)) q4.1).bind (fun r274 => if r274 = 0 then (if q4.1 = 115 then ((f_X8_readsSeasons (u2 q4.2 229 2 ((q4.2 229 2) + 1))).bind (fun q298 => if q298.1 = 0 ∨ q298.1 = 1 then some (q298.1, q298.2) else none)) else (if q4.1 = 116 then ((f_X8_readsThing (u2 q4.2 229 2 ((q4.2 229 2) + 1))).bind (fun q293 => if q293.1 = 0 ∨ q293.1 = 1 then some (q293.1, q293.2) else none)) else (if q4.1 = 108 then ((f_X8_readsLand (u2 q4.2 229 2 ((q4.2 229 2) + 1))).bind (fun q288 => if q288.1 = 0 ∨ q288.1 = 1 then some (q288.1, q288.2) else none)) else ((f_X8_readsWant (u2 q4.2 229 2 ((q4.2 229 2) + 1))).bind (fun q283 => if q283.1 = 0 ∨ q283.1 = 1 then some (q283.1, q283.2) else none))))) else ((f_X8_fails (u2 q4.2 229 2 ((q4.2 229 2) + 1)) 3 (q4.2 229 2)).bind (fun q303 => some (0, q303.2)))))) else (if q4.1 = 108 then (if ((u2 q4.2 229 2 ((q4.2 229 2) + 1)) 229 7) = 0 then ((f_X8_fails (u2 q4.2 229 2 ((q4.2 229 2) + 1)) 1 (q4.2 229 2)).bind (fun q344 => some (0, q344.2))) else ((f_X8_isAgain (u2 q4.2 229 2 ((q4.2 229 2) + 1)) q4.1).bind (fun r311 => if r311 = 0 then (if q4.1 = 115 then ((f_X8_readsSeasons (u2 q4.2 229 2 ((q4.2 229 2) + 1))).bind (fun q335 => if q335.1 = 0 ∨ q335.1 = 1 then some (q335.1, q335.2) else none)) else (if q4.1 = 116 then ((f_X8_readsThing (u2 q4.2 229 2 ((q4.2 229 2) + 1))).bind (fun q330 => if q330.1 = 0 ∨ q330.1 = 1 then some (q330.1, q330.2) else none)) else (if q4.1 = 108 then ((f_X8_readsLand (u2 q4.2 229 2 ((q4.2 229 2) + 1))).bind (fun q325 => if q325.1 = 0 ∨ q325.1 = 1 then some (q325.1, q325.2) else none)) else ((f_X8_readsWant (u2 q4.2 229 2 ((q4.2 229 2) + 1))).bind (fun q320 => if q320.1 = 0 ∨ q320.1 = 1 then some (q320.1, q320.2) else none))))) else ((f_X8_fails (u2 q4.2 229 2 ((q4.2 229 2) + 1)) 3 (q4.2 229 2)).bind (fun q340 => some (0, q340.2)))))) else (if q4.1 = 119 then (if ((u2 q4.2 229 2 ((q4.2 229 2) + 1)) 229 7) = 0 then ((f_X8_fails (u2 q4.2 229 2 ((q4.2 229 2) + 1)) 1 (q4.2 229 2)).bind (fun q386 => some (0, q386.2))) else ((f_X8_isAgain (u2 q4.2 229 2 ((q4.2 229 2) + 1)) q4.1).bind (fun r353 => if r353 = 0 then (if q4.1 = 115 then ((f_X8_readsSeasons (u2 q4.2 229 2 ((q4.2 229 2) + 1))).bind (fun q377 => if q377.1 = 0 ∨ q377.1 = 1 then some (q377.1, q377.2) else none)) else (if q4.1 = 116 then ((f_X8_readsThing (u2 q4.2 229 2 ((q4.2 229 2) + 1))).bind (fun q372 => if q372.1 = 0 ∨ q372.1 = 1 then some (q372.1, q372.2) else none)) else (if q4.1 = 108 then ((f_X8_readsLand (u2 q4.2 229 2 ((q4.2 229 2) + 1))).bind (fun q367 => if q367.1 = 0 ∨ q367.1 = 1 then some (q367.1, q367.2) else none)) else ((f_X8_readsWant (u2 q4.2 229 2 ((q4.2 229 2) + 1))).bind (fun q362 => if q362.1 = 0 ∨ q362.1 = 1 then some (q362.1, q362.2) else none))))) else ((f_X8_fails (u2 q4.2 229 2 ((q4.2 229 2) + 1)) 3 (q4.2 229 2)).bind (fun q382 => some (0, q382.2)))))) else ((f_X8_fails (u2 q4.2 229 2 ((q4.2 229 2) + 1)) 1 (q4.2 229 2)).bind (fun q350 => some (0, q350.2))))))))) else (if q4.1 = 99 then (if ((u2 q4.2 229 2 ((q4.2 229 2) + 1)) 229 7) = 0 then ((f_X8_fails (u2 q4.2 229 2 ((q4.2 229 2) + 1)) 1 (q4.2 229 2)).bind (fun q42 => some (0, q42.2))) else ((f_X8_isAgain (u2 q4.2 229 2 ((q4.2 229 2) + 1)) q4.1).bind (fun r9 => if r9 = 0 then (if q4.1 = 115 then ((f_X8_readsSeasons (u2 q4.2 229 2 ((q4.2 229 2) + 1))).bind (fun q33 => if q33.1 = 0 ∨ q33.1 = 1 then some (q33.1, q33.2) else none)) else (if q4.1 = 116 then ((f_X8_readsThing (u2 q4.2 229 2 ((q4.2 229 2) + 1))).bind (fun q28 => if q28.1 = 0 ∨ q28.1 = 1 then some (q28.1, q28.2) else none)) else (if q4.1 = 108 then ((f_X8_readsLand (u2 q4.2 229 2 ((q4.2 229 2) + 1))).bind (fun q23 => if q23.1 = 0 ∨ q23.1 = 1 then some (q23.1, q23.2) else none)) else ((f_X8_readsWant (u2 q4.2 229 2 ((q4.2 229 2) + 1))).bind (fun q18 => if q18.1 = 0 ∨ q18.1 = 1 then some (q18.1, q18.2) else none))))) else ((f_X8_fails (u2 q4.2 229 2 ((q4.2 229 2) + 1)) 3 (q4.2 229 2)).bind (fun q38 => some (0, q38.2)))))) else (if q4.1 = 115 then (if ((u2 q4.2 229 2 ((q4.2 229 2) + 1)) 229 7) = 0 then ((f_X8_fails (u2 q4.2 229 2 ((q4.2 229 2) + 1)) 1 (q4.2 229 2)).bind (fun q79 => some (0, q79.2))) else ((f_X8_isAgain (u2 q4.2 229 2 ((q4.2 229 2) + 1)) q4.1).bind (fun r46 => if r46 = 0 then (if q4.1 = 115 then ((f_X8_readsSeasons (u2 q4.2 229 2 ((q4.2 229 2) + 1))).bind (fun q70 => if q70.1 = 0 ∨ q70.1 = 1 then some (q70.1, q70.2) else none)) else (if q4.1 = 116 then ((f_X8_readsThing (u2 q4.2 229 2 ((q4.2 229 2) + 1))).bind (fun q65 => if q65.1 = 0 ∨ q65.1 = 1 then some (q65.1, q65.2) else none)) else (if q4.1 = 108 then ((f_X8_readsLand (u2 q4.2 229 2 ((q4.2 229 2) + 1))).bind (fun q60 => if q60.1 = 0 ∨ q60.1 = 1 then some (q60.1, q60.2) else none)) else ((f_X8_readsWant (u2 q4.2 229 2 ((q4.2 229 2) + 1))).bind (fun q55 => if q55.1 = 0 ∨ q55.1 = 1 then some (q55.1, q55.2) else none))))) else ((f_X8_fails (u2 q4.2 229 2 ((q4.2 229 2) + 1)) 3 (q4.2 229 2)).bind (fun q75 => some (0, q75.2)))))) else (if q4.1 = 116 then (if ((u2 q4.2 229 2 ((q4.2 229 2) + 1)) 229 7) = 0 then ((f_X8_fails (u2 q4.2 229 2 ((q4.2 229 2) + 1)) 1 (q4.2 229 2)).bind (fun q116 => some (0, q116.2))) else ((f_X8_isAgain (u2 q4.2 229 2 ((q4.2 229 2) + 1)) q4.1).bind (fun r83 => if r83 = 0 then (if q4.1 = 115 then ((f_X8_readsSeasons (u2 q4.2 229 2 ((q4.2 229 2) + 1))).bind (fun q107 => if q107.1 = 0 ∨ q107.1 = 1 then some (q107.1, q107.2) else none)) else (if q4.1 = 116 then ((f_X8_readsThing (u2 q4.2 229 2 ((q4.2 229 2) + 1))).bind (fun q102 => if q102.1 = 0 ∨ q102.1 = 1 then some (q102.1, q102.2) else none)) else (if q4.1 = 108 then ((f_X8_readsLand (u2 q4.2 229 2 ((q4.2 229 2) + 1))).bind (fun q97 => if q97.1 = 0 ∨ q97.1 = 1 then some (q97.1, q97.2) else none)) else ((f_X8_readsWant (u2 q4.2 229 2 ((q4.2 229 2) + 1))).bind (fun q92 => if q92.1 = 0 ∨ q92.1 = 1 then some (q92.1, q92.2) else none))))) else ((f_X8_fails (u2 q4.2 229 2 ((q4.2 229 2) + 1)) 3 (q4.2 229 2)).bind (fun q112 => some (0, q112.2)))))) else (if q4.1 = 108 then (if ((u2 q4.2 229 2 ((q4.2 229 2) + 1)) 229 7) = 0 then ((f_X8_fails (u2 q4.2 229 2 ((q4.2 229 2) + 1)) 1 (q4.2 229 2)).bind (fun q153 => some (0, q153.2))) else ((f_X8_isAgain (u2 q4.2 229 2 ((q4.2 229 2) + 1)) q4.1).bind (fun r120 => if r120 = 0 then (if q4.1 = 115 then ((f_X8_readsSeasons (u2 q4.2 229 2 ((q4.2 229 2) + 1))).bind (fun q144 => if q144.1 = 0 ∨ q144.1 = 1 then some (q144.1, q144.2) else none)) else (if q4.1 = 116 then ((f_X8_readsThing (u2 q4.2 229 2 ((q4.2 229 2) + 1))).bind (fun q139 => if q139.1 = 0 ∨ q139.1 = 1 then some (q139.1, q139.2) else none)) else (if q4.1 = 108 then ((f_X8_readsLand (u2 q4.2 229 2 ((q4.2 229 2) + 1))).bind (fun q134 => if q134.1 = 0 ∨ q134.1 = 1 then some (q134.1, q134.2) else none)) else ((f_X8_readsWant (u2 q4.2 229 2 ((q4.2 229 2) + 1))).bind (fun q129 => if q129.1 = 0 ∨ q129.1 = 1 then some (q129.1, q129.2) else none))))) else ((f_X8_fails (u2 q4.2 229 2 ((q4.2 229 2) + 1)) 3 (q4.2 229 2)).bind (fun q149 => some (0, q149.2)))))) else (if q4.1 = 119 then (if ((u2 q4.2 229 2 ((q4.2 229 2) + 1)) 229 7) = 0 then ((f_X8_fails (u2 q4.2 229 2 ((q4.2 229 2) + 1)) 1 (q4.2 229 2)).bind (fun q195 => some (0, q195.2))) else ((f_X8_isAgain (u2 q4.2 229 2 ((q4.2 229 2) + 1)) q4.1).bind (fun r162 => if r162 = 0 then (if q4.1 = 115 then ((f_X8_readsSeasons (u2 q4.2 229 2 ((q4.2 229 2) + 1))).bind (fun q186 => if q186.1 = 0 ∨ q186.1 = 1 then some (q186.1, q186.2) else none)) else (if q4.1 = 116 then ((f_X8_readsThing (u2 q4.2 229 2 ((q4.2 229 2) + 1))).bind (fun q181 => if q181.1 = 0 ∨ q181.1 = 1 then some (q181.1, q181.2) else none)) else (if q4.1 = 108 then ((f_X8_readsLand (u2 q4.2 229 2 ((q4.2 229 2) + 1))).bind (fun q176 => if q176.1 = 0 ∨ q176.1 = 1 then some (q176.1, q176.2) else none)) else ((f_X8_readsWant (u2 q4.2 229 2 ((q4.2 229 2) + 1))).bind (fun q171 => if q171.1 = 0 ∨ q171.1 = 1 then some (q171.1, q171.2) else none))))) else ((f_X8_fails (u2 q4.2 229 2 ((q4.2 229 2) + 1)) 3 (q4.2 229 2)).bind (fun q191 => some (0, q191.2)))))) else ((f_X8_fails (u2 q4.2 229 2 ((q4.2 229 2) + 1)) 1 (q4.2 229 2)).bind (fun q159 => some (0, q159.2)))))))))
set_option maxRecDepth 20000 in
set_option maxHeartbeats 4000000 in
theorem c_X8_readsClause {g : Gm} {V : Vw} {mi : Mi} {ml : Ml} (hM : LayM V) {r : Int32 × Mi} (h : f_X8_readsClause mi = some r) : DoI g YX8_readsClause V [rf g 229] mi ml (r.1) (r.2) ml := by
  unfold f_X8_readsClause at h
  refine does_of (L := [some (rf g 229), none, none, none]) okX8_readsClause rfl (Nat.le_of_ble_eq_true rfl) rfl ?_
  show At g YX8_readsClause _ (qm g YX8_readsClause (pI V (r.1) (r.2) ml)) V (0, 0) 0 _ [] mi ml
  refine a_aload iX8_readsClause_0 rfl <| ?_
  obtain ⟨⟨r1, mi2⟩, he3, h⟩ := ob h
  refine a_cVi iX8_readsClause_1 okX8_nextLetter inX8_nextLetter ⟨rfl, rfl⟩ (lm_s229 hM) (c_X8_nextLetter hM he3) rfl rfl (Nat.le_of_ble_eq_true rfl) ⟨Nat.le_refl 0, Nat.le_refl 0⟩ <| a_istore iX8_readsClause_4 (by decide) rfl <| a_aload iX8_readsClause_5 rfl <| a_geti iX8_readsClause_6 (lm_s229 hM) rfl <| a_istore iX8_readsClause_9 (by decide) rfl <| a_aload iX8_readsClause_10 rfl <| a_dup iX8_readsClause_11 rfl <| a_geti iX8_readsClause_12 (lm_s229 hM) rfl <| ?_
  refine a_const iX8_readsClause_15 <| a_iadd iX8_readsClause_16 <| a_puti iX8_readsClause_17 (lm_s229 hM) rfl rfl rfl <| a_iload iX8_readsClause_20 rfl <| a_const iX8_readsClause_21 <| ?_
  refine a_icmp_ne iX8_readsClause_23 (fun hc5 => ?_) (fun hc5 => ?_)
  · have h := oe hc5 h
    refine a_iload iX8_readsClause_38 rfl <| a_const iX8_readsClause_39 <| ?_
    refine a_icmp_eq iX8_readsClause_41 (fun hc6 => ?_) (fun hc6 => ?_)
    · have h := ot hc6 h
      refine a_const iX8_readsClause_68 <| a_goto iX8_readsClause_69 <| a_istore iX8_readsClause_73 (by decide) rfl <| a_iload iX8_readsClause_74 rfl <| ?_
      refine a_if_eq iX8_readsClause_75 (fun hc7 => absurd hc7 (by decide)) (fun hc7 => ?_)
      refine a_aload iX8_readsClause_78 rfl <| a_geti iX8_readsClause_79 (lm_s229 hM) rfl <| ?_
      refine a_if_ne iX8_readsClause_82 (fun hc8 => ?_) (fun hc8 => ?_)
      · have h := oe hc8 h
        refine a_aload iX8_readsClause_94 rfl <| a_iload iX8_readsClause_95 rfl <| ?_
        obtain ⟨r9, he10, h⟩ := ob h
        refine a_cVi iX8_readsClause_96 okX8_isAgain inX8_isAgain ⟨rfl, rfl⟩ (lm_s229 hM) (c_X8_isAgain hM he10) rfl rfl (Nat.le_of_ble_eq_true rfl) ⟨Nat.le_refl 0, Nat.le_refl 0⟩ <| ?_
        refine a_if_eq iX8_readsClause_99 (fun hc11 => ?_) (fun hc11 => ?_)
        · have h := ot hc11 h
          refine a_iload iX8_readsClause_111 rfl <| a_const iX8_readsClause_112 <| ?_
          refine a_icmp_ne iX8_readsClause_114 (fun hc12 => ?_) (fun hc12 => ?_)
          · have h := oe hc12 h
            refine a_iload iX8_readsClause_124 rfl <| a_const iX8_readsClause_125 <| ?_
            refine a_icmp_ne iX8_readsClause_127 (fun hc13 => ?_) (fun hc13 => ?_)
            · have h := oe hc13 h
              refine a_iload iX8_readsClause_137 rfl <| a_const iX8_readsClause_138 <| ?_
              refine a_icmp_ne iX8_readsClause_140 (fun hc14 => ?_) (fun hc14 => ?_)
              · have h := oe hc14 h
                refine a_aload iX8_readsClause_150 rfl <| ?_
                obtain ⟨⟨r15, mi16⟩, he17, h⟩ := ob h
                refine a_cVi iX8_readsClause_151 okX8_readsWant inX8_readsWant ⟨rfl, rfl⟩ (lm_s229 hM) (c_X8_readsWant hM he17) rfl rfl (Nat.le_of_ble_eq_true rfl) ⟨Nat.le_refl 0, Nat.le_refl 0⟩ <| ?_
                obtain ⟨hz19, h⟩ := og h
                obtain rfl := Option.some.inj h
                exact a_zret iX8_readsClause_154 rfl (nb01 hz19) ⟨Nat.le_refl 0, Nat.le_refl 0⟩ ⟨rfl, rfl, rfl, rfl⟩
              · have h := ot hc14 h
                refine a_aload iX8_readsClause_143 rfl <| ?_
                obtain ⟨⟨r20, mi21⟩, he22, h⟩ := ob h
                refine a_cVi iX8_readsClause_144 okX8_readsLand inX8_readsLand ⟨rfl, rfl⟩ (lm_s229 hM) (c_X8_readsLand hM he22) rfl rfl (Nat.le_of_ble_eq_true rfl) ⟨Nat.le_refl 0, Nat.le_refl 0⟩ <| a_goto iX8_readsClause_147 <| ?_
                obtain ⟨hz24, h⟩ := og h
                obtain rfl := Option.some.inj h
                exact a_zret iX8_readsClause_154 rfl (nb01 hz24) ⟨Nat.le_refl 0, Nat.le_refl 0⟩ ⟨rfl, rfl, rfl, rfl⟩
            · have h := ot hc13 h
              refine a_aload iX8_readsClause_130 rfl <| ?_
              obtain ⟨⟨r25, mi26⟩, he27, h⟩ := ob h
              refine a_cVi iX8_readsClause_131 okX8_readsThing inX8_readsThing ⟨rfl, rfl⟩ (lm_s229 hM) (c_X8_readsThing hM he27) rfl rfl (Nat.le_of_ble_eq_true rfl) ⟨Nat.le_refl 0, Nat.le_refl 0⟩ <| a_goto iX8_readsClause_134 <| ?_
              obtain ⟨hz29, h⟩ := og h
              obtain rfl := Option.some.inj h
              exact a_zret iX8_readsClause_154 rfl (nb01 hz29) ⟨Nat.le_refl 0, Nat.le_refl 0⟩ ⟨rfl, rfl, rfl, rfl⟩
          · have h := ot hc12 h
            refine a_aload iX8_readsClause_117 rfl <| ?_
            obtain ⟨⟨r30, mi31⟩, he32, h⟩ := ob h
            refine a_cVi iX8_readsClause_118 okX8_readsSeasons inX8_readsSeasons ⟨rfl, rfl⟩ (lm_s229 hM) (c_X8_readsSeasons hM he32) rfl rfl (Nat.le_of_ble_eq_true rfl) ⟨Nat.le_refl 0, Nat.le_refl 0⟩ <| a_goto iX8_readsClause_121 <| ?_
            obtain ⟨hz34, h⟩ := og h
            obtain rfl := Option.some.inj h
            exact a_zret iX8_readsClause_154 rfl (nb01 hz34) ⟨Nat.le_refl 0, Nat.le_refl 0⟩ ⟨rfl, rfl, rfl, rfl⟩
        · have h := oe hc11 h
          refine a_aload iX8_readsClause_102 rfl <| a_const iX8_readsClause_103 <| a_iload iX8_readsClause_104 rfl <| ?_
          obtain ⟨⟨r35, mi36⟩, he37, h⟩ := ob h
          refine a_cVi iX8_readsClause_105 okX8_fails inX8_fails ⟨rfl, rfl⟩ (lm_s229 hM) (c_X8_fails hM he37) rfl rfl (Nat.le_of_ble_eq_true rfl) ⟨Nat.le_refl 0, Nat.le_refl 0⟩ <| a_pop iX8_readsClause_108 rfl <| a_const iX8_readsClause_109 <| ?_
          obtain rfl := Option.some.inj h
          exact a_zret iX8_readsClause_110 rfl rfl ⟨Nat.le_refl 0, Nat.le_refl 0⟩ ⟨rfl, rfl, rfl, rfl⟩
      · have h := ot hc8 h
        refine a_aload iX8_readsClause_85 rfl <| a_const iX8_readsClause_86 <| a_iload iX8_readsClause_87 rfl <| ?_
        obtain ⟨⟨r39, mi40⟩, he41, h⟩ := ob h
        refine a_cVi iX8_readsClause_88 okX8_fails inX8_fails ⟨rfl, rfl⟩ (lm_s229 hM) (c_X8_fails hM he41) rfl rfl (Nat.le_of_ble_eq_true rfl) ⟨Nat.le_refl 0, Nat.le_refl 0⟩ <| a_pop iX8_readsClause_91 rfl <| a_const iX8_readsClause_92 <| ?_
        obtain rfl := Option.some.inj h
        exact a_zret iX8_readsClause_93 rfl rfl ⟨Nat.le_refl 0, Nat.le_refl 0⟩ ⟨rfl, rfl, rfl, rfl⟩
    · have h := oe hc6 h
      refine a_iload iX8_readsClause_44 rfl <| a_const iX8_readsClause_45 <| ?_
      refine a_icmp_eq iX8_readsClause_47 (fun hc43 => ?_) (fun hc43 => ?_)
      · have h := ot hc43 h
        refine a_const iX8_readsClause_68 <| a_goto iX8_readsClause_69 <| a_istore iX8_readsClause_73 (by decide) rfl <| a_iload iX8_readsClause_74 rfl <| ?_
        refine a_if_eq iX8_readsClause_75 (fun hc44 => absurd hc44 (by decide)) (fun hc44 => ?_)
        refine a_aload iX8_readsClause_78 rfl <| a_geti iX8_readsClause_79 (lm_s229 hM) rfl <| ?_
        refine a_if_ne iX8_readsClause_82 (fun hc45 => ?_) (fun hc45 => ?_)
        · have h := oe hc45 h
          refine a_aload iX8_readsClause_94 rfl <| a_iload iX8_readsClause_95 rfl <| ?_
          obtain ⟨r46, he47, h⟩ := ob h
          refine a_cVi iX8_readsClause_96 okX8_isAgain inX8_isAgain ⟨rfl, rfl⟩ (lm_s229 hM) (c_X8_isAgain hM he47) rfl rfl (Nat.le_of_ble_eq_true rfl) ⟨Nat.le_refl 0, Nat.le_refl 0⟩ <| ?_
          refine a_if_eq iX8_readsClause_99 (fun hc48 => ?_) (fun hc48 => ?_)
          · have h := ot hc48 h
            refine a_iload iX8_readsClause_111 rfl <| a_const iX8_readsClause_112 <| ?_
            refine a_icmp_ne iX8_readsClause_114 (fun hc49 => ?_) (fun hc49 => ?_)
            · have h := oe hc49 h
              refine a_iload iX8_readsClause_124 rfl <| a_const iX8_readsClause_125 <| ?_
              refine a_icmp_ne iX8_readsClause_127 (fun hc50 => ?_) (fun hc50 => ?_)
              · have h := oe hc50 h
                refine a_iload iX8_readsClause_137 rfl <| a_const iX8_readsClause_138 <| ?_
                refine a_icmp_ne iX8_readsClause_140 (fun hc51 => ?_) (fun hc51 => ?_)
                · have h := oe hc51 h
                  refine a_aload iX8_readsClause_150 rfl <| ?_
                  obtain ⟨⟨r52, mi53⟩, he54, h⟩ := ob h
                  refine a_cVi iX8_readsClause_151 okX8_readsWant inX8_readsWant ⟨rfl, rfl⟩ (lm_s229 hM) (c_X8_readsWant hM he54) rfl rfl (Nat.le_of_ble_eq_true rfl) ⟨Nat.le_refl 0, Nat.le_refl 0⟩ <| ?_
                  obtain ⟨hz56, h⟩ := og h
                  obtain rfl := Option.some.inj h
                  exact a_zret iX8_readsClause_154 rfl (nb01 hz56) ⟨Nat.le_refl 0, Nat.le_refl 0⟩ ⟨rfl, rfl, rfl, rfl⟩
                · have h := ot hc51 h
                  refine a_aload iX8_readsClause_143 rfl <| ?_
                  obtain ⟨⟨r57, mi58⟩, he59, h⟩ := ob h
                  refine a_cVi iX8_readsClause_144 okX8_readsLand inX8_readsLand ⟨rfl, rfl⟩ (lm_s229 hM) (c_X8_readsLand hM he59) rfl rfl (Nat.le_of_ble_eq_true rfl) ⟨Nat.le_refl 0, Nat.le_refl 0⟩ <| a_goto iX8_readsClause_147 <| ?_
                  obtain ⟨hz61, h⟩ := og h
                  obtain rfl := Option.some.inj h
                  exact a_zret iX8_readsClause_154 rfl (nb01 hz61) ⟨Nat.le_refl 0, Nat.le_refl 0⟩ ⟨rfl, rfl, rfl, rfl⟩
              · have h := ot hc50 h
                refine a_aload iX8_readsClause_130 rfl <| ?_
                obtain ⟨⟨r62, mi63⟩, he64, h⟩ := ob h
                refine a_cVi iX8_readsClause_131 okX8_readsThing inX8_readsThing ⟨rfl, rfl⟩ (lm_s229 hM) (c_X8_readsThing hM he64) rfl rfl (Nat.le_of_ble_eq_true rfl) ⟨Nat.le_refl 0, Nat.le_refl 0⟩ <| a_goto iX8_readsClause_134 <| ?_
                obtain ⟨hz66, h⟩ := og h
                obtain rfl := Option.some.inj h
                exact a_zret iX8_readsClause_154 rfl (nb01 hz66) ⟨Nat.le_refl 0, Nat.le_refl 0⟩ ⟨rfl, rfl, rfl, rfl⟩
            · have h := ot hc49 h
              refine a_aload iX8_readsClause_117 rfl <| ?_
              obtain ⟨⟨r67, mi68⟩, he69, h⟩ := ob h
              refine a_cVi iX8_readsClause_118 okX8_readsSeasons inX8_readsSeasons ⟨rfl, rfl⟩ (lm_s229 hM) (c_X8_readsSeasons hM he69) rfl rfl (Nat.le_of_ble_eq_true rfl) ⟨Nat.le_refl 0, Nat.le_refl 0⟩ <| a_goto iX8_readsClause_121 <| ?_
              obtain ⟨hz71, h⟩ := og h
              obtain rfl := Option.some.inj h
              exact a_zret iX8_readsClause_154 rfl (nb01 hz71) ⟨Nat.le_refl 0, Nat.le_refl 0⟩ ⟨rfl, rfl, rfl, rfl⟩
          · have h := oe hc48 h
            refine a_aload iX8_readsClause_102 rfl <| a_const iX8_readsClause_103 <| a_iload iX8_readsClause_104 rfl <| ?_
            obtain ⟨⟨r72, mi73⟩, he74, h⟩ := ob h
            refine a_cVi iX8_readsClause_105 okX8_fails inX8_fails ⟨rfl, rfl⟩ (lm_s229 hM) (c_X8_fails hM he74) rfl rfl (Nat.le_of_ble_eq_true rfl) ⟨Nat.le_refl 0, Nat.le_refl 0⟩ <| a_pop iX8_readsClause_108 rfl <| a_const iX8_readsClause_109 <| ?_
            obtain rfl := Option.some.inj h
            exact a_zret iX8_readsClause_110 rfl rfl ⟨Nat.le_refl 0, Nat.le_refl 0⟩ ⟨rfl, rfl, rfl, rfl⟩
        · have h := ot hc45 h
          refine a_aload iX8_readsClause_85 rfl <| a_const iX8_readsClause_86 <| a_iload iX8_readsClause_87 rfl <| ?_
          obtain ⟨⟨r76, mi77⟩, he78, h⟩ := ob h
          refine a_cVi iX8_readsClause_88 okX8_fails inX8_fails ⟨rfl, rfl⟩ (lm_s229 hM) (c_X8_fails hM he78) rfl rfl (Nat.le_of_ble_eq_true rfl) ⟨Nat.le_refl 0, Nat.le_refl 0⟩ <| a_pop iX8_readsClause_91 rfl <| a_const iX8_readsClause_92 <| ?_
          obtain rfl := Option.some.inj h
          exact a_zret iX8_readsClause_93 rfl rfl ⟨Nat.le_refl 0, Nat.le_refl 0⟩ ⟨rfl, rfl, rfl, rfl⟩
      · have h := oe hc43 h
        refine a_iload iX8_readsClause_50 rfl <| a_const iX8_readsClause_51 <| ?_
        refine a_icmp_eq iX8_readsClause_53 (fun hc80 => ?_) (fun hc80 => ?_)
        · have h := ot hc80 h
          refine a_const iX8_readsClause_68 <| a_goto iX8_readsClause_69 <| a_istore iX8_readsClause_73 (by decide) rfl <| a_iload iX8_readsClause_74 rfl <| ?_
          refine a_if_eq iX8_readsClause_75 (fun hc81 => absurd hc81 (by decide)) (fun hc81 => ?_)
          refine a_aload iX8_readsClause_78 rfl <| a_geti iX8_readsClause_79 (lm_s229 hM) rfl <| ?_
          refine a_if_ne iX8_readsClause_82 (fun hc82 => ?_) (fun hc82 => ?_)
          · have h := oe hc82 h
            refine a_aload iX8_readsClause_94 rfl <| a_iload iX8_readsClause_95 rfl <| ?_
            obtain ⟨r83, he84, h⟩ := ob h
            refine a_cVi iX8_readsClause_96 okX8_isAgain inX8_isAgain ⟨rfl, rfl⟩ (lm_s229 hM) (c_X8_isAgain hM he84) rfl rfl (Nat.le_of_ble_eq_true rfl) ⟨Nat.le_refl 0, Nat.le_refl 0⟩ <| ?_
            refine a_if_eq iX8_readsClause_99 (fun hc85 => ?_) (fun hc85 => ?_)
            · have h := ot hc85 h
              refine a_iload iX8_readsClause_111 rfl <| a_const iX8_readsClause_112 <| ?_
              refine a_icmp_ne iX8_readsClause_114 (fun hc86 => ?_) (fun hc86 => ?_)
              · have h := oe hc86 h
                refine a_iload iX8_readsClause_124 rfl <| a_const iX8_readsClause_125 <| ?_
                refine a_icmp_ne iX8_readsClause_127 (fun hc87 => ?_) (fun hc87 => ?_)
                · have h := oe hc87 h
                  refine a_iload iX8_readsClause_137 rfl <| a_const iX8_readsClause_138 <| ?_
                  refine a_icmp_ne iX8_readsClause_140 (fun hc88 => ?_) (fun hc88 => ?_)
                  · have h := oe hc88 h
                    refine a_aload iX8_readsClause_150 rfl <| ?_
                    obtain ⟨⟨r89, mi90⟩, he91, h⟩ := ob h
                    refine a_cVi iX8_readsClause_151 okX8_readsWant inX8_readsWant ⟨rfl, rfl⟩ (lm_s229 hM) (c_X8_readsWant hM he91) rfl rfl (Nat.le_of_ble_eq_true rfl) ⟨Nat.le_refl 0, Nat.le_refl 0⟩ <| ?_
                    obtain ⟨hz93, h⟩ := og h
                    obtain rfl := Option.some.inj h
                    exact a_zret iX8_readsClause_154 rfl (nb01 hz93) ⟨Nat.le_refl 0, Nat.le_refl 0⟩ ⟨rfl, rfl, rfl, rfl⟩
                  · have h := ot hc88 h
                    refine a_aload iX8_readsClause_143 rfl <| ?_
                    obtain ⟨⟨r94, mi95⟩, he96, h⟩ := ob h
                    refine a_cVi iX8_readsClause_144 okX8_readsLand inX8_readsLand ⟨rfl, rfl⟩ (lm_s229 hM) (c_X8_readsLand hM he96) rfl rfl (Nat.le_of_ble_eq_true rfl) ⟨Nat.le_refl 0, Nat.le_refl 0⟩ <| a_goto iX8_readsClause_147 <| ?_
                    obtain ⟨hz98, h⟩ := og h
                    obtain rfl := Option.some.inj h
                    exact a_zret iX8_readsClause_154 rfl (nb01 hz98) ⟨Nat.le_refl 0, Nat.le_refl 0⟩ ⟨rfl, rfl, rfl, rfl⟩
                · have h := ot hc87 h
                  refine a_aload iX8_readsClause_130 rfl <| ?_
                  obtain ⟨⟨r99, mi100⟩, he101, h⟩ := ob h
                  refine a_cVi iX8_readsClause_131 okX8_readsThing inX8_readsThing ⟨rfl, rfl⟩ (lm_s229 hM) (c_X8_readsThing hM he101) rfl rfl (Nat.le_of_ble_eq_true rfl) ⟨Nat.le_refl 0, Nat.le_refl 0⟩ <| a_goto iX8_readsClause_134 <| ?_
                  obtain ⟨hz103, h⟩ := og h
                  obtain rfl := Option.some.inj h
                  exact a_zret iX8_readsClause_154 rfl (nb01 hz103) ⟨Nat.le_refl 0, Nat.le_refl 0⟩ ⟨rfl, rfl, rfl, rfl⟩
              · have h := ot hc86 h
                refine a_aload iX8_readsClause_117 rfl <| ?_
                obtain ⟨⟨r104, mi105⟩, he106, h⟩ := ob h
                refine a_cVi iX8_readsClause_118 okX8_readsSeasons inX8_readsSeasons ⟨rfl, rfl⟩ (lm_s229 hM) (c_X8_readsSeasons hM he106) rfl rfl (Nat.le_of_ble_eq_true rfl) ⟨Nat.le_refl 0, Nat.le_refl 0⟩ <| a_goto iX8_readsClause_121 <| ?_
                obtain ⟨hz108, h⟩ := og h
                obtain rfl := Option.some.inj h
                exact a_zret iX8_readsClause_154 rfl (nb01 hz108) ⟨Nat.le_refl 0, Nat.le_refl 0⟩ ⟨rfl, rfl, rfl, rfl⟩
            · have h := oe hc85 h
              refine a_aload iX8_readsClause_102 rfl <| a_const iX8_readsClause_103 <| a_iload iX8_readsClause_104 rfl <| ?_
              obtain ⟨⟨r109, mi110⟩, he111, h⟩ := ob h
              refine a_cVi iX8_readsClause_105 okX8_fails inX8_fails ⟨rfl, rfl⟩ (lm_s229 hM) (c_X8_fails hM he111) rfl rfl (Nat.le_of_ble_eq_true rfl) ⟨Nat.le_refl 0, Nat.le_refl 0⟩ <| a_pop iX8_readsClause_108 rfl <| a_const iX8_readsClause_109 <| ?_
              obtain rfl := Option.some.inj h
              exact a_zret iX8_readsClause_110 rfl rfl ⟨Nat.le_refl 0, Nat.le_refl 0⟩ ⟨rfl, rfl, rfl, rfl⟩
          · have h := ot hc82 h
            refine a_aload iX8_readsClause_85 rfl <| a_const iX8_readsClause_86 <| a_iload iX8_readsClause_87 rfl <| ?_
            obtain ⟨⟨r113, mi114⟩, he115, h⟩ := ob h
            refine a_cVi iX8_readsClause_88 okX8_fails inX8_fails ⟨rfl, rfl⟩ (lm_s229 hM) (c_X8_fails hM he115) rfl rfl (Nat.le_of_ble_eq_true rfl) ⟨Nat.le_refl 0, Nat.le_refl 0⟩ <| a_pop iX8_readsClause_91 rfl <| a_const iX8_readsClause_92 <| ?_
            obtain rfl := Option.some.inj h
            exact a_zret iX8_readsClause_93 rfl rfl ⟨Nat.le_refl 0, Nat.le_refl 0⟩ ⟨rfl, rfl, rfl, rfl⟩
        · have h := oe hc80 h
          refine a_iload iX8_readsClause_56 rfl <| a_const iX8_readsClause_57 <| ?_
          refine a_icmp_eq iX8_readsClause_59 (fun hc117 => ?_) (fun hc117 => ?_)
          · have h := ot hc117 h
            refine a_const iX8_readsClause_68 <| a_goto iX8_readsClause_69 <| a_istore iX8_readsClause_73 (by decide) rfl <| a_iload iX8_readsClause_74 rfl <| ?_
            refine a_if_eq iX8_readsClause_75 (fun hc118 => absurd hc118 (by decide)) (fun hc118 => ?_)
            refine a_aload iX8_readsClause_78 rfl <| a_geti iX8_readsClause_79 (lm_s229 hM) rfl <| ?_
            refine a_if_ne iX8_readsClause_82 (fun hc119 => ?_) (fun hc119 => ?_)
            · have h := oe hc119 h
              refine a_aload iX8_readsClause_94 rfl <| a_iload iX8_readsClause_95 rfl <| ?_
              obtain ⟨r120, he121, h⟩ := ob h
              refine a_cVi iX8_readsClause_96 okX8_isAgain inX8_isAgain ⟨rfl, rfl⟩ (lm_s229 hM) (c_X8_isAgain hM he121) rfl rfl (Nat.le_of_ble_eq_true rfl) ⟨Nat.le_refl 0, Nat.le_refl 0⟩ <| ?_
              refine a_if_eq iX8_readsClause_99 (fun hc122 => ?_) (fun hc122 => ?_)
              · have h := ot hc122 h
                refine a_iload iX8_readsClause_111 rfl <| a_const iX8_readsClause_112 <| ?_
                refine a_icmp_ne iX8_readsClause_114 (fun hc123 => ?_) (fun hc123 => ?_)
                · have h := oe hc123 h
                  refine a_iload iX8_readsClause_124 rfl <| a_const iX8_readsClause_125 <| ?_
                  refine a_icmp_ne iX8_readsClause_127 (fun hc124 => ?_) (fun hc124 => ?_)
                  · have h := oe hc124 h
                    refine a_iload iX8_readsClause_137 rfl <| a_const iX8_readsClause_138 <| ?_
                    refine a_icmp_ne iX8_readsClause_140 (fun hc125 => ?_) (fun hc125 => ?_)
                    · have h := oe hc125 h
                      refine a_aload iX8_readsClause_150 rfl <| ?_
                      obtain ⟨⟨r126, mi127⟩, he128, h⟩ := ob h
                      refine a_cVi iX8_readsClause_151 okX8_readsWant inX8_readsWant ⟨rfl, rfl⟩ (lm_s229 hM) (c_X8_readsWant hM he128) rfl rfl (Nat.le_of_ble_eq_true rfl) ⟨Nat.le_refl 0, Nat.le_refl 0⟩ <| ?_
                      obtain ⟨hz130, h⟩ := og h
                      obtain rfl := Option.some.inj h
                      exact a_zret iX8_readsClause_154 rfl (nb01 hz130) ⟨Nat.le_refl 0, Nat.le_refl 0⟩ ⟨rfl, rfl, rfl, rfl⟩
                    · have h := ot hc125 h
                      refine a_aload iX8_readsClause_143 rfl <| ?_
                      obtain ⟨⟨r131, mi132⟩, he133, h⟩ := ob h
                      refine a_cVi iX8_readsClause_144 okX8_readsLand inX8_readsLand ⟨rfl, rfl⟩ (lm_s229 hM) (c_X8_readsLand hM he133) rfl rfl (Nat.le_of_ble_eq_true rfl) ⟨Nat.le_refl 0, Nat.le_refl 0⟩ <| a_goto iX8_readsClause_147 <| ?_
                      obtain ⟨hz135, h⟩ := og h
                      obtain rfl := Option.some.inj h
                      exact a_zret iX8_readsClause_154 rfl (nb01 hz135) ⟨Nat.le_refl 0, Nat.le_refl 0⟩ ⟨rfl, rfl, rfl, rfl⟩
                  · have h := ot hc124 h
                    refine a_aload iX8_readsClause_130 rfl <| ?_
                    obtain ⟨⟨r136, mi137⟩, he138, h⟩ := ob h
                    refine a_cVi iX8_readsClause_131 okX8_readsThing inX8_readsThing ⟨rfl, rfl⟩ (lm_s229 hM) (c_X8_readsThing hM he138) rfl rfl (Nat.le_of_ble_eq_true rfl) ⟨Nat.le_refl 0, Nat.le_refl 0⟩ <| a_goto iX8_readsClause_134 <| ?_
                    obtain ⟨hz140, h⟩ := og h
                    obtain rfl := Option.some.inj h
                    exact a_zret iX8_readsClause_154 rfl (nb01 hz140) ⟨Nat.le_refl 0, Nat.le_refl 0⟩ ⟨rfl, rfl, rfl, rfl⟩
                · have h := ot hc123 h
                  refine a_aload iX8_readsClause_117 rfl <| ?_
                  obtain ⟨⟨r141, mi142⟩, he143, h⟩ := ob h
                  refine a_cVi iX8_readsClause_118 okX8_readsSeasons inX8_readsSeasons ⟨rfl, rfl⟩ (lm_s229 hM) (c_X8_readsSeasons hM he143) rfl rfl (Nat.le_of_ble_eq_true rfl) ⟨Nat.le_refl 0, Nat.le_refl 0⟩ <| a_goto iX8_readsClause_121 <| ?_
                  obtain ⟨hz145, h⟩ := og h
                  obtain rfl := Option.some.inj h
                  exact a_zret iX8_readsClause_154 rfl (nb01 hz145) ⟨Nat.le_refl 0, Nat.le_refl 0⟩ ⟨rfl, rfl, rfl, rfl⟩
              · have h := oe hc122 h
                refine a_aload iX8_readsClause_102 rfl <| a_const iX8_readsClause_103 <| a_iload iX8_readsClause_104 rfl <| ?_
                obtain ⟨⟨r146, mi147⟩, he148, h⟩ := ob h
                refine a_cVi iX8_readsClause_105 okX8_fails inX8_fails ⟨rfl, rfl⟩ (lm_s229 hM) (c_X8_fails hM he148) rfl rfl (Nat.le_of_ble_eq_true rfl) ⟨Nat.le_refl 0, Nat.le_refl 0⟩ <| a_pop iX8_readsClause_108 rfl <| a_const iX8_readsClause_109 <| ?_
                obtain rfl := Option.some.inj h
                exact a_zret iX8_readsClause_110 rfl rfl ⟨Nat.le_refl 0, Nat.le_refl 0⟩ ⟨rfl, rfl, rfl, rfl⟩
            · have h := ot hc119 h
              refine a_aload iX8_readsClause_85 rfl <| a_const iX8_readsClause_86 <| a_iload iX8_readsClause_87 rfl <| ?_
              obtain ⟨⟨r150, mi151⟩, he152, h⟩ := ob h
              refine a_cVi iX8_readsClause_88 okX8_fails inX8_fails ⟨rfl, rfl⟩ (lm_s229 hM) (c_X8_fails hM he152) rfl rfl (Nat.le_of_ble_eq_true rfl) ⟨Nat.le_refl 0, Nat.le_refl 0⟩ <| a_pop iX8_readsClause_91 rfl <| a_const iX8_readsClause_92 <| ?_
              obtain rfl := Option.some.inj h
              exact a_zret iX8_readsClause_93 rfl rfl ⟨Nat.le_refl 0, Nat.le_refl 0⟩ ⟨rfl, rfl, rfl, rfl⟩
          · have h := oe hc117 h
            refine a_iload iX8_readsClause_62 rfl <| a_const iX8_readsClause_63 <| ?_
            refine a_icmp_ne iX8_readsClause_65 (fun hc154 => ?_) (fun hc154 => ?_)
            · have h := oe hc154 h
              refine a_const iX8_readsClause_72 <| a_istore iX8_readsClause_73 (by decide) rfl <| a_iload iX8_readsClause_74 rfl <| ?_
              refine a_if_eq iX8_readsClause_75 (fun hc155 => ?_) (fun hc155 => absurd hc155 (by decide))
              refine a_aload iX8_readsClause_85 rfl <| a_const iX8_readsClause_86 <| a_iload iX8_readsClause_87 rfl <| ?_
              obtain ⟨⟨r156, mi157⟩, he158, h⟩ := ob h
              refine a_cVi iX8_readsClause_88 okX8_fails inX8_fails ⟨rfl, rfl⟩ (lm_s229 hM) (c_X8_fails hM he158) rfl rfl (Nat.le_of_ble_eq_true rfl) ⟨Nat.le_refl 0, Nat.le_refl 0⟩ <| a_pop iX8_readsClause_91 rfl <| a_const iX8_readsClause_92 <| ?_
              obtain rfl := Option.some.inj h
              exact a_zret iX8_readsClause_93 rfl rfl ⟨Nat.le_refl 0, Nat.le_refl 0⟩ ⟨rfl, rfl, rfl, rfl⟩
            · have h := ot hc154 h
              refine a_const iX8_readsClause_68 <| a_goto iX8_readsClause_69 <| a_istore iX8_readsClause_73 (by decide) rfl <| a_iload iX8_readsClause_74 rfl <| ?_
              refine a_if_eq iX8_readsClause_75 (fun hc160 => absurd hc160 (by decide)) (fun hc160 => ?_)
              refine a_aload iX8_readsClause_78 rfl <| a_geti iX8_readsClause_79 (lm_s229 hM) rfl <| ?_
              refine a_if_ne iX8_readsClause_82 (fun hc161 => ?_) (fun hc161 => ?_)
              · have h := oe hc161 h
                refine a_aload iX8_readsClause_94 rfl <| a_iload iX8_readsClause_95 rfl <| ?_
                obtain ⟨r162, he163, h⟩ := ob h
                refine a_cVi iX8_readsClause_96 okX8_isAgain inX8_isAgain ⟨rfl, rfl⟩ (lm_s229 hM) (c_X8_isAgain hM he163) rfl rfl (Nat.le_of_ble_eq_true rfl) ⟨Nat.le_refl 0, Nat.le_refl 0⟩ <| ?_
                refine a_if_eq iX8_readsClause_99 (fun hc164 => ?_) (fun hc164 => ?_)
                · have h := ot hc164 h
                  refine a_iload iX8_readsClause_111 rfl <| a_const iX8_readsClause_112 <| ?_
                  refine a_icmp_ne iX8_readsClause_114 (fun hc165 => ?_) (fun hc165 => ?_)
                  · have h := oe hc165 h
                    refine a_iload iX8_readsClause_124 rfl <| a_const iX8_readsClause_125 <| ?_
                    refine a_icmp_ne iX8_readsClause_127 (fun hc166 => ?_) (fun hc166 => ?_)
                    · have h := oe hc166 h
                      refine a_iload iX8_readsClause_137 rfl <| a_const iX8_readsClause_138 <| ?_
                      refine a_icmp_ne iX8_readsClause_140 (fun hc167 => ?_) (fun hc167 => ?_)
                      · have h := oe hc167 h
                        refine a_aload iX8_readsClause_150 rfl <| ?_
                        obtain ⟨⟨r168, mi169⟩, he170, h⟩ := ob h
                        refine a_cVi iX8_readsClause_151 okX8_readsWant inX8_readsWant ⟨rfl, rfl⟩ (lm_s229 hM) (c_X8_readsWant hM he170) rfl rfl (Nat.le_of_ble_eq_true rfl) ⟨Nat.le_refl 0, Nat.le_refl 0⟩ <| ?_
                        obtain ⟨hz172, h⟩ := og h
                        obtain rfl := Option.some.inj h
                        exact a_zret iX8_readsClause_154 rfl (nb01 hz172) ⟨Nat.le_refl 0, Nat.le_refl 0⟩ ⟨rfl, rfl, rfl, rfl⟩
                      · have h := ot hc167 h
                        refine a_aload iX8_readsClause_143 rfl <| ?_
                        obtain ⟨⟨r173, mi174⟩, he175, h⟩ := ob h
                        refine a_cVi iX8_readsClause_144 okX8_readsLand inX8_readsLand ⟨rfl, rfl⟩ (lm_s229 hM) (c_X8_readsLand hM he175) rfl rfl (Nat.le_of_ble_eq_true rfl) ⟨Nat.le_refl 0, Nat.le_refl 0⟩ <| a_goto iX8_readsClause_147 <| ?_
                        obtain ⟨hz177, h⟩ := og h
                        obtain rfl := Option.some.inj h
                        exact a_zret iX8_readsClause_154 rfl (nb01 hz177) ⟨Nat.le_refl 0, Nat.le_refl 0⟩ ⟨rfl, rfl, rfl, rfl⟩
                    · have h := ot hc166 h
                      refine a_aload iX8_readsClause_130 rfl <| ?_
                      obtain ⟨⟨r178, mi179⟩, he180, h⟩ := ob h
                      refine a_cVi iX8_readsClause_131 okX8_readsThing inX8_readsThing ⟨rfl, rfl⟩ (lm_s229 hM) (c_X8_readsThing hM he180) rfl rfl (Nat.le_of_ble_eq_true rfl) ⟨Nat.le_refl 0, Nat.le_refl 0⟩ <| a_goto iX8_readsClause_134 <| ?_
                      obtain ⟨hz182, h⟩ := og h
                      obtain rfl := Option.some.inj h
                      exact a_zret iX8_readsClause_154 rfl (nb01 hz182) ⟨Nat.le_refl 0, Nat.le_refl 0⟩ ⟨rfl, rfl, rfl, rfl⟩
                  · have h := ot hc165 h
                    refine a_aload iX8_readsClause_117 rfl <| ?_
                    obtain ⟨⟨r183, mi184⟩, he185, h⟩ := ob h
                    refine a_cVi iX8_readsClause_118 okX8_readsSeasons inX8_readsSeasons ⟨rfl, rfl⟩ (lm_s229 hM) (c_X8_readsSeasons hM he185) rfl rfl (Nat.le_of_ble_eq_true rfl) ⟨Nat.le_refl 0, Nat.le_refl 0⟩ <| a_goto iX8_readsClause_121 <| ?_
                    obtain ⟨hz187, h⟩ := og h
                    obtain rfl := Option.some.inj h
                    exact a_zret iX8_readsClause_154 rfl (nb01 hz187) ⟨Nat.le_refl 0, Nat.le_refl 0⟩ ⟨rfl, rfl, rfl, rfl⟩
                · have h := oe hc164 h
                  refine a_aload iX8_readsClause_102 rfl <| a_const iX8_readsClause_103 <| a_iload iX8_readsClause_104 rfl <| ?_
                  obtain ⟨⟨r188, mi189⟩, he190, h⟩ := ob h
                  refine a_cVi iX8_readsClause_105 okX8_fails inX8_fails ⟨rfl, rfl⟩ (lm_s229 hM) (c_X8_fails hM he190) rfl rfl (Nat.le_of_ble_eq_true rfl) ⟨Nat.le_refl 0, Nat.le_refl 0⟩ <| a_pop iX8_readsClause_108 rfl <| a_const iX8_readsClause_109 <| ?_
                  obtain rfl := Option.some.inj h
                  exact a_zret iX8_readsClause_110 rfl rfl ⟨Nat.le_refl 0, Nat.le_refl 0⟩ ⟨rfl, rfl, rfl, rfl⟩
              · have h := ot hc161 h
                refine a_aload iX8_readsClause_85 rfl <| a_const iX8_readsClause_86 <| a_iload iX8_readsClause_87 rfl <| ?_
                obtain ⟨⟨r192, mi193⟩, he194, h⟩ := ob h
                refine a_cVi iX8_readsClause_88 okX8_fails inX8_fails ⟨rfl, rfl⟩ (lm_s229 hM) (c_X8_fails hM he194) rfl rfl (Nat.le_of_ble_eq_true rfl) ⟨Nat.le_refl 0, Nat.le_refl 0⟩ <| a_pop iX8_readsClause_91 rfl <| a_const iX8_readsClause_92 <| ?_
                obtain rfl := Option.some.inj h
                exact a_zret iX8_readsClause_93 rfl rfl ⟨Nat.le_refl 0, Nat.le_refl 0⟩ ⟨rfl, rfl, rfl, rfl⟩
  · have h := ot hc5 h
    refine a_aload iX8_readsClause_26 rfl <| a_geti iX8_readsClause_27 (lm_s229 hM) rfl <| ?_
    refine a_if_ne iX8_readsClause_30 (fun hc196 => ?_) (fun hc196 => ?_)
    · have h := oe hc196 h
      refine a_iload iX8_readsClause_38 rfl <| a_const iX8_readsClause_39 <| ?_
      refine a_icmp_eq iX8_readsClause_41 (fun hc197 => ?_) (fun hc197 => ?_)
      · have h := ot hc197 h
        refine a_const iX8_readsClause_68 <| a_goto iX8_readsClause_69 <| a_istore iX8_readsClause_73 (by decide) rfl <| a_iload iX8_readsClause_74 rfl <| ?_
        refine a_if_eq iX8_readsClause_75 (fun hc198 => absurd hc198 (by decide)) (fun hc198 => ?_)
        refine a_aload iX8_readsClause_78 rfl <| a_geti iX8_readsClause_79 (lm_s229 hM) rfl <| ?_
        refine a_if_ne iX8_readsClause_82 (fun hc199 => ?_) (fun hc199 => ?_)
        · have h := oe hc199 h
          refine a_aload iX8_readsClause_94 rfl <| a_iload iX8_readsClause_95 rfl <| ?_
          obtain ⟨r200, he201, h⟩ := ob h
          refine a_cVi iX8_readsClause_96 okX8_isAgain inX8_isAgain ⟨rfl, rfl⟩ (lm_s229 hM) (c_X8_isAgain hM he201) rfl rfl (Nat.le_of_ble_eq_true rfl) ⟨Nat.le_refl 0, Nat.le_refl 0⟩ <| ?_
          refine a_if_eq iX8_readsClause_99 (fun hc202 => ?_) (fun hc202 => ?_)
          · have h := ot hc202 h
            refine a_iload iX8_readsClause_111 rfl <| a_const iX8_readsClause_112 <| ?_
            refine a_icmp_ne iX8_readsClause_114 (fun hc203 => ?_) (fun hc203 => ?_)
            · have h := oe hc203 h
              refine a_iload iX8_readsClause_124 rfl <| a_const iX8_readsClause_125 <| ?_
              refine a_icmp_ne iX8_readsClause_127 (fun hc204 => ?_) (fun hc204 => ?_)
              · have h := oe hc204 h
                refine a_iload iX8_readsClause_137 rfl <| a_const iX8_readsClause_138 <| ?_
                refine a_icmp_ne iX8_readsClause_140 (fun hc205 => ?_) (fun hc205 => ?_)
                · have h := oe hc205 h
                  refine a_aload iX8_readsClause_150 rfl <| ?_
                  obtain ⟨⟨r206, mi207⟩, he208, h⟩ := ob h
                  refine a_cVi iX8_readsClause_151 okX8_readsWant inX8_readsWant ⟨rfl, rfl⟩ (lm_s229 hM) (c_X8_readsWant hM he208) rfl rfl (Nat.le_of_ble_eq_true rfl) ⟨Nat.le_refl 0, Nat.le_refl 0⟩ <| ?_
                  obtain ⟨hz210, h⟩ := og h
                  obtain rfl := Option.some.inj h
                  exact a_zret iX8_readsClause_154 rfl (nb01 hz210) ⟨Nat.le_refl 0, Nat.le_refl 0⟩ ⟨rfl, rfl, rfl, rfl⟩
                · have h := ot hc205 h
                  refine a_aload iX8_readsClause_143 rfl <| ?_
                  obtain ⟨⟨r211, mi212⟩, he213, h⟩ := ob h
                  refine a_cVi iX8_readsClause_144 okX8_readsLand inX8_readsLand ⟨rfl, rfl⟩ (lm_s229 hM) (c_X8_readsLand hM he213) rfl rfl (Nat.le_of_ble_eq_true rfl) ⟨Nat.le_refl 0, Nat.le_refl 0⟩ <| a_goto iX8_readsClause_147 <| ?_
                  obtain ⟨hz215, h⟩ := og h
                  obtain rfl := Option.some.inj h
                  exact a_zret iX8_readsClause_154 rfl (nb01 hz215) ⟨Nat.le_refl 0, Nat.le_refl 0⟩ ⟨rfl, rfl, rfl, rfl⟩
              · have h := ot hc204 h
                refine a_aload iX8_readsClause_130 rfl <| ?_
                obtain ⟨⟨r216, mi217⟩, he218, h⟩ := ob h
                refine a_cVi iX8_readsClause_131 okX8_readsThing inX8_readsThing ⟨rfl, rfl⟩ (lm_s229 hM) (c_X8_readsThing hM he218) rfl rfl (Nat.le_of_ble_eq_true rfl) ⟨Nat.le_refl 0, Nat.le_refl 0⟩ <| a_goto iX8_readsClause_134 <| ?_
                obtain ⟨hz220, h⟩ := og h
                obtain rfl := Option.some.inj h
                exact a_zret iX8_readsClause_154 rfl (nb01 hz220) ⟨Nat.le_refl 0, Nat.le_refl 0⟩ ⟨rfl, rfl, rfl, rfl⟩
            · have h := ot hc203 h
              refine a_aload iX8_readsClause_117 rfl <| ?_
              obtain ⟨⟨r221, mi222⟩, he223, h⟩ := ob h
              refine a_cVi iX8_readsClause_118 okX8_readsSeasons inX8_readsSeasons ⟨rfl, rfl⟩ (lm_s229 hM) (c_X8_readsSeasons hM he223) rfl rfl (Nat.le_of_ble_eq_true rfl) ⟨Nat.le_refl 0, Nat.le_refl 0⟩ <| a_goto iX8_readsClause_121 <| ?_
              obtain ⟨hz225, h⟩ := og h
              obtain rfl := Option.some.inj h
              exact a_zret iX8_readsClause_154 rfl (nb01 hz225) ⟨Nat.le_refl 0, Nat.le_refl 0⟩ ⟨rfl, rfl, rfl, rfl⟩
          · have h := oe hc202 h
            refine a_aload iX8_readsClause_102 rfl <| a_const iX8_readsClause_103 <| a_iload iX8_readsClause_104 rfl <| ?_
            obtain ⟨⟨r226, mi227⟩, he228, h⟩ := ob h
            refine a_cVi iX8_readsClause_105 okX8_fails inX8_fails ⟨rfl, rfl⟩ (lm_s229 hM) (c_X8_fails hM he228) rfl rfl (Nat.le_of_ble_eq_true rfl) ⟨Nat.le_refl 0, Nat.le_refl 0⟩ <| a_pop iX8_readsClause_108 rfl <| a_const iX8_readsClause_109 <| ?_
            obtain rfl := Option.some.inj h
            exact a_zret iX8_readsClause_110 rfl rfl ⟨Nat.le_refl 0, Nat.le_refl 0⟩ ⟨rfl, rfl, rfl, rfl⟩
        · have h := ot hc199 h
          refine a_aload iX8_readsClause_85 rfl <| a_const iX8_readsClause_86 <| a_iload iX8_readsClause_87 rfl <| ?_
          obtain ⟨⟨r230, mi231⟩, he232, h⟩ := ob h
          refine a_cVi iX8_readsClause_88 okX8_fails inX8_fails ⟨rfl, rfl⟩ (lm_s229 hM) (c_X8_fails hM he232) rfl rfl (Nat.le_of_ble_eq_true rfl) ⟨Nat.le_refl 0, Nat.le_refl 0⟩ <| a_pop iX8_readsClause_91 rfl <| a_const iX8_readsClause_92 <| ?_
          obtain rfl := Option.some.inj h
          exact a_zret iX8_readsClause_93 rfl rfl ⟨Nat.le_refl 0, Nat.le_refl 0⟩ ⟨rfl, rfl, rfl, rfl⟩
      · have h := oe hc197 h
        refine a_iload iX8_readsClause_44 rfl <| a_const iX8_readsClause_45 <| ?_
        refine a_icmp_eq iX8_readsClause_47 (fun hc234 => ?_) (fun hc234 => ?_)
        · have h := ot hc234 h
          refine a_const iX8_readsClause_68 <| a_goto iX8_readsClause_69 <| a_istore iX8_readsClause_73 (by decide) rfl <| a_iload iX8_readsClause_74 rfl <| ?_
          refine a_if_eq iX8_readsClause_75 (fun hc235 => absurd hc235 (by decide)) (fun hc235 => ?_)
          refine a_aload iX8_readsClause_78 rfl <| a_geti iX8_readsClause_79 (lm_s229 hM) rfl <| ?_
          refine a_if_ne iX8_readsClause_82 (fun hc236 => ?_) (fun hc236 => ?_)
          · have h := oe hc236 h
            refine a_aload iX8_readsClause_94 rfl <| a_iload iX8_readsClause_95 rfl <| ?_
            obtain ⟨r237, he238, h⟩ := ob h
            refine a_cVi iX8_readsClause_96 okX8_isAgain inX8_isAgain ⟨rfl, rfl⟩ (lm_s229 hM) (c_X8_isAgain hM he238) rfl rfl (Nat.le_of_ble_eq_true rfl) ⟨Nat.le_refl 0, Nat.le_refl 0⟩ <| ?_
            refine a_if_eq iX8_readsClause_99 (fun hc239 => ?_) (fun hc239 => ?_)
            · have h := ot hc239 h
              refine a_iload iX8_readsClause_111 rfl <| a_const iX8_readsClause_112 <| ?_
              refine a_icmp_ne iX8_readsClause_114 (fun hc240 => ?_) (fun hc240 => ?_)
              · have h := oe hc240 h
                refine a_iload iX8_readsClause_124 rfl <| a_const iX8_readsClause_125 <| ?_
                refine a_icmp_ne iX8_readsClause_127 (fun hc241 => ?_) (fun hc241 => ?_)
                · have h := oe hc241 h
                  refine a_iload iX8_readsClause_137 rfl <| a_const iX8_readsClause_138 <| ?_
                  refine a_icmp_ne iX8_readsClause_140 (fun hc242 => ?_) (fun hc242 => ?_)
                  · have h := oe hc242 h
                    refine a_aload iX8_readsClause_150 rfl <| ?_
                    obtain ⟨⟨r243, mi244⟩, he245, h⟩ := ob h
                    refine a_cVi iX8_readsClause_151 okX8_readsWant inX8_readsWant ⟨rfl, rfl⟩ (lm_s229 hM) (c_X8_readsWant hM he245) rfl rfl (Nat.le_of_ble_eq_true rfl) ⟨Nat.le_refl 0, Nat.le_refl 0⟩ <| ?_
                    obtain ⟨hz247, h⟩ := og h
                    obtain rfl := Option.some.inj h
                    exact a_zret iX8_readsClause_154 rfl (nb01 hz247) ⟨Nat.le_refl 0, Nat.le_refl 0⟩ ⟨rfl, rfl, rfl, rfl⟩
                  · have h := ot hc242 h
                    refine a_aload iX8_readsClause_143 rfl <| ?_
                    obtain ⟨⟨r248, mi249⟩, he250, h⟩ := ob h
                    refine a_cVi iX8_readsClause_144 okX8_readsLand inX8_readsLand ⟨rfl, rfl⟩ (lm_s229 hM) (c_X8_readsLand hM he250) rfl rfl (Nat.le_of_ble_eq_true rfl) ⟨Nat.le_refl 0, Nat.le_refl 0⟩ <| a_goto iX8_readsClause_147 <| ?_
                    obtain ⟨hz252, h⟩ := og h
                    obtain rfl := Option.some.inj h
                    exact a_zret iX8_readsClause_154 rfl (nb01 hz252) ⟨Nat.le_refl 0, Nat.le_refl 0⟩ ⟨rfl, rfl, rfl, rfl⟩
                · have h := ot hc241 h
                  refine a_aload iX8_readsClause_130 rfl <| ?_
                  obtain ⟨⟨r253, mi254⟩, he255, h⟩ := ob h
                  refine a_cVi iX8_readsClause_131 okX8_readsThing inX8_readsThing ⟨rfl, rfl⟩ (lm_s229 hM) (c_X8_readsThing hM he255) rfl rfl (Nat.le_of_ble_eq_true rfl) ⟨Nat.le_refl 0, Nat.le_refl 0⟩ <| a_goto iX8_readsClause_134 <| ?_
                  obtain ⟨hz257, h⟩ := og h
                  obtain rfl := Option.some.inj h
                  exact a_zret iX8_readsClause_154 rfl (nb01 hz257) ⟨Nat.le_refl 0, Nat.le_refl 0⟩ ⟨rfl, rfl, rfl, rfl⟩
              · have h := ot hc240 h
                refine a_aload iX8_readsClause_117 rfl <| ?_
                obtain ⟨⟨r258, mi259⟩, he260, h⟩ := ob h
                refine a_cVi iX8_readsClause_118 okX8_readsSeasons inX8_readsSeasons ⟨rfl, rfl⟩ (lm_s229 hM) (c_X8_readsSeasons hM he260) rfl rfl (Nat.le_of_ble_eq_true rfl) ⟨Nat.le_refl 0, Nat.le_refl 0⟩ <| a_goto iX8_readsClause_121 <| ?_
                obtain ⟨hz262, h⟩ := og h
                obtain rfl := Option.some.inj h
                exact a_zret iX8_readsClause_154 rfl (nb01 hz262) ⟨Nat.le_refl 0, Nat.le_refl 0⟩ ⟨rfl, rfl, rfl, rfl⟩
            · have h := oe hc239 h
              refine a_aload iX8_readsClause_102 rfl <| a_const iX8_readsClause_103 <| a_iload iX8_readsClause_104 rfl <| ?_
              obtain ⟨⟨r263, mi264⟩, he265, h⟩ := ob h
              refine a_cVi iX8_readsClause_105 okX8_fails inX8_fails ⟨rfl, rfl⟩ (lm_s229 hM) (c_X8_fails hM he265) rfl rfl (Nat.le_of_ble_eq_true rfl) ⟨Nat.le_refl 0, Nat.le_refl 0⟩ <| a_pop iX8_readsClause_108 rfl <| a_const iX8_readsClause_109 <| ?_
              obtain rfl := Option.some.inj h
              exact a_zret iX8_readsClause_110 rfl rfl ⟨Nat.le_refl 0, Nat.le_refl 0⟩ ⟨rfl, rfl, rfl, rfl⟩
          · have h := ot hc236 h
            refine a_aload iX8_readsClause_85 rfl <| a_const iX8_readsClause_86 <| a_iload iX8_readsClause_87 rfl <| ?_
            obtain ⟨⟨r267, mi268⟩, he269, h⟩ := ob h
            refine a_cVi iX8_readsClause_88 okX8_fails inX8_fails ⟨rfl, rfl⟩ (lm_s229 hM) (c_X8_fails hM he269) rfl rfl (Nat.le_of_ble_eq_true rfl) ⟨Nat.le_refl 0, Nat.le_refl 0⟩ <| a_pop iX8_readsClause_91 rfl <| a_const iX8_readsClause_92 <| ?_
            obtain rfl := Option.some.inj h
            exact a_zret iX8_readsClause_93 rfl rfl ⟨Nat.le_refl 0, Nat.le_refl 0⟩ ⟨rfl, rfl, rfl, rfl⟩
        · have h := oe hc234 h
          refine a_iload iX8_readsClause_50 rfl <| a_const iX8_readsClause_51 <| ?_
          refine a_icmp_eq iX8_readsClause_53 (fun hc271 => ?_) (fun hc271 => ?_)
          · have h := ot hc271 h
            refine a_const iX8_readsClause_68 <| a_goto iX8_readsClause_69 <| a_istore iX8_readsClause_73 (by decide) rfl <| a_iload iX8_readsClause_74 rfl <| ?_
            refine a_if_eq iX8_readsClause_75 (fun hc272 => absurd hc272 (by decide)) (fun hc272 => ?_)
            refine a_aload iX8_readsClause_78 rfl <| a_geti iX8_readsClause_79 (lm_s229 hM) rfl <| ?_
            refine a_if_ne iX8_readsClause_82 (fun hc273 => ?_) (fun hc273 => ?_)
            · have h := oe hc273 h
              refine a_aload iX8_readsClause_94 rfl <| a_iload iX8_readsClause_95 rfl <| ?_
              obtain ⟨r274, he275, h⟩ := ob h
              refine a_cVi iX8_readsClause_96 okX8_isAgain inX8_isAgain ⟨rfl, rfl⟩ (lm_s229 hM) (c_X8_isAgain hM he275) rfl rfl (Nat.le_of_ble_eq_true rfl) ⟨Nat.le_refl 0, Nat.le_refl 0⟩ <| ?_
              refine a_if_eq iX8_readsClause_99 (fun hc276 => ?_) (fun hc276 => ?_)
              · have h := ot hc276 h
                refine a_iload iX8_readsClause_111 rfl <| a_const iX8_readsClause_112 <| ?_
                refine a_icmp_ne iX8_readsClause_114 (fun hc277 => ?_) (fun hc277 => ?_)
                · have h := oe hc277 h
                  refine a_iload iX8_readsClause_124 rfl <| a_const iX8_readsClause_125 <| ?_
                  refine a_icmp_ne iX8_readsClause_127 (fun hc278 => ?_) (fun hc278 => ?_)
                  · have h := oe hc278 h
                    refine a_iload iX8_readsClause_137 rfl <| a_const iX8_readsClause_138 <| ?_
                    refine a_icmp_ne iX8_readsClause_140 (fun hc279 => ?_) (fun hc279 => ?_)
                    · have h := oe hc279 h
                      refine a_aload iX8_readsClause_150 rfl <| ?_
                      obtain ⟨⟨r280, mi281⟩, he282, h⟩ := ob h
                      refine a_cVi iX8_readsClause_151 okX8_readsWant inX8_readsWant ⟨rfl, rfl⟩ (lm_s229 hM) (c_X8_readsWant hM he282) rfl rfl (Nat.le_of_ble_eq_true rfl) ⟨Nat.le_refl 0, Nat.le_refl 0⟩ <| ?_
                      obtain ⟨hz284, h⟩ := og h
                      obtain rfl := Option.some.inj h
                      exact a_zret iX8_readsClause_154 rfl (nb01 hz284) ⟨Nat.le_refl 0, Nat.le_refl 0⟩ ⟨rfl, rfl, rfl, rfl⟩
                    · have h := ot hc279 h
                      refine a_aload iX8_readsClause_143 rfl <| ?_
                      obtain ⟨⟨r285, mi286⟩, he287, h⟩ := ob h
                      refine a_cVi iX8_readsClause_144 okX8_readsLand inX8_readsLand ⟨rfl, rfl⟩ (lm_s229 hM) (c_X8_readsLand hM he287) rfl rfl (Nat.le_of_ble_eq_true rfl) ⟨Nat.le_refl 0, Nat.le_refl 0⟩ <| a_goto iX8_readsClause_147 <| ?_
                      obtain ⟨hz289, h⟩ := og h
                      obtain rfl := Option.some.inj h
                      exact a_zret iX8_readsClause_154 rfl (nb01 hz289) ⟨Nat.le_refl 0, Nat.le_refl 0⟩ ⟨rfl, rfl, rfl, rfl⟩
                  · have h := ot hc278 h
                    refine a_aload iX8_readsClause_130 rfl <| ?_
                    obtain ⟨⟨r290, mi291⟩, he292, h⟩ := ob h
                    refine a_cVi iX8_readsClause_131 okX8_readsThing inX8_readsThing ⟨rfl, rfl⟩ (lm_s229 hM) (c_X8_readsThing hM he292) rfl rfl (Nat.le_of_ble_eq_true rfl) ⟨Nat.le_refl 0, Nat.le_refl 0⟩ <| a_goto iX8_readsClause_134 <| ?_
                    obtain ⟨hz294, h⟩ := og h
                    obtain rfl := Option.some.inj h
                    exact a_zret iX8_readsClause_154 rfl (nb01 hz294) ⟨Nat.le_refl 0, Nat.le_refl 0⟩ ⟨rfl, rfl, rfl, rfl⟩
                · have h := ot hc277 h
                  refine a_aload iX8_readsClause_117 rfl <| ?_
                  obtain ⟨⟨r295, mi296⟩, he297, h⟩ := ob h
                  refine a_cVi iX8_readsClause_118 okX8_readsSeasons inX8_readsSeasons ⟨rfl, rfl⟩ (lm_s229 hM) (c_X8_readsSeasons hM he297) rfl rfl (Nat.le_of_ble_eq_true rfl) ⟨Nat.le_refl 0, Nat.le_refl 0⟩ <| a_goto iX8_readsClause_121 <| ?_
                  obtain ⟨hz299, h⟩ := og h
                  obtain rfl := Option.some.inj h
                  exact a_zret iX8_readsClause_154 rfl (nb01 hz299) ⟨Nat.le_refl 0, Nat.le_refl 0⟩ ⟨rfl, rfl, rfl, rfl⟩
              · have h := oe hc276 h
                refine a_aload iX8_readsClause_102 rfl <| a_const iX8_readsClause_103 <| a_iload iX8_readsClause_104 rfl <| ?_
                obtain ⟨⟨r300, mi301⟩, he302, h⟩ := ob h
                refine a_cVi iX8_readsClause_105 okX8_fails inX8_fails ⟨rfl, rfl⟩ (lm_s229 hM) (c_X8_fails hM he302) rfl rfl (Nat.le_of_ble_eq_true rfl) ⟨Nat.le_refl 0, Nat.le_refl 0⟩ <| a_pop iX8_readsClause_108 rfl <| a_const iX8_readsClause_109 <| ?_
                obtain rfl := Option.some.inj h
                exact a_zret iX8_readsClause_110 rfl rfl ⟨Nat.le_refl 0, Nat.le_refl 0⟩ ⟨rfl, rfl, rfl, rfl⟩
            · have h := ot hc273 h
              refine a_aload iX8_readsClause_85 rfl <| a_const iX8_readsClause_86 <| a_iload iX8_readsClause_87 rfl <| ?_
              obtain ⟨⟨r304, mi305⟩, he306, h⟩ := ob h
              refine a_cVi iX8_readsClause_88 okX8_fails inX8_fails ⟨rfl, rfl⟩ (lm_s229 hM) (c_X8_fails hM he306) rfl rfl (Nat.le_of_ble_eq_true rfl) ⟨Nat.le_refl 0, Nat.le_refl 0⟩ <| a_pop iX8_readsClause_91 rfl <| a_const iX8_readsClause_92 <| ?_
              obtain rfl := Option.some.inj h
              exact a_zret iX8_readsClause_93 rfl rfl ⟨Nat.le_refl 0, Nat.le_refl 0⟩ ⟨rfl, rfl, rfl, rfl⟩
          · have h := oe hc271 h
            refine a_iload iX8_readsClause_56 rfl <| a_const iX8_readsClause_57 <| ?_
            refine a_icmp_eq iX8_readsClause_59 (fun hc308 => ?_) (fun hc308 => ?_)
            · have h := ot hc308 h
              refine a_const iX8_readsClause_68 <| a_goto iX8_readsClause_69 <| a_istore iX8_readsClause_73 (by decide) rfl <| a_iload iX8_readsClause_74 rfl <| ?_
              refine a_if_eq iX8_readsClause_75 (fun hc309 => absurd hc309 (by decide)) (fun hc309 => ?_)
              refine a_aload iX8_readsClause_78 rfl <| a_geti iX8_readsClause_79 (lm_s229 hM) rfl <| ?_
              refine a_if_ne iX8_readsClause_82 (fun hc310 => ?_) (fun hc310 => ?_)
              · have h := oe hc310 h
                refine a_aload iX8_readsClause_94 rfl <| a_iload iX8_readsClause_95 rfl <| ?_
                obtain ⟨r311, he312, h⟩ := ob h
                refine a_cVi iX8_readsClause_96 okX8_isAgain inX8_isAgain ⟨rfl, rfl⟩ (lm_s229 hM) (c_X8_isAgain hM he312) rfl rfl (Nat.le_of_ble_eq_true rfl) ⟨Nat.le_refl 0, Nat.le_refl 0⟩ <| ?_
                refine a_if_eq iX8_readsClause_99 (fun hc313 => ?_) (fun hc313 => ?_)
                · have h := ot hc313 h
                  refine a_iload iX8_readsClause_111 rfl <| a_const iX8_readsClause_112 <| ?_
                  refine a_icmp_ne iX8_readsClause_114 (fun hc314 => ?_) (fun hc314 => ?_)
                  · have h := oe hc314 h
                    refine a_iload iX8_readsClause_124 rfl <| a_const iX8_readsClause_125 <| ?_
                    refine a_icmp_ne iX8_readsClause_127 (fun hc315 => ?_) (fun hc315 => ?_)
                    · have h := oe hc315 h
                      refine a_iload iX8_readsClause_137 rfl <| a_const iX8_readsClause_138 <| ?_
                      refine a_icmp_ne iX8_readsClause_140 (fun hc316 => ?_) (fun hc316 => ?_)
                      · have h := oe hc316 h
                        refine a_aload iX8_readsClause_150 rfl <| ?_
                        obtain ⟨⟨r317, mi318⟩, he319, h⟩ := ob h
                        refine a_cVi iX8_readsClause_151 okX8_readsWant inX8_readsWant ⟨rfl, rfl⟩ (lm_s229 hM) (c_X8_readsWant hM he319) rfl rfl (Nat.le_of_ble_eq_true rfl) ⟨Nat.le_refl 0, Nat.le_refl 0⟩ <| ?_
                        obtain ⟨hz321, h⟩ := og h
                        obtain rfl := Option.some.inj h
                        exact a_zret iX8_readsClause_154 rfl (nb01 hz321) ⟨Nat.le_refl 0, Nat.le_refl 0⟩ ⟨rfl, rfl, rfl, rfl⟩
                      · have h := ot hc316 h
                        refine a_aload iX8_readsClause_143 rfl <| ?_
                        obtain ⟨⟨r322, mi323⟩, he324, h⟩ := ob h
                        refine a_cVi iX8_readsClause_144 okX8_readsLand inX8_readsLand ⟨rfl, rfl⟩ (lm_s229 hM) (c_X8_readsLand hM he324) rfl rfl (Nat.le_of_ble_eq_true rfl) ⟨Nat.le_refl 0, Nat.le_refl 0⟩ <| a_goto iX8_readsClause_147 <| ?_
                        obtain ⟨hz326, h⟩ := og h
                        obtain rfl := Option.some.inj h
                        exact a_zret iX8_readsClause_154 rfl (nb01 hz326) ⟨Nat.le_refl 0, Nat.le_refl 0⟩ ⟨rfl, rfl, rfl, rfl⟩
                    · have h := ot hc315 h
                      refine a_aload iX8_readsClause_130 rfl <| ?_
                      obtain ⟨⟨r327, mi328⟩, he329, h⟩ := ob h
                      refine a_cVi iX8_readsClause_131 okX8_readsThing inX8_readsThing ⟨rfl, rfl⟩ (lm_s229 hM) (c_X8_readsThing hM he329) rfl rfl (Nat.le_of_ble_eq_true rfl) ⟨Nat.le_refl 0, Nat.le_refl 0⟩ <| a_goto iX8_readsClause_134 <| ?_
                      obtain ⟨hz331, h⟩ := og h
                      obtain rfl := Option.some.inj h
                      exact a_zret iX8_readsClause_154 rfl (nb01 hz331) ⟨Nat.le_refl 0, Nat.le_refl 0⟩ ⟨rfl, rfl, rfl, rfl⟩
                  · have h := ot hc314 h
                    refine a_aload iX8_readsClause_117 rfl <| ?_
                    obtain ⟨⟨r332, mi333⟩, he334, h⟩ := ob h
                    refine a_cVi iX8_readsClause_118 okX8_readsSeasons inX8_readsSeasons ⟨rfl, rfl⟩ (lm_s229 hM) (c_X8_readsSeasons hM he334) rfl rfl (Nat.le_of_ble_eq_true rfl) ⟨Nat.le_refl 0, Nat.le_refl 0⟩ <| a_goto iX8_readsClause_121 <| ?_
                    obtain ⟨hz336, h⟩ := og h
                    obtain rfl := Option.some.inj h
                    exact a_zret iX8_readsClause_154 rfl (nb01 hz336) ⟨Nat.le_refl 0, Nat.le_refl 0⟩ ⟨rfl, rfl, rfl, rfl⟩
                · have h := oe hc313 h
                  refine a_aload iX8_readsClause_102 rfl <| a_const iX8_readsClause_103 <| a_iload iX8_readsClause_104 rfl <| ?_
                  obtain ⟨⟨r337, mi338⟩, he339, h⟩ := ob h
                  refine a_cVi iX8_readsClause_105 okX8_fails inX8_fails ⟨rfl, rfl⟩ (lm_s229 hM) (c_X8_fails hM he339) rfl rfl (Nat.le_of_ble_eq_true rfl) ⟨Nat.le_refl 0, Nat.le_refl 0⟩ <| a_pop iX8_readsClause_108 rfl <| a_const iX8_readsClause_109 <| ?_
                  obtain rfl := Option.some.inj h
                  exact a_zret iX8_readsClause_110 rfl rfl ⟨Nat.le_refl 0, Nat.le_refl 0⟩ ⟨rfl, rfl, rfl, rfl⟩
              · have h := ot hc310 h
                refine a_aload iX8_readsClause_85 rfl <| a_const iX8_readsClause_86 <| a_iload iX8_readsClause_87 rfl <| ?_
                obtain ⟨⟨r341, mi342⟩, he343, h⟩ := ob h
                refine a_cVi iX8_readsClause_88 okX8_fails inX8_fails ⟨rfl, rfl⟩ (lm_s229 hM) (c_X8_fails hM he343) rfl rfl (Nat.le_of_ble_eq_true rfl) ⟨Nat.le_refl 0, Nat.le_refl 0⟩ <| a_pop iX8_readsClause_91 rfl <| a_const iX8_readsClause_92 <| ?_
                obtain rfl := Option.some.inj h
                exact a_zret iX8_readsClause_93 rfl rfl ⟨Nat.le_refl 0, Nat.le_refl 0⟩ ⟨rfl, rfl, rfl, rfl⟩
            · have h := oe hc308 h
              refine a_iload iX8_readsClause_62 rfl <| a_const iX8_readsClause_63 <| ?_
              refine a_icmp_ne iX8_readsClause_65 (fun hc345 => ?_) (fun hc345 => ?_)
              · have h := oe hc345 h
                refine a_const iX8_readsClause_72 <| a_istore iX8_readsClause_73 (by decide) rfl <| a_iload iX8_readsClause_74 rfl <| ?_
                refine a_if_eq iX8_readsClause_75 (fun hc346 => ?_) (fun hc346 => absurd hc346 (by decide))
                refine a_aload iX8_readsClause_85 rfl <| a_const iX8_readsClause_86 <| a_iload iX8_readsClause_87 rfl <| ?_
                obtain ⟨⟨r347, mi348⟩, he349, h⟩ := ob h
                refine a_cVi iX8_readsClause_88 okX8_fails inX8_fails ⟨rfl, rfl⟩ (lm_s229 hM) (c_X8_fails hM he349) rfl rfl (Nat.le_of_ble_eq_true rfl) ⟨Nat.le_refl 0, Nat.le_refl 0⟩ <| a_pop iX8_readsClause_91 rfl <| a_const iX8_readsClause_92 <| ?_
                obtain rfl := Option.some.inj h
                exact a_zret iX8_readsClause_93 rfl rfl ⟨Nat.le_refl 0, Nat.le_refl 0⟩ ⟨rfl, rfl, rfl, rfl⟩
              · have h := ot hc345 h
                refine a_const iX8_readsClause_68 <| a_goto iX8_readsClause_69 <| a_istore iX8_readsClause_73 (by decide) rfl <| a_iload iX8_readsClause_74 rfl <| ?_
                refine a_if_eq iX8_readsClause_75 (fun hc351 => absurd hc351 (by decide)) (fun hc351 => ?_)
                refine a_aload iX8_readsClause_78 rfl <| a_geti iX8_readsClause_79 (lm_s229 hM) rfl <| ?_
                refine a_if_ne iX8_readsClause_82 (fun hc352 => ?_) (fun hc352 => ?_)
                · have h := oe hc352 h
                  refine a_aload iX8_readsClause_94 rfl <| a_iload iX8_readsClause_95 rfl <| ?_
                  obtain ⟨r353, he354, h⟩ := ob h
                  refine a_cVi iX8_readsClause_96 okX8_isAgain inX8_isAgain ⟨rfl, rfl⟩ (lm_s229 hM) (c_X8_isAgain hM he354) rfl rfl (Nat.le_of_ble_eq_true rfl) ⟨Nat.le_refl 0, Nat.le_refl 0⟩ <| ?_
                  refine a_if_eq iX8_readsClause_99 (fun hc355 => ?_) (fun hc355 => ?_)
                  · have h := ot hc355 h
                    refine a_iload iX8_readsClause_111 rfl <| a_const iX8_readsClause_112 <| ?_
                    refine a_icmp_ne iX8_readsClause_114 (fun hc356 => ?_) (fun hc356 => ?_)
                    · have h := oe hc356 h
                      refine a_iload iX8_readsClause_124 rfl <| a_const iX8_readsClause_125 <| ?_
                      refine a_icmp_ne iX8_readsClause_127 (fun hc357 => ?_) (fun hc357 => ?_)
                      · have h := oe hc357 h
                        refine a_iload iX8_readsClause_137 rfl <| a_const iX8_readsClause_138 <| ?_
                        refine a_icmp_ne iX8_readsClause_140 (fun hc358 => ?_) (fun hc358 => ?_)
                        · have h := oe hc358 h
                          refine a_aload iX8_readsClause_150 rfl <| ?_
                          obtain ⟨⟨r359, mi360⟩, he361, h⟩ := ob h
                          refine a_cVi iX8_readsClause_151 okX8_readsWant inX8_readsWant ⟨rfl, rfl⟩ (lm_s229 hM) (c_X8_readsWant hM he361) rfl rfl (Nat.le_of_ble_eq_true rfl) ⟨Nat.le_refl 0, Nat.le_refl 0⟩ <| ?_
                          obtain ⟨hz363, h⟩ := og h
                          obtain rfl := Option.some.inj h
                          exact a_zret iX8_readsClause_154 rfl (nb01 hz363) ⟨Nat.le_refl 0, Nat.le_refl 0⟩ ⟨rfl, rfl, rfl, rfl⟩
                        · have h := ot hc358 h
                          refine a_aload iX8_readsClause_143 rfl <| ?_
                          obtain ⟨⟨r364, mi365⟩, he366, h⟩ := ob h
                          refine a_cVi iX8_readsClause_144 okX8_readsLand inX8_readsLand ⟨rfl, rfl⟩ (lm_s229 hM) (c_X8_readsLand hM he366) rfl rfl (Nat.le_of_ble_eq_true rfl) ⟨Nat.le_refl 0, Nat.le_refl 0⟩ <| a_goto iX8_readsClause_147 <| ?_
                          obtain ⟨hz368, h⟩ := og h
                          obtain rfl := Option.some.inj h
                          exact a_zret iX8_readsClause_154 rfl (nb01 hz368) ⟨Nat.le_refl 0, Nat.le_refl 0⟩ ⟨rfl, rfl, rfl, rfl⟩
                      · have h := ot hc357 h
                        refine a_aload iX8_readsClause_130 rfl <| ?_
                        obtain ⟨⟨r369, mi370⟩, he371, h⟩ := ob h
                        refine a_cVi iX8_readsClause_131 okX8_readsThing inX8_readsThing ⟨rfl, rfl⟩ (lm_s229 hM) (c_X8_readsThing hM he371) rfl rfl (Nat.le_of_ble_eq_true rfl) ⟨Nat.le_refl 0, Nat.le_refl 0⟩ <| a_goto iX8_readsClause_134 <| ?_
                        obtain ⟨hz373, h⟩ := og h
                        obtain rfl := Option.some.inj h
                        exact a_zret iX8_readsClause_154 rfl (nb01 hz373) ⟨Nat.le_refl 0, Nat.le_refl 0⟩ ⟨rfl, rfl, rfl, rfl⟩
                    · have h := ot hc356 h
                      refine a_aload iX8_readsClause_117 rfl <| ?_
                      obtain ⟨⟨r374, mi375⟩, he376, h⟩ := ob h
                      refine a_cVi iX8_readsClause_118 okX8_readsSeasons inX8_readsSeasons ⟨rfl, rfl⟩ (lm_s229 hM) (c_X8_readsSeasons hM he376) rfl rfl (Nat.le_of_ble_eq_true rfl) ⟨Nat.le_refl 0, Nat.le_refl 0⟩ <| a_goto iX8_readsClause_121 <| ?_
                      obtain ⟨hz378, h⟩ := og h
                      obtain rfl := Option.some.inj h
                      exact a_zret iX8_readsClause_154 rfl (nb01 hz378) ⟨Nat.le_refl 0, Nat.le_refl 0⟩ ⟨rfl, rfl, rfl, rfl⟩
                  · have h := oe hc355 h
                    refine a_aload iX8_readsClause_102 rfl <| a_const iX8_readsClause_103 <| a_iload iX8_readsClause_104 rfl <| ?_
                    obtain ⟨⟨r379, mi380⟩, he381, h⟩ := ob h
                    refine a_cVi iX8_readsClause_105 okX8_fails inX8_fails ⟨rfl, rfl⟩ (lm_s229 hM) (c_X8_fails hM he381) rfl rfl (Nat.le_of_ble_eq_true rfl) ⟨Nat.le_refl 0, Nat.le_refl 0⟩ <| a_pop iX8_readsClause_108 rfl <| a_const iX8_readsClause_109 <| ?_
                    obtain rfl := Option.some.inj h
                    exact a_zret iX8_readsClause_110 rfl rfl ⟨Nat.le_refl 0, Nat.le_refl 0⟩ ⟨rfl, rfl, rfl, rfl⟩
                · have h := ot hc352 h
                  refine a_aload iX8_readsClause_85 rfl <| a_const iX8_readsClause_86 <| a_iload iX8_readsClause_87 rfl <| ?_
                  obtain ⟨⟨r383, mi384⟩, he385, h⟩ := ob h
                  refine a_cVi iX8_readsClause_88 okX8_fails inX8_fails ⟨rfl, rfl⟩ (lm_s229 hM) (c_X8_fails hM he385) rfl rfl (Nat.le_of_ble_eq_true rfl) ⟨Nat.le_refl 0, Nat.le_refl 0⟩ <| a_pop iX8_readsClause_91 rfl <| a_const iX8_readsClause_92 <| ?_
                  obtain rfl := Option.some.inj h
                  exact a_zret iX8_readsClause_93 rfl rfl ⟨Nat.le_refl 0, Nat.le_refl 0⟩ ⟨rfl, rfl, rfl, rfl⟩
    · have h := ot hc196 h
      refine a_aload iX8_readsClause_33 rfl <| ?_
      obtain ⟨⟨r387, mi388⟩, he389, h⟩ := ob h
      refine a_cVi iX8_readsClause_34 okX8_readsHead inX8_readsHead ⟨rfl, rfl⟩ (lm_s229 hM) (c_X8_readsHead hM he389) rfl rfl (Nat.le_of_ble_eq_true rfl) ⟨Nat.le_refl 0, Nat.le_refl 0⟩ <| ?_
      obtain ⟨hz391, h⟩ := og h
      obtain rfl := Option.some.inj h
      exact a_zret iX8_readsClause_37 rfl (nb01 hz391) ⟨Nat.le_refl 0, Nat.le_refl 0⟩ ⟨rfl, rfl, rfl, rfl⟩
def lp_X8_readsCounty_42 (K : Int32 → Mi → Option (Int32 × Mi)) : Nat → Int32 → Mi → Option (Int32 × Mi)
  | 0, _, _ => none
  | n + 1, v1, mi => if v1 = 0 then (K v1 mi) else ((f_X8_nextLetter mi).bind (fun q5 => if q5.1 = (-1) then (K v1 q5.2) else ((f_X8_readsClause q5.2).bind (fun q10 => lp_X8_readsCounty_42  K n q10.1 q10.2))))
def f_X8_readsCounty (mi : Mi) : Option (Int32 × Mi) := lp_X8_readsCounty_42 (fun v1_11 mi11 => if v1_11 = 0 ∨ v1_11 = 1 then some (v1_11, mi11) else none) FU 1 (u2 (u2 (u2 (u2 (u2 (u2 (u2 (u2 mi 229 2 0) 229 6 0) 229 7 0) 229 8 0) 229 9 0) 229 10 0) 229 11 0) 229 12 0)
set_option maxRecDepth 20000 in
set_option maxHeartbeats 4000000 in
theorem w_X8_readsCounty_42 {g : Gm} {V : Vw} {E : Ex} {ml : Ml} (hM : LayM V) {K : Int32 → Mi → Option (Int32 × Mi)} {r : Int32 × Mi} (hK : ∀ (v1 : Int32) (mi : Mi), K v1 mi = some r → At g YX8_readsCounty E (qm g YX8_readsCounty (pI V (r.1) (r.2) ml)) V (0, 0) 62 [some (rf g 229), some (.int v1)] [] mi ml) : ∀ (n : Nat) (v1 : Int32) (mi : Mi), lp_X8_readsCounty_42  K n v1 mi = some r → At g YX8_readsCounty E (qm g YX8_readsCounty (pI V (r.1) (r.2) ml)) V (0, 0) 42 [some (rf g 229), some (.int v1)] [] mi ml := by
  intro n
  induction n with
  | zero => intro v1 mi h; exact oz h
  | succ n ih =>
    intro v1 mi h
    unfold lp_X8_readsCounty_42 at h
    refine a_iload iX8_readsCounty_42 rfl <| ?_
    refine a_if_eq iX8_readsCounty_43 (fun hc1 => ?_) (fun hc1 => ?_)
    · have h := ot hc1 h
      exact a_sub (L' := [some (rf g 229), some (.int v1)]) (by exact ⟨rfl, ⟨rfl, trivial⟩⟩) (hK _ _ h)
    · have h := oe hc1 h
      refine a_aload iX8_readsCounty_46 rfl <| ?_
      obtain ⟨⟨r2, mi3⟩, he4, h⟩ := ob h
      refine a_cVi iX8_readsCounty_47 okX8_nextLetter inX8_nextLetter ⟨rfl, rfl⟩ (lm_s229 hM) (c_X8_nextLetter hM he4) rfl rfl (Nat.le_of_ble_eq_true rfl) ⟨Nat.le_refl 0, Nat.le_refl 0⟩ <| a_const iX8_readsCounty_50 <| ?_
      refine a_icmp_eq iX8_readsCounty_51 (fun hc6 => ?_) (fun hc6 => ?_)
      · have h := ot hc6 h
        exact a_sub (L' := [some (rf g 229), some (.int v1)]) (by exact ⟨rfl, ⟨rfl, trivial⟩⟩) (hK _ _ h)
      · have h := oe hc6 h
        refine a_aload iX8_readsCounty_54 rfl <| ?_
        obtain ⟨⟨r7, mi8⟩, he9, h⟩ := ob h
        refine a_cVi iX8_readsCounty_55 okX8_readsClause inX8_readsClause ⟨rfl, rfl⟩ (lm_s229 hM) (c_X8_readsClause hM he9) rfl rfl (Nat.le_of_ble_eq_true rfl) ⟨Nat.le_refl 0, Nat.le_refl 0⟩ <| a_istore iX8_readsCounty_58 (by decide) rfl <| a_goto iX8_readsCounty_59 <| ?_
        exact a_sub (L' := [some (rf g 229), some (.int r7)]) (by exact ⟨rfl, ⟨rfl, trivial⟩⟩) (ih _ _ h)
set_option maxRecDepth 20000 in
set_option maxHeartbeats 4000000 in
theorem c_X8_readsCounty {g : Gm} {V : Vw} {mi : Mi} {ml : Ml} (hM : LayM V) {r : Int32 × Mi} (h : f_X8_readsCounty mi = some r) : DoI g YX8_readsCounty V [rf g 229] mi ml (r.1) (r.2) ml := by
  unfold f_X8_readsCounty at h
  refine does_of (L := [some (rf g 229), none]) okX8_readsCounty rfl (Nat.le_of_ble_eq_true rfl) rfl ?_
  show At g YX8_readsCounty _ (qm g YX8_readsCounty (pI V (r.1) (r.2) ml)) V (0, 0) 0 _ [] mi ml
  refine a_aload iX8_readsCounty_0 rfl <| a_const iX8_readsCounty_1 <| a_puti iX8_readsCounty_2 (lm_s229 hM) rfl rfl rfl <| a_aload iX8_readsCounty_5 rfl <| a_const iX8_readsCounty_6 <| a_puti iX8_readsCounty_7 (lm_s229 hM) rfl rfl rfl <| a_aload iX8_readsCounty_10 rfl <| a_const iX8_readsCounty_11 <| ?_
  refine a_puti iX8_readsCounty_12 (lm_s229 hM) rfl rfl rfl <| a_aload iX8_readsCounty_15 rfl <| a_const iX8_readsCounty_16 <| a_puti iX8_readsCounty_17 (lm_s229 hM) rfl rfl rfl <| a_aload iX8_readsCounty_20 rfl <| a_const iX8_readsCounty_21 <| a_puti iX8_readsCounty_22 (lm_s229 hM) rfl rfl rfl <| a_aload iX8_readsCounty_25 rfl <| ?_
  refine a_const iX8_readsCounty_26 <| a_puti iX8_readsCounty_27 (lm_s229 hM) rfl rfl rfl <| a_aload iX8_readsCounty_30 rfl <| a_const iX8_readsCounty_31 <| a_puti iX8_readsCounty_32 (lm_s229 hM) rfl rfl rfl <| a_aload iX8_readsCounty_35 rfl <| a_const iX8_readsCounty_36 <| a_puti iX8_readsCounty_37 (lm_s229 hM) rfl rfl rfl <| ?_
  refine a_const iX8_readsCounty_40 <| a_istore iX8_readsCounty_41 (by decide) rfl <| ?_
  refine a_sub (L' := [some (rf g 229), some (.int 1)]) (by exact ⟨rfl, ⟨rfl, trivial⟩⟩) (w_X8_readsCounty_42 hM (fun v1_11 mi11 h => ?_) FU _ _ h)
  refine a_iload iX8_readsCounty_62 rfl <| ?_
  obtain ⟨hz12, h⟩ := og h
  obtain rfl := Option.some.inj h
  exact a_zret iX8_readsCounty_63 rfl (nb01 hz12) ⟨Nat.le_refl 0, Nat.le_refl 0⟩ ⟨rfl, rfl, rfl, rfl⟩
def lp_X8_county_96 (v1 : Int32) (K : Int32 → Mi → Option (Int32 × Mi)) : Nat → Int32 → Mi → Option (Int32 × Mi)
  | 0, _, _ => none
  | n + 1, v2, mi => if (mi 229 19) ≤ v2 then (K v2 mi) else (if inb v2 12 then if inb v2 12 then lp_X8_county_96 v1 K n (v2 + 1) (u2 mi 235 v2.toNatClampNeg (mi 231 v2.toNatClampNeg)) else none else none)
def lp_X8_county_124 (v1 : Int32) (K : Int32 → Mi → Option (Int32 × Mi)) : Nat → Int32 → Mi → Option (Int32 × Mi)
  | 0, _, _ => none
  | n + 1, v2, mi => if (3 * (mi 229 23)) ≤ v2 then (K v2 mi) else (if inb v2 30 then if inb v2 30 then lp_X8_county_124 v1 K n (v2 + 1) (u2 mi 237 v2.toNatClampNeg (mi 234 v2.toNatClampNeg)) else none else none)
def lp_X8_county_154 (v1 : Int32) (K : Int32 → Mi → Option (Int32 × Mi)) : Nat → Int32 → Mi → Option (Int32 × Mi)
  | 0, _, _ => none
  | n + 1, v2, mi => if 121 ≤ v2 then (K v2 mi) else ((f_X8_in v2 16 39).bind (fun r22 => if r22 = 0 then (if inb v2 121 then lp_X8_county_154 v1 K n (v2 + 1) (u2 mi 238 v2.toNatClampNeg 0) else none) else (if inb v2 121 then lp_X8_county_154 v1 K n (v2 + 1) (u2 mi 238 v2.toNatClampNeg (-1)) else none)))
def lp_X8_county_190 (v1 : Int32) (K : Int32 → Mi → Option (Int32 × Mi)) : Nat → Int32 → Mi → Option (Int32 × Mi)
  | 0, _, _ => none
  | n + 1, v2, mi => if (mi 229 20) ≤ v2 then (K v2 mi) else (if inb v2 8 then if inb v2 8 then if inb v2 8 then if inb (8 + v2) 121 then nx (u2 (u2 mi 236 v2.toNatClampNeg (mi 232 v2.toNatClampNeg)) 238 (8 + v2).toNatClampNeg ((u2 mi 236 v2.toNatClampNeg (mi 232 v2.toNatClampNeg)) 233 v2.toNatClampNeg)) (fun mi34 => lp_X8_county_190 v1 K n (v2 + 1) mi34) else none else none else none else none)
def f_X8_county (mi : Mi) : Option (Int32 × Mi) := (f_X8_readsCounty mi).bind (fun q4 => if q4.1 = 0 then (if q4.1 = 0 then (some ((-10) - ((u2 (u2 q4.2 229 0 0) 229 5 ((u2 q4.2 229 0 0) 229 2)) 229 4), u2 (u2 q4.2 229 0 0) 229 5 ((u2 q4.2 229 0 0) 229 2))) else (nx (u2 (u2 (u2 q4.2 229 0 0) 229 5 ((u2 q4.2 229 0 0) 229 2)) 229 17 ((u2 (u2 q4.2 229 0 0) 229 5 ((u2 q4.2 229 0 0) 229 2)) 229 6)) (fun mi8 => nx (u2 (u2 (u2 mi8 229 18 (mi8 229 7)) 229 19 ((u2 mi8 229 18 (mi8 229 7)) 229 8)) 229 20 ((u2 (u2 mi8 229 18 (mi8 229 7)) 229 19 ((u2 mi8 229 18 (mi8 229 7)) 229 8)) 229 9)) (fun mi10 => nx (u2 (u2 (u2 mi10 229 21 (mi10 229 10)) 229 22 ((u2 mi10 229 21 (mi10 229 10)) 229 11)) 229 23 ((u2 (u2 mi10 229 21 (mi10 229 10)) 229 22 ((u2 mi10 229 21 (mi10 229 10)) 229 11)) 229 12)) (fun mi12 => lp_X8_county_96 q4.1 (fun v2_16 mi16 => lp_X8_county_124 q4.1 (fun v2_20 mi20 => lp_X8_county_154 q4.1 (fun v2_27 mi27 => lp_X8_county_190 q4.1 (fun v2_35 mi35 => if inb 0 2 then if inb 1 2 then nx (u2 (u2 (u2 (u2 (u2 mi35 229 28 0) 229 32 0) 229 37 0) 246 (0 : Int32).toNatClampNeg 0) 246 (1 : Int32).toNatClampNeg 0) (fun mi39 => some (mi39 229 20, mi39)) else none else none) FU 0 mi27) FU 0 mi20) FU 0 mi16) FU 0 mi12))))) else (if q4.1 = 0 then (some ((-10) - ((u2 (u2 q4.2 229 0 0) 229 5 (-1)) 229 4), u2 (u2 q4.2 229 0 0) 229 5 (-1))) else (nx (u2 (u2 (u2 (u2 q4.2 229 0 0) 229 5 (-1)) 229 17 ((u2 (u2 q4.2 229 0 0) 229 5 (-1)) 229 6)) 229 18 ((u2 (u2 (u2 q4.2 229 0 0) 229 5 (-1)) 229 17 ((u2 (u2 q4.2 229 0 0) 229 5 (-1)) 229 6)) 229 7)) (fun mi42 => nx (u2 (u2 (u2 mi42 229 19 (mi42 229 8)) 229 20 ((u2 mi42 229 19 (mi42 229 8)) 229 9)) 229 21 ((u2 (u2 mi42 229 19 (mi42 229 8)) 229 20 ((u2 mi42 229 19 (mi42 229 8)) 229 9)) 229 10)) (fun mi44 => lp_X8_county_96 q4.1 (fun v2_45 mi45 => lp_X8_county_124 q4.1 (fun v2_46 mi46 => lp_X8_county_154 q4.1 (fun v2_47 mi47 => lp_X8_county_190 q4.1 (fun v2_48 mi48 => if inb 0 2 then if inb 1 2 then nx (u2 (u2 (u2 (u2 (u2 mi48 229 28 0) 229 32 0) 229 37 0) 246 (0 : Int32).toNatClampNeg 0) 246 (1 : Int32).toNatClampNeg 0) (fun mi52 => some (mi52 229 20, mi52)) else none else none) FU 0 mi47) FU 0 mi46) FU 0 mi45) FU 0 (u2 (u2 mi44 229 22 (mi44 229 11)) 229 23 ((u2 mi44 229 22 (mi44 229 11)) 229 12)))))))
set_option maxRecDepth 20000 in
set_option maxHeartbeats 4000000 in
theorem w_X8_county_96 {g : Gm} {V : Vw} {E : Ex} {ml : Ml} {v1 : Int32} (hM : LayM V) {K : Int32 → Mi → Option (Int32 × Mi)} {r : Int32 × Mi} (hK : ∀ (v2 : Int32) (mi : Mi), K v2 mi = some r → At g YX8_county E (qm g YX8_county (pI V (r.1) (r.2) ml)) V (0, 0) 122 [some (rf g 229), some (.int v1), some (.int v2)] [] mi ml) : ∀ (n : Nat) (v2 : Int32) (mi : Mi), lp_X8_county_96 v1 K n v2 mi = some r → At g YX8_county E (qm g YX8_county (pI V (r.1) (r.2) ml)) V (0, 0) 96 [some (rf g 229), some (.int v1), some (.int v2)] [] mi ml := by
  intro n
  induction n with
  | zero => intro v2 mi h; exact oz h
  | succ n ih =>
    intro v2 mi h
    unfold lp_X8_county_96 at h
    refine a_iload iX8_county_96 rfl <| a_aload iX8_county_97 rfl <| a_geti iX8_county_98 (lm_s229 hM) rfl <| ?_
    refine a_icmp_ge iX8_county_101 (fun hc13 => ?_) (fun hc13 => ?_)
    · have h := ot hc13 h
      exact a_sub (L' := [some (rf g 229), some (.int v1), some (.int v2)]) (by exact ⟨rfl, ⟨rfl, ⟨rfl, trivial⟩⟩⟩) (hK _ _ h)
    · have h := oe hc13 h
      refine a_aload iX8_county_104 rfl <| a_getr iX8_county_105 (lm_s229 hM) rfl (lm_r229_24 hM) <| a_iload iX8_county_108 rfl <| a_aload iX8_county_109 rfl <| a_getr iX8_county_110 (lm_s229 hM) rfl (lm_r229_13 hM) <| a_iload iX8_county_113 rfl <| ?_
      obtain ⟨hg14, h⟩ := og h
      refine a_iald iX8_county_114 (lm_s231 hM) (inb_vp hg14) <| ?_
      obtain ⟨hg15, h⟩ := og h
      refine a_iast iX8_county_115 (lm_s235 hM) (inb_vp hg15) <| a_iinc iX8_county_116 rfl (by decide) rfl <| a_goto iX8_county_119 <| ?_
      exact a_sub (L' := [some (rf g 229), some (.int v1), some (.int (v2 + 1))]) (by exact ⟨rfl, ⟨rfl, ⟨rfl, trivial⟩⟩⟩) (ih _ _ h)
set_option maxRecDepth 20000 in
set_option maxHeartbeats 4000000 in
theorem w_X8_county_124 {g : Gm} {V : Vw} {E : Ex} {ml : Ml} {v1 : Int32} (hM : LayM V) {K : Int32 → Mi → Option (Int32 × Mi)} {r : Int32 × Mi} (hK : ∀ (v2 : Int32) (mi : Mi), K v2 mi = some r → At g YX8_county E (qm g YX8_county (pI V (r.1) (r.2) ml)) V (0, 0) 152 [some (rf g 229), some (.int v1), some (.int v2)] [] mi ml) : ∀ (n : Nat) (v2 : Int32) (mi : Mi), lp_X8_county_124 v1 K n v2 mi = some r → At g YX8_county E (qm g YX8_county (pI V (r.1) (r.2) ml)) V (0, 0) 124 [some (rf g 229), some (.int v1), some (.int v2)] [] mi ml := by
  intro n
  induction n with
  | zero => intro v2 mi h; exact oz h
  | succ n ih =>
    intro v2 mi h
    unfold lp_X8_county_124 at h
    refine a_iload iX8_county_124 rfl <| a_const iX8_county_125 <| a_aload iX8_county_126 rfl <| a_geti iX8_county_127 (lm_s229 hM) rfl <| a_imul iX8_county_130 <| ?_
    refine a_icmp_ge iX8_county_131 (fun hc17 => ?_) (fun hc17 => ?_)
    · have h := ot hc17 h
      exact a_sub (L' := [some (rf g 229), some (.int v1), some (.int v2)]) (by exact ⟨rfl, ⟨rfl, ⟨rfl, trivial⟩⟩⟩) (hK _ _ h)
    · have h := oe hc17 h
      refine a_aload iX8_county_134 rfl <| a_getr iX8_county_135 (lm_s229 hM) rfl (lm_r229_26 hM) <| a_iload iX8_county_138 rfl <| a_aload iX8_county_139 rfl <| a_getr iX8_county_140 (lm_s229 hM) rfl (lm_r229_16 hM) <| a_iload iX8_county_143 rfl <| ?_
      obtain ⟨hg18, h⟩ := og h
      refine a_iald iX8_county_144 (lm_s234 hM) (inb_vp hg18) <| ?_
      obtain ⟨hg19, h⟩ := og h
      refine a_iast iX8_county_145 (lm_s237 hM) (inb_vp hg19) <| a_iinc iX8_county_146 rfl (by decide) rfl <| a_goto iX8_county_149 <| ?_
      exact a_sub (L' := [some (rf g 229), some (.int v1), some (.int (v2 + 1))]) (by exact ⟨rfl, ⟨rfl, ⟨rfl, trivial⟩⟩⟩) (ih _ _ h)
set_option maxRecDepth 20000 in
set_option maxHeartbeats 4000000 in
theorem w_X8_county_154 {g : Gm} {V : Vw} {E : Ex} {ml : Ml} {v1 : Int32} (hM : LayM V) {K : Int32 → Mi → Option (Int32 × Mi)} {r : Int32 × Mi} (hK : ∀ (v2 : Int32) (mi : Mi), K v2 mi = some r → At g YX8_county E (qm g YX8_county (pI V (r.1) (r.2) ml)) V (0, 0) 188 [some (rf g 229), some (.int v1), some (.int v2)] [] mi ml) : ∀ (n : Nat) (v2 : Int32) (mi : Mi), lp_X8_county_154 v1 K n v2 mi = some r → At g YX8_county E (qm g YX8_county (pI V (r.1) (r.2) ml)) V (0, 0) 154 [some (rf g 229), some (.int v1), some (.int v2)] [] mi ml := by
  intro n
  induction n with
  | zero => intro v2 mi h; exact oz h
  | succ n ih =>
    intro v2 mi h
    unfold lp_X8_county_154 at h
    refine a_iload iX8_county_154 rfl <| a_const iX8_county_155 <| ?_
    refine a_icmp_ge iX8_county_157 (fun hc21 => ?_) (fun hc21 => ?_)
    · have h := ot hc21 h
      exact a_sub (L' := [some (rf g 229), some (.int v1), some (.int v2)]) (by exact ⟨rfl, ⟨rfl, ⟨rfl, trivial⟩⟩⟩) (hK _ _ h)
    · have h := oe hc21 h
      refine a_aload iX8_county_160 rfl <| a_getr iX8_county_161 (lm_s229 hM) rfl (lm_r229_27 hM) <| a_iload iX8_county_164 rfl <| a_iload iX8_county_165 rfl <| a_const iX8_county_166 <| a_const iX8_county_168 <| ?_
      obtain ⟨r22, he23, h⟩ := ob h
      refine a_cSi iX8_county_170 okX8_in stX8_in ⟨rfl, rfl⟩ (c_X8_in he23) rfl rfl (Nat.le_of_ble_eq_true rfl) ⟨Nat.le_refl 0, Nat.le_refl 0⟩ <| ?_
      refine a_if_eq iX8_county_173 (fun hc24 => ?_) (fun hc24 => ?_)
      · have h := ot hc24 h
        refine a_const iX8_county_180 <| ?_
        obtain ⟨hg25, h⟩ := og h
        refine a_iast iX8_county_181 (lm_s238 hM) (inb_vp hg25) <| a_iinc iX8_county_182 rfl (by decide) rfl <| a_goto iX8_county_185 <| ?_
        exact a_sub (L' := [some (rf g 229), some (.int v1), some (.int (v2 + 1))]) (by exact ⟨rfl, ⟨rfl, ⟨rfl, trivial⟩⟩⟩) (ih _ _ h)
      · have h := oe hc24 h
        refine a_const iX8_county_176 <| a_goto iX8_county_177 <| ?_
        obtain ⟨hg26, h⟩ := og h
        refine a_iast iX8_county_181 (lm_s238 hM) (inb_vp hg26) <| a_iinc iX8_county_182 rfl (by decide) rfl <| a_goto iX8_county_185 <| ?_
        exact a_sub (L' := [some (rf g 229), some (.int v1), some (.int (v2 + 1))]) (by exact ⟨rfl, ⟨rfl, ⟨rfl, trivial⟩⟩⟩) (ih _ _ h)
set_option maxRecDepth 20000 in
set_option maxHeartbeats 4000000 in
theorem w_X8_county_190 {g : Gm} {V : Vw} {E : Ex} {ml : Ml} {v1 : Int32} (hM : LayM V) {K : Int32 → Mi → Option (Int32 × Mi)} {r : Int32 × Mi} (hK : ∀ (v2 : Int32) (mi : Mi), K v2 mi = some r → At g YX8_county E (qm g YX8_county (pI V (r.1) (r.2) ml)) V (0, 0) 231 [some (rf g 229), some (.int v1), some (.int v2)] [] mi ml) : ∀ (n : Nat) (v2 : Int32) (mi : Mi), lp_X8_county_190 v1 K n v2 mi = some r → At g YX8_county E (qm g YX8_county (pI V (r.1) (r.2) ml)) V (0, 0) 190 [some (rf g 229), some (.int v1), some (.int v2)] [] mi ml := by
  intro n
  induction n with
  | zero => intro v2 mi h; exact oz h
  | succ n ih =>
    intro v2 mi h
    unfold lp_X8_county_190 at h
    refine a_iload iX8_county_190 rfl <| a_aload iX8_county_191 rfl <| a_geti iX8_county_192 (lm_s229 hM) rfl <| ?_
    refine a_icmp_ge iX8_county_195 (fun hc28 => ?_) (fun hc28 => ?_)
    · have h := ot hc28 h
      exact a_sub (L' := [some (rf g 229), some (.int v1), some (.int v2)]) (by exact ⟨rfl, ⟨rfl, ⟨rfl, trivial⟩⟩⟩) (hK _ _ h)
    · have h := oe hc28 h
      refine a_aload iX8_county_198 rfl <| a_getr iX8_county_199 (lm_s229 hM) rfl (lm_r229_25 hM) <| a_iload iX8_county_202 rfl <| a_aload iX8_county_203 rfl <| a_getr iX8_county_204 (lm_s229 hM) rfl (lm_r229_14 hM) <| a_iload iX8_county_207 rfl <| ?_
      obtain ⟨hg29, h⟩ := og h
      refine a_iald iX8_county_208 (lm_s232 hM) (inb_vp hg29) <| ?_
      obtain ⟨hg30, h⟩ := og h
      refine a_iast iX8_county_209 (lm_s236 hM) (inb_vp hg30) <| a_aload iX8_county_210 rfl <| a_getr iX8_county_211 (lm_s229 hM) rfl (lm_r229_27 hM) <| a_const iX8_county_214 <| a_iload iX8_county_216 rfl <| a_iadd iX8_county_217 <| a_aload iX8_county_218 rfl <| a_getr iX8_county_219 (lm_s229 hM) rfl (lm_r229_15 hM) <| ?_
      refine a_iload iX8_county_222 rfl <| ?_
      obtain ⟨hg31, h⟩ := og h
      refine a_iald iX8_county_223 (lm_s233 hM) (inb_vp hg31) <| ?_
      obtain ⟨hg32, h⟩ := og h
      refine a_iast iX8_county_224 (lm_s238 hM) (inb_vp hg32) <| ?_
      obtain ⟨mi34, hm33, h⟩ := onx h
      refine a_mem hm33 <| a_iinc iX8_county_225 rfl (by decide) rfl <| a_goto iX8_county_228 <| ?_
      exact a_sub (L' := [some (rf g 229), some (.int v1), some (.int (v2 + 1))]) (by exact ⟨rfl, ⟨rfl, ⟨rfl, trivial⟩⟩⟩) (ih _ _ h)
set_option maxRecDepth 20000 in
set_option maxHeartbeats 4000000 in
theorem c_X8_county {g : Gm} {V : Vw} {mi : Mi} {ml : Ml} (hM : LayM V) {r : Int32 × Mi} (h : f_X8_county mi = some r) : DoI g YX8_county V [rf g 229] mi ml (r.1) (r.2) ml := by
  unfold f_X8_county at h
  refine does_of (L := [some (rf g 229), none, none]) okX8_county rfl (Nat.le_of_ble_eq_true rfl) rfl ?_
  show At g YX8_county _ (qm g YX8_county (pI V (r.1) (r.2) ml)) V (0, 0) 0 _ [] mi ml
  refine a_aload iX8_county_0 rfl <| ?_
  obtain ⟨⟨r1, mi2⟩, he3, h⟩ := ob h
  refine a_cVi iX8_county_1 okX8_readsCounty inX8_readsCounty ⟨rfl, rfl⟩ (lm_s229 hM) (c_X8_readsCounty hM he3) rfl rfl (Nat.le_of_ble_eq_true rfl) ⟨Nat.le_refl 0, Nat.le_refl 0⟩ <| a_istore iX8_county_4 (by decide) rfl <| a_aload iX8_county_5 rfl <| a_const iX8_county_6 <| a_puti iX8_county_7 (lm_s229 hM) rfl rfl rfl <| a_aload iX8_county_10 rfl <| a_iload iX8_county_11 rfl <| ?_
  refine a_if_eq iX8_county_12 (fun hc5 => ?_) (fun hc5 => ?_)
  · have h := ot hc5 h
    refine a_aload iX8_county_19 rfl <| a_geti iX8_county_20 (lm_s229 hM) rfl <| a_puti iX8_county_23 (lm_s229 hM) rfl rfl rfl <| a_iload iX8_county_26 rfl <| ?_
    refine a_if_ne iX8_county_27 (fun hc6 => ?_) (fun hc6 => ?_)
    · have h := oe hc6 h
      refine a_aload iX8_county_38 rfl <| a_aload iX8_county_39 rfl <| a_geti iX8_county_40 (lm_s229 hM) rfl <| a_puti iX8_county_43 (lm_s229 hM) rfl rfl rfl <| ?_
      obtain ⟨mi8, hm7, h⟩ := onx h
      refine a_mem hm7 <| a_aload iX8_county_46 rfl <| a_aload iX8_county_47 rfl <| a_geti iX8_county_48 (lm_s229 hM) rfl <| a_puti iX8_county_51 (lm_s229 hM) rfl rfl rfl <| a_aload iX8_county_54 rfl <| a_aload iX8_county_55 rfl <| a_geti iX8_county_56 (lm_s229 hM) rfl <| ?_
      refine a_puti iX8_county_59 (lm_s229 hM) rfl rfl rfl <| a_aload iX8_county_62 rfl <| a_aload iX8_county_63 rfl <| a_geti iX8_county_64 (lm_s229 hM) rfl <| a_puti iX8_county_67 (lm_s229 hM) rfl rfl rfl <| ?_
      obtain ⟨mi10, hm9, h⟩ := onx h
      refine a_mem hm9 <| a_aload iX8_county_70 rfl <| a_aload iX8_county_71 rfl <| a_geti iX8_county_72 (lm_s229 hM) rfl <| a_puti iX8_county_75 (lm_s229 hM) rfl rfl rfl <| a_aload iX8_county_78 rfl <| a_aload iX8_county_79 rfl <| a_geti iX8_county_80 (lm_s229 hM) rfl <| ?_
      refine a_puti iX8_county_83 (lm_s229 hM) rfl rfl rfl <| a_aload iX8_county_86 rfl <| a_aload iX8_county_87 rfl <| a_geti iX8_county_88 (lm_s229 hM) rfl <| a_puti iX8_county_91 (lm_s229 hM) rfl rfl rfl <| ?_
      obtain ⟨mi12, hm11, h⟩ := onx h
      refine a_mem hm11 <| a_const iX8_county_94 <| a_istore iX8_county_95 (by decide) rfl <| ?_
      refine a_sub (L' := [some (rf g 229), some (.int r1), some (.int 0)]) (by exact ⟨rfl, ⟨rfl, ⟨rfl, trivial⟩⟩⟩) (w_X8_county_96 hM (fun v2_16 mi16 h => ?_) FU _ _ h)
      refine a_const iX8_county_122 <| a_istore iX8_county_123 (by decide) rfl <| ?_
      refine a_sub (L' := [some (rf g 229), some (.int r1), some (.int 0)]) (by exact ⟨rfl, ⟨rfl, ⟨rfl, trivial⟩⟩⟩) (w_X8_county_124 hM (fun v2_20 mi20 h => ?_) FU _ _ h)
      refine a_const iX8_county_152 <| a_istore iX8_county_153 (by decide) rfl <| ?_
      refine a_sub (L' := [some (rf g 229), some (.int r1), some (.int 0)]) (by exact ⟨rfl, ⟨rfl, ⟨rfl, trivial⟩⟩⟩) (w_X8_county_154 hM (fun v2_27 mi27 h => ?_) FU _ _ h)
      refine a_const iX8_county_188 <| a_istore iX8_county_189 (by decide) rfl <| ?_
      refine a_sub (L' := [some (rf g 229), some (.int r1), some (.int 0)]) (by exact ⟨rfl, ⟨rfl, ⟨rfl, trivial⟩⟩⟩) (w_X8_county_190 hM (fun v2_35 mi35 h => ?_) FU _ _ h)
      refine a_aload iX8_county_231 rfl <| a_const iX8_county_232 <| a_puti iX8_county_233 (lm_s229 hM) rfl rfl rfl <| a_aload iX8_county_236 rfl <| a_const iX8_county_237 <| a_puti iX8_county_238 (lm_s229 hM) rfl rfl rfl <| a_aload iX8_county_241 rfl <| a_const iX8_county_242 <| ?_
      refine a_puti iX8_county_243 (lm_s229 hM) rfl rfl rfl <| a_aload iX8_county_246 rfl <| a_getr iX8_county_247 (lm_s229 hM) rfl (lm_r229_40 hM) <| a_const iX8_county_250 <| a_const iX8_county_251 <| ?_
      obtain ⟨hg36, h⟩ := og h
      refine a_zast iX8_county_252 (lm_s246 hM) (inb_vp hg36) rfl <| a_aload iX8_county_253 rfl <| a_getr iX8_county_254 (lm_s229 hM) rfl (lm_r229_40 hM) <| a_const iX8_county_257 <| a_const iX8_county_258 <| ?_
      obtain ⟨hg37, h⟩ := og h
      refine a_zast iX8_county_259 (lm_s246 hM) (inb_vp hg37) rfl <| ?_
      obtain ⟨mi39, hm38, h⟩ := onx h
      refine a_mem hm38 <| a_aload iX8_county_260 rfl <| a_geti iX8_county_261 (lm_s229 hM) rfl <| ?_
      obtain rfl := Option.some.inj h
      exact a_iret iX8_county_264 rfl ⟨Nat.le_refl 0, Nat.le_refl 0⟩ ⟨rfl, rfl, rfl, rfl⟩
    · have h := ot hc6 h
      refine a_const iX8_county_30 <| a_aload iX8_county_32 rfl <| a_geti iX8_county_33 (lm_s229 hM) rfl <| a_isub iX8_county_36 <| ?_
      obtain rfl := Option.some.inj h
      exact a_iret iX8_county_37 rfl ⟨Nat.le_refl 0, Nat.le_refl 0⟩ ⟨rfl, rfl, rfl, rfl⟩
  · have h := oe hc5 h
    refine a_const iX8_county_15 <| a_goto iX8_county_16 <| a_puti iX8_county_23 (lm_s229 hM) rfl rfl rfl <| a_iload iX8_county_26 rfl <| ?_
    refine a_if_ne iX8_county_27 (fun hc40 => ?_) (fun hc40 => ?_)
    · have h := oe hc40 h
      refine a_aload iX8_county_38 rfl <| a_aload iX8_county_39 rfl <| a_geti iX8_county_40 (lm_s229 hM) rfl <| a_puti iX8_county_43 (lm_s229 hM) rfl rfl rfl <| a_aload iX8_county_46 rfl <| a_aload iX8_county_47 rfl <| a_geti iX8_county_48 (lm_s229 hM) rfl <| a_puti iX8_county_51 (lm_s229 hM) rfl rfl rfl <| ?_
      obtain ⟨mi42, hm41, h⟩ := onx h
      refine a_mem hm41 <| a_aload iX8_county_54 rfl <| a_aload iX8_county_55 rfl <| a_geti iX8_county_56 (lm_s229 hM) rfl <| a_puti iX8_county_59 (lm_s229 hM) rfl rfl rfl <| a_aload iX8_county_62 rfl <| a_aload iX8_county_63 rfl <| a_geti iX8_county_64 (lm_s229 hM) rfl <| ?_
      refine a_puti iX8_county_67 (lm_s229 hM) rfl rfl rfl <| a_aload iX8_county_70 rfl <| a_aload iX8_county_71 rfl <| a_geti iX8_county_72 (lm_s229 hM) rfl <| a_puti iX8_county_75 (lm_s229 hM) rfl rfl rfl <| ?_
      obtain ⟨mi44, hm43, h⟩ := onx h
      refine a_mem hm43 <| a_aload iX8_county_78 rfl <| a_aload iX8_county_79 rfl <| a_geti iX8_county_80 (lm_s229 hM) rfl <| a_puti iX8_county_83 (lm_s229 hM) rfl rfl rfl <| a_aload iX8_county_86 rfl <| a_aload iX8_county_87 rfl <| a_geti iX8_county_88 (lm_s229 hM) rfl <| ?_
      refine a_puti iX8_county_91 (lm_s229 hM) rfl rfl rfl <| a_const iX8_county_94 <| a_istore iX8_county_95 (by decide) rfl <| ?_
      refine a_sub (L' := [some (rf g 229), some (.int r1), some (.int 0)]) (by exact ⟨rfl, ⟨rfl, ⟨rfl, trivial⟩⟩⟩) (w_X8_county_96 hM (fun v2_45 mi45 h => ?_) FU _ _ h)
      refine a_const iX8_county_122 <| a_istore iX8_county_123 (by decide) rfl <| ?_
      refine a_sub (L' := [some (rf g 229), some (.int r1), some (.int 0)]) (by exact ⟨rfl, ⟨rfl, ⟨rfl, trivial⟩⟩⟩) (w_X8_county_124 hM (fun v2_46 mi46 h => ?_) FU _ _ h)
      refine a_const iX8_county_152 <| a_istore iX8_county_153 (by decide) rfl <| ?_
      refine a_sub (L' := [some (rf g 229), some (.int r1), some (.int 0)]) (by exact ⟨rfl, ⟨rfl, ⟨rfl, trivial⟩⟩⟩) (w_X8_county_154 hM (fun v2_47 mi47 h => ?_) FU _ _ h)
      refine a_const iX8_county_188 <| a_istore iX8_county_189 (by decide) rfl <| ?_
      refine a_sub (L' := [some (rf g 229), some (.int r1), some (.int 0)]) (by exact ⟨rfl, ⟨rfl, ⟨rfl, trivial⟩⟩⟩) (w_X8_county_190 hM (fun v2_48 mi48 h => ?_) FU _ _ h)
      refine a_aload iX8_county_231 rfl <| a_const iX8_county_232 <| a_puti iX8_county_233 (lm_s229 hM) rfl rfl rfl <| a_aload iX8_county_236 rfl <| a_const iX8_county_237 <| a_puti iX8_county_238 (lm_s229 hM) rfl rfl rfl <| a_aload iX8_county_241 rfl <| a_const iX8_county_242 <| ?_
      refine a_puti iX8_county_243 (lm_s229 hM) rfl rfl rfl <| a_aload iX8_county_246 rfl <| a_getr iX8_county_247 (lm_s229 hM) rfl (lm_r229_40 hM) <| a_const iX8_county_250 <| a_const iX8_county_251 <| ?_
      obtain ⟨hg49, h⟩ := og h
      refine a_zast iX8_county_252 (lm_s246 hM) (inb_vp hg49) rfl <| a_aload iX8_county_253 rfl <| a_getr iX8_county_254 (lm_s229 hM) rfl (lm_r229_40 hM) <| a_const iX8_county_257 <| a_const iX8_county_258 <| ?_
      obtain ⟨hg50, h⟩ := og h
      refine a_zast iX8_county_259 (lm_s246 hM) (inb_vp hg50) rfl <| ?_
      obtain ⟨mi52, hm51, h⟩ := onx h
      refine a_mem hm51 <| a_aload iX8_county_260 rfl <| a_geti iX8_county_261 (lm_s229 hM) rfl <| ?_
      obtain rfl := Option.some.inj h
      exact a_iret iX8_county_264 rfl ⟨Nat.le_refl 0, Nat.le_refl 0⟩ ⟨rfl, rfl, rfl, rfl⟩
    · have h := ot hc40 h
      refine a_const iX8_county_30 <| a_aload iX8_county_32 rfl <| a_geti iX8_county_33 (lm_s229 hM) rfl <| a_isub iX8_county_36 <| ?_
      obtain rfl := Option.some.inj h
      exact a_iret iX8_county_37 rfl ⟨Nat.le_refl 0, Nat.le_refl 0⟩ ⟨rfl, rfl, rfl, rfl⟩
def f_X8_fault (mi : Mi) : Option (Int32) := some (mi 229 5)
set_option maxRecDepth 20000 in
set_option maxHeartbeats 4000000 in
theorem c_X8_fault {g : Gm} {V : Vw} {mi : Mi} {ml : Ml} (hM : LayM V) {r : Int32} (h : f_X8_fault mi = some r) : DoI g YX8_fault V [rf g 229] mi ml r mi ml := by
  unfold f_X8_fault at h
  refine does_of (L := [some (rf g 229)]) okX8_fault rfl (Nat.le_of_ble_eq_true rfl) rfl ?_
  show At g YX8_fault _ (qm g YX8_fault (pI V r mi ml)) V (0, 0) 0 _ [] mi ml
  refine a_aload iX8_fault_0 rfl <| a_geti iX8_fault_1 (lm_s229 hM) rfl <| ?_
  obtain rfl := Option.some.inj h
  exact a_iret iX8_fault_4 rfl ⟨Nat.le_refl 0, Nat.le_refl 0⟩ ⟨rfl, rfl, rfl, rfl⟩
def f_X8_isCounty (mi : Mi) : Option (Int32) := if (mi 229 18) ≤ 0 then (some 0) else (some 1)
set_option maxRecDepth 20000 in
set_option maxHeartbeats 4000000 in
theorem c_X8_isCounty {g : Gm} {V : Vw} {mi : Mi} {ml : Ml} (hM : LayM V) {r : Int32} (h : f_X8_isCounty mi = some r) : DoI g YX8_isCounty V [rf g 229] mi ml r mi ml := by
  unfold f_X8_isCounty at h
  refine does_of (L := [some (rf g 229)]) okX8_isCounty rfl (Nat.le_of_ble_eq_true rfl) rfl ?_
  show At g YX8_isCounty _ (qm g YX8_isCounty (pI V r mi ml)) V (0, 0) 0 _ [] mi ml
  refine a_aload iX8_isCounty_0 rfl <| a_geti iX8_isCounty_1 (lm_s229 hM) rfl <| ?_
  refine a_if_le iX8_isCounty_4 (fun hc1 => ?_) (fun hc1 => ?_)
  · have h := ot hc1 h
    refine a_const iX8_isCounty_11 <| ?_
    obtain rfl := Option.some.inj h
    exact a_zret iX8_isCounty_12 rfl rfl ⟨Nat.le_refl 0, Nat.le_refl 0⟩ ⟨rfl, rfl, rfl, rfl⟩
  · have h := oe hc1 h
    refine a_const iX8_isCounty_7 <| a_goto iX8_isCounty_8 <| ?_
    obtain rfl := Option.some.inj h
    exact a_zret iX8_isCounty_12 rfl rfl ⟨Nat.le_refl 0, Nat.le_refl 0⟩ ⟨rfl, rfl, rfl, rfl⟩
def f_X8_isHeir (x0 : Int32) : Option (Int32) := (f_X8_in x0 0 2).bind (fun r1 => if r1 = 0 ∨ r1 = 1 then some r1 else none)
set_option maxRecDepth 20000 in
set_option maxHeartbeats 4000000 in
theorem c_X8_isHeir {g : Gm} {V : Vw} {mi : Mi} {ml : Ml} {x0 : Int32}  {r : Int32} (h : f_X8_isHeir x0 = some r) : DoI g YX8_isHeir V [.int x0] mi ml r mi ml := by
  unfold f_X8_isHeir at h
  refine does_of (L := [some (.int x0)]) okX8_isHeir rfl (Nat.le_of_ble_eq_true rfl) rfl ?_
  show At g YX8_isHeir _ (qm g YX8_isHeir (pI V r mi ml)) V (0, 0) 0 _ [] mi ml
  refine a_iload iX8_isHeir_0 rfl <| a_const iX8_isHeir_1 <| a_const iX8_isHeir_2 <| ?_
  obtain ⟨r1, he2, h⟩ := ob h
  refine a_cSi iX8_isHeir_3 okX8_in stX8_in ⟨rfl, rfl⟩ (c_X8_in he2) rfl rfl (Nat.le_of_ble_eq_true rfl) ⟨Nat.le_refl 0, Nat.le_refl 0⟩ <| ?_
  obtain ⟨hz3, h⟩ := og h
  obtain rfl := Option.some.inj h
  exact a_zret iX8_isHeir_6 rfl (nb01 hz3) ⟨Nat.le_refl 0, Nat.le_refl 0⟩ ⟨rfl, rfl, rfl, rfl⟩
def f_X8_isThing (mi : Mi) (x1 : Int32) : Option (Int32) := (f_X8_in x1 0 ((mi 229 20) - 1)).bind (fun r1 => if r1 = 0 ∨ r1 = 1 then some r1 else none)
set_option maxRecDepth 20000 in
set_option maxHeartbeats 4000000 in
theorem c_X8_isThing {g : Gm} {V : Vw} {mi : Mi} {ml : Ml} {x1 : Int32} (hM : LayM V) {r : Int32} (h : f_X8_isThing mi x1 = some r) : DoI g YX8_isThing V [rf g 229, .int x1] mi ml r mi ml := by
  unfold f_X8_isThing at h
  refine does_of (L := [some (rf g 229), some (.int x1)]) okX8_isThing rfl (Nat.le_of_ble_eq_true rfl) rfl ?_
  show At g YX8_isThing _ (qm g YX8_isThing (pI V r mi ml)) V (0, 0) 0 _ [] mi ml
  refine a_iload iX8_isThing_0 rfl <| a_const iX8_isThing_1 <| a_aload iX8_isThing_2 rfl <| a_geti iX8_isThing_3 (lm_s229 hM) rfl <| a_const iX8_isThing_6 <| a_isub iX8_isThing_7 <| ?_
  obtain ⟨r1, he2, h⟩ := ob h
  refine a_cSi iX8_isThing_8 okX8_in stX8_in ⟨rfl, rfl⟩ (c_X8_in he2) rfl rfl (Nat.le_of_ble_eq_true rfl) ⟨Nat.le_refl 0, Nat.le_refl 0⟩ <| ?_
  obtain ⟨hz3, h⟩ := og h
  obtain rfl := Option.some.inj h
  exact a_zret iX8_isThing_11 rfl (nb01 hz3) ⟨Nat.le_refl 0, Nat.le_refl 0⟩ ⟨rfl, rfl, rfl, rfl⟩
def f_X8_bounded (x0 x1 x2 : Int32) : Option (Int32) := if x1 ≤ x0 then (if x0 ≤ x2 then (some x0) else (some x2)) else (some x1)
set_option maxRecDepth 20000 in
set_option maxHeartbeats 4000000 in
theorem c_X8_bounded {g : Gm} {V : Vw} {mi : Mi} {ml : Ml} {x0 x1 x2 : Int32}  {r : Int32} (h : f_X8_bounded x0 x1 x2 = some r) : DoI g YX8_bounded V [.int x0, .int x1, .int x2] mi ml r mi ml := by
  unfold f_X8_bounded at h
  refine does_of (L := [some (.int x0), some (.int x1), some (.int x2)]) okX8_bounded rfl (Nat.le_of_ble_eq_true rfl) rfl ?_
  show At g YX8_bounded _ (qm g YX8_bounded (pI V r mi ml)) V (0, 0) 0 _ [] mi ml
  refine a_iload iX8_bounded_0 rfl <| a_iload iX8_bounded_1 rfl <| ?_
  refine a_icmp_ge iX8_bounded_2 (fun hc1 => ?_) (fun hc1 => ?_)
  · have h := ot hc1 h
    refine a_iload iX8_bounded_9 rfl <| a_iload iX8_bounded_10 rfl <| ?_
    refine a_icmp_le iX8_bounded_11 (fun hc2 => ?_) (fun hc2 => ?_)
    · have h := ot hc2 h
      refine a_iload iX8_bounded_18 rfl <| ?_
      obtain rfl := Option.some.inj h
      exact a_iret iX8_bounded_19 rfl ⟨Nat.le_refl 0, Nat.le_refl 0⟩ ⟨rfl, rfl, rfl, rfl⟩
    · have h := oe hc2 h
      refine a_iload iX8_bounded_14 rfl <| a_goto iX8_bounded_15 <| ?_
      obtain rfl := Option.some.inj h
      exact a_iret iX8_bounded_19 rfl ⟨Nat.le_refl 0, Nat.le_refl 0⟩ ⟨rfl, rfl, rfl, rfl⟩
  · have h := oe hc1 h
    refine a_iload iX8_bounded_5 rfl <| a_goto iX8_bounded_6 <| ?_
    obtain rfl := Option.some.inj h
    exact a_iret iX8_bounded_19 rfl ⟨Nat.le_refl 0, Nat.le_refl 0⟩ ⟨rfl, rfl, rfl, rfl⟩
def f_X8_seasonOf (mi : Mi) (x1 : Int32) : Option (Int32) := if (mi 229 19) = 0 then (some 4) else (if ¬ (mi 229 19) = 0 then if inb (x1 - x1 / (mi 229 19) * (mi 229 19)) 12 then some (mi 235 (x1 - x1 / (mi 229 19) * (mi 229 19)).toNatClampNeg) else none else none)
set_option maxRecDepth 20000 in
set_option maxHeartbeats 4000000 in
theorem c_X8_seasonOf {g : Gm} {V : Vw} {mi : Mi} {ml : Ml} {x1 : Int32} (hM : LayM V) {r : Int32} (h : f_X8_seasonOf mi x1 = some r) : DoI g YX8_seasonOf V [rf g 229, .int x1] mi ml r mi ml := by
  unfold f_X8_seasonOf at h
  refine does_of (L := [some (rf g 229), some (.int x1)]) okX8_seasonOf rfl (Nat.le_of_ble_eq_true rfl) rfl ?_
  show At g YX8_seasonOf _ (qm g YX8_seasonOf (pI V r mi ml)) V (0, 0) 0 _ [] mi ml
  refine a_aload iX8_seasonOf_0 rfl <| a_geti iX8_seasonOf_1 (lm_s229 hM) rfl <| ?_
  refine a_if_ne iX8_seasonOf_4 (fun hc1 => ?_) (fun hc1 => ?_)
  · have h := oe hc1 h
    refine a_aload iX8_seasonOf_11 rfl <| a_getr iX8_seasonOf_12 (lm_s229 hM) rfl (lm_r229_24 hM) <| a_iload iX8_seasonOf_15 rfl <| a_aload iX8_seasonOf_16 rfl <| a_geti iX8_seasonOf_17 (lm_s229 hM) rfl <| ?_
    obtain ⟨hg2, h⟩ := og h
    refine a_irem iX8_seasonOf_20 hg2 <| ?_
    obtain ⟨hg3, h⟩ := og h
    refine a_iald iX8_seasonOf_21 (lm_s235 hM) (inb_vp hg3) <| ?_
    obtain rfl := Option.some.inj h
    exact a_iret iX8_seasonOf_22 rfl ⟨Nat.le_refl 0, Nat.le_refl 0⟩ ⟨rfl, rfl, rfl, rfl⟩
  · have h := ot hc1 h
    refine a_const iX8_seasonOf_7 <| a_goto iX8_seasonOf_8 <| ?_
    obtain rfl := Option.some.inj h
    exact a_iret iX8_seasonOf_22 rfl ⟨Nat.le_refl 0, Nat.le_refl 0⟩ ⟨rfl, rfl, rfl, rfl⟩
def f_X8_lightFrom (mi : Mi) (x1 : Int32) : Option (Int32) := (f_X8_seasonOf mi x1).bind (fun r1 => (f_X8_bounded (((mi 229 17) + 4) - r1) 1 11).bind (fun r3 => some r3))
set_option maxRecDepth 20000 in
set_option maxHeartbeats 4000000 in
theorem c_X8_lightFrom {g : Gm} {V : Vw} {mi : Mi} {ml : Ml} {x1 : Int32} (hM : LayM V) {r : Int32} (h : f_X8_lightFrom mi x1 = some r) : DoI g YX8_lightFrom V [rf g 229, .int x1] mi ml r mi ml := by
  unfold f_X8_lightFrom at h
  refine does_of (L := [some (rf g 229), some (.int x1)]) okX8_lightFrom rfl (Nat.le_of_ble_eq_true rfl) rfl ?_
  show At g YX8_lightFrom _ (qm g YX8_lightFrom (pI V r mi ml)) V (0, 0) 0 _ [] mi ml
  refine a_aload iX8_lightFrom_0 rfl <| a_geti iX8_lightFrom_1 (lm_s229 hM) rfl <| a_const iX8_lightFrom_4 <| a_iadd iX8_lightFrom_5 <| a_aload iX8_lightFrom_6 rfl <| a_iload iX8_lightFrom_7 rfl <| ?_
  obtain ⟨r1, he2, h⟩ := ob h
  refine a_cVi iX8_lightFrom_8 okX8_seasonOf inX8_seasonOf ⟨rfl, rfl⟩ (lm_s229 hM) (c_X8_seasonOf hM he2) rfl rfl (Nat.le_of_ble_eq_true rfl) ⟨Nat.le_refl 0, Nat.le_refl 0⟩ <| a_isub iX8_lightFrom_11 <| a_const iX8_lightFrom_12 <| a_const iX8_lightFrom_13 <| ?_
  obtain ⟨r3, he4, h⟩ := ob h
  refine a_cSi iX8_lightFrom_15 okX8_bounded stX8_bounded ⟨rfl, rfl⟩ (c_X8_bounded he4) rfl rfl (Nat.le_of_ble_eq_true rfl) ⟨Nat.le_refl 0, Nat.le_refl 0⟩ <| ?_
  obtain rfl := Option.some.inj h
  exact a_iret iX8_lightFrom_18 rfl ⟨Nat.le_refl 0, Nat.le_refl 0⟩ ⟨rfl, rfl, rfl, rfl⟩
def f_X8_lightTo (mi : Mi) (x1 : Int32) : Option (Int32) := (f_X8_seasonOf mi x1).bind (fun r1 => (f_X8_bounded (((mi 229 18) + r1) - 4) 13 23).bind (fun r3 => some r3))
set_option maxRecDepth 20000 in
set_option maxHeartbeats 4000000 in
theorem c_X8_lightTo {g : Gm} {V : Vw} {mi : Mi} {ml : Ml} {x1 : Int32} (hM : LayM V) {r : Int32} (h : f_X8_lightTo mi x1 = some r) : DoI g YX8_lightTo V [rf g 229, .int x1] mi ml r mi ml := by
  unfold f_X8_lightTo at h
  refine does_of (L := [some (rf g 229), some (.int x1)]) okX8_lightTo rfl (Nat.le_of_ble_eq_true rfl) rfl ?_
  show At g YX8_lightTo _ (qm g YX8_lightTo (pI V r mi ml)) V (0, 0) 0 _ [] mi ml
  refine a_aload iX8_lightTo_0 rfl <| a_geti iX8_lightTo_1 (lm_s229 hM) rfl <| a_aload iX8_lightTo_4 rfl <| a_iload iX8_lightTo_5 rfl <| ?_
  obtain ⟨r1, he2, h⟩ := ob h
  refine a_cVi iX8_lightTo_6 okX8_seasonOf inX8_seasonOf ⟨rfl, rfl⟩ (lm_s229 hM) (c_X8_seasonOf hM he2) rfl rfl (Nat.le_of_ble_eq_true rfl) ⟨Nat.le_refl 0, Nat.le_refl 0⟩ <| a_iadd iX8_lightTo_9 <| a_const iX8_lightTo_10 <| a_isub iX8_lightTo_11 <| a_const iX8_lightTo_12 <| a_const iX8_lightTo_14 <| ?_
  obtain ⟨r3, he4, h⟩ := ob h
  refine a_cSi iX8_lightTo_16 okX8_bounded stX8_bounded ⟨rfl, rfl⟩ (c_X8_bounded he4) rfl rfl (Nat.le_of_ble_eq_true rfl) ⟨Nat.le_refl 0, Nat.le_refl 0⟩ <| ?_
  obtain rfl := Option.some.inj h
  exact a_iret iX8_lightTo_19 rfl ⟨Nat.le_refl 0, Nat.le_refl 0⟩ ⟨rfl, rfl, rfl, rfl⟩
def f_X8_holds (mi : Mi) (x1 x2 : Int32) : Option (Int32) := (f_X8_lightFrom mi x1).bind (fun r1 => if x2 < r1 then (some 2) else ((f_X8_lightTo mi x1).bind (fun r4 => if x2 < r4 then (if 12 ≤ x2 then (some 1) else (some 0)) else (some 2))))
set_option maxRecDepth 20000 in
set_option maxHeartbeats 4000000 in
theorem c_X8_holds {g : Gm} {V : Vw} {mi : Mi} {ml : Ml} {x1 x2 : Int32} (hM : LayM V) {r : Int32} (h : f_X8_holds mi x1 x2 = some r) : DoI g YX8_holds V [rf g 229, .int x1, .int x2] mi ml r mi ml := by
  unfold f_X8_holds at h
  refine does_of (L := [some (rf g 229), some (.int x1), some (.int x2)]) okX8_holds rfl (Nat.le_of_ble_eq_true rfl) rfl ?_
  show At g YX8_holds _ (qm g YX8_holds (pI V r mi ml)) V (0, 0) 0 _ [] mi ml
  refine a_iload iX8_holds_0 rfl <| a_aload iX8_holds_1 rfl <| a_iload iX8_holds_2 rfl <| ?_
  obtain ⟨r1, he2, h⟩ := ob h
  refine a_cVi iX8_holds_3 okX8_lightFrom inX8_lightFrom ⟨rfl, rfl⟩ (lm_s229 hM) (c_X8_lightFrom hM he2) rfl rfl (Nat.le_of_ble_eq_true rfl) ⟨Nat.le_refl 0, Nat.le_refl 0⟩ <| ?_
  refine a_icmp_lt iX8_holds_6 (fun hc3 => ?_) (fun hc3 => ?_)
  · have h := ot hc3 h
    refine a_const iX8_holds_18 <| a_goto iX8_holds_19 <| ?_
    obtain rfl := Option.some.inj h
    exact a_iret iX8_holds_33 rfl ⟨Nat.le_refl 0, Nat.le_refl 0⟩ ⟨rfl, rfl, rfl, rfl⟩
  · have h := oe hc3 h
    refine a_iload iX8_holds_9 rfl <| a_aload iX8_holds_10 rfl <| a_iload iX8_holds_11 rfl <| ?_
    obtain ⟨r4, he5, h⟩ := ob h
    refine a_cVi iX8_holds_12 okX8_lightTo inX8_lightTo ⟨rfl, rfl⟩ (lm_s229 hM) (c_X8_lightTo hM he5) rfl rfl (Nat.le_of_ble_eq_true rfl) ⟨Nat.le_refl 0, Nat.le_refl 0⟩ <| ?_
    refine a_icmp_lt iX8_holds_15 (fun hc6 => ?_) (fun hc6 => ?_)
    · have h := ot hc6 h
      refine a_iload iX8_holds_22 rfl <| a_const iX8_holds_23 <| ?_
      refine a_icmp_ge iX8_holds_25 (fun hc7 => ?_) (fun hc7 => ?_)
      · have h := ot hc7 h
        refine a_const iX8_holds_32 <| ?_
        obtain rfl := Option.some.inj h
        exact a_iret iX8_holds_33 rfl ⟨Nat.le_refl 0, Nat.le_refl 0⟩ ⟨rfl, rfl, rfl, rfl⟩
      · have h := oe hc7 h
        refine a_const iX8_holds_28 <| a_goto iX8_holds_29 <| ?_
        obtain rfl := Option.some.inj h
        exact a_iret iX8_holds_33 rfl ⟨Nat.le_refl 0, Nat.le_refl 0⟩ ⟨rfl, rfl, rfl, rfl⟩
    · have h := oe hc6 h
      refine a_const iX8_holds_18 <| a_goto iX8_holds_19 <| ?_
      obtain rfl := Option.some.inj h
      exact a_iret iX8_holds_33 rfl ⟨Nat.le_refl 0, Nat.le_refl 0⟩ ⟨rfl, rfl, rfl, rfl⟩
def f_X8_almanac (mi : Mi) (x1 : Int32) : Option (Int32) := (f_X8_holds mi (x1 / 24) (x1 - x1 / 24 * 24)).bind (fun r1 => some r1)
set_option maxRecDepth 20000 in
set_option maxHeartbeats 4000000 in
theorem c_X8_almanac {g : Gm} {V : Vw} {mi : Mi} {ml : Ml} {x1 : Int32} (hM : LayM V) {r : Int32} (h : f_X8_almanac mi x1 = some r) : DoI g YX8_almanac V [rf g 229, .int x1] mi ml r mi ml := by
  unfold f_X8_almanac at h
  refine does_of (L := [some (rf g 229), some (.int x1)]) okX8_almanac rfl (Nat.le_of_ble_eq_true rfl) rfl ?_
  show At g YX8_almanac _ (qm g YX8_almanac (pI V r mi ml)) V (0, 0) 0 _ [] mi ml
  refine a_aload iX8_almanac_0 rfl <| a_iload iX8_almanac_1 rfl <| a_const iX8_almanac_2 <| a_idiv iX8_almanac_4 (by decide) <| a_iload iX8_almanac_5 rfl <| a_const iX8_almanac_6 <| a_irem iX8_almanac_8 (by decide) <| ?_
  obtain ⟨r1, he2, h⟩ := ob h
  refine a_cVi iX8_almanac_9 okX8_holds inX8_holds ⟨rfl, rfl⟩ (lm_s229 hM) (c_X8_holds hM he2) rfl rfl (Nat.le_of_ble_eq_true rfl) ⟨Nat.le_refl 0, Nat.le_refl 0⟩ <| ?_
  obtain rfl := Option.some.inj h
  exact a_iret iX8_almanac_12 rfl ⟨Nat.le_refl 0, Nat.le_refl 0⟩ ⟨rfl, rfl, rfl, rfl⟩
def f_X8_heirOf (mi : Mi) (o : Nat) : Option (Int32) := if inb 1 121 then if (mi o (1 : Int32).toNatClampNeg) ≤ 0 then (if inb 0 121 then (f_X8_almanac mi (mi o (0 : Int32).toNatClampNeg)).bind (fun r4 => some r4) else none) else (some 2) else none
set_option maxRecDepth 20000 in
set_option maxHeartbeats 4000000 in
theorem c_X8_heirOf {g : Gm} {V : Vw} {mi : Mi} {ml : Ml} {o : Nat} (hM : LayM V) (hO : V.2.1 o = (9, 121)) {r : Int32} (h : f_X8_heirOf mi o = some r) : DoI g YX8_heirOf V [rf g 229, rf g o] mi ml r mi ml := by
  unfold f_X8_heirOf at h
  refine does_of (L := [some (rf g 229), some (rf g o)]) okX8_heirOf rfl (Nat.le_of_ble_eq_true rfl) rfl ?_
  show At g YX8_heirOf _ (qm g YX8_heirOf (pI V r mi ml)) V (0, 0) 0 _ [] mi ml
  refine a_aload iX8_heirOf_0 rfl <| a_const iX8_heirOf_1 <| ?_
  obtain ⟨hg1, h⟩ := og h
  refine a_iald iX8_heirOf_2 hO (inb_vp hg1) <| ?_
  refine a_if_le iX8_heirOf_3 (fun hc2 => ?_) (fun hc2 => ?_)
  · have h := ot hc2 h
    refine a_aload iX8_heirOf_10 rfl <| a_aload iX8_heirOf_11 rfl <| a_const iX8_heirOf_12 <| ?_
    obtain ⟨hg3, h⟩ := og h
    refine a_iald iX8_heirOf_13 hO (inb_vp hg3) <| ?_
    obtain ⟨r4, he5, h⟩ := ob h
    refine a_cVi iX8_heirOf_14 okX8_almanac inX8_almanac ⟨rfl, rfl⟩ (lm_s229 hM) (c_X8_almanac hM he5) rfl rfl (Nat.le_of_ble_eq_true rfl) ⟨Nat.le_refl 0, Nat.le_refl 0⟩ <| ?_
    obtain rfl := Option.some.inj h
    exact a_iret iX8_heirOf_17 rfl ⟨Nat.le_refl 0, Nat.le_refl 0⟩ ⟨rfl, rfl, rfl, rfl⟩
  · have h := oe hc2 h
    refine a_const iX8_heirOf_6 <| a_goto iX8_heirOf_7 <| ?_
    obtain rfl := Option.some.inj h
    exact a_iret iX8_heirOf_17 rfl ⟨Nat.le_refl 0, Nat.le_refl 0⟩ ⟨rfl, rfl, rfl, rfl⟩
def f_X8_comes (mi : Mi) (x1 x2 x3 x4 : Int32) : Option (Int32) := if x1 = 0 then (if (x3 - x3 / 3 * 3) = 0 then (if x4 = 2 then (some x2) else (if 9 ≤ x2 then (some x2) else (some (x2 + 1)))) else (some x2)) else (if x1 = 1 then (if x4 = 2 then (if x2 ≤ 0 then (some x2) else (some (x2 - 1))) else (some x2)) else (if x1 = 2 then (some x2) else (if (x3 - x3 / 24 * 24) = 12 then (some 0) else (some x2))))
set_option maxRecDepth 20000 in
set_option maxHeartbeats 4000000 in
theorem c_X8_comes {g : Gm} {V : Vw} {mi : Mi} {ml : Ml} {x1 x2 x3 x4 : Int32} (hM : LayM V) {r : Int32} (h : f_X8_comes mi x1 x2 x3 x4 = some r) : DoI g YX8_comes V [rf g 229, .int x1, .int x2, .int x3, .int x4] mi ml r mi ml := by
  unfold f_X8_comes at h
  refine does_of (L := [some (rf g 229), some (.int x1), some (.int x2), some (.int x3), some (.int x4)]) okX8_comes rfl (Nat.le_of_ble_eq_true rfl) rfl ?_
  show At g YX8_comes _ (qm g YX8_comes (pI V r mi ml)) V (0, 0) 0 _ [] mi ml
  refine a_iload iX8_comes_0 rfl <| ?_
  by_cases hc1 : x1 = 0
  · have h := ot hc1 h
    refine a_tbv (tgt := 28) iX8_comes_1 hc1 (by decide) ?_
    refine a_iload iX8_comes_28 rfl <| a_const iX8_comes_29 <| a_irem iX8_comes_30 (by decide) <| ?_
    refine a_if_ne iX8_comes_31 (fun hc2 => ?_) (fun hc2 => ?_)
    · have h := oe hc2 h
      refine a_iload iX8_comes_52 rfl <| ?_
      obtain rfl := Option.some.inj h
      exact a_iret iX8_comes_53 rfl ⟨Nat.le_refl 0, Nat.le_refl 0⟩ ⟨rfl, rfl, rfl, rfl⟩
    · have h := ot hc2 h
      refine a_iload iX8_comes_34 rfl <| a_const iX8_comes_36 <| ?_
      refine a_icmp_eq iX8_comes_37 (fun hc3 => ?_) (fun hc3 => ?_)
      · have h := ot hc3 h
        refine a_iload iX8_comes_52 rfl <| ?_
        obtain rfl := Option.some.inj h
        exact a_iret iX8_comes_53 rfl ⟨Nat.le_refl 0, Nat.le_refl 0⟩ ⟨rfl, rfl, rfl, rfl⟩
      · have h := oe hc3 h
        refine a_iload iX8_comes_40 rfl <| a_const iX8_comes_41 <| ?_
        refine a_icmp_ge iX8_comes_43 (fun hc4 => ?_) (fun hc4 => ?_)
        · have h := ot hc4 h
          refine a_iload iX8_comes_52 rfl <| ?_
          obtain rfl := Option.some.inj h
          exact a_iret iX8_comes_53 rfl ⟨Nat.le_refl 0, Nat.le_refl 0⟩ ⟨rfl, rfl, rfl, rfl⟩
        · have h := oe hc4 h
          refine a_iload iX8_comes_46 rfl <| a_const iX8_comes_47 <| a_iadd iX8_comes_48 <| a_goto iX8_comes_49 <| ?_
          obtain rfl := Option.some.inj h
          exact a_iret iX8_comes_53 rfl ⟨Nat.le_refl 0, Nat.le_refl 0⟩ ⟨rfl, rfl, rfl, rfl⟩
  · have h := oe hc1 h
    by_cases hc5 : x1 = 1
    · have h := ot hc5 h
      refine a_tbv (tgt := 54) iX8_comes_1 hc5 (by decide) ?_
      refine a_iload iX8_comes_54 rfl <| a_const iX8_comes_56 <| ?_
      refine a_icmp_ne iX8_comes_57 (fun hc6 => ?_) (fun hc6 => ?_)
      · have h := oe hc6 h
        refine a_iload iX8_comes_70 rfl <| ?_
        obtain rfl := Option.some.inj h
        exact a_iret iX8_comes_71 rfl ⟨Nat.le_refl 0, Nat.le_refl 0⟩ ⟨rfl, rfl, rfl, rfl⟩
      · have h := ot hc6 h
        refine a_iload iX8_comes_60 rfl <| ?_
        refine a_if_le iX8_comes_61 (fun hc7 => ?_) (fun hc7 => ?_)
        · have h := ot hc7 h
          refine a_iload iX8_comes_70 rfl <| ?_
          obtain rfl := Option.some.inj h
          exact a_iret iX8_comes_71 rfl ⟨Nat.le_refl 0, Nat.le_refl 0⟩ ⟨rfl, rfl, rfl, rfl⟩
        · have h := oe hc7 h
          refine a_iload iX8_comes_64 rfl <| a_const iX8_comes_65 <| a_isub iX8_comes_66 <| a_goto iX8_comes_67 <| ?_
          obtain rfl := Option.some.inj h
          exact a_iret iX8_comes_71 rfl ⟨Nat.le_refl 0, Nat.le_refl 0⟩ ⟨rfl, rfl, rfl, rfl⟩
    · have h := oe hc5 h
      by_cases hc8 : x1 = 2
      · have h := ot hc8 h
        refine a_tbv (tgt := 72) iX8_comes_1 hc8 (by decide) ?_
        refine a_iload iX8_comes_72 rfl <| ?_
        obtain rfl := Option.some.inj h
        exact a_iret iX8_comes_73 rfl ⟨Nat.le_refl 0, Nat.le_refl 0⟩ ⟨rfl, rfl, rfl, rfl⟩
      · have h := oe hc8 h
        refine a_tbd (n := 3) iX8_comes_1 (by decide) ⟨⟨⟨trivial, hc1⟩, hc5⟩, hc8⟩ ?_
        refine a_iload iX8_comes_74 rfl <| a_const iX8_comes_75 <| a_irem iX8_comes_77 (by decide) <| a_const iX8_comes_78 <| ?_
        refine a_icmp_ne iX8_comes_80 (fun hc9 => ?_) (fun hc9 => ?_)
        · have h := oe hc9 h
          refine a_iload iX8_comes_87 rfl <| ?_
          obtain rfl := Option.some.inj h
          exact a_iret iX8_comes_88 rfl ⟨Nat.le_refl 0, Nat.le_refl 0⟩ ⟨rfl, rfl, rfl, rfl⟩
        · have h := ot hc9 h
          refine a_const iX8_comes_83 <| a_goto iX8_comes_84 <| ?_
          obtain rfl := Option.some.inj h
          exact a_iret iX8_comes_88 rfl ⟨Nat.le_refl 0, Nat.le_refl 0⟩ ⟨rfl, rfl, rfl, rfl⟩
def f_X8_isMet (mi : Mi) (o : Nat) (x2 : Int32) : Option (Int32) := if inb ((3 * x2) + 1) 30 then if inb (8 + (mi 237 ((3 * x2) + 1).toNatClampNeg)) 121 then if inb ((3 * x2) + 2) 30 then if (mi o (8 + (mi 237 ((3 * x2) + 1).toNatClampNeg)).toNatClampNeg) = (mi 237 ((3 * x2) + 2).toNatClampNeg) then (some 1) else (some 0) else none else none else none
set_option maxRecDepth 20000 in
set_option maxHeartbeats 4000000 in
theorem c_X8_isMet {g : Gm} {V : Vw} {mi : Mi} {ml : Ml} {o : Nat} {x2 : Int32} (hM : LayM V) (hO : V.2.1 o = (9, 121)) {r : Int32} (h : f_X8_isMet mi o x2 = some r) : DoI g YX8_isMet V [rf g 229, rf g o, .int x2] mi ml r mi ml := by
  unfold f_X8_isMet at h
  refine does_of (L := [some (rf g 229), some (rf g o), some (.int x2)]) okX8_isMet rfl (Nat.le_of_ble_eq_true rfl) rfl ?_
  show At g YX8_isMet _ (qm g YX8_isMet (pI V r mi ml)) V (0, 0) 0 _ [] mi ml
  refine a_aload iX8_isMet_0 rfl <| a_const iX8_isMet_1 <| a_aload iX8_isMet_3 rfl <| a_getr iX8_isMet_4 (lm_s229 hM) rfl (lm_r229_26 hM) <| a_const iX8_isMet_7 <| a_iload iX8_isMet_8 rfl <| a_imul iX8_isMet_9 <| a_const iX8_isMet_10 <| ?_
  refine a_iadd iX8_isMet_11 <| ?_
  obtain ⟨hg1, h⟩ := og h
  refine a_iald iX8_isMet_12 (lm_s237 hM) (inb_vp hg1) <| a_iadd iX8_isMet_13 <| ?_
  obtain ⟨hg2, h⟩ := og h
  refine a_iald iX8_isMet_14 hO (inb_vp hg2) <| a_aload iX8_isMet_15 rfl <| a_getr iX8_isMet_16 (lm_s229 hM) rfl (lm_r229_26 hM) <| a_const iX8_isMet_19 <| a_iload iX8_isMet_20 rfl <| a_imul iX8_isMet_21 <| a_const iX8_isMet_22 <| a_iadd iX8_isMet_23 <| ?_
  obtain ⟨hg3, h⟩ := og h
  refine a_iald iX8_isMet_24 (lm_s237 hM) (inb_vp hg3) <| ?_
  refine a_icmp_ne iX8_isMet_25 (fun hc4 => ?_) (fun hc4 => ?_)
  · have h := oe hc4 h
    refine a_const iX8_isMet_32 <| ?_
    obtain rfl := Option.some.inj h
    exact a_zret iX8_isMet_33 rfl rfl ⟨Nat.le_refl 0, Nat.le_refl 0⟩ ⟨rfl, rfl, rfl, rfl⟩
  · have h := ot hc4 h
    refine a_const iX8_isMet_28 <| a_goto iX8_isMet_29 <| ?_
    obtain rfl := Option.some.inj h
    exact a_zret iX8_isMet_33 rfl rfl ⟨Nat.le_refl 0, Nat.le_refl 0⟩ ⟨rfl, rfl, rfl, rfl⟩
def f_X8_capped (x0 : Int32) : Option (Int32) := if x0 ≤ (9999999) then (some x0) else (some (9999999))
set_option maxRecDepth 20000 in
set_option maxHeartbeats 4000000 in
theorem c_X8_capped {g : Gm} {V : Vw} {mi : Mi} {ml : Ml} {x0 : Int32}  {r : Int32} (h : f_X8_capped x0 = some r) : DoI g YX8_capped V [.int x0] mi ml r mi ml := by
  unfold f_X8_capped at h
  refine does_of (L := [some (.int x0)]) okX8_capped rfl (Nat.le_of_ble_eq_true rfl) rfl ?_
  show At g YX8_capped _ (qm g YX8_capped (pI V r mi ml)) V (0, 0) 0 _ [] mi ml
  refine a_iload iX8_capped_0 rfl <| a_const iX8_capped_1 <| ?_
  refine a_icmp_le iX8_capped_3 (fun hc1 => ?_) (fun hc1 => ?_)
  · have h := ot hc1 h
    refine a_iload iX8_capped_11 rfl <| ?_
    obtain rfl := Option.some.inj h
    exact a_iret iX8_capped_12 rfl ⟨Nat.le_refl 0, Nat.le_refl 0⟩ ⟨rfl, rfl, rfl, rfl⟩
  · have h := oe hc1 h
    refine a_const iX8_capped_6 <| a_goto iX8_capped_8 <| ?_
    obtain rfl := Option.some.inj h
    exact a_iret iX8_capped_12 rfl ⟨Nat.le_refl 0, Nat.le_refl 0⟩ ⟨rfl, rfl, rfl, rfl⟩
def lp_X8_passes_29 (o : Nat) (mi : Mi) (v2 : Int32) (K : Int32 → Int32 → Option (Mi)) : Nat → Int32 → Int32 → Option (Mi)
  | 0, _, _ => none
  | n + 1, v3, v4 => if (mi 229 23) ≤ v4 then (K v3 v4) else (if inb (3 * v4) 30 then if (mi 237 (3 * v4).toNatClampNeg) = v2 then ((f_X8_isMet mi o v4).bind (fun r10 => if r10 = 0 then (lp_X8_passes_29 o mi v2 K n (v3 + 1) (v4 + 1)) else (lp_X8_passes_29 o mi v2 K n (v3 + 0) (v4 + 1)))) else (lp_X8_passes_29 o mi v2 K n (v3 + 0) (v4 + 1)) else none)
def lp_X8_passes_93 (o : Nat) (v2 : Int32) (v3 : Int32) (K : Int32 → Mi → Option (Mi)) : Nat → Int32 → Mi → Option (Mi)
  | 0, _, _ => none
  | n + 1, v4, mi => if (mi 229 20) ≤ v4 then (K v4 mi) else (if inb (8 + v4) 121 then if inb ((16 + (8 * v2)) + v4) 121 then if inb v4 8 then if inb (8 + v4) 121 then if inb 0 121 then (f_X8_comes (u2 mi o ((16 + (8 * v2)) + v4).toNatClampNeg (mi o (8 + v4).toNatClampNeg)) ((u2 mi o ((16 + (8 * v2)) + v4).toNatClampNeg (mi o (8 + v4).toNatClampNeg)) 236 v4.toNatClampNeg) ((u2 mi o ((16 + (8 * v2)) + v4).toNatClampNeg (mi o (8 + v4).toNatClampNeg)) o (8 + v4).toNatClampNeg) ((u2 mi o ((16 + (8 * v2)) + v4).toNatClampNeg (mi o (8 + v4).toNatClampNeg)) o (0 : Int32).toNatClampNeg) v2).bind (fun r24 => if inb (8 + v4) 121 then lp_X8_passes_93 o v2 v3 K n (v4 + 1) (u2 (u2 mi o ((16 + (8 * v2)) + v4).toNatClampNeg (mi o (8 + v4).toNatClampNeg)) o (8 + v4).toNatClampNeg r24) else none) else none else none else none else none else none)
def f_X8_passes (mi : Mi) (o : Nat) : Option (Mi) := (f_X8_heirOf mi o).bind (fun r1 => if inb (2 + r1) 121 then (f_X8_capped ((mi o (2 + r1).toNatClampNeg) + (mi 229 21))).bind (fun r4 => if inb (2 + r1) 121 then lp_X8_passes_29 o (u2 mi o (2 + r1).toNatClampNeg r4) r1 (fun v3_13 v4_13 => if inb (5 + r1) 121 then (f_X8_capped (((u2 mi o (2 + r1).toNatClampNeg r4) o (5 + r1).toNatClampNeg) + v3_13)).bind (fun r15 => if inb (5 + r1) 121 then lp_X8_passes_93 o r1 v3_13 (fun v4_27 mi27 => if inb 1 121 then if inb 1 121 then if (mi27 o (1 : Int32).toNatClampNeg) ≤ 0 then (if inb 1 121 then if inb 0 121 then if inb 0 121 then nx (u2 (u2 mi27 o (1 : Int32).toNatClampNeg ((mi27 o (1 : Int32).toNatClampNeg) - 0)) o (0 : Int32).toNatClampNeg (((u2 mi27 o (1 : Int32).toNatClampNeg ((mi27 o (1 : Int32).toNatClampNeg) - 0)) o (0 : Int32).toNatClampNeg) + 1)) (fun mi35 => some mi35) else none else none else none) else (if inb 1 121 then if inb 0 121 then if inb 0 121 then nx (u2 (u2 mi27 o (1 : Int32).toNatClampNeg ((mi27 o (1 : Int32).toNatClampNeg) - 1)) o (0 : Int32).toNatClampNeg (((u2 mi27 o (1 : Int32).toNatClampNeg ((mi27 o (1 : Int32).toNatClampNeg) - 1)) o (0 : Int32).toNatClampNeg) + 1)) (fun mi40 => some mi40) else none else none else none) else none else none) FU 0 (u2 (u2 mi o (2 + r1).toNatClampNeg r4) o (5 + r1).toNatClampNeg r15) else none) else none) FU 0 0 else none) else none)
set_option maxRecDepth 20000 in
set_option maxHeartbeats 4000000 in
theorem w_X8_passes_29 {g : Gm} {V : Vw} {E : Ex} {o : Nat} {mi : Mi} {ml : Ml} {v2 : Int32} (hM : LayM V) (hO : V.2.1 o = (9, 121)) {K : Int32 → Int32 → Option (Mi)} {r : Mi} (hK : ∀ (v3 : Int32) (v4 : Int32), K v3 v4 = some r → At g YX8_passes E (qm g YX8_passes (pV V r ml)) V (0, 0) 75 [some (rf g 229), some (rf g o), some (.int v2), some (.int v3), some (.int v4)] [] mi ml) : ∀ (n : Nat) (v3 : Int32) (v4 : Int32), lp_X8_passes_29 o mi v2 K n v3 v4 = some r → At g YX8_passes E (qm g YX8_passes (pV V r ml)) V (0, 0) 29 [some (rf g 229), some (rf g o), some (.int v2), some (.int v3), some (.int v4)] [] mi ml := by
  intro n
  induction n with
  | zero => intro v3 v4 h; exact oz h
  | succ n ih =>
    intro v3 v4 h
    unfold lp_X8_passes_29 at h
    refine a_iload iX8_passes_29 rfl <| a_aload iX8_passes_31 rfl <| a_geti iX8_passes_32 (lm_s229 hM) rfl <| ?_
    refine a_icmp_ge iX8_passes_35 (fun hc7 => ?_) (fun hc7 => ?_)
    · have h := ot hc7 h
      exact a_sub (L' := [some (rf g 229), some (rf g o), some (.int v2), some (.int v3), some (.int v4)]) (by exact ⟨rfl, ⟨rfl, ⟨rfl, ⟨rfl, ⟨rfl, trivial⟩⟩⟩⟩⟩) (hK _ _ h)
    · have h := oe hc7 h
      refine a_iload iX8_passes_38 rfl <| a_aload iX8_passes_39 rfl <| a_getr iX8_passes_40 (lm_s229 hM) rfl (lm_r229_26 hM) <| a_const iX8_passes_43 <| a_iload iX8_passes_44 rfl <| a_imul iX8_passes_46 <| ?_
      obtain ⟨hg8, h⟩ := og h
      refine a_iald iX8_passes_47 (lm_s237 hM) (inb_vp hg8) <| a_iload iX8_passes_48 rfl <| ?_
      refine a_icmp_ne iX8_passes_49 (fun hc9 => ?_) (fun hc9 => ?_)
      · have h := oe hc9 h
        refine a_const iX8_passes_66 <| a_iadd iX8_passes_67 <| a_istore iX8_passes_68 (by decide) rfl <| a_iinc iX8_passes_69 rfl (by decide) rfl <| a_goto iX8_passes_72 <| ?_
        exact a_sub (L' := [some (rf g 229), some (rf g o), some (.int v2), some (.int (v3 + 0)), some (.int (v4 + 1))]) (by exact ⟨rfl, ⟨rfl, ⟨rfl, ⟨rfl, ⟨rfl, trivial⟩⟩⟩⟩⟩) (ih _ _ h)
      · have h := ot hc9 h
        refine a_aload iX8_passes_52 rfl <| a_aload iX8_passes_53 rfl <| a_iload iX8_passes_54 rfl <| ?_
        obtain ⟨r10, he11, h⟩ := ob h
        refine a_cVi iX8_passes_56 okX8_isMet inX8_isMet ⟨rfl, rfl⟩ (lm_s229 hM) (c_X8_isMet hM hO he11) rfl rfl (Nat.le_of_ble_eq_true rfl) ⟨Nat.le_refl 0, Nat.le_refl 0⟩ <| ?_
        refine a_if_ne iX8_passes_59 (fun hc12 => ?_) (fun hc12 => ?_)
        · have h := oe hc12 h
          refine a_const iX8_passes_66 <| a_iadd iX8_passes_67 <| a_istore iX8_passes_68 (by decide) rfl <| a_iinc iX8_passes_69 rfl (by decide) rfl <| a_goto iX8_passes_72 <| ?_
          exact a_sub (L' := [some (rf g 229), some (rf g o), some (.int v2), some (.int (v3 + 0)), some (.int (v4 + 1))]) (by exact ⟨rfl, ⟨rfl, ⟨rfl, ⟨rfl, ⟨rfl, trivial⟩⟩⟩⟩⟩) (ih _ _ h)
        · have h := ot hc12 h
          refine a_const iX8_passes_62 <| a_goto iX8_passes_63 <| a_iadd iX8_passes_67 <| a_istore iX8_passes_68 (by decide) rfl <| a_iinc iX8_passes_69 rfl (by decide) rfl <| a_goto iX8_passes_72 <| ?_
          exact a_sub (L' := [some (rf g 229), some (rf g o), some (.int v2), some (.int (v3 + 1)), some (.int (v4 + 1))]) (by exact ⟨rfl, ⟨rfl, ⟨rfl, ⟨rfl, ⟨rfl, trivial⟩⟩⟩⟩⟩) (ih _ _ h)
set_option maxRecDepth 20000 in
set_option maxHeartbeats 4000000 in
theorem w_X8_passes_93 {g : Gm} {V : Vw} {E : Ex} {o : Nat} {ml : Ml} {v2 v3 : Int32} (hM : LayM V) (hO : V.2.1 o = (9, 121)) {K : Int32 → Mi → Option (Mi)} {r : Mi} (hK : ∀ (v4 : Int32) (mi : Mi), K v4 mi = some r → At g YX8_passes E (qm g YX8_passes (pV V r ml)) V (0, 0) 156 [some (rf g 229), some (rf g o), some (.int v2), some (.int v3), some (.int v4)] [] mi ml) : ∀ (n : Nat) (v4 : Int32) (mi : Mi), lp_X8_passes_93 o v2 v3 K n v4 mi = some r → At g YX8_passes E (qm g YX8_passes (pV V r ml)) V (0, 0) 93 [some (rf g 229), some (rf g o), some (.int v2), some (.int v3), some (.int v4)] [] mi ml := by
  intro n
  induction n with
  | zero => intro v4 mi h; exact oz h
  | succ n ih =>
    intro v4 mi h
    unfold lp_X8_passes_93 at h
    refine a_iload iX8_passes_93 rfl <| a_aload iX8_passes_95 rfl <| a_geti iX8_passes_96 (lm_s229 hM) rfl <| ?_
    refine a_icmp_ge iX8_passes_99 (fun hc18 => ?_) (fun hc18 => ?_)
    · have h := ot hc18 h
      exact a_sub (L' := [some (rf g 229), some (rf g o), some (.int v2), some (.int v3), some (.int v4)]) (by exact ⟨rfl, ⟨rfl, ⟨rfl, ⟨rfl, ⟨rfl, trivial⟩⟩⟩⟩⟩) (hK _ _ h)
    · have h := oe hc18 h
      refine a_aload iX8_passes_102 rfl <| a_const iX8_passes_103 <| a_const iX8_passes_105 <| a_iload iX8_passes_107 rfl <| a_imul iX8_passes_108 <| a_iadd iX8_passes_109 <| a_iload iX8_passes_110 rfl <| a_iadd iX8_passes_112 <| ?_
      refine a_aload iX8_passes_113 rfl <| a_const iX8_passes_114 <| a_iload iX8_passes_116 rfl <| a_iadd iX8_passes_118 <| ?_
      obtain ⟨hg19, h⟩ := og h
      refine a_iald iX8_passes_119 hO (inb_vp hg19) <| ?_
      obtain ⟨hg20, h⟩ := og h
      refine a_iast iX8_passes_120 hO (inb_vp hg20) <| a_aload iX8_passes_121 rfl <| a_const iX8_passes_122 <| a_iload iX8_passes_124 rfl <| a_iadd iX8_passes_126 <| a_aload iX8_passes_127 rfl <| a_aload iX8_passes_128 rfl <| a_getr iX8_passes_129 (lm_s229 hM) rfl (lm_r229_25 hM) <| ?_
      refine a_iload iX8_passes_132 rfl <| ?_
      obtain ⟨hg21, h⟩ := og h
      refine a_iald iX8_passes_134 (lm_s236 hM) (inb_vp hg21) <| a_aload iX8_passes_135 rfl <| a_const iX8_passes_136 <| a_iload iX8_passes_138 rfl <| a_iadd iX8_passes_140 <| ?_
      obtain ⟨hg22, h⟩ := og h
      refine a_iald iX8_passes_141 hO (inb_vp hg22) <| a_aload iX8_passes_142 rfl <| a_const iX8_passes_143 <| ?_
      obtain ⟨hg23, h⟩ := og h
      refine a_iald iX8_passes_144 hO (inb_vp hg23) <| a_iload iX8_passes_145 rfl <| ?_
      obtain ⟨r24, he25, h⟩ := ob h
      refine a_cVi iX8_passes_146 okX8_comes inX8_comes ⟨rfl, rfl⟩ (lm_s229 hM) (c_X8_comes hM he25) rfl rfl (Nat.le_of_ble_eq_true rfl) ⟨Nat.le_refl 0, Nat.le_refl 0⟩ <| ?_
      obtain ⟨hg26, h⟩ := og h
      refine a_iast iX8_passes_149 hO (inb_vp hg26) <| a_iinc iX8_passes_150 rfl (by decide) rfl <| a_goto iX8_passes_153 <| ?_
      exact a_sub (L' := [some (rf g 229), some (rf g o), some (.int v2), some (.int v3), some (.int (v4 + 1))]) (by exact ⟨rfl, ⟨rfl, ⟨rfl, ⟨rfl, ⟨rfl, trivial⟩⟩⟩⟩⟩) (ih _ _ h)
set_option maxRecDepth 20000 in
set_option maxHeartbeats 4000000 in
theorem c_X8_passes {g : Gm} {V : Vw} {mi : Mi} {ml : Ml} {o : Nat} (hM : LayM V) (hO : V.2.1 o = (9, 121)) {r : Mi} (h : f_X8_passes mi o = some r) : DoV g YX8_passes V [rf g 229, rf g o] mi ml r ml := by
  unfold f_X8_passes at h
  refine does_of (L := [some (rf g 229), some (rf g o), none, none, none]) okX8_passes rfl (Nat.le_of_ble_eq_true rfl) rfl ?_
  show At g YX8_passes _ (qm g YX8_passes (pV V r ml)) V (0, 0) 0 _ [] mi ml
  refine a_aload iX8_passes_0 rfl <| a_aload iX8_passes_1 rfl <| ?_
  obtain ⟨r1, he2, h⟩ := ob h
  refine a_cVi iX8_passes_2 okX8_heirOf inX8_heirOf ⟨rfl, rfl⟩ (lm_s229 hM) (c_X8_heirOf hM hO he2) rfl rfl (Nat.le_of_ble_eq_true rfl) ⟨Nat.le_refl 0, Nat.le_refl 0⟩ <| a_istore iX8_passes_5 (by decide) rfl <| a_aload iX8_passes_6 rfl <| a_const iX8_passes_7 <| a_iload iX8_passes_8 rfl <| a_iadd iX8_passes_9 <| a_aload iX8_passes_10 rfl <| a_const iX8_passes_11 <| ?_
  refine a_iload iX8_passes_12 rfl <| a_iadd iX8_passes_13 <| ?_
  obtain ⟨hg3, h⟩ := og h
  refine a_iald iX8_passes_14 hO (inb_vp hg3) <| a_aload iX8_passes_15 rfl <| a_geti iX8_passes_16 (lm_s229 hM) rfl <| a_iadd iX8_passes_19 <| ?_
  obtain ⟨r4, he5, h⟩ := ob h
  refine a_cSi iX8_passes_20 okX8_capped stX8_capped ⟨rfl, rfl⟩ (c_X8_capped he5) rfl rfl (Nat.le_of_ble_eq_true rfl) ⟨Nat.le_refl 0, Nat.le_refl 0⟩ <| ?_
  obtain ⟨hg6, h⟩ := og h
  refine a_iast iX8_passes_23 hO (inb_vp hg6) <| a_const iX8_passes_24 <| a_istore iX8_passes_25 (by decide) rfl <| a_const iX8_passes_26 <| a_istore iX8_passes_27 (by decide) rfl <| ?_
  refine a_sub (L' := [some (rf g 229), some (rf g o), some (.int r1), some (.int 0), some (.int 0)]) (by exact ⟨rfl, ⟨rfl, ⟨rfl, ⟨rfl, ⟨rfl, trivial⟩⟩⟩⟩⟩) (w_X8_passes_29 hM hO (fun v3_13 v4_13 h => ?_) FU _ _ h)
  refine a_aload iX8_passes_75 rfl <| a_const iX8_passes_76 <| a_iload iX8_passes_77 rfl <| a_iadd iX8_passes_78 <| a_aload iX8_passes_79 rfl <| a_const iX8_passes_80 <| a_iload iX8_passes_81 rfl <| a_iadd iX8_passes_82 <| ?_
  obtain ⟨hg14, h⟩ := og h
  refine a_iald iX8_passes_83 hO (inb_vp hg14) <| a_iload iX8_passes_84 rfl <| a_iadd iX8_passes_85 <| ?_
  obtain ⟨r15, he16, h⟩ := ob h
  refine a_cSi iX8_passes_86 okX8_capped stX8_capped ⟨rfl, rfl⟩ (c_X8_capped he16) rfl rfl (Nat.le_of_ble_eq_true rfl) ⟨Nat.le_refl 0, Nat.le_refl 0⟩ <| ?_
  obtain ⟨hg17, h⟩ := og h
  refine a_iast iX8_passes_89 hO (inb_vp hg17) <| a_const iX8_passes_90 <| a_istore iX8_passes_91 (by decide) rfl <| ?_
  refine a_sub (L' := [some (rf g 229), some (rf g o), some (.int r1), some (.int v3_13), some (.int 0)]) (by exact ⟨rfl, ⟨rfl, ⟨rfl, ⟨rfl, ⟨rfl, trivial⟩⟩⟩⟩⟩) (w_X8_passes_93 hM hO (fun v4_27 mi27 h => ?_) FU _ _ h)
  refine a_aload iX8_passes_156 rfl <| a_const iX8_passes_157 <| a_dup2 iX8_passes_158 rfl rfl <| ?_
  obtain ⟨hg28, h⟩ := og h
  refine a_iald iX8_passes_159 hO (inb_vp hg28) <| a_aload iX8_passes_160 rfl <| a_const iX8_passes_161 <| ?_
  obtain ⟨hg29, h⟩ := og h
  refine a_iald iX8_passes_162 hO (inb_vp hg29) <| ?_
  refine a_if_le iX8_passes_163 (fun hc30 => ?_) (fun hc30 => ?_)
  · have h := ot hc30 h
    refine a_const iX8_passes_170 <| a_isub iX8_passes_171 <| ?_
    obtain ⟨hg31, h⟩ := og h
    refine a_iast iX8_passes_172 hO (inb_vp hg31) <| a_aload iX8_passes_173 rfl <| a_const iX8_passes_174 <| a_dup2 iX8_passes_175 rfl rfl <| ?_
    obtain ⟨hg32, h⟩ := og h
    refine a_iald iX8_passes_176 hO (inb_vp hg32) <| a_const iX8_passes_177 <| a_iadd iX8_passes_178 <| ?_
    obtain ⟨hg33, h⟩ := og h
    refine a_iast iX8_passes_179 hO (inb_vp hg33) <| ?_
    obtain ⟨mi35, hm34, h⟩ := onx h
    refine a_mem hm34 <| ?_
    obtain rfl := Option.some.inj h
    exact a_vret iX8_passes_180 rfl ⟨Nat.le_refl 0, Nat.le_refl 0⟩ ⟨rfl, rfl, rfl, rfl⟩
  · have h := oe hc30 h
    refine a_const iX8_passes_166 <| a_goto iX8_passes_167 <| a_isub iX8_passes_171 <| ?_
    obtain ⟨hg36, h⟩ := og h
    refine a_iast iX8_passes_172 hO (inb_vp hg36) <| a_aload iX8_passes_173 rfl <| a_const iX8_passes_174 <| a_dup2 iX8_passes_175 rfl rfl <| ?_
    obtain ⟨hg37, h⟩ := og h
    refine a_iald iX8_passes_176 hO (inb_vp hg37) <| a_const iX8_passes_177 <| a_iadd iX8_passes_178 <| ?_
    obtain ⟨hg38, h⟩ := og h
    refine a_iast iX8_passes_179 hO (inb_vp hg38) <| ?_
    obtain ⟨mi40, hm39, h⟩ := onx h
    refine a_mem hm39 <| ?_
    obtain rfl := Option.some.inj h
    exact a_vret iX8_passes_180 rfl ⟨Nat.le_refl 0, Nat.le_refl 0⟩ ⟨rfl, rfl, rfl, rfl⟩
def lp_X8_met_4 (mi : Mi) (K : Int32 → Int32 → Option (Int32)) : Nat → Int32 → Int32 → Option (Int32)
  | 0, _, _ => none
  | n + 1, v1, v2 => if (mi 229 23) ≤ v2 then (K v1 v2) else ((f_X8_isMet mi 238 v2).bind (fun r2 => if r2 = 0 then (lp_X8_met_4 mi K n (v1 ||| 0) (v2 + 1)) else (lp_X8_met_4 mi K n (v1 ||| (1 <<< (v2 &&& 31))) (v2 + 1))))
def f_X8_met (mi : Mi) : Option (Int32) := lp_X8_met_4 mi (fun v1_5 v2_5 => some v1_5) FU 0 0
set_option maxRecDepth 20000 in
set_option maxHeartbeats 4000000 in
theorem w_X8_met_4 {g : Gm} {V : Vw} {E : Ex} {mi : Mi} {ml : Ml} (hM : LayM V) {K : Int32 → Int32 → Option (Int32)} {r : Int32} (hK : ∀ (v1 : Int32) (v2 : Int32), K v1 v2 = some r → At g YX8_met E (qm g YX8_met (pI V r mi ml)) V (0, 0) 40 [some (rf g 229), some (.int v1), some (.int v2)] [] mi ml) : ∀ (n : Nat) (v1 : Int32) (v2 : Int32), lp_X8_met_4 mi K n v1 v2 = some r → At g YX8_met E (qm g YX8_met (pI V r mi ml)) V (0, 0) 4 [some (rf g 229), some (.int v1), some (.int v2)] [] mi ml := by
  intro n
  induction n with
  | zero => intro v1 v2 h; exact oz h
  | succ n ih =>
    intro v1 v2 h
    unfold lp_X8_met_4 at h
    refine a_iload iX8_met_4 rfl <| a_aload iX8_met_5 rfl <| a_geti iX8_met_6 (lm_s229 hM) rfl <| ?_
    refine a_icmp_ge iX8_met_9 (fun hc1 => ?_) (fun hc1 => ?_)
    · have h := ot hc1 h
      exact a_sub (L' := [some (rf g 229), some (.int v1), some (.int v2)]) (by exact ⟨rfl, ⟨rfl, ⟨rfl, trivial⟩⟩⟩) (hK _ _ h)
    · have h := oe hc1 h
      refine a_iload iX8_met_12 rfl <| a_aload iX8_met_13 rfl <| a_aload iX8_met_14 rfl <| a_getr iX8_met_15 (lm_s229 hM) rfl (lm_r229_27 hM) <| a_iload iX8_met_18 rfl <| ?_
      obtain ⟨r2, he3, h⟩ := ob h
      refine a_cVi iX8_met_19 okX8_isMet inX8_isMet ⟨rfl, rfl⟩ (lm_s229 hM) (c_X8_isMet hM (lm_s238 hM) he3) rfl rfl (Nat.le_of_ble_eq_true rfl) ⟨Nat.le_refl 0, Nat.le_refl 0⟩ <| ?_
      refine a_if_eq iX8_met_22 (fun hc4 => ?_) (fun hc4 => ?_)
      · have h := ot hc4 h
        refine a_const iX8_met_31 <| a_ior iX8_met_32 <| a_istore iX8_met_33 (by decide) rfl <| a_iinc iX8_met_34 rfl (by decide) rfl <| a_goto iX8_met_37 <| ?_
        exact a_sub (L' := [some (rf g 229), some (.int (v1 ||| 0)), some (.int (v2 + 1))]) (by exact ⟨rfl, ⟨rfl, ⟨rfl, trivial⟩⟩⟩) (ih _ _ h)
      · have h := oe hc4 h
        refine a_const iX8_met_25 <| a_iload iX8_met_26 rfl <| a_ishl iX8_met_27 <| a_goto iX8_met_28 <| a_ior iX8_met_32 <| a_istore iX8_met_33 (by decide) rfl <| a_iinc iX8_met_34 rfl (by decide) rfl <| a_goto iX8_met_37 <| ?_
        exact a_sub (L' := [some (rf g 229), some (.int (v1 ||| (1 <<< (v2 &&& 31)))), some (.int (v2 + 1))]) (by exact ⟨rfl, ⟨rfl, ⟨rfl, trivial⟩⟩⟩) (ih _ _ h)
set_option maxRecDepth 20000 in
set_option maxHeartbeats 4000000 in
theorem c_X8_met {g : Gm} {V : Vw} {mi : Mi} {ml : Ml} (hM : LayM V) {r : Int32} (h : f_X8_met mi = some r) : DoI g YX8_met V [rf g 229] mi ml r mi ml := by
  unfold f_X8_met at h
  refine does_of (L := [some (rf g 229), none, none]) okX8_met rfl (Nat.le_of_ble_eq_true rfl) rfl ?_
  show At g YX8_met _ (qm g YX8_met (pI V r mi ml)) V (0, 0) 0 _ [] mi ml
  refine a_const iX8_met_0 <| a_istore iX8_met_1 (by decide) rfl <| a_const iX8_met_2 <| a_istore iX8_met_3 (by decide) rfl <| ?_
  refine a_sub (L' := [some (rf g 229), some (.int 0), some (.int 0)]) (by exact ⟨rfl, ⟨rfl, ⟨rfl, trivial⟩⟩⟩) (w_X8_met_4 hM (fun v1_5 v2_5 h => ?_) FU _ _ h)
  refine a_iload iX8_met_40 rfl <| ?_
  obtain rfl := Option.some.inj h
  exact a_iret iX8_met_41 rfl ⟨Nat.le_refl 0, Nat.le_refl 0⟩ ⟨rfl, rfl, rfl, rfl⟩
def lp_X8_wrongAbout_4 (mi : Mi) (v1 : Int32) (K : Int32 → Int32 → Option (Int32)) : Nat → Int32 → Int32 → Option (Int32)
  | 0, _, _ => none
  | n + 1, v2, v3 => if (mi 229 20) ≤ v3 then (K v2 v3) else (if inb ((16 + (8 * v1)) + v3) 121 then if inb (8 + v3) 121 then if (mi 238 ((16 + (8 * v1)) + v3).toNatClampNeg) = (mi 238 (8 + v3).toNatClampNeg) then (lp_X8_wrongAbout_4 mi v1 K n (v2 ||| 0) (v3 + 1)) else (lp_X8_wrongAbout_4 mi v1 K n (v2 ||| (1 <<< (v3 &&& 31))) (v3 + 1)) else none else none)
def f_X8_wrongAbout (mi : Mi) (x1 : Int32) : Option (Int32) := lp_X8_wrongAbout_4 mi x1 (fun v2_5 v3_5 => some v2_5) FU 0 0
set_option maxRecDepth 20000 in
set_option maxHeartbeats 4000000 in
theorem w_X8_wrongAbout_4 {g : Gm} {V : Vw} {E : Ex} {mi : Mi} {ml : Ml} {v1 : Int32} (hM : LayM V) {K : Int32 → Int32 → Option (Int32)} {r : Int32} (hK : ∀ (v2 : Int32) (v3 : Int32), K v2 v3 = some r → At g YX8_wrongAbout E (qm g YX8_wrongAbout (pI V r mi ml)) V (0, 0) 54 [some (rf g 229), some (.int v1), some (.int v2), some (.int v3)] [] mi ml) : ∀ (n : Nat) (v2 : Int32) (v3 : Int32), lp_X8_wrongAbout_4 mi v1 K n v2 v3 = some r → At g YX8_wrongAbout E (qm g YX8_wrongAbout (pI V r mi ml)) V (0, 0) 4 [some (rf g 229), some (.int v1), some (.int v2), some (.int v3)] [] mi ml := by
  intro n
  induction n with
  | zero => intro v2 v3 h; exact oz h
  | succ n ih =>
    intro v2 v3 h
    unfold lp_X8_wrongAbout_4 at h
    refine a_iload iX8_wrongAbout_4 rfl <| a_aload iX8_wrongAbout_5 rfl <| a_geti iX8_wrongAbout_6 (lm_s229 hM) rfl <| ?_
    refine a_icmp_ge iX8_wrongAbout_9 (fun hc1 => ?_) (fun hc1 => ?_)
    · have h := ot hc1 h
      exact a_sub (L' := [some (rf g 229), some (.int v1), some (.int v2), some (.int v3)]) (by exact ⟨rfl, ⟨rfl, ⟨rfl, ⟨rfl, trivial⟩⟩⟩⟩) (hK _ _ h)
    · have h := oe hc1 h
      refine a_iload iX8_wrongAbout_12 rfl <| a_aload iX8_wrongAbout_13 rfl <| a_getr iX8_wrongAbout_14 (lm_s229 hM) rfl (lm_r229_27 hM) <| a_const iX8_wrongAbout_17 <| a_const iX8_wrongAbout_19 <| a_iload iX8_wrongAbout_21 rfl <| a_imul iX8_wrongAbout_22 <| a_iadd iX8_wrongAbout_23 <| ?_
      refine a_iload iX8_wrongAbout_24 rfl <| a_iadd iX8_wrongAbout_25 <| ?_
      obtain ⟨hg2, h⟩ := og h
      refine a_iald iX8_wrongAbout_26 (lm_s238 hM) (inb_vp hg2) <| a_aload iX8_wrongAbout_27 rfl <| a_getr iX8_wrongAbout_28 (lm_s229 hM) rfl (lm_r229_27 hM) <| a_const iX8_wrongAbout_31 <| a_iload iX8_wrongAbout_33 rfl <| a_iadd iX8_wrongAbout_34 <| ?_
      obtain ⟨hg3, h⟩ := og h
      refine a_iald iX8_wrongAbout_35 (lm_s238 hM) (inb_vp hg3) <| ?_
      refine a_icmp_eq iX8_wrongAbout_36 (fun hc4 => ?_) (fun hc4 => ?_)
      · have h := ot hc4 h
        refine a_const iX8_wrongAbout_45 <| a_ior iX8_wrongAbout_46 <| a_istore iX8_wrongAbout_47 (by decide) rfl <| a_iinc iX8_wrongAbout_48 rfl (by decide) rfl <| a_goto iX8_wrongAbout_51 <| ?_
        exact a_sub (L' := [some (rf g 229), some (.int v1), some (.int (v2 ||| 0)), some (.int (v3 + 1))]) (by exact ⟨rfl, ⟨rfl, ⟨rfl, ⟨rfl, trivial⟩⟩⟩⟩) (ih _ _ h)
      · have h := oe hc4 h
        refine a_const iX8_wrongAbout_39 <| a_iload iX8_wrongAbout_40 rfl <| a_ishl iX8_wrongAbout_41 <| a_goto iX8_wrongAbout_42 <| a_ior iX8_wrongAbout_46 <| a_istore iX8_wrongAbout_47 (by decide) rfl <| a_iinc iX8_wrongAbout_48 rfl (by decide) rfl <| a_goto iX8_wrongAbout_51 <| ?_
        exact a_sub (L' := [some (rf g 229), some (.int v1), some (.int (v2 ||| (1 <<< (v3 &&& 31)))), some (.int (v3 + 1))]) (by exact ⟨rfl, ⟨rfl, ⟨rfl, ⟨rfl, trivial⟩⟩⟩⟩) (ih _ _ h)
set_option maxRecDepth 20000 in
set_option maxHeartbeats 4000000 in
theorem c_X8_wrongAbout {g : Gm} {V : Vw} {mi : Mi} {ml : Ml} {x1 : Int32} (hM : LayM V) {r : Int32} (h : f_X8_wrongAbout mi x1 = some r) : DoI g YX8_wrongAbout V [rf g 229, .int x1] mi ml r mi ml := by
  unfold f_X8_wrongAbout at h
  refine does_of (L := [some (rf g 229), some (.int x1), none, none]) okX8_wrongAbout rfl (Nat.le_of_ble_eq_true rfl) rfl ?_
  show At g YX8_wrongAbout _ (qm g YX8_wrongAbout (pI V r mi ml)) V (0, 0) 0 _ [] mi ml
  refine a_const iX8_wrongAbout_0 <| a_istore iX8_wrongAbout_1 (by decide) rfl <| a_const iX8_wrongAbout_2 <| a_istore iX8_wrongAbout_3 (by decide) rfl <| ?_
  refine a_sub (L' := [some (rf g 229), some (.int x1), some (.int 0), some (.int 0)]) (by exact ⟨rfl, ⟨rfl, ⟨rfl, ⟨rfl, trivial⟩⟩⟩⟩) (w_X8_wrongAbout_4 hM (fun v2_5 v3_5 h => ?_) FU _ _ h)
  refine a_iload iX8_wrongAbout_54 rfl <| ?_
  obtain rfl := Option.some.inj h
  exact a_iret iX8_wrongAbout_55 rfl ⟨Nat.le_refl 0, Nat.le_refl 0⟩ ⟨rfl, rfl, rfl, rfl⟩
def lp_X8_bits_4 (v0 : Int32) (K : Int32 → Int32 → Option (Int32)) : Nat → Int32 → Int32 → Option (Int32)
  | 0, _, _ => none
  | n + 1, v1, v2 => if v2 = 0 then (K v1 v2) else (lp_X8_bits_4 v0 K n (v1 + 1) (v2 &&& (v2 - 1)))
def f_X8_bits (x0 : Int32) : Option (Int32) := lp_X8_bits_4 x0 (fun v1_2 v2_2 => some v1_2) FU 0 x0
set_option maxRecDepth 20000 in
set_option maxHeartbeats 4000000 in
theorem w_X8_bits_4 {g : Gm} {V : Vw} {E : Ex} {mi : Mi} {ml : Ml} {v0 : Int32}  {K : Int32 → Int32 → Option (Int32)} {r : Int32} (hK : ∀ (v1 : Int32) (v2 : Int32), K v1 v2 = some r → At g YX8_bits E (qm g YX8_bits (pI V r mi ml)) V (0, 0) 20 [some (.int v0), some (.int v1), some (.int v2)] [] mi ml) : ∀ (n : Nat) (v1 : Int32) (v2 : Int32), lp_X8_bits_4 v0 K n v1 v2 = some r → At g YX8_bits E (qm g YX8_bits (pI V r mi ml)) V (0, 0) 4 [some (.int v0), some (.int v1), some (.int v2)] [] mi ml := by
  intro n
  induction n with
  | zero => intro v1 v2 h; exact oz h
  | succ n ih =>
    intro v1 v2 h
    unfold lp_X8_bits_4 at h
    refine a_iload iX8_bits_4 rfl <| ?_
    refine a_if_eq iX8_bits_5 (fun hc1 => ?_) (fun hc1 => ?_)
    · have h := ot hc1 h
      exact a_sub (L' := [some (.int v0), some (.int v1), some (.int v2)]) (by exact ⟨rfl, ⟨rfl, ⟨rfl, trivial⟩⟩⟩) (hK _ _ h)
    · have h := oe hc1 h
      refine a_iinc iX8_bits_8 rfl (by decide) rfl <| a_iload iX8_bits_11 rfl <| a_iload iX8_bits_12 rfl <| a_const iX8_bits_13 <| a_isub iX8_bits_14 <| a_iand iX8_bits_15 <| a_istore iX8_bits_16 (by decide) rfl <| a_goto iX8_bits_17 <| ?_
      exact a_sub (L' := [some (.int v0), some (.int (v1 + 1)), some (.int (v2 &&& (v2 - 1)))]) (by exact ⟨rfl, ⟨rfl, ⟨rfl, trivial⟩⟩⟩) (ih _ _ h)
set_option maxRecDepth 20000 in
set_option maxHeartbeats 4000000 in
theorem c_X8_bits {g : Gm} {V : Vw} {mi : Mi} {ml : Ml} {x0 : Int32}  {r : Int32} (h : f_X8_bits x0 = some r) : DoI g YX8_bits V [.int x0] mi ml r mi ml := by
  unfold f_X8_bits at h
  refine does_of (L := [some (.int x0), none, none]) okX8_bits rfl (Nat.le_of_ble_eq_true rfl) rfl ?_
  show At g YX8_bits _ (qm g YX8_bits (pI V r mi ml)) V (0, 0) 0 _ [] mi ml
  refine a_const iX8_bits_0 <| a_istore iX8_bits_1 (by decide) rfl <| a_iload iX8_bits_2 rfl <| a_istore iX8_bits_3 (by decide) rfl <| ?_
  refine a_sub (L' := [some (.int x0), some (.int 0), some (.int x0)]) (by exact ⟨rfl, ⟨rfl, ⟨rfl, trivial⟩⟩⟩) (w_X8_bits_4  (fun v1_2 v2_2 h => ?_) FU _ _ h)
  refine a_iload iX8_bits_20 rfl <| ?_
  obtain rfl := Option.some.inj h
  exact a_iret iX8_bits_21 rfl ⟨Nat.le_refl 0, Nat.le_refl 0⟩ ⟨rfl, rfl, rfl, rfl⟩
def lp_X8_notes_4 (mi : Mi) (K : Int32 → Int32 → Option (Int32)) : Nat → Int32 → Int32 → Option (Int32)
  | 0, _, _ => none
  | n + 1, v1, v2 => if 3 ≤ v2 then (K v1 v2) else ((f_X8_isCounty mi).bind (fun r2 => if r2 = 0 then (lp_X8_notes_4 mi K n (v1 + 0) (v2 + 1)) else ((f_X8_heirOf mi 238).bind (fun r5 => if v2 = r5 then (lp_X8_notes_4 mi K n (v1 + 0) (v2 + 1)) else ((f_X8_wrongAbout mi v2).bind (fun r8 => (f_X8_bits r8).bind (fun r10 => lp_X8_notes_4 mi K n (v1 + r10) (v2 + 1))))))))
def f_X8_notes (mi : Mi) : Option (Int32) := lp_X8_notes_4 mi (fun v1_12 v2_12 => some v1_12) FU 0 0
set_option maxRecDepth 20000 in
set_option maxHeartbeats 4000000 in
theorem w_X8_notes_4 {g : Gm} {V : Vw} {E : Ex} {mi : Mi} {ml : Ml} (hM : LayM V) {K : Int32 → Int32 → Option (Int32)} {r : Int32} (hK : ∀ (v1 : Int32) (v2 : Int32), K v1 v2 = some r → At g YX8_notes E (qm g YX8_notes (pI V r mi ml)) V (0, 0) 49 [some (rf g 229), some (.int v1), some (.int v2)] [] mi ml) : ∀ (n : Nat) (v1 : Int32) (v2 : Int32), lp_X8_notes_4 mi K n v1 v2 = some r → At g YX8_notes E (qm g YX8_notes (pI V r mi ml)) V (0, 0) 4 [some (rf g 229), some (.int v1), some (.int v2)] [] mi ml := by
  intro n
  induction n with
  | zero => intro v1 v2 h; exact oz h
  | succ n ih =>
    intro v1 v2 h
    unfold lp_X8_notes_4 at h
    refine a_iload iX8_notes_4 rfl <| a_const iX8_notes_5 <| ?_
    refine a_icmp_ge iX8_notes_6 (fun hc1 => ?_) (fun hc1 => ?_)
    · have h := ot hc1 h
      exact a_sub (L' := [some (rf g 229), some (.int v1), some (.int v2)]) (by exact ⟨rfl, ⟨rfl, ⟨rfl, trivial⟩⟩⟩) (hK _ _ h)
    · have h := oe hc1 h
      refine a_iload iX8_notes_9 rfl <| a_aload iX8_notes_10 rfl <| ?_
      obtain ⟨r2, he3, h⟩ := ob h
      refine a_cVi iX8_notes_11 okX8_isCounty inX8_isCounty ⟨rfl, rfl⟩ (lm_s229 hM) (c_X8_isCounty hM he3) rfl rfl (Nat.le_of_ble_eq_true rfl) ⟨Nat.le_refl 0, Nat.le_refl 0⟩ <| ?_
      refine a_if_eq iX8_notes_14 (fun hc4 => ?_) (fun hc4 => ?_)
      · have h := ot hc4 h
        refine a_const iX8_notes_40 <| a_iadd iX8_notes_41 <| a_istore iX8_notes_42 (by decide) rfl <| a_iinc iX8_notes_43 rfl (by decide) rfl <| a_goto iX8_notes_46 <| ?_
        exact a_sub (L' := [some (rf g 229), some (.int (v1 + 0)), some (.int (v2 + 1))]) (by exact ⟨rfl, ⟨rfl, ⟨rfl, trivial⟩⟩⟩) (ih _ _ h)
      · have h := oe hc4 h
        refine a_iload iX8_notes_17 rfl <| a_aload iX8_notes_18 rfl <| a_aload iX8_notes_19 rfl <| a_getr iX8_notes_20 (lm_s229 hM) rfl (lm_r229_27 hM) <| ?_
        obtain ⟨r5, he6, h⟩ := ob h
        refine a_cVi iX8_notes_23 okX8_heirOf inX8_heirOf ⟨rfl, rfl⟩ (lm_s229 hM) (c_X8_heirOf hM (lm_s238 hM) he6) rfl rfl (Nat.le_of_ble_eq_true rfl) ⟨Nat.le_refl 0, Nat.le_refl 0⟩ <| ?_
        refine a_icmp_eq iX8_notes_26 (fun hc7 => ?_) (fun hc7 => ?_)
        · have h := ot hc7 h
          refine a_const iX8_notes_40 <| a_iadd iX8_notes_41 <| a_istore iX8_notes_42 (by decide) rfl <| a_iinc iX8_notes_43 rfl (by decide) rfl <| a_goto iX8_notes_46 <| ?_
          exact a_sub (L' := [some (rf g 229), some (.int (v1 + 0)), some (.int (v2 + 1))]) (by exact ⟨rfl, ⟨rfl, ⟨rfl, trivial⟩⟩⟩) (ih _ _ h)
        · have h := oe hc7 h
          refine a_aload iX8_notes_29 rfl <| a_iload iX8_notes_30 rfl <| ?_
          obtain ⟨r8, he9, h⟩ := ob h
          refine a_cVi iX8_notes_31 okX8_wrongAbout inX8_wrongAbout ⟨rfl, rfl⟩ (lm_s229 hM) (c_X8_wrongAbout hM he9) rfl rfl (Nat.le_of_ble_eq_true rfl) ⟨Nat.le_refl 0, Nat.le_refl 0⟩ <| ?_
          obtain ⟨r10, he11, h⟩ := ob h
          refine a_cSi iX8_notes_34 okX8_bits stX8_bits ⟨rfl, rfl⟩ (c_X8_bits he11) rfl rfl (Nat.le_of_ble_eq_true rfl) ⟨Nat.le_refl 0, Nat.le_refl 0⟩ <| a_goto iX8_notes_37 <| a_iadd iX8_notes_41 <| a_istore iX8_notes_42 (by decide) rfl <| a_iinc iX8_notes_43 rfl (by decide) rfl <| a_goto iX8_notes_46 <| ?_
          exact a_sub (L' := [some (rf g 229), some (.int (v1 + r10)), some (.int (v2 + 1))]) (by exact ⟨rfl, ⟨rfl, ⟨rfl, trivial⟩⟩⟩) (ih _ _ h)
set_option maxRecDepth 20000 in
set_option maxHeartbeats 4000000 in
theorem c_X8_notes {g : Gm} {V : Vw} {mi : Mi} {ml : Ml} (hM : LayM V) {r : Int32} (h : f_X8_notes mi = some r) : DoI g YX8_notes V [rf g 229] mi ml r mi ml := by
  unfold f_X8_notes at h
  refine does_of (L := [some (rf g 229), none, none]) okX8_notes rfl (Nat.le_of_ble_eq_true rfl) rfl ?_
  show At g YX8_notes _ (qm g YX8_notes (pI V r mi ml)) V (0, 0) 0 _ [] mi ml
  refine a_const iX8_notes_0 <| a_istore iX8_notes_1 (by decide) rfl <| a_const iX8_notes_2 <| a_istore iX8_notes_3 (by decide) rfl <| ?_
  refine a_sub (L' := [some (rf g 229), some (.int 0), some (.int 0)]) (by exact ⟨rfl, ⟨rfl, ⟨rfl, trivial⟩⟩⟩) (w_X8_notes_4 hM (fun v1_12 v2_12 h => ?_) FU _ _ h)
  refine a_iload iX8_notes_49 rfl <| ?_
  obtain rfl := Option.some.inj h
  exact a_iret iX8_notes_50 rfl ⟨Nat.le_refl 0, Nat.le_refl 0⟩ ⟨rfl, rfl, rfl, rfl⟩
def lp_X8_envy_16 (mi : Mi) (K : Int32 → Int32 → Int32 → Option (Int32)) : Nat → Int32 → Int32 → Int32 → Option (Int32)
  | 0, _, _, _ => none
  | n + 1, v1, v2, v3 => if 3 ≤ v3 then (K v1 v2 v3) else (if inb (2 + v3) 121 then if (mi 238 (2 + v3).toNatClampNeg) ≤ v1 then (if inb (2 + v3) 121 then if v2 ≤ (mi 238 (2 + v3).toNatClampNeg) then (lp_X8_envy_16 mi K n v1 v2 (v3 + 1)) else (if inb (2 + v3) 121 then lp_X8_envy_16 mi K n v1 (mi 238 (2 + v3).toNatClampNeg) (v3 + 1) else none) else none) else (if inb (2 + v3) 121 then if inb (2 + v3) 121 then if v2 ≤ (mi 238 (2 + v3).toNatClampNeg) then (lp_X8_envy_16 mi K n (mi 238 (2 + v3).toNatClampNeg) v2 (v3 + 1)) else (if inb (2 + v3) 121 then lp_X8_envy_16 mi K n (mi 238 (2 + v3).toNatClampNeg) (mi 238 (2 + v3).toNatClampNeg) (v3 + 1) else none) else none else none) else none)
def f_X8_envy (mi : Mi) : Option (Int32) := if inb 2 121 then if inb 2 121 then lp_X8_envy_16 mi (fun v1_13 v2_13 v3_13 => some (v1_13 - v2_13)) FU (mi 238 (2 : Int32).toNatClampNeg) (mi 238 (2 : Int32).toNatClampNeg) 1 else none else none
set_option maxRecDepth 20000 in
set_option maxHeartbeats 4000000 in
theorem w_X8_envy_16 {g : Gm} {V : Vw} {E : Ex} {mi : Mi} {ml : Ml} (hM : LayM V) {K : Int32 → Int32 → Int32 → Option (Int32)} {r : Int32} (hK : ∀ (v1 : Int32) (v2 : Int32) (v3 : Int32), K v1 v2 v3 = some r → At g YX8_envy E (qm g YX8_envy (pI V r mi ml)) V (0, 0) 77 [some (rf g 229), some (.int v1), some (.int v2), some (.int v3)] [] mi ml) : ∀ (n : Nat) (v1 : Int32) (v2 : Int32) (v3 : Int32), lp_X8_envy_16 mi K n v1 v2 v3 = some r → At g YX8_envy E (qm g YX8_envy (pI V r mi ml)) V (0, 0) 16 [some (rf g 229), some (.int v1), some (.int v2), some (.int v3)] [] mi ml := by
  intro n
  induction n with
  | zero => intro v1 v2 v3 h; exact oz h
  | succ n ih =>
    intro v1 v2 v3 h
    unfold lp_X8_envy_16 at h
    refine a_iload iX8_envy_16 rfl <| a_const iX8_envy_17 <| ?_
    refine a_icmp_ge iX8_envy_18 (fun hc3 => ?_) (fun hc3 => ?_)
    · have h := ot hc3 h
      exact a_sub (L' := [some (rf g 229), some (.int v1), some (.int v2), some (.int v3)]) (by exact ⟨rfl, ⟨rfl, ⟨rfl, ⟨rfl, trivial⟩⟩⟩⟩) (hK _ _ _ h)
    · have h := oe hc3 h
      refine a_aload iX8_envy_21 rfl <| a_getr iX8_envy_22 (lm_s229 hM) rfl (lm_r229_27 hM) <| a_const iX8_envy_25 <| a_iload iX8_envy_26 rfl <| a_iadd iX8_envy_27 <| ?_
      obtain ⟨hg4, h⟩ := og h
      refine a_iald iX8_envy_28 (lm_s238 hM) (inb_vp hg4) <| a_iload iX8_envy_29 rfl <| ?_
      refine a_icmp_le iX8_envy_30 (fun hc5 => ?_) (fun hc5 => ?_)
      · have h := ot hc5 h
        refine a_iload iX8_envy_44 rfl <| a_istore iX8_envy_45 (by decide) rfl <| a_aload iX8_envy_46 rfl <| a_getr iX8_envy_47 (lm_s229 hM) rfl (lm_r229_27 hM) <| a_const iX8_envy_50 <| a_iload iX8_envy_51 rfl <| a_iadd iX8_envy_52 <| ?_
        obtain ⟨hg6, h⟩ := og h
        refine a_iald iX8_envy_53 (lm_s238 hM) (inb_vp hg6) <| a_iload iX8_envy_54 rfl <| ?_
        refine a_icmp_ge iX8_envy_55 (fun hc7 => ?_) (fun hc7 => ?_)
        · have h := ot hc7 h
          refine a_iload iX8_envy_69 rfl <| a_istore iX8_envy_70 (by decide) rfl <| a_iinc iX8_envy_71 rfl (by decide) rfl <| a_goto iX8_envy_74 <| ?_
          exact a_sub (L' := [some (rf g 229), some (.int v1), some (.int v2), some (.int (v3 + 1))]) (by exact ⟨rfl, ⟨rfl, ⟨rfl, ⟨rfl, trivial⟩⟩⟩⟩) (ih _ _ _ h)
        · have h := oe hc7 h
          refine a_aload iX8_envy_58 rfl <| a_getr iX8_envy_59 (lm_s229 hM) rfl (lm_r229_27 hM) <| a_const iX8_envy_62 <| a_iload iX8_envy_63 rfl <| a_iadd iX8_envy_64 <| ?_
          obtain ⟨hg8, h⟩ := og h
          refine a_iald iX8_envy_65 (lm_s238 hM) (inb_vp hg8) <| a_goto iX8_envy_66 <| a_istore iX8_envy_70 (by decide) rfl <| a_iinc iX8_envy_71 rfl (by decide) rfl <| a_goto iX8_envy_74 <| ?_
          exact a_sub (L' := [some (rf g 229), some (.int v1), some (.int (mi 238 (2 + v3).toNatClampNeg)), some (.int (v3 + 1))]) (by exact ⟨rfl, ⟨rfl, ⟨rfl, ⟨rfl, trivial⟩⟩⟩⟩) (ih _ _ _ h)
      · have h := oe hc5 h
        refine a_aload iX8_envy_33 rfl <| a_getr iX8_envy_34 (lm_s229 hM) rfl (lm_r229_27 hM) <| a_const iX8_envy_37 <| a_iload iX8_envy_38 rfl <| a_iadd iX8_envy_39 <| ?_
        obtain ⟨hg9, h⟩ := og h
        refine a_iald iX8_envy_40 (lm_s238 hM) (inb_vp hg9) <| a_goto iX8_envy_41 <| a_istore iX8_envy_45 (by decide) rfl <| a_aload iX8_envy_46 rfl <| a_getr iX8_envy_47 (lm_s229 hM) rfl (lm_r229_27 hM) <| a_const iX8_envy_50 <| a_iload iX8_envy_51 rfl <| a_iadd iX8_envy_52 <| ?_
        obtain ⟨hg10, h⟩ := og h
        refine a_iald iX8_envy_53 (lm_s238 hM) (inb_vp hg10) <| a_iload iX8_envy_54 rfl <| ?_
        refine a_icmp_ge iX8_envy_55 (fun hc11 => ?_) (fun hc11 => ?_)
        · have h := ot hc11 h
          refine a_iload iX8_envy_69 rfl <| a_istore iX8_envy_70 (by decide) rfl <| a_iinc iX8_envy_71 rfl (by decide) rfl <| a_goto iX8_envy_74 <| ?_
          exact a_sub (L' := [some (rf g 229), some (.int (mi 238 (2 + v3).toNatClampNeg)), some (.int v2), some (.int (v3 + 1))]) (by exact ⟨rfl, ⟨rfl, ⟨rfl, ⟨rfl, trivial⟩⟩⟩⟩) (ih _ _ _ h)
        · have h := oe hc11 h
          refine a_aload iX8_envy_58 rfl <| a_getr iX8_envy_59 (lm_s229 hM) rfl (lm_r229_27 hM) <| a_const iX8_envy_62 <| a_iload iX8_envy_63 rfl <| a_iadd iX8_envy_64 <| ?_
          obtain ⟨hg12, h⟩ := og h
          refine a_iald iX8_envy_65 (lm_s238 hM) (inb_vp hg12) <| a_goto iX8_envy_66 <| a_istore iX8_envy_70 (by decide) rfl <| a_iinc iX8_envy_71 rfl (by decide) rfl <| a_goto iX8_envy_74 <| ?_
          exact a_sub (L' := [some (rf g 229), some (.int (mi 238 (2 + v3).toNatClampNeg)), some (.int (mi 238 (2 + v3).toNatClampNeg)), some (.int (v3 + 1))]) (by exact ⟨rfl, ⟨rfl, ⟨rfl, ⟨rfl, trivial⟩⟩⟩⟩) (ih _ _ _ h)
set_option maxRecDepth 20000 in
set_option maxHeartbeats 4000000 in
theorem c_X8_envy {g : Gm} {V : Vw} {mi : Mi} {ml : Ml} (hM : LayM V) {r : Int32} (h : f_X8_envy mi = some r) : DoI g YX8_envy V [rf g 229] mi ml r mi ml := by
  unfold f_X8_envy at h
  refine does_of (L := [some (rf g 229), none, none, none]) okX8_envy rfl (Nat.le_of_ble_eq_true rfl) rfl ?_
  show At g YX8_envy _ (qm g YX8_envy (pI V r mi ml)) V (0, 0) 0 _ [] mi ml
  refine a_aload iX8_envy_0 rfl <| a_getr iX8_envy_1 (lm_s229 hM) rfl (lm_r229_27 hM) <| a_const iX8_envy_4 <| ?_
  obtain ⟨hg1, h⟩ := og h
  refine a_iald iX8_envy_5 (lm_s238 hM) (inb_vp hg1) <| a_istore iX8_envy_6 (by decide) rfl <| a_aload iX8_envy_7 rfl <| a_getr iX8_envy_8 (lm_s229 hM) rfl (lm_r229_27 hM) <| a_const iX8_envy_11 <| ?_
  obtain ⟨hg2, h⟩ := og h
  refine a_iald iX8_envy_12 (lm_s238 hM) (inb_vp hg2) <| a_istore iX8_envy_13 (by decide) rfl <| a_const iX8_envy_14 <| a_istore iX8_envy_15 (by decide) rfl <| ?_
  refine a_sub (L' := [some (rf g 229), some (.int (mi 238 (2 : Int32).toNatClampNeg)), some (.int (mi 238 (2 : Int32).toNatClampNeg)), some (.int 1)]) (by exact ⟨rfl, ⟨rfl, ⟨rfl, ⟨rfl, trivial⟩⟩⟩⟩) (w_X8_envy_16 hM (fun v1_13 v2_13 v3_13 h => ?_) FU _ _ _ h)
  refine a_iload iX8_envy_77 rfl <| a_iload iX8_envy_78 rfl <| a_isub iX8_envy_79 <| ?_
  obtain rfl := Option.some.inj h
  exact a_iret iX8_envy_80 rfl ⟨Nat.le_refl 0, Nat.le_refl 0⟩ ⟨rfl, rfl, rfl, rfl⟩
def f_X8_told (mi : Mi) (x1 : Int32) : Option (Int32) := if x1 = 0 then ((f_X8_isCounty mi).bind (fun r2 => if r2 = 0 then (some 0) else (some 1))) else (if x1 = 1 then (some (mi 229 20)) else (if x1 = 2 then (some (mi 229 22)) else (if x1 = 3 then (some (mi 229 23)) else (if x1 = 4 then (some (mi 229 19)) else (if x1 = 5 then (some (mi 229 0)) else (if x1 = 6 then (if inb 0 121 then some (mi 238 (0 : Int32).toNatClampNeg) else none) else (if x1 = 7 then (if inb 1 121 then some (mi 238 (1 : Int32).toNatClampNeg) else none) else (if x1 = 8 then ((f_X8_isCounty mi).bind (fun r15 => if r15 = 0 then (some (-1)) else ((f_X8_heirOf mi 238).bind (fun r18 => some r18)))) else (if x1 = 9 then ((f_X8_met mi).bind (fun r21 => some r21)) else (if x1 = 10 then ((f_X8_notes mi).bind (fun r24 => some r24)) else (if x1 = 11 then ((f_X8_envy mi).bind (fun r27 => some r27)) else (if x1 = 12 then (if inb 40 121 then some (mi 238 (40 : Int32).toNatClampNeg) else none) else (if x1 = 13 then (some (mi 229 32)) else (if x1 = 14 then (some (mi 229 37)) else (if x1 = 15 then (some (mi 229 28)) else (some (-1000000002)))))))))))))))))
set_option maxRecDepth 20000 in
set_option maxHeartbeats 4000000 in
theorem c_X8_told {g : Gm} {V : Vw} {mi : Mi} {ml : Ml} {x1 : Int32} (hM : LayM V) {r : Int32} (h : f_X8_told mi x1 = some r) : DoI g YX8_told V [rf g 229, .int x1] mi ml r mi ml := by
  unfold f_X8_told at h
  refine does_of (L := [some (rf g 229), some (.int x1)]) okX8_told rfl (Nat.le_of_ble_eq_true rfl) rfl ?_
  show At g YX8_told _ (qm g YX8_told (pI V r mi ml)) V (0, 0) 0 _ [] mi ml
  refine a_iload iX8_told_0 rfl <| ?_
  by_cases hc1 : x1 = 0
  · have h := ot hc1 h
    refine a_tbv (tgt := 80) iX8_told_1 hc1 (by decide) ?_
    refine a_aload iX8_told_80 rfl <| ?_
    obtain ⟨r2, he3, h⟩ := ob h
    refine a_cVi iX8_told_81 okX8_isCounty inX8_isCounty ⟨rfl, rfl⟩ (lm_s229 hM) (c_X8_isCounty hM he3) rfl rfl (Nat.le_of_ble_eq_true rfl) ⟨Nat.le_refl 0, Nat.le_refl 0⟩ <| ?_
    refine a_if_eq iX8_told_84 (fun hc4 => ?_) (fun hc4 => ?_)
    · have h := ot hc4 h
      refine a_const iX8_told_91 <| ?_
      obtain rfl := Option.some.inj h
      exact a_iret iX8_told_92 rfl ⟨Nat.le_refl 0, Nat.le_refl 0⟩ ⟨rfl, rfl, rfl, rfl⟩
    · have h := oe hc4 h
      refine a_const iX8_told_87 <| a_goto iX8_told_88 <| ?_
      obtain rfl := Option.some.inj h
      exact a_iret iX8_told_92 rfl ⟨Nat.le_refl 0, Nat.le_refl 0⟩ ⟨rfl, rfl, rfl, rfl⟩
  · have h := oe hc1 h
    by_cases hc5 : x1 = 1
    · have h := ot hc5 h
      refine a_tbv (tgt := 93) iX8_told_1 hc5 (by decide) ?_
      refine a_aload iX8_told_93 rfl <| a_geti iX8_told_94 (lm_s229 hM) rfl <| ?_
      obtain rfl := Option.some.inj h
      exact a_iret iX8_told_97 rfl ⟨Nat.le_refl 0, Nat.le_refl 0⟩ ⟨rfl, rfl, rfl, rfl⟩
    · have h := oe hc5 h
      by_cases hc6 : x1 = 2
      · have h := ot hc6 h
        refine a_tbv (tgt := 98) iX8_told_1 hc6 (by decide) ?_
        refine a_aload iX8_told_98 rfl <| a_geti iX8_told_99 (lm_s229 hM) rfl <| ?_
        obtain rfl := Option.some.inj h
        exact a_iret iX8_told_102 rfl ⟨Nat.le_refl 0, Nat.le_refl 0⟩ ⟨rfl, rfl, rfl, rfl⟩
      · have h := oe hc6 h
        by_cases hc7 : x1 = 3
        · have h := ot hc7 h
          refine a_tbv (tgt := 103) iX8_told_1 hc7 (by decide) ?_
          refine a_aload iX8_told_103 rfl <| a_geti iX8_told_104 (lm_s229 hM) rfl <| ?_
          obtain rfl := Option.some.inj h
          exact a_iret iX8_told_107 rfl ⟨Nat.le_refl 0, Nat.le_refl 0⟩ ⟨rfl, rfl, rfl, rfl⟩
        · have h := oe hc7 h
          by_cases hc8 : x1 = 4
          · have h := ot hc8 h
            refine a_tbv (tgt := 108) iX8_told_1 hc8 (by decide) ?_
            refine a_aload iX8_told_108 rfl <| a_geti iX8_told_109 (lm_s229 hM) rfl <| ?_
            obtain rfl := Option.some.inj h
            exact a_iret iX8_told_112 rfl ⟨Nat.le_refl 0, Nat.le_refl 0⟩ ⟨rfl, rfl, rfl, rfl⟩
          · have h := oe hc8 h
            by_cases hc9 : x1 = 5
            · have h := ot hc9 h
              refine a_tbv (tgt := 113) iX8_told_1 hc9 (by decide) ?_
              refine a_aload iX8_told_113 rfl <| a_geti iX8_told_114 (lm_s229 hM) rfl <| ?_
              obtain rfl := Option.some.inj h
              exact a_iret iX8_told_117 rfl ⟨Nat.le_refl 0, Nat.le_refl 0⟩ ⟨rfl, rfl, rfl, rfl⟩
            · have h := oe hc9 h
              by_cases hc10 : x1 = 6
              · have h := ot hc10 h
                refine a_tbv (tgt := 118) iX8_told_1 hc10 (by decide) ?_
                refine a_aload iX8_told_118 rfl <| a_getr iX8_told_119 (lm_s229 hM) rfl (lm_r229_27 hM) <| a_const iX8_told_122 <| ?_
                obtain ⟨hg11, h⟩ := og h
                refine a_iald iX8_told_123 (lm_s238 hM) (inb_vp hg11) <| ?_
                obtain rfl := Option.some.inj h
                exact a_iret iX8_told_124 rfl ⟨Nat.le_refl 0, Nat.le_refl 0⟩ ⟨rfl, rfl, rfl, rfl⟩
              · have h := oe hc10 h
                by_cases hc12 : x1 = 7
                · have h := ot hc12 h
                  refine a_tbv (tgt := 125) iX8_told_1 hc12 (by decide) ?_
                  refine a_aload iX8_told_125 rfl <| a_getr iX8_told_126 (lm_s229 hM) rfl (lm_r229_27 hM) <| a_const iX8_told_129 <| ?_
                  obtain ⟨hg13, h⟩ := og h
                  refine a_iald iX8_told_130 (lm_s238 hM) (inb_vp hg13) <| ?_
                  obtain rfl := Option.some.inj h
                  exact a_iret iX8_told_131 rfl ⟨Nat.le_refl 0, Nat.le_refl 0⟩ ⟨rfl, rfl, rfl, rfl⟩
                · have h := oe hc12 h
                  by_cases hc14 : x1 = 8
                  · have h := ot hc14 h
                    refine a_tbv (tgt := 132) iX8_told_1 hc14 (by decide) ?_
                    refine a_aload iX8_told_132 rfl <| ?_
                    obtain ⟨r15, he16, h⟩ := ob h
                    refine a_cVi iX8_told_133 okX8_isCounty inX8_isCounty ⟨rfl, rfl⟩ (lm_s229 hM) (c_X8_isCounty hM he16) rfl rfl (Nat.le_of_ble_eq_true rfl) ⟨Nat.le_refl 0, Nat.le_refl 0⟩ <| ?_
                    refine a_if_eq iX8_told_136 (fun hc17 => ?_) (fun hc17 => ?_)
                    · have h := ot hc17 h
                      refine a_const iX8_told_150 <| ?_
                      obtain rfl := Option.some.inj h
                      exact a_iret iX8_told_151 rfl ⟨Nat.le_refl 0, Nat.le_refl 0⟩ ⟨rfl, rfl, rfl, rfl⟩
                    · have h := oe hc17 h
                      refine a_aload iX8_told_139 rfl <| a_aload iX8_told_140 rfl <| a_getr iX8_told_141 (lm_s229 hM) rfl (lm_r229_27 hM) <| ?_
                      obtain ⟨r18, he19, h⟩ := ob h
                      refine a_cVi iX8_told_144 okX8_heirOf inX8_heirOf ⟨rfl, rfl⟩ (lm_s229 hM) (c_X8_heirOf hM (lm_s238 hM) he19) rfl rfl (Nat.le_of_ble_eq_true rfl) ⟨Nat.le_refl 0, Nat.le_refl 0⟩ <| a_goto iX8_told_147 <| ?_
                      obtain rfl := Option.some.inj h
                      exact a_iret iX8_told_151 rfl ⟨Nat.le_refl 0, Nat.le_refl 0⟩ ⟨rfl, rfl, rfl, rfl⟩
                  · have h := oe hc14 h
                    by_cases hc20 : x1 = 9
                    · have h := ot hc20 h
                      refine a_tbv (tgt := 152) iX8_told_1 hc20 (by decide) ?_
                      refine a_aload iX8_told_152 rfl <| ?_
                      obtain ⟨r21, he22, h⟩ := ob h
                      refine a_cVi iX8_told_153 okX8_met inX8_met ⟨rfl, rfl⟩ (lm_s229 hM) (c_X8_met hM he22) rfl rfl (Nat.le_of_ble_eq_true rfl) ⟨Nat.le_refl 0, Nat.le_refl 0⟩ <| ?_
                      obtain rfl := Option.some.inj h
                      exact a_iret iX8_told_156 rfl ⟨Nat.le_refl 0, Nat.le_refl 0⟩ ⟨rfl, rfl, rfl, rfl⟩
                    · have h := oe hc20 h
                      by_cases hc23 : x1 = 10
                      · have h := ot hc23 h
                        refine a_tbv (tgt := 157) iX8_told_1 hc23 (by decide) ?_
                        refine a_aload iX8_told_157 rfl <| ?_
                        obtain ⟨r24, he25, h⟩ := ob h
                        refine a_cVi iX8_told_158 okX8_notes inX8_notes ⟨rfl, rfl⟩ (lm_s229 hM) (c_X8_notes hM he25) rfl rfl (Nat.le_of_ble_eq_true rfl) ⟨Nat.le_refl 0, Nat.le_refl 0⟩ <| ?_
                        obtain rfl := Option.some.inj h
                        exact a_iret iX8_told_161 rfl ⟨Nat.le_refl 0, Nat.le_refl 0⟩ ⟨rfl, rfl, rfl, rfl⟩
                      · have h := oe hc23 h
                        by_cases hc26 : x1 = 11
                        · have h := ot hc26 h
                          refine a_tbv (tgt := 162) iX8_told_1 hc26 (by decide) ?_
                          refine a_aload iX8_told_162 rfl <| ?_
                          obtain ⟨r27, he28, h⟩ := ob h
                          refine a_cVi iX8_told_163 okX8_envy inX8_envy ⟨rfl, rfl⟩ (lm_s229 hM) (c_X8_envy hM he28) rfl rfl (Nat.le_of_ble_eq_true rfl) ⟨Nat.le_refl 0, Nat.le_refl 0⟩ <| ?_
                          obtain rfl := Option.some.inj h
                          exact a_iret iX8_told_166 rfl ⟨Nat.le_refl 0, Nat.le_refl 0⟩ ⟨rfl, rfl, rfl, rfl⟩
                        · have h := oe hc26 h
                          by_cases hc29 : x1 = 12
                          · have h := ot hc29 h
                            refine a_tbv (tgt := 167) iX8_told_1 hc29 (by decide) ?_
                            refine a_aload iX8_told_167 rfl <| a_getr iX8_told_168 (lm_s229 hM) rfl (lm_r229_27 hM) <| a_const iX8_told_171 <| ?_
                            obtain ⟨hg30, h⟩ := og h
                            refine a_iald iX8_told_173 (lm_s238 hM) (inb_vp hg30) <| ?_
                            obtain rfl := Option.some.inj h
                            exact a_iret iX8_told_174 rfl ⟨Nat.le_refl 0, Nat.le_refl 0⟩ ⟨rfl, rfl, rfl, rfl⟩
                          · have h := oe hc29 h
                            by_cases hc31 : x1 = 13
                            · have h := ot hc31 h
                              refine a_tbv (tgt := 175) iX8_told_1 hc31 (by decide) ?_
                              refine a_aload iX8_told_175 rfl <| a_geti iX8_told_176 (lm_s229 hM) rfl <| ?_
                              obtain rfl := Option.some.inj h
                              exact a_iret iX8_told_179 rfl ⟨Nat.le_refl 0, Nat.le_refl 0⟩ ⟨rfl, rfl, rfl, rfl⟩
                            · have h := oe hc31 h
                              by_cases hc32 : x1 = 14
                              · have h := ot hc32 h
                                refine a_tbv (tgt := 180) iX8_told_1 hc32 (by decide) ?_
                                refine a_aload iX8_told_180 rfl <| a_geti iX8_told_181 (lm_s229 hM) rfl <| ?_
                                obtain rfl := Option.some.inj h
                                exact a_iret iX8_told_184 rfl ⟨Nat.le_refl 0, Nat.le_refl 0⟩ ⟨rfl, rfl, rfl, rfl⟩
                              · have h := oe hc32 h
                                by_cases hc33 : x1 = 15
                                · have h := ot hc33 h
                                  refine a_tbv (tgt := 185) iX8_told_1 hc33 (by decide) ?_
                                  refine a_aload iX8_told_185 rfl <| a_geti iX8_told_186 (lm_s229 hM) rfl <| ?_
                                  obtain rfl := Option.some.inj h
                                  exact a_iret iX8_told_189 rfl ⟨Nat.le_refl 0, Nat.le_refl 0⟩ ⟨rfl, rfl, rfl, rfl⟩
                                · have h := oe hc33 h
                                  refine a_tbd (n := 16) iX8_told_1 (by decide) ⟨⟨⟨⟨⟨⟨⟨⟨⟨⟨⟨⟨⟨⟨⟨⟨trivial, hc1⟩, hc5⟩, hc6⟩, hc7⟩, hc8⟩, hc9⟩, hc10⟩, hc12⟩, hc14⟩, hc20⟩, hc23⟩, hc26⟩, hc29⟩, hc31⟩, hc32⟩, hc33⟩ ?_
                                  refine a_const iX8_told_190 <| ?_
                                  obtain rfl := Option.some.inj h
                                  exact a_iret iX8_told_192 rfl ⟨Nat.le_refl 0, Nat.le_refl 0⟩ ⟨rfl, rfl, rfl, rfl⟩
def lp_X8_wantsOf_4 (mi : Mi) (v1 : Int32) (K : Int32 → Int32 → Option (Int32)) : Nat → Int32 → Int32 → Option (Int32)
  | 0, _, _ => none
  | n + 1, v2, v3 => if (mi 229 23) ≤ v3 then (K v2 v3) else (if inb (3 * v3) 30 then if (mi 237 (3 * v3).toNatClampNeg) = v1 then (lp_X8_wantsOf_4 mi v1 K n (v2 + 1) (v3 + 1)) else (lp_X8_wantsOf_4 mi v1 K n (v2 + 0) (v3 + 1)) else none)
def f_X8_wantsOf (mi : Mi) (x1 : Int32) : Option (Int32) := lp_X8_wantsOf_4 mi x1 (fun v2_4 v3_4 => some v2_4) FU 0 0
set_option maxRecDepth 20000 in
set_option maxHeartbeats 4000000 in
theorem w_X8_wantsOf_4 {g : Gm} {V : Vw} {E : Ex} {mi : Mi} {ml : Ml} {v1 : Int32} (hM : LayM V) {K : Int32 → Int32 → Option (Int32)} {r : Int32} (hK : ∀ (v2 : Int32) (v3 : Int32), K v2 v3 = some r → At g YX8_wantsOf E (qm g YX8_wantsOf (pI V r mi ml)) V (0, 0) 38 [some (rf g 229), some (.int v1), some (.int v2), some (.int v3)] [] mi ml) : ∀ (n : Nat) (v2 : Int32) (v3 : Int32), lp_X8_wantsOf_4 mi v1 K n v2 v3 = some r → At g YX8_wantsOf E (qm g YX8_wantsOf (pI V r mi ml)) V (0, 0) 4 [some (rf g 229), some (.int v1), some (.int v2), some (.int v3)] [] mi ml := by
  intro n
  induction n with
  | zero => intro v2 v3 h; exact oz h
  | succ n ih =>
    intro v2 v3 h
    unfold lp_X8_wantsOf_4 at h
    refine a_iload iX8_wantsOf_4 rfl <| a_aload iX8_wantsOf_5 rfl <| a_geti iX8_wantsOf_6 (lm_s229 hM) rfl <| ?_
    refine a_icmp_ge iX8_wantsOf_9 (fun hc1 => ?_) (fun hc1 => ?_)
    · have h := ot hc1 h
      exact a_sub (L' := [some (rf g 229), some (.int v1), some (.int v2), some (.int v3)]) (by exact ⟨rfl, ⟨rfl, ⟨rfl, ⟨rfl, trivial⟩⟩⟩⟩) (hK _ _ h)
    · have h := oe hc1 h
      refine a_iload iX8_wantsOf_12 rfl <| a_aload iX8_wantsOf_13 rfl <| a_getr iX8_wantsOf_14 (lm_s229 hM) rfl (lm_r229_26 hM) <| a_const iX8_wantsOf_17 <| a_iload iX8_wantsOf_18 rfl <| a_imul iX8_wantsOf_19 <| ?_
      obtain ⟨hg2, h⟩ := og h
      refine a_iald iX8_wantsOf_20 (lm_s237 hM) (inb_vp hg2) <| a_iload iX8_wantsOf_21 rfl <| ?_
      refine a_icmp_ne iX8_wantsOf_22 (fun hc3 => ?_) (fun hc3 => ?_)
      · have h := oe hc3 h
        refine a_const iX8_wantsOf_29 <| a_iadd iX8_wantsOf_30 <| a_istore iX8_wantsOf_31 (by decide) rfl <| a_iinc iX8_wantsOf_32 rfl (by decide) rfl <| a_goto iX8_wantsOf_35 <| ?_
        exact a_sub (L' := [some (rf g 229), some (.int v1), some (.int (v2 + 0)), some (.int (v3 + 1))]) (by exact ⟨rfl, ⟨rfl, ⟨rfl, ⟨rfl, trivial⟩⟩⟩⟩) (ih _ _ h)
      · have h := ot hc3 h
        refine a_const iX8_wantsOf_25 <| a_goto iX8_wantsOf_26 <| a_iadd iX8_wantsOf_30 <| a_istore iX8_wantsOf_31 (by decide) rfl <| a_iinc iX8_wantsOf_32 rfl (by decide) rfl <| a_goto iX8_wantsOf_35 <| ?_
        exact a_sub (L' := [some (rf g 229), some (.int v1), some (.int (v2 + 1)), some (.int (v3 + 1))]) (by exact ⟨rfl, ⟨rfl, ⟨rfl, ⟨rfl, trivial⟩⟩⟩⟩) (ih _ _ h)
set_option maxRecDepth 20000 in
set_option maxHeartbeats 4000000 in
theorem c_X8_wantsOf {g : Gm} {V : Vw} {mi : Mi} {ml : Ml} {x1 : Int32} (hM : LayM V) {r : Int32} (h : f_X8_wantsOf mi x1 = some r) : DoI g YX8_wantsOf V [rf g 229, .int x1] mi ml r mi ml := by
  unfold f_X8_wantsOf at h
  refine does_of (L := [some (rf g 229), some (.int x1), none, none]) okX8_wantsOf rfl (Nat.le_of_ble_eq_true rfl) rfl ?_
  show At g YX8_wantsOf _ (qm g YX8_wantsOf (pI V r mi ml)) V (0, 0) 0 _ [] mi ml
  refine a_const iX8_wantsOf_0 <| a_istore iX8_wantsOf_1 (by decide) rfl <| a_const iX8_wantsOf_2 <| a_istore iX8_wantsOf_3 (by decide) rfl <| ?_
  refine a_sub (L' := [some (rf g 229), some (.int x1), some (.int 0), some (.int 0)]) (by exact ⟨rfl, ⟨rfl, ⟨rfl, ⟨rfl, trivial⟩⟩⟩⟩) (w_X8_wantsOf_4 hM (fun v2_4 v3_4 h => ?_) FU _ _ h)
  refine a_iload iX8_wantsOf_38 rfl <| ?_
  obtain rfl := Option.some.inj h
  exact a_iret iX8_wantsOf_39 rfl ⟨Nat.le_refl 0, Nat.le_refl 0⟩ ⟨rfl, rfl, rfl, rfl⟩
def f_X8_heir (mi : Mi) (x1 x2 : Int32) : Option (Int32) := (f_X8_isHeir x1).bind (fun r1 => if r1 = 0 then (some (-1000000001)) else (if x2 = 0 then (if inb (2 + x1) 121 then some (mi 238 (2 + x1).toNatClampNeg) else none) else (if x2 = 1 then (if inb (5 + x1) 121 then some (mi 238 (5 + x1).toNatClampNeg) else none) else (if x2 = 2 then ((f_X8_wantsOf mi x1).bind (fun r9 => some r9)) else (if x2 = 3 then ((f_X8_wrongAbout mi x1).bind (fun r12 => some r12)) else (some (-1000000002)))))))
set_option maxRecDepth 20000 in
set_option maxHeartbeats 4000000 in
theorem c_X8_heir {g : Gm} {V : Vw} {mi : Mi} {ml : Ml} {x1 x2 : Int32} (hM : LayM V) {r : Int32} (h : f_X8_heir mi x1 x2 = some r) : DoI g YX8_heir V [rf g 229, .int x1, .int x2] mi ml r mi ml := by
  unfold f_X8_heir at h
  refine does_of (L := [some (rf g 229), some (.int x1), some (.int x2)]) okX8_heir rfl (Nat.le_of_ble_eq_true rfl) rfl ?_
  show At g YX8_heir _ (qm g YX8_heir (pI V r mi ml)) V (0, 0) 0 _ [] mi ml
  refine a_iload iX8_heir_0 rfl <| ?_
  obtain ⟨r1, he2, h⟩ := ob h
  refine a_cSi iX8_heir_1 okX8_isHeir stX8_isHeir ⟨rfl, rfl⟩ (c_X8_isHeir he2) rfl rfl (Nat.le_of_ble_eq_true rfl) ⟨Nat.le_refl 0, Nat.le_refl 0⟩ <| ?_
  refine a_if_ne iX8_heir_4 (fun hc3 => ?_) (fun hc3 => ?_)
  · have h := oe hc3 h
    refine a_iload iX8_heir_10 rfl <| ?_
    by_cases hc4 : x2 = 0
    · have h := ot hc4 h
      refine a_tbv (tgt := 40) iX8_heir_11 hc4 (by decide) ?_
      refine a_aload iX8_heir_40 rfl <| a_getr iX8_heir_41 (lm_s229 hM) rfl (lm_r229_27 hM) <| a_const iX8_heir_44 <| a_iload iX8_heir_45 rfl <| a_iadd iX8_heir_46 <| ?_
      obtain ⟨hg5, h⟩ := og h
      refine a_iald iX8_heir_47 (lm_s238 hM) (inb_vp hg5) <| ?_
      obtain rfl := Option.some.inj h
      exact a_iret iX8_heir_48 rfl ⟨Nat.le_refl 0, Nat.le_refl 0⟩ ⟨rfl, rfl, rfl, rfl⟩
    · have h := oe hc4 h
      by_cases hc6 : x2 = 1
      · have h := ot hc6 h
        refine a_tbv (tgt := 49) iX8_heir_11 hc6 (by decide) ?_
        refine a_aload iX8_heir_49 rfl <| a_getr iX8_heir_50 (lm_s229 hM) rfl (lm_r229_27 hM) <| a_const iX8_heir_53 <| a_iload iX8_heir_54 rfl <| a_iadd iX8_heir_55 <| ?_
        obtain ⟨hg7, h⟩ := og h
        refine a_iald iX8_heir_56 (lm_s238 hM) (inb_vp hg7) <| ?_
        obtain rfl := Option.some.inj h
        exact a_iret iX8_heir_57 rfl ⟨Nat.le_refl 0, Nat.le_refl 0⟩ ⟨rfl, rfl, rfl, rfl⟩
      · have h := oe hc6 h
        by_cases hc8 : x2 = 2
        · have h := ot hc8 h
          refine a_tbv (tgt := 58) iX8_heir_11 hc8 (by decide) ?_
          refine a_aload iX8_heir_58 rfl <| a_iload iX8_heir_59 rfl <| ?_
          obtain ⟨r9, he10, h⟩ := ob h
          refine a_cVi iX8_heir_60 okX8_wantsOf inX8_wantsOf ⟨rfl, rfl⟩ (lm_s229 hM) (c_X8_wantsOf hM he10) rfl rfl (Nat.le_of_ble_eq_true rfl) ⟨Nat.le_refl 0, Nat.le_refl 0⟩ <| ?_
          obtain rfl := Option.some.inj h
          exact a_iret iX8_heir_63 rfl ⟨Nat.le_refl 0, Nat.le_refl 0⟩ ⟨rfl, rfl, rfl, rfl⟩
        · have h := oe hc8 h
          by_cases hc11 : x2 = 3
          · have h := ot hc11 h
            refine a_tbv (tgt := 64) iX8_heir_11 hc11 (by decide) ?_
            refine a_aload iX8_heir_64 rfl <| a_iload iX8_heir_65 rfl <| ?_
            obtain ⟨r12, he13, h⟩ := ob h
            refine a_cVi iX8_heir_66 okX8_wrongAbout inX8_wrongAbout ⟨rfl, rfl⟩ (lm_s229 hM) (c_X8_wrongAbout hM he13) rfl rfl (Nat.le_of_ble_eq_true rfl) ⟨Nat.le_refl 0, Nat.le_refl 0⟩ <| ?_
            obtain rfl := Option.some.inj h
            exact a_iret iX8_heir_69 rfl ⟨Nat.le_refl 0, Nat.le_refl 0⟩ ⟨rfl, rfl, rfl, rfl⟩
          · have h := oe hc11 h
            refine a_tbd (n := 4) iX8_heir_11 (by decide) ⟨⟨⟨⟨trivial, hc4⟩, hc6⟩, hc8⟩, hc11⟩ ?_
            refine a_const iX8_heir_70 <| ?_
            obtain rfl := Option.some.inj h
            exact a_iret iX8_heir_72 rfl ⟨Nat.le_refl 0, Nat.le_refl 0⟩ ⟨rfl, rfl, rfl, rfl⟩
  · have h := ot hc3 h
    refine a_const iX8_heir_7 <| ?_
    obtain rfl := Option.some.inj h
    exact a_iret iX8_heir_9 rfl ⟨Nat.le_refl 0, Nat.le_refl 0⟩ ⟨rfl, rfl, rfl, rfl⟩
def f_X8_thing (mi : Mi) (x1 x2 : Int32) : Option (Int32) := (f_X8_isThing mi x1).bind (fun r1 => if r1 = 0 then (some (-1000000001)) else ((f_X8_in x2 0 1).bind (fun r4 => if r4 = 0 then (some (-1000000002)) else (if x2 = 0 then (if inb x1 8 then some (mi 236 x1.toNatClampNeg) else none) else (if inb (8 + x1) 121 then some (mi 238 (8 + x1).toNatClampNeg) else none)))))
set_option maxRecDepth 20000 in
set_option maxHeartbeats 4000000 in
theorem c_X8_thing {g : Gm} {V : Vw} {mi : Mi} {ml : Ml} {x1 x2 : Int32} (hM : LayM V) {r : Int32} (h : f_X8_thing mi x1 x2 = some r) : DoI g YX8_thing V [rf g 229, .int x1, .int x2] mi ml r mi ml := by
  unfold f_X8_thing at h
  refine does_of (L := [some (rf g 229), some (.int x1), some (.int x2)]) okX8_thing rfl (Nat.le_of_ble_eq_true rfl) rfl ?_
  show At g YX8_thing _ (qm g YX8_thing (pI V r mi ml)) V (0, 0) 0 _ [] mi ml
  refine a_aload iX8_thing_0 rfl <| a_iload iX8_thing_1 rfl <| ?_
  obtain ⟨r1, he2, h⟩ := ob h
  refine a_cVi iX8_thing_2 okX8_isThing inX8_isThing ⟨rfl, rfl⟩ (lm_s229 hM) (c_X8_isThing hM he2) rfl rfl (Nat.le_of_ble_eq_true rfl) ⟨Nat.le_refl 0, Nat.le_refl 0⟩ <| ?_
  refine a_if_ne iX8_thing_5 (fun hc3 => ?_) (fun hc3 => ?_)
  · have h := oe hc3 h
    refine a_iload iX8_thing_13 rfl <| a_const iX8_thing_14 <| a_const iX8_thing_15 <| ?_
    obtain ⟨r4, he5, h⟩ := ob h
    refine a_cSi iX8_thing_16 okX8_in stX8_in ⟨rfl, rfl⟩ (c_X8_in he5) rfl rfl (Nat.le_of_ble_eq_true rfl) ⟨Nat.le_refl 0, Nat.le_refl 0⟩ <| ?_
    refine a_if_ne iX8_thing_19 (fun hc6 => ?_) (fun hc6 => ?_)
    · have h := oe hc6 h
      refine a_iload iX8_thing_27 rfl <| ?_
      refine a_if_ne iX8_thing_28 (fun hc7 => ?_) (fun hc7 => ?_)
      · have h := oe hc7 h
        refine a_aload iX8_thing_40 rfl <| a_getr iX8_thing_41 (lm_s229 hM) rfl (lm_r229_27 hM) <| a_const iX8_thing_44 <| a_iload iX8_thing_46 rfl <| a_iadd iX8_thing_47 <| ?_
        obtain ⟨hg8, h⟩ := og h
        refine a_iald iX8_thing_48 (lm_s238 hM) (inb_vp hg8) <| ?_
        obtain rfl := Option.some.inj h
        exact a_iret iX8_thing_49 rfl ⟨Nat.le_refl 0, Nat.le_refl 0⟩ ⟨rfl, rfl, rfl, rfl⟩
      · have h := ot hc7 h
        refine a_aload iX8_thing_31 rfl <| a_getr iX8_thing_32 (lm_s229 hM) rfl (lm_r229_25 hM) <| a_iload iX8_thing_35 rfl <| ?_
        obtain ⟨hg9, h⟩ := og h
        refine a_iald iX8_thing_36 (lm_s236 hM) (inb_vp hg9) <| a_goto iX8_thing_37 <| ?_
        obtain rfl := Option.some.inj h
        exact a_iret iX8_thing_49 rfl ⟨Nat.le_refl 0, Nat.le_refl 0⟩ ⟨rfl, rfl, rfl, rfl⟩
    · have h := ot hc6 h
      refine a_const iX8_thing_22 <| a_goto iX8_thing_24 <| ?_
      obtain rfl := Option.some.inj h
      exact a_iret iX8_thing_49 rfl ⟨Nat.le_refl 0, Nat.le_refl 0⟩ ⟨rfl, rfl, rfl, rfl⟩
  · have h := ot hc3 h
    refine a_const iX8_thing_8 <| a_goto iX8_thing_10 <| ?_
    obtain rfl := Option.some.inj h
    exact a_iret iX8_thing_49 rfl ⟨Nat.le_refl 0, Nat.le_refl 0⟩ ⟨rfl, rfl, rfl, rfl⟩
def f_X8_want (mi : Mi) (x1 x2 : Int32) : Option (Int32) := (f_X8_in x1 0 ((mi 229 23) - 1)).bind (fun r1 => if r1 = 0 then (some (-1000000001)) else ((f_X8_in x2 0 2).bind (fun r4 => if r4 = 0 then (some (-1000000002)) else (if inb ((3 * x1) + x2) 30 then some (mi 237 ((3 * x1) + x2).toNatClampNeg) else none))))
set_option maxRecDepth 20000 in
set_option maxHeartbeats 4000000 in
theorem c_X8_want {g : Gm} {V : Vw} {mi : Mi} {ml : Ml} {x1 x2 : Int32} (hM : LayM V) {r : Int32} (h : f_X8_want mi x1 x2 = some r) : DoI g YX8_want V [rf g 229, .int x1, .int x2] mi ml r mi ml := by
  unfold f_X8_want at h
  refine does_of (L := [some (rf g 229), some (.int x1), some (.int x2)]) okX8_want rfl (Nat.le_of_ble_eq_true rfl) rfl ?_
  show At g YX8_want _ (qm g YX8_want (pI V r mi ml)) V (0, 0) 0 _ [] mi ml
  refine a_iload iX8_want_0 rfl <| a_const iX8_want_1 <| a_aload iX8_want_2 rfl <| a_geti iX8_want_3 (lm_s229 hM) rfl <| a_const iX8_want_6 <| a_isub iX8_want_7 <| ?_
  obtain ⟨r1, he2, h⟩ := ob h
  refine a_cSi iX8_want_8 okX8_in stX8_in ⟨rfl, rfl⟩ (c_X8_in he2) rfl rfl (Nat.le_of_ble_eq_true rfl) ⟨Nat.le_refl 0, Nat.le_refl 0⟩ <| ?_
  refine a_if_ne iX8_want_11 (fun hc3 => ?_) (fun hc3 => ?_)
  · have h := oe hc3 h
    refine a_iload iX8_want_19 rfl <| a_const iX8_want_20 <| a_const iX8_want_21 <| ?_
    obtain ⟨r4, he5, h⟩ := ob h
    refine a_cSi iX8_want_22 okX8_in stX8_in ⟨rfl, rfl⟩ (c_X8_in he5) rfl rfl (Nat.le_of_ble_eq_true rfl) ⟨Nat.le_refl 0, Nat.le_refl 0⟩ <| ?_
    refine a_if_ne iX8_want_25 (fun hc6 => ?_) (fun hc6 => ?_)
    · have h := oe hc6 h
      refine a_aload iX8_want_33 rfl <| a_getr iX8_want_34 (lm_s229 hM) rfl (lm_r229_26 hM) <| a_const iX8_want_37 <| a_iload iX8_want_38 rfl <| a_imul iX8_want_39 <| a_iload iX8_want_40 rfl <| a_iadd iX8_want_41 <| ?_
      obtain ⟨hg7, h⟩ := og h
      refine a_iald iX8_want_42 (lm_s237 hM) (inb_vp hg7) <| ?_
      obtain rfl := Option.some.inj h
      exact a_iret iX8_want_43 rfl ⟨Nat.le_refl 0, Nat.le_refl 0⟩ ⟨rfl, rfl, rfl, rfl⟩
    · have h := ot hc6 h
      refine a_const iX8_want_28 <| a_goto iX8_want_30 <| ?_
      obtain rfl := Option.some.inj h
      exact a_iret iX8_want_43 rfl ⟨Nat.le_refl 0, Nat.le_refl 0⟩ ⟨rfl, rfl, rfl, rfl⟩
  · have h := ot hc3 h
    refine a_const iX8_want_14 <| a_goto iX8_want_16 <| ?_
    obtain rfl := Option.some.inj h
    exact a_iret iX8_want_43 rfl ⟨Nat.le_refl 0, Nat.le_refl 0⟩ ⟨rfl, rfl, rfl, rfl⟩
def f_X8_known (mi : Mi) (x1 x2 : Int32) : Option (Int32) := (f_X8_isHeir x1).bind (fun r1 => if r1 = 0 then (some (-1000000001)) else ((f_X8_isThing mi x2).bind (fun r4 => if r4 = 0 then (some (-1000000001)) else (if inb ((16 + (8 * x1)) + x2) 121 then some (mi 238 ((16 + (8 * x1)) + x2).toNatClampNeg) else none))))
set_option maxRecDepth 20000 in
set_option maxHeartbeats 4000000 in
theorem c_X8_known {g : Gm} {V : Vw} {mi : Mi} {ml : Ml} {x1 x2 : Int32} (hM : LayM V) {r : Int32} (h : f_X8_known mi x1 x2 = some r) : DoI g YX8_known V [rf g 229, .int x1, .int x2] mi ml r mi ml := by
  unfold f_X8_known at h
  refine does_of (L := [some (rf g 229), some (.int x1), some (.int x2)]) okX8_known rfl (Nat.le_of_ble_eq_true rfl) rfl ?_
  show At g YX8_known _ (qm g YX8_known (pI V r mi ml)) V (0, 0) 0 _ [] mi ml
  refine a_iload iX8_known_0 rfl <| ?_
  obtain ⟨r1, he2, h⟩ := ob h
  refine a_cSi iX8_known_1 okX8_isHeir stX8_isHeir ⟨rfl, rfl⟩ (c_X8_isHeir he2) rfl rfl (Nat.le_of_ble_eq_true rfl) ⟨Nat.le_refl 0, Nat.le_refl 0⟩ <| ?_
  refine a_if_eq iX8_known_4 (fun hc3 => ?_) (fun hc3 => ?_)
  · have h := ot hc3 h
    refine a_const iX8_known_32 <| ?_
    obtain rfl := Option.some.inj h
    exact a_iret iX8_known_34 rfl ⟨Nat.le_refl 0, Nat.le_refl 0⟩ ⟨rfl, rfl, rfl, rfl⟩
  · have h := oe hc3 h
    refine a_aload iX8_known_7 rfl <| a_iload iX8_known_8 rfl <| ?_
    obtain ⟨r4, he5, h⟩ := ob h
    refine a_cVi iX8_known_9 okX8_isThing inX8_isThing ⟨rfl, rfl⟩ (lm_s229 hM) (c_X8_isThing hM he5) rfl rfl (Nat.le_of_ble_eq_true rfl) ⟨Nat.le_refl 0, Nat.le_refl 0⟩ <| ?_
    refine a_if_eq iX8_known_12 (fun hc6 => ?_) (fun hc6 => ?_)
    · have h := ot hc6 h
      refine a_const iX8_known_32 <| ?_
      obtain rfl := Option.some.inj h
      exact a_iret iX8_known_34 rfl ⟨Nat.le_refl 0, Nat.le_refl 0⟩ ⟨rfl, rfl, rfl, rfl⟩
    · have h := oe hc6 h
      refine a_aload iX8_known_15 rfl <| a_getr iX8_known_16 (lm_s229 hM) rfl (lm_r229_27 hM) <| a_const iX8_known_19 <| a_const iX8_known_21 <| a_iload iX8_known_23 rfl <| a_imul iX8_known_24 <| a_iadd iX8_known_25 <| a_iload iX8_known_26 rfl <| ?_
      refine a_iadd iX8_known_27 <| ?_
      obtain ⟨hg7, h⟩ := og h
      refine a_iald iX8_known_28 (lm_s238 hM) (inb_vp hg7) <| a_goto iX8_known_29 <| ?_
      obtain rfl := Option.some.inj h
      exact a_iret iX8_known_34 rfl ⟨Nat.le_refl 0, Nat.le_refl 0⟩ ⟨rfl, rfl, rfl, rfl⟩
