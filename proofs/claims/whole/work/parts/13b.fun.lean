/-! 13b.fun.lean.txt: functions of the code and their rows, laid by program -/
def f_X8_logged (mi : Mi) (x1 x2 : Int32) : Option (Int32) := (f_X8_in x2 0 3).bind (fun r1 => if r1 = 0 then (some (-1000000002)) else (if inb 40 121 then (f_X8_in x1 0 ((mi 238 (40 : Int32).toNatClampNeg) - 1)).bind (fun r5 => if r5 = 0 then (some (-1)) else (if inb ((41 + (4 * x1)) + x2) 121 then some (mi 238 ((41 + (4 * x1)) + x2).toNatClampNeg) else none)) else none))
set_option maxRecDepth 20000 in
set_option maxHeartbeats 4000000 in
theorem c_X8_logged {g : Gm} {V : Vw} {mi : Mi} {ml : Ml} {x1 x2 : Int32} (hM : LayM V) {r : Int32} (h : f_X8_logged mi x1 x2 = some r) : DoI g YX8_logged V [rf g 229, .int x1, .int x2] mi ml r mi ml := by
  unfold f_X8_logged at h
  refine does_of (L := [some (rf g 229), some (.int x1), some (.int x2)]) okX8_logged rfl (Nat.le_of_ble_eq_true rfl) rfl ?_
  show At g YX8_logged _ (qm g YX8_logged (pI V r mi ml)) V (0, 0) 0 _ [] mi ml
  refine a_iload iX8_logged_0 rfl <| a_const iX8_logged_1 <| a_const iX8_logged_2 <| ?_
  obtain ⟨r1, he2, h⟩ := ob h
  refine a_cSi iX8_logged_3 okX8_in stX8_in ⟨rfl, rfl⟩ (c_X8_in he2) rfl rfl (Nat.le_of_ble_eq_true rfl) ⟨Nat.le_refl 0, Nat.le_refl 0⟩ <| ?_
  refine a_if_ne iX8_logged_6 (fun hc3 => ?_) (fun hc3 => ?_)
  · have h := oe hc3 h
    refine a_iload iX8_logged_14 rfl <| a_const iX8_logged_15 <| a_aload iX8_logged_16 rfl <| a_getr iX8_logged_17 (lm_s229 hM) rfl (lm_r229_27 hM) <| a_const iX8_logged_20 <| ?_
    obtain ⟨hg4, h⟩ := og h
    refine a_iald iX8_logged_22 (lm_s238 hM) (inb_vp hg4) <| a_const iX8_logged_23 <| a_isub iX8_logged_24 <| ?_
    obtain ⟨r5, he6, h⟩ := ob h
    refine a_cSi iX8_logged_25 okX8_in stX8_in ⟨rfl, rfl⟩ (c_X8_in he6) rfl rfl (Nat.le_of_ble_eq_true rfl) ⟨Nat.le_refl 0, Nat.le_refl 0⟩ <| ?_
    refine a_if_eq iX8_logged_28 (fun hc7 => ?_) (fun hc7 => ?_)
    · have h := ot hc7 h
      refine a_const iX8_logged_47 <| ?_
      obtain rfl := Option.some.inj h
      exact a_iret iX8_logged_48 rfl ⟨Nat.le_refl 0, Nat.le_refl 0⟩ ⟨rfl, rfl, rfl, rfl⟩
    · have h := oe hc7 h
      refine a_aload iX8_logged_31 rfl <| a_getr iX8_logged_32 (lm_s229 hM) rfl (lm_r229_27 hM) <| a_const iX8_logged_35 <| a_const iX8_logged_37 <| a_iload iX8_logged_38 rfl <| a_imul iX8_logged_39 <| a_iadd iX8_logged_40 <| a_iload iX8_logged_41 rfl <| ?_
      refine a_iadd iX8_logged_42 <| ?_
      obtain ⟨hg8, h⟩ := og h
      refine a_iald iX8_logged_43 (lm_s238 hM) (inb_vp hg8) <| a_goto iX8_logged_44 <| ?_
      obtain rfl := Option.some.inj h
      exact a_iret iX8_logged_48 rfl ⟨Nat.le_refl 0, Nat.le_refl 0⟩ ⟨rfl, rfl, rfl, rfl⟩
  · have h := ot hc3 h
    refine a_const iX8_logged_9 <| a_goto iX8_logged_11 <| ?_
    obtain rfl := Option.some.inj h
    exact a_iret iX8_logged_48 rfl ⟨Nat.le_refl 0, Nat.le_refl 0⟩ ⟨rfl, rfl, rfl, rfl⟩
def lp_X8_remember_2 (K : Int32 → Mi → Option (Mi)) : Nat → Int32 → Mi → Option (Mi)
  | 0, _, _ => none
  | n + 1, v1, mi => if 121 ≤ v1 then (K v1 mi) else (if inb v1 121 then if inb ((121 * (mi 229 29)) + v1) 3630 then lp_X8_remember_2  K n (v1 + 1) (u2 mi 239 ((121 * (mi 229 29)) + v1).toNatClampNeg (mi 238 v1.toNatClampNeg)) else none else none)
def f_X8_remember (mi : Mi) : Option (Mi) := lp_X8_remember_2 (fun v1_4 mi4 => if 30 ≤ ((u2 mi4 229 29 (((mi4 229 29) + 1) - ((mi4 229 29) + 1) / 30 * 30)) 229 28) then (nx (u2 (u2 mi4 229 29 (((mi4 229 29) + 1) - ((mi4 229 29) + 1) / 30 * 30)) 229 28 (((u2 mi4 229 29 (((mi4 229 29) + 1) - ((mi4 229 29) + 1) / 30 * 30)) 229 28) + 0)) (fun mi7 => some mi7)) else (nx (u2 (u2 mi4 229 29 (((mi4 229 29) + 1) - ((mi4 229 29) + 1) / 30 * 30)) 229 28 (((u2 mi4 229 29 (((mi4 229 29) + 1) - ((mi4 229 29) + 1) / 30 * 30)) 229 28) + 1)) (fun mi9 => some mi9))) FU 0 mi
set_option maxRecDepth 20000 in
set_option maxHeartbeats 4000000 in
theorem w_X8_remember_2 {g : Gm} {V : Vw} {E : Ex} {ml : Ml} (hM : LayM V) {K : Int32 → Mi → Option (Mi)} {r : Mi} (hK : ∀ (v1 : Int32) (mi : Mi), K v1 mi = some r → At g YX8_remember E (qm g YX8_remember (pV V r ml)) V (0, 0) 34 [some (rf g 229), some (.int v1)] [] mi ml) : ∀ (n : Nat) (v1 : Int32) (mi : Mi), lp_X8_remember_2  K n v1 mi = some r → At g YX8_remember E (qm g YX8_remember (pV V r ml)) V (0, 0) 2 [some (rf g 229), some (.int v1)] [] mi ml := by
  intro n
  induction n with
  | zero => intro v1 mi h; exact oz h
  | succ n ih =>
    intro v1 mi h
    unfold lp_X8_remember_2 at h
    refine a_iload iX8_remember_2 rfl <| a_const iX8_remember_3 <| ?_
    refine a_icmp_ge iX8_remember_5 (fun hc1 => ?_) (fun hc1 => ?_)
    · have h := ot hc1 h
      exact a_sub (L' := [some (rf g 229), some (.int v1)]) (by exact ⟨rfl, ⟨rfl, trivial⟩⟩) (hK _ _ h)
    · have h := oe hc1 h
      refine a_aload iX8_remember_8 rfl <| a_getr iX8_remember_9 (lm_s229 hM) rfl (lm_r229_30 hM) <| a_const iX8_remember_12 <| a_aload iX8_remember_14 rfl <| a_geti iX8_remember_15 (lm_s229 hM) rfl <| a_imul iX8_remember_18 <| a_iload iX8_remember_19 rfl <| a_iadd iX8_remember_20 <| ?_
      refine a_aload iX8_remember_21 rfl <| a_getr iX8_remember_22 (lm_s229 hM) rfl (lm_r229_27 hM) <| a_iload iX8_remember_25 rfl <| ?_
      obtain ⟨hg2, h⟩ := og h
      refine a_iald iX8_remember_26 (lm_s238 hM) (inb_vp hg2) <| ?_
      obtain ⟨hg3, h⟩ := og h
      refine a_iast iX8_remember_27 (lm_s239 hM) (inb_vp hg3) <| a_iinc iX8_remember_28 rfl (by decide) rfl <| a_goto iX8_remember_31 <| ?_
      exact a_sub (L' := [some (rf g 229), some (.int (v1 + 1))]) (by exact ⟨rfl, ⟨rfl, trivial⟩⟩) (ih _ _ h)
set_option maxRecDepth 20000 in
set_option maxHeartbeats 4000000 in
theorem c_X8_remember {g : Gm} {V : Vw} {mi : Mi} {ml : Ml} (hM : LayM V) {r : Mi} (h : f_X8_remember mi = some r) : DoV g YX8_remember V [rf g 229] mi ml r ml := by
  unfold f_X8_remember at h
  refine does_of (L := [some (rf g 229), none]) okX8_remember rfl (Nat.le_of_ble_eq_true rfl) rfl ?_
  show At g YX8_remember _ (qm g YX8_remember (pV V r ml)) V (0, 0) 0 _ [] mi ml
  refine a_const iX8_remember_0 <| a_istore iX8_remember_1 (by decide) rfl <| ?_
  refine a_sub (L' := [some (rf g 229), some (.int 0)]) (by exact ⟨rfl, ⟨rfl, trivial⟩⟩) (w_X8_remember_2 hM (fun v1_4 mi4 h => ?_) FU _ _ h)
  refine a_aload iX8_remember_34 rfl <| a_aload iX8_remember_35 rfl <| a_geti iX8_remember_36 (lm_s229 hM) rfl <| a_const iX8_remember_39 <| a_iadd iX8_remember_40 <| a_const iX8_remember_41 <| a_irem iX8_remember_43 (by decide) <| a_puti iX8_remember_44 (lm_s229 hM) rfl rfl rfl <| ?_
  refine a_aload iX8_remember_47 rfl <| a_dup iX8_remember_48 rfl <| a_geti iX8_remember_49 (lm_s229 hM) rfl <| a_aload iX8_remember_52 rfl <| a_geti iX8_remember_53 (lm_s229 hM) rfl <| a_const iX8_remember_56 <| ?_
  refine a_icmp_ge iX8_remember_58 (fun hc5 => ?_) (fun hc5 => ?_)
  · have h := ot hc5 h
    refine a_const iX8_remember_65 <| a_iadd iX8_remember_66 <| a_puti iX8_remember_67 (lm_s229 hM) rfl rfl rfl <| ?_
    obtain ⟨mi7, hm6, h⟩ := onx h
    refine a_mem hm6 <| ?_
    obtain rfl := Option.some.inj h
    exact a_vret iX8_remember_70 rfl ⟨Nat.le_refl 0, Nat.le_refl 0⟩ ⟨rfl, rfl, rfl, rfl⟩
  · have h := oe hc5 h
    refine a_const iX8_remember_61 <| a_goto iX8_remember_62 <| a_iadd iX8_remember_66 <| a_puti iX8_remember_67 (lm_s229 hM) rfl rfl rfl <| ?_
    obtain ⟨mi9, hm8, h⟩ := onx h
    refine a_mem hm8 <| ?_
    obtain rfl := Option.some.inj h
    exact a_vret iX8_remember_70 rfl ⟨Nat.le_refl 0, Nat.le_refl 0⟩ ⟨rfl, rfl, rfl, rfl⟩
def f_X8_needHours (mi : Mi) (x1 : Int32) : Option (Int32) := (f_X8_in x1 1 30).bind (fun r1 => if r1 = 0 then (some (-1000000002)) else ((f_X8_isCounty mi).bind (fun r4 => if r4 = 0 then (some (-1000000003)) else (if inb 0 121 then if (mi 238 (0 : Int32).toNatClampNeg) ≤ (90000) then (some 0) else (some (-1000000004)) else none))))
set_option maxRecDepth 20000 in
set_option maxHeartbeats 4000000 in
theorem c_X8_needHours {g : Gm} {V : Vw} {mi : Mi} {ml : Ml} {x1 : Int32} (hM : LayM V) {r : Int32} (h : f_X8_needHours mi x1 = some r) : DoI g YX8_needHours V [rf g 229, .int x1] mi ml r mi ml := by
  unfold f_X8_needHours at h
  refine does_of (L := [some (rf g 229), some (.int x1)]) okX8_needHours rfl (Nat.le_of_ble_eq_true rfl) rfl ?_
  show At g YX8_needHours _ (qm g YX8_needHours (pI V r mi ml)) V (0, 0) 0 _ [] mi ml
  refine a_iload iX8_needHours_0 rfl <| a_const iX8_needHours_1 <| a_const iX8_needHours_2 <| ?_
  obtain ⟨r1, he2, h⟩ := ob h
  refine a_cSi iX8_needHours_4 okX8_in stX8_in ⟨rfl, rfl⟩ (c_X8_in he2) rfl rfl (Nat.le_of_ble_eq_true rfl) ⟨Nat.le_refl 0, Nat.le_refl 0⟩ <| ?_
  refine a_if_ne iX8_needHours_7 (fun hc3 => ?_) (fun hc3 => ?_)
  · have h := oe hc3 h
    refine a_aload iX8_needHours_15 rfl <| ?_
    obtain ⟨r4, he5, h⟩ := ob h
    refine a_cVi iX8_needHours_16 okX8_isCounty inX8_isCounty ⟨rfl, rfl⟩ (lm_s229 hM) (c_X8_isCounty hM he5) rfl rfl (Nat.le_of_ble_eq_true rfl) ⟨Nat.le_refl 0, Nat.le_refl 0⟩ <| ?_
    refine a_if_ne iX8_needHours_19 (fun hc6 => ?_) (fun hc6 => ?_)
    · have h := oe hc6 h
      refine a_aload iX8_needHours_27 rfl <| a_getr iX8_needHours_28 (lm_s229 hM) rfl (lm_r229_27 hM) <| a_const iX8_needHours_31 <| ?_
      obtain ⟨hg7, h⟩ := og h
      refine a_iald iX8_needHours_32 (lm_s238 hM) (inb_vp hg7) <| a_const iX8_needHours_33 <| ?_
      refine a_icmp_le iX8_needHours_35 (fun hc8 => ?_) (fun hc8 => ?_)
      · have h := ot hc8 h
        refine a_const iX8_needHours_43 <| ?_
        obtain rfl := Option.some.inj h
        exact a_iret iX8_needHours_44 rfl ⟨Nat.le_refl 0, Nat.le_refl 0⟩ ⟨rfl, rfl, rfl, rfl⟩
      · have h := oe hc8 h
        refine a_const iX8_needHours_38 <| a_goto iX8_needHours_40 <| ?_
        obtain rfl := Option.some.inj h
        exact a_iret iX8_needHours_44 rfl ⟨Nat.le_refl 0, Nat.le_refl 0⟩ ⟨rfl, rfl, rfl, rfl⟩
    · have h := ot hc6 h
      refine a_const iX8_needHours_22 <| a_goto iX8_needHours_24 <| ?_
      obtain rfl := Option.some.inj h
      exact a_iret iX8_needHours_44 rfl ⟨Nat.le_refl 0, Nat.le_refl 0⟩ ⟨rfl, rfl, rfl, rfl⟩
  · have h := ot hc3 h
    refine a_const iX8_needHours_10 <| a_goto iX8_needHours_12 <| ?_
    obtain rfl := Option.some.inj h
    exact a_iret iX8_needHours_44 rfl ⟨Nat.le_refl 0, Nat.le_refl 0⟩ ⟨rfl, rfl, rfl, rfl⟩
def lp_X8_hour_14 (v1 : Int32) (v2 : Int32) (K : Int32 → Mi → Option (Int32 × Mi)) : Nat → Int32 → Mi → Option (Int32 × Mi)
  | 0, _, _ => none
  | n + 1, v3, mi => if v1 ≤ v3 then (K v3 mi) else ((f_X8_remember mi).bind (fun mi5 => (f_X8_passes mi5 238).bind (fun mi7 => lp_X8_hour_14 v1 v2 K n (v3 + 1) mi7)))
def f_X8_hour (mi : Mi) (x1 : Int32) : Option (Int32 × Mi) := (f_X8_needHours mi x1).bind (fun r1 => if 0 ≤ r1 then (lp_X8_hour_14 x1 r1 (fun v3_9 mi9 => if inb 0 121 then some (mi9 238 (0 : Int32).toNatClampNeg, mi9) else none) FU 0 mi) else (some (r1, mi)))
set_option maxRecDepth 20000 in
set_option maxHeartbeats 4000000 in
theorem w_X8_hour_14 {g : Gm} {V : Vw} {E : Ex} {ml : Ml} {v1 v2 : Int32} (hM : LayM V) {K : Int32 → Mi → Option (Int32 × Mi)} {r : Int32 × Mi} (hK : ∀ (v3 : Int32) (mi : Mi), K v3 mi = some r → At g YX8_hour E (qm g YX8_hour (pI V (r.1) (r.2) ml)) V (0, 0) 37 [some (rf g 229), some (.int v1), some (.int v2), some (.int v3)] [] mi ml) : ∀ (n : Nat) (v3 : Int32) (mi : Mi), lp_X8_hour_14 v1 v2 K n v3 mi = some r → At g YX8_hour E (qm g YX8_hour (pI V (r.1) (r.2) ml)) V (0, 0) 14 [some (rf g 229), some (.int v1), some (.int v2), some (.int v3)] [] mi ml := by
  intro n
  induction n with
  | zero => intro v3 mi h; exact oz h
  | succ n ih =>
    intro v3 mi h
    unfold lp_X8_hour_14 at h
    refine a_iload iX8_hour_14 rfl <| a_iload iX8_hour_15 rfl <| ?_
    refine a_icmp_ge iX8_hour_16 (fun hc4 => ?_) (fun hc4 => ?_)
    · have h := ot hc4 h
      exact a_sub (L' := [some (rf g 229), some (.int v1), some (.int v2), some (.int v3)]) (by exact ⟨rfl, ⟨rfl, ⟨rfl, ⟨rfl, trivial⟩⟩⟩⟩) (hK _ _ h)
    · have h := oe hc4 h
      refine a_aload iX8_hour_19 rfl <| ?_
      obtain ⟨mi5, he6, h⟩ := ob h
      refine a_cVv iX8_hour_20 okX8_remember inX8_remember ⟨rfl, rfl⟩ (lm_s229 hM) (c_X8_remember hM he6) rfl rfl (Nat.le_of_ble_eq_true rfl) ⟨Nat.le_refl 0, Nat.le_refl 0⟩ <| a_aload iX8_hour_23 rfl <| a_aload iX8_hour_24 rfl <| a_getr iX8_hour_25 (lm_s229 hM) rfl (lm_r229_27 hM) <| ?_
      obtain ⟨mi7, he8, h⟩ := ob h
      refine a_cVv iX8_hour_28 okX8_passes inX8_passes ⟨rfl, rfl⟩ (lm_s229 hM) (c_X8_passes hM (lm_s238 hM) he8) rfl rfl (Nat.le_of_ble_eq_true rfl) ⟨Nat.le_refl 0, Nat.le_refl 0⟩ <| a_iinc iX8_hour_31 rfl (by decide) rfl <| a_goto iX8_hour_34 <| ?_
      exact a_sub (L' := [some (rf g 229), some (.int v1), some (.int v2), some (.int (v3 + 1))]) (by exact ⟨rfl, ⟨rfl, ⟨rfl, ⟨rfl, trivial⟩⟩⟩⟩) (ih _ _ h)
set_option maxRecDepth 20000 in
set_option maxHeartbeats 4000000 in
theorem c_X8_hour {g : Gm} {V : Vw} {mi : Mi} {ml : Ml} {x1 : Int32} (hM : LayM V) {r : Int32 × Mi} (h : f_X8_hour mi x1 = some r) : DoI g YX8_hour V [rf g 229, .int x1] mi ml (r.1) (r.2) ml := by
  unfold f_X8_hour at h
  refine does_of (L := [some (rf g 229), some (.int x1), none, none]) okX8_hour rfl (Nat.le_of_ble_eq_true rfl) rfl ?_
  show At g YX8_hour _ (qm g YX8_hour (pI V (r.1) (r.2) ml)) V (0, 0) 0 _ [] mi ml
  refine a_aload iX8_hour_0 rfl <| a_iload iX8_hour_1 rfl <| ?_
  obtain ⟨r1, he2, h⟩ := ob h
  refine a_cVi iX8_hour_2 okX8_needHours inX8_needHours ⟨rfl, rfl⟩ (lm_s229 hM) (c_X8_needHours hM he2) rfl rfl (Nat.le_of_ble_eq_true rfl) ⟨Nat.le_refl 0, Nat.le_refl 0⟩ <| a_istore iX8_hour_5 (by decide) rfl <| a_iload iX8_hour_6 rfl <| ?_
  refine a_if_ge iX8_hour_7 (fun hc3 => ?_) (fun hc3 => ?_)
  · have h := ot hc3 h
    refine a_const iX8_hour_12 <| a_istore iX8_hour_13 (by decide) rfl <| ?_
    refine a_sub (L' := [some (rf g 229), some (.int x1), some (.int r1), some (.int 0)]) (by exact ⟨rfl, ⟨rfl, ⟨rfl, ⟨rfl, trivial⟩⟩⟩⟩) (w_X8_hour_14 hM (fun v3_9 mi9 h => ?_) FU _ _ h)
    refine a_aload iX8_hour_37 rfl <| a_getr iX8_hour_38 (lm_s229 hM) rfl (lm_r229_27 hM) <| a_const iX8_hour_41 <| ?_
    obtain ⟨hg10, h⟩ := og h
    refine a_iald iX8_hour_42 (lm_s238 hM) (inb_vp hg10) <| ?_
    obtain rfl := Option.some.inj h
    exact a_iret iX8_hour_43 rfl ⟨Nat.le_refl 0, Nat.le_refl 0⟩ ⟨rfl, rfl, rfl, rfl⟩
  · have h := oe hc3 h
    refine a_iload iX8_hour_10 rfl <| ?_
    obtain rfl := Option.some.inj h
    exact a_iret iX8_hour_11 rfl ⟨Nat.le_refl 0, Nat.le_refl 0⟩ ⟨rfl, rfl, rfl, rfl⟩
def lp_X8_sets_3 (v1 : Int32) (v2 : Int32) (K : Int32 → Mi → Option (Mi)) : Nat → Int32 → Mi → Option (Mi)
  | 0, _, _ => none
  | n + 1, v3, mi => if v3 < 4 then (K v3 mi) else (if inb ((41 + v3) - 4) 121 then if inb (41 + v3) 121 then lp_X8_sets_3 v1 v2 K n (v3 + (-1)) (u2 mi 238 (41 + v3).toNatClampNeg (mi 238 ((41 + v3) - 4).toNatClampNeg)) else none else none)
def f_X8_sets (mi : Mi) (x1 x2 : Int32) : Option (Mi) := lp_X8_sets_3 x1 x2 (fun v3_4 mi4 => if inb 0 121 then if inb 41 121 then (f_X8_heirOf (u2 mi4 238 (41 : Int32).toNatClampNeg (mi4 238 (0 : Int32).toNatClampNeg)) 238).bind (fun r7 => if inb 42 121 then nx (u2 (u2 mi4 238 (41 : Int32).toNatClampNeg (mi4 238 (0 : Int32).toNatClampNeg)) 238 (42 : Int32).toNatClampNeg r7) (fun mi11 => if inb 43 121 then if inb 44 121 then if inb 40 121 then if inb 40 121 then if 20 ≤ ((u2 (u2 mi11 238 (43 : Int32).toNatClampNeg x1) 238 (44 : Int32).toNatClampNeg x2) 238 (40 : Int32).toNatClampNeg) then (if inb 40 121 then nx (u2 (u2 (u2 mi11 238 (43 : Int32).toNatClampNeg x1) 238 (44 : Int32).toNatClampNeg x2) 238 (40 : Int32).toNatClampNeg (((u2 (u2 mi11 238 (43 : Int32).toNatClampNeg x1) 238 (44 : Int32).toNatClampNeg x2) 238 (40 : Int32).toNatClampNeg) + 0)) (fun mi19 => if inb (8 + x1) 121 then some (u2 mi19 238 (8 + x1).toNatClampNeg x2) else none) else none) else (if inb 40 121 then nx (u2 (u2 (u2 mi11 238 (43 : Int32).toNatClampNeg x1) 238 (44 : Int32).toNatClampNeg x2) 238 (40 : Int32).toNatClampNeg (((u2 (u2 mi11 238 (43 : Int32).toNatClampNeg x1) 238 (44 : Int32).toNatClampNeg x2) 238 (40 : Int32).toNatClampNeg) + 1)) (fun mi23 => if inb (8 + x1) 121 then some (u2 mi23 238 (8 + x1).toNatClampNeg x2) else none) else none) else none else none else none else none) else none) else none else none) FU 79 mi
set_option maxRecDepth 20000 in
set_option maxHeartbeats 4000000 in
theorem w_X8_sets_3 {g : Gm} {V : Vw} {E : Ex} {ml : Ml} {v1 v2 : Int32} (hM : LayM V) {K : Int32 → Mi → Option (Mi)} {r : Mi} (hK : ∀ (v3 : Int32) (mi : Mi), K v3 mi = some r → At g YX8_sets E (qm g YX8_sets (pV V r ml)) V (0, 0) 34 [some (rf g 229), some (.int v1), some (.int v2), some (.int v3)] [] mi ml) : ∀ (n : Nat) (v3 : Int32) (mi : Mi), lp_X8_sets_3 v1 v2 K n v3 mi = some r → At g YX8_sets E (qm g YX8_sets (pV V r ml)) V (0, 0) 3 [some (rf g 229), some (.int v1), some (.int v2), some (.int v3)] [] mi ml := by
  intro n
  induction n with
  | zero => intro v3 mi h; exact oz h
  | succ n ih =>
    intro v3 mi h
    unfold lp_X8_sets_3 at h
    refine a_iload iX8_sets_3 rfl <| a_const iX8_sets_4 <| ?_
    refine a_icmp_lt iX8_sets_5 (fun hc1 => ?_) (fun hc1 => ?_)
    · have h := ot hc1 h
      exact a_sub (L' := [some (rf g 229), some (.int v1), some (.int v2), some (.int v3)]) (by exact ⟨rfl, ⟨rfl, ⟨rfl, ⟨rfl, trivial⟩⟩⟩⟩) (hK _ _ h)
    · have h := oe hc1 h
      refine a_aload iX8_sets_8 rfl <| a_getr iX8_sets_9 (lm_s229 hM) rfl (lm_r229_27 hM) <| a_const iX8_sets_12 <| a_iload iX8_sets_14 rfl <| a_iadd iX8_sets_15 <| a_aload iX8_sets_16 rfl <| a_getr iX8_sets_17 (lm_s229 hM) rfl (lm_r229_27 hM) <| a_const iX8_sets_20 <| ?_
      refine a_iload iX8_sets_22 rfl <| a_iadd iX8_sets_23 <| a_const iX8_sets_24 <| a_isub iX8_sets_25 <| ?_
      obtain ⟨hg2, h⟩ := og h
      refine a_iald iX8_sets_26 (lm_s238 hM) (inb_vp hg2) <| ?_
      obtain ⟨hg3, h⟩ := og h
      refine a_iast iX8_sets_27 (lm_s238 hM) (inb_vp hg3) <| a_iinc iX8_sets_28 rfl (by decide) rfl <| a_goto iX8_sets_31 <| ?_
      exact a_sub (L' := [some (rf g 229), some (.int v1), some (.int v2), some (.int (v3 + (-1)))]) (by exact ⟨rfl, ⟨rfl, ⟨rfl, ⟨rfl, trivial⟩⟩⟩⟩) (ih _ _ h)
set_option maxRecDepth 20000 in
set_option maxHeartbeats 4000000 in
theorem c_X8_sets {g : Gm} {V : Vw} {mi : Mi} {ml : Ml} {x1 x2 : Int32} (hM : LayM V) {r : Mi} (h : f_X8_sets mi x1 x2 = some r) : DoV g YX8_sets V [rf g 229, .int x1, .int x2] mi ml r ml := by
  unfold f_X8_sets at h
  refine does_of (L := [some (rf g 229), some (.int x1), some (.int x2), none]) okX8_sets rfl (Nat.le_of_ble_eq_true rfl) rfl ?_
  show At g YX8_sets _ (qm g YX8_sets (pV V r ml)) V (0, 0) 0 _ [] mi ml
  refine a_const iX8_sets_0 <| a_istore iX8_sets_2 (by decide) rfl <| ?_
  refine a_sub (L' := [some (rf g 229), some (.int x1), some (.int x2), some (.int 79)]) (by exact ⟨rfl, ⟨rfl, ⟨rfl, ⟨rfl, trivial⟩⟩⟩⟩) (w_X8_sets_3 hM (fun v3_4 mi4 h => ?_) FU _ _ h)
  refine a_aload iX8_sets_34 rfl <| a_getr iX8_sets_35 (lm_s229 hM) rfl (lm_r229_27 hM) <| a_const iX8_sets_38 <| a_aload iX8_sets_40 rfl <| a_getr iX8_sets_41 (lm_s229 hM) rfl (lm_r229_27 hM) <| a_const iX8_sets_44 <| ?_
  obtain ⟨hg5, h⟩ := og h
  refine a_iald iX8_sets_45 (lm_s238 hM) (inb_vp hg5) <| ?_
  obtain ⟨hg6, h⟩ := og h
  refine a_iast iX8_sets_46 (lm_s238 hM) (inb_vp hg6) <| a_aload iX8_sets_47 rfl <| a_getr iX8_sets_48 (lm_s229 hM) rfl (lm_r229_27 hM) <| a_const iX8_sets_51 <| a_aload iX8_sets_53 rfl <| a_aload iX8_sets_54 rfl <| a_getr iX8_sets_55 (lm_s229 hM) rfl (lm_r229_27 hM) <| ?_
  obtain ⟨r7, he8, h⟩ := ob h
  refine a_cVi iX8_sets_58 okX8_heirOf inX8_heirOf ⟨rfl, rfl⟩ (lm_s229 hM) (c_X8_heirOf hM (lm_s238 hM) he8) rfl rfl (Nat.le_of_ble_eq_true rfl) ⟨Nat.le_refl 0, Nat.le_refl 0⟩ <| ?_
  obtain ⟨hg9, h⟩ := og h
  refine a_iast iX8_sets_61 (lm_s238 hM) (inb_vp hg9) <| ?_
  obtain ⟨mi11, hm10, h⟩ := onx h
  refine a_mem hm10 <| a_aload iX8_sets_62 rfl <| a_getr iX8_sets_63 (lm_s229 hM) rfl (lm_r229_27 hM) <| a_const iX8_sets_66 <| a_iload iX8_sets_68 rfl <| ?_
  obtain ⟨hg12, h⟩ := og h
  refine a_iast iX8_sets_69 (lm_s238 hM) (inb_vp hg12) <| a_aload iX8_sets_70 rfl <| a_getr iX8_sets_71 (lm_s229 hM) rfl (lm_r229_27 hM) <| a_const iX8_sets_74 <| a_iload iX8_sets_76 rfl <| ?_
  obtain ⟨hg13, h⟩ := og h
  refine a_iast iX8_sets_77 (lm_s238 hM) (inb_vp hg13) <| a_aload iX8_sets_78 rfl <| a_getr iX8_sets_79 (lm_s229 hM) rfl (lm_r229_27 hM) <| a_const iX8_sets_82 <| a_dup2 iX8_sets_84 rfl rfl <| ?_
  obtain ⟨hg14, h⟩ := og h
  refine a_iald iX8_sets_85 (lm_s238 hM) (inb_vp hg14) <| a_aload iX8_sets_86 rfl <| a_getr iX8_sets_87 (lm_s229 hM) rfl (lm_r229_27 hM) <| a_const iX8_sets_90 <| ?_
  obtain ⟨hg15, h⟩ := og h
  refine a_iald iX8_sets_92 (lm_s238 hM) (inb_vp hg15) <| a_const iX8_sets_93 <| ?_
  refine a_icmp_ge iX8_sets_95 (fun hc16 => ?_) (fun hc16 => ?_)
  · have h := ot hc16 h
    refine a_const iX8_sets_102 <| a_iadd iX8_sets_103 <| ?_
    obtain ⟨hg17, h⟩ := og h
    refine a_iast iX8_sets_104 (lm_s238 hM) (inb_vp hg17) <| ?_
    obtain ⟨mi19, hm18, h⟩ := onx h
    refine a_mem hm18 <| a_aload iX8_sets_105 rfl <| a_getr iX8_sets_106 (lm_s229 hM) rfl (lm_r229_27 hM) <| a_const iX8_sets_109 <| a_iload iX8_sets_111 rfl <| a_iadd iX8_sets_112 <| a_iload iX8_sets_113 rfl <| ?_
    obtain ⟨hg20, h⟩ := og h
    refine a_iast iX8_sets_114 (lm_s238 hM) (inb_vp hg20) <| ?_
    obtain rfl := Option.some.inj h
    exact a_vret iX8_sets_115 rfl ⟨Nat.le_refl 0, Nat.le_refl 0⟩ ⟨rfl, rfl, rfl, rfl⟩
  · have h := oe hc16 h
    refine a_const iX8_sets_98 <| a_goto iX8_sets_99 <| a_iadd iX8_sets_103 <| ?_
    obtain ⟨hg21, h⟩ := og h
    refine a_iast iX8_sets_104 (lm_s238 hM) (inb_vp hg21) <| ?_
    obtain ⟨mi23, hm22, h⟩ := onx h
    refine a_mem hm22 <| a_aload iX8_sets_105 rfl <| a_getr iX8_sets_106 (lm_s229 hM) rfl (lm_r229_27 hM) <| a_const iX8_sets_109 <| a_iload iX8_sets_111 rfl <| a_iadd iX8_sets_112 <| a_iload iX8_sets_113 rfl <| ?_
    obtain ⟨hg24, h⟩ := og h
    refine a_iast iX8_sets_114 (lm_s238 hM) (inb_vp hg24) <| ?_
    obtain rfl := Option.some.inj h
    exact a_vret iX8_sets_115 rfl ⟨Nat.le_refl 0, Nat.le_refl 0⟩ ⟨rfl, rfl, rfl, rfl⟩
def f_X8_isValue (x0 : Int32) : Option (Int32) := (f_X8_in x0 0 9).bind (fun r1 => if r1 = 0 ∨ r1 = 1 then some r1 else none)
set_option maxRecDepth 20000 in
set_option maxHeartbeats 4000000 in
theorem c_X8_isValue {g : Gm} {V : Vw} {mi : Mi} {ml : Ml} {x0 : Int32}  {r : Int32} (h : f_X8_isValue x0 = some r) : DoI g YX8_isValue V [.int x0] mi ml r mi ml := by
  unfold f_X8_isValue at h
  refine does_of (L := [some (.int x0)]) okX8_isValue rfl (Nat.le_of_ble_eq_true rfl) rfl ?_
  show At g YX8_isValue _ (qm g YX8_isValue (pI V r mi ml)) V (0, 0) 0 _ [] mi ml
  refine a_iload iX8_isValue_0 rfl <| a_const iX8_isValue_1 <| a_const iX8_isValue_2 <| ?_
  obtain ⟨r1, he2, h⟩ := ob h
  refine a_cSi iX8_isValue_4 okX8_in stX8_in ⟨rfl, rfl⟩ (c_X8_in he2) rfl rfl (Nat.le_of_ble_eq_true rfl) ⟨Nat.le_refl 0, Nat.le_refl 0⟩ <| ?_
  obtain ⟨hz3, h⟩ := og h
  obtain rfl := Option.some.inj h
  exact a_zret iX8_isValue_7 rfl (nb01 hz3) ⟨Nat.le_refl 0, Nat.le_refl 0⟩ ⟨rfl, rfl, rfl, rfl⟩
def f_X8_put (mi : Mi) (x1 x2 : Int32) : Option (Int32 × Mi) := (f_X8_isThing mi x1).bind (fun r1 => if r1 = 0 then (some ((-1000000001), mi)) else ((f_X8_isValue x2).bind (fun r4 => if r4 = 0 then (some ((-1000000002), mi)) else ((f_X8_remember mi).bind (fun mi7 => (f_X8_sets mi7 x1 x2).bind (fun mi9 => (f_X8_heirOf mi9 238).bind (fun r11 => some (r11, mi9))))))))
set_option maxRecDepth 20000 in
set_option maxHeartbeats 4000000 in
theorem c_X8_put {g : Gm} {V : Vw} {mi : Mi} {ml : Ml} {x1 x2 : Int32} (hM : LayM V) {r : Int32 × Mi} (h : f_X8_put mi x1 x2 = some r) : DoI g YX8_put V [rf g 229, .int x1, .int x2] mi ml (r.1) (r.2) ml := by
  unfold f_X8_put at h
  refine does_of (L := [some (rf g 229), some (.int x1), some (.int x2)]) okX8_put rfl (Nat.le_of_ble_eq_true rfl) rfl ?_
  show At g YX8_put _ (qm g YX8_put (pI V (r.1) (r.2) ml)) V (0, 0) 0 _ [] mi ml
  refine a_aload iX8_put_0 rfl <| a_iload iX8_put_1 rfl <| ?_
  obtain ⟨r1, he2, h⟩ := ob h
  refine a_cVi iX8_put_2 okX8_isThing inX8_isThing ⟨rfl, rfl⟩ (lm_s229 hM) (c_X8_isThing hM he2) rfl rfl (Nat.le_of_ble_eq_true rfl) ⟨Nat.le_refl 0, Nat.le_refl 0⟩ <| ?_
  refine a_if_ne iX8_put_5 (fun hc3 => ?_) (fun hc3 => ?_)
  · have h := oe hc3 h
    refine a_iload iX8_put_11 rfl <| ?_
    obtain ⟨r4, he5, h⟩ := ob h
    refine a_cSi iX8_put_12 okX8_isValue stX8_isValue ⟨rfl, rfl⟩ (c_X8_isValue he5) rfl rfl (Nat.le_of_ble_eq_true rfl) ⟨Nat.le_refl 0, Nat.le_refl 0⟩ <| ?_
    refine a_if_ne iX8_put_15 (fun hc6 => ?_) (fun hc6 => ?_)
    · have h := oe hc6 h
      refine a_aload iX8_put_21 rfl <| ?_
      obtain ⟨mi7, he8, h⟩ := ob h
      refine a_cVv iX8_put_22 okX8_remember inX8_remember ⟨rfl, rfl⟩ (lm_s229 hM) (c_X8_remember hM he8) rfl rfl (Nat.le_of_ble_eq_true rfl) ⟨Nat.le_refl 0, Nat.le_refl 0⟩ <| a_aload iX8_put_25 rfl <| a_iload iX8_put_26 rfl <| a_iload iX8_put_27 rfl <| ?_
      obtain ⟨mi9, he10, h⟩ := ob h
      refine a_cVv iX8_put_28 okX8_sets inX8_sets ⟨rfl, rfl⟩ (lm_s229 hM) (c_X8_sets hM he10) rfl rfl (Nat.le_of_ble_eq_true rfl) ⟨Nat.le_refl 0, Nat.le_refl 0⟩ <| a_aload iX8_put_31 rfl <| a_aload iX8_put_32 rfl <| a_getr iX8_put_33 (lm_s229 hM) rfl (lm_r229_27 hM) <| ?_
      obtain ⟨r11, he12, h⟩ := ob h
      refine a_cVi iX8_put_36 okX8_heirOf inX8_heirOf ⟨rfl, rfl⟩ (lm_s229 hM) (c_X8_heirOf hM (lm_s238 hM) he12) rfl rfl (Nat.le_of_ble_eq_true rfl) ⟨Nat.le_refl 0, Nat.le_refl 0⟩ <| ?_
      obtain rfl := Option.some.inj h
      exact a_iret iX8_put_39 rfl ⟨Nat.le_refl 0, Nat.le_refl 0⟩ ⟨rfl, rfl, rfl, rfl⟩
    · have h := ot hc6 h
      refine a_const iX8_put_18 <| ?_
      obtain rfl := Option.some.inj h
      exact a_iret iX8_put_20 rfl ⟨Nat.le_refl 0, Nat.le_refl 0⟩ ⟨rfl, rfl, rfl, rfl⟩
  · have h := ot hc3 h
    refine a_const iX8_put_8 <| ?_
    obtain rfl := Option.some.inj h
    exact a_iret iX8_put_10 rfl ⟨Nat.le_refl 0, Nat.le_refl 0⟩ ⟨rfl, rfl, rfl, rfl⟩
def f_X8_note (mi : Mi) (x1 x2 : Int32) : Option (Int32 × Mi) := (f_X8_isHeir x1).bind (fun r1 => if r1 = 0 then (some ((-1000000001), mi)) else ((f_X8_isThing mi x2).bind (fun r4 => if r4 = 0 then (some ((-1000000001), mi)) else ((f_X8_heirOf mi 238).bind (fun r7 => if x1 = r7 then (some ((-1000000003), mi)) else ((f_X8_remember mi).bind (fun mi10 => if inb (8 + x2) 121 then if inb ((16 + (8 * x1)) + x2) 121 then if inb (8 + x2) 121 then some ((u2 mi10 238 ((16 + (8 * x1)) + x2).toNatClampNeg (mi10 238 (8 + x2).toNatClampNeg)) 238 (8 + x2).toNatClampNeg, u2 mi10 238 ((16 + (8 * x1)) + x2).toNatClampNeg (mi10 238 (8 + x2).toNatClampNeg)) else none else none else none)))))))
set_option maxRecDepth 20000 in
set_option maxHeartbeats 4000000 in
theorem c_X8_note {g : Gm} {V : Vw} {mi : Mi} {ml : Ml} {x1 x2 : Int32} (hM : LayM V) {r : Int32 × Mi} (h : f_X8_note mi x1 x2 = some r) : DoI g YX8_note V [rf g 229, .int x1, .int x2] mi ml (r.1) (r.2) ml := by
  unfold f_X8_note at h
  refine does_of (L := [some (rf g 229), some (.int x1), some (.int x2)]) okX8_note rfl (Nat.le_of_ble_eq_true rfl) rfl ?_
  show At g YX8_note _ (qm g YX8_note (pI V (r.1) (r.2) ml)) V (0, 0) 0 _ [] mi ml
  refine a_iload iX8_note_0 rfl <| ?_
  obtain ⟨r1, he2, h⟩ := ob h
  refine a_cSi iX8_note_1 okX8_isHeir stX8_isHeir ⟨rfl, rfl⟩ (c_X8_isHeir he2) rfl rfl (Nat.le_of_ble_eq_true rfl) ⟨Nat.le_refl 0, Nat.le_refl 0⟩ <| ?_
  refine a_if_eq iX8_note_4 (fun hc3 => ?_) (fun hc3 => ?_)
  · have h := ot hc3 h
    refine a_const iX8_note_15 <| ?_
    obtain rfl := Option.some.inj h
    exact a_iret iX8_note_17 rfl ⟨Nat.le_refl 0, Nat.le_refl 0⟩ ⟨rfl, rfl, rfl, rfl⟩
  · have h := oe hc3 h
    refine a_aload iX8_note_7 rfl <| a_iload iX8_note_8 rfl <| ?_
    obtain ⟨r4, he5, h⟩ := ob h
    refine a_cVi iX8_note_9 okX8_isThing inX8_isThing ⟨rfl, rfl⟩ (lm_s229 hM) (c_X8_isThing hM he5) rfl rfl (Nat.le_of_ble_eq_true rfl) ⟨Nat.le_refl 0, Nat.le_refl 0⟩ <| ?_
    refine a_if_ne iX8_note_12 (fun hc6 => ?_) (fun hc6 => ?_)
    · have h := oe hc6 h
      refine a_iload iX8_note_18 rfl <| a_aload iX8_note_19 rfl <| a_aload iX8_note_20 rfl <| a_getr iX8_note_21 (lm_s229 hM) rfl (lm_r229_27 hM) <| ?_
      obtain ⟨r7, he8, h⟩ := ob h
      refine a_cVi iX8_note_24 okX8_heirOf inX8_heirOf ⟨rfl, rfl⟩ (lm_s229 hM) (c_X8_heirOf hM (lm_s238 hM) he8) rfl rfl (Nat.le_of_ble_eq_true rfl) ⟨Nat.le_refl 0, Nat.le_refl 0⟩ <| ?_
      refine a_icmp_ne iX8_note_27 (fun hc9 => ?_) (fun hc9 => ?_)
      · have h := oe hc9 h
        refine a_aload iX8_note_33 rfl <| ?_
        obtain ⟨mi10, he11, h⟩ := ob h
        refine a_cVv iX8_note_34 okX8_remember inX8_remember ⟨rfl, rfl⟩ (lm_s229 hM) (c_X8_remember hM he11) rfl rfl (Nat.le_of_ble_eq_true rfl) ⟨Nat.le_refl 0, Nat.le_refl 0⟩ <| a_aload iX8_note_37 rfl <| a_getr iX8_note_38 (lm_s229 hM) rfl (lm_r229_27 hM) <| a_const iX8_note_41 <| a_const iX8_note_43 <| a_iload iX8_note_45 rfl <| a_imul iX8_note_46 <| a_iadd iX8_note_47 <| ?_
        refine a_iload iX8_note_48 rfl <| a_iadd iX8_note_49 <| a_aload iX8_note_50 rfl <| a_getr iX8_note_51 (lm_s229 hM) rfl (lm_r229_27 hM) <| a_const iX8_note_54 <| a_iload iX8_note_56 rfl <| a_iadd iX8_note_57 <| ?_
        obtain ⟨hg12, h⟩ := og h
        refine a_iald iX8_note_58 (lm_s238 hM) (inb_vp hg12) <| ?_
        obtain ⟨hg13, h⟩ := og h
        refine a_iast iX8_note_59 (lm_s238 hM) (inb_vp hg13) <| a_aload iX8_note_60 rfl <| a_getr iX8_note_61 (lm_s229 hM) rfl (lm_r229_27 hM) <| a_const iX8_note_64 <| a_iload iX8_note_66 rfl <| a_iadd iX8_note_67 <| ?_
        obtain ⟨hg14, h⟩ := og h
        refine a_iald iX8_note_68 (lm_s238 hM) (inb_vp hg14) <| ?_
        obtain rfl := Option.some.inj h
        exact a_iret iX8_note_69 rfl ⟨Nat.le_refl 0, Nat.le_refl 0⟩ ⟨rfl, rfl, rfl, rfl⟩
      · have h := ot hc9 h
        refine a_const iX8_note_30 <| ?_
        obtain rfl := Option.some.inj h
        exact a_iret iX8_note_32 rfl ⟨Nat.le_refl 0, Nat.le_refl 0⟩ ⟨rfl, rfl, rfl, rfl⟩
    · have h := ot hc6 h
      refine a_const iX8_note_15 <| ?_
      obtain rfl := Option.some.inj h
      exact a_iret iX8_note_17 rfl ⟨Nat.le_refl 0, Nat.le_refl 0⟩ ⟨rfl, rfl, rfl, rfl⟩
def f_X8_eclipse (mi : Mi) (x1 : Int32) : Option (Int32 × Mi) := (f_X8_in x1 0 24).bind (fun r1 => if r1 = 0 then (some ((-1000000002), mi)) else ((f_X8_isCounty mi).bind (fun r4 => if r4 = 0 then (some ((-1000000003), mi)) else ((f_X8_remember mi).bind (fun mi7 => if inb 1 121 then if inb 1 121 then some (mi7 238 (1 : Int32).toNatClampNeg, u2 mi7 238 (1 : Int32).toNatClampNeg x1) else none else none)))))
set_option maxRecDepth 20000 in
set_option maxHeartbeats 4000000 in
theorem c_X8_eclipse {g : Gm} {V : Vw} {mi : Mi} {ml : Ml} {x1 : Int32} (hM : LayM V) {r : Int32 × Mi} (h : f_X8_eclipse mi x1 = some r) : DoI g YX8_eclipse V [rf g 229, .int x1] mi ml (r.1) (r.2) ml := by
  unfold f_X8_eclipse at h
  refine does_of (L := [some (rf g 229), some (.int x1), none]) okX8_eclipse rfl (Nat.le_of_ble_eq_true rfl) rfl ?_
  show At g YX8_eclipse _ (qm g YX8_eclipse (pI V (r.1) (r.2) ml)) V (0, 0) 0 _ [] mi ml
  refine a_iload iX8_eclipse_0 rfl <| a_const iX8_eclipse_1 <| a_const iX8_eclipse_2 <| ?_
  obtain ⟨r1, he2, h⟩ := ob h
  refine a_cSi iX8_eclipse_4 okX8_in stX8_in ⟨rfl, rfl⟩ (c_X8_in he2) rfl rfl (Nat.le_of_ble_eq_true rfl) ⟨Nat.le_refl 0, Nat.le_refl 0⟩ <| ?_
  refine a_if_ne iX8_eclipse_7 (fun hc3 => ?_) (fun hc3 => ?_)
  · have h := oe hc3 h
    refine a_aload iX8_eclipse_13 rfl <| ?_
    obtain ⟨r4, he5, h⟩ := ob h
    refine a_cVi iX8_eclipse_14 okX8_isCounty inX8_isCounty ⟨rfl, rfl⟩ (lm_s229 hM) (c_X8_isCounty hM he5) rfl rfl (Nat.le_of_ble_eq_true rfl) ⟨Nat.le_refl 0, Nat.le_refl 0⟩ <| ?_
    refine a_if_ne iX8_eclipse_17 (fun hc6 => ?_) (fun hc6 => ?_)
    · have h := oe hc6 h
      refine a_aload iX8_eclipse_23 rfl <| ?_
      obtain ⟨mi7, he8, h⟩ := ob h
      refine a_cVv iX8_eclipse_24 okX8_remember inX8_remember ⟨rfl, rfl⟩ (lm_s229 hM) (c_X8_remember hM he8) rfl rfl (Nat.le_of_ble_eq_true rfl) ⟨Nat.le_refl 0, Nat.le_refl 0⟩ <| a_aload iX8_eclipse_27 rfl <| a_getr iX8_eclipse_28 (lm_s229 hM) rfl (lm_r229_27 hM) <| a_const iX8_eclipse_31 <| ?_
      obtain ⟨hg9, h⟩ := og h
      refine a_iald iX8_eclipse_32 (lm_s238 hM) (inb_vp hg9) <| a_istore iX8_eclipse_33 (by decide) rfl <| a_aload iX8_eclipse_34 rfl <| a_getr iX8_eclipse_35 (lm_s229 hM) rfl (lm_r229_27 hM) <| a_const iX8_eclipse_38 <| a_iload iX8_eclipse_39 rfl <| ?_
      obtain ⟨hg10, h⟩ := og h
      refine a_iast iX8_eclipse_40 (lm_s238 hM) (inb_vp hg10) <| a_iload iX8_eclipse_41 rfl <| ?_
      obtain rfl := Option.some.inj h
      exact a_iret iX8_eclipse_42 rfl ⟨Nat.le_refl 0, Nat.le_refl 0⟩ ⟨rfl, rfl, rfl, rfl⟩
    · have h := ot hc6 h
      refine a_const iX8_eclipse_20 <| ?_
      obtain rfl := Option.some.inj h
      exact a_iret iX8_eclipse_22 rfl ⟨Nat.le_refl 0, Nat.le_refl 0⟩ ⟨rfl, rfl, rfl, rfl⟩
  · have h := ot hc3 h
    refine a_const iX8_eclipse_10 <| ?_
    obtain rfl := Option.some.inj h
    exact a_iret iX8_eclipse_12 rfl ⟨Nat.le_refl 0, Nat.le_refl 0⟩ ⟨rfl, rfl, rfl, rfl⟩
def f_X8_draw (mi : Mi) (ml : Ml) (x1 : Int32) : Option (Int32 × Mi × Ml) := if ¬ (x1.toInt64) = 0 then some (((((u2 ml 229 31 ((((ml 229 31) * (1103515245)) + (12345)) - (((ml 229 31) * (1103515245)) + (12345)) / (2147483648) * (2147483648))) 229 31) / (65536)) - (((u2 ml 229 31 ((((ml 229 31) * (1103515245)) + (12345)) - (((ml 229 31) * (1103515245)) + (12345)) / (2147483648) * (2147483648))) 229 31) / (65536)) / (x1.toInt64) * (x1.toInt64)).toInt32, mi, u2 ml 229 31 ((((ml 229 31) * (1103515245)) + (12345)) - (((ml 229 31) * (1103515245)) + (12345)) / (2147483648) * (2147483648))) else none
set_option maxRecDepth 20000 in
set_option maxHeartbeats 4000000 in
theorem c_X8_draw {g : Gm} {V : Vw} {mi : Mi} {ml : Ml} {x1 : Int32} (hM : LayM V) {r : Int32 × Mi × Ml} (h : f_X8_draw mi ml x1 = some r) : DoI g YX8_draw V [rf g 229, .int x1] mi ml (r.1) (r.2.1) (r.2.2) := by
  unfold f_X8_draw at h
  refine does_of (L := [some (rf g 229), some (.int x1)]) okX8_draw rfl (Nat.le_of_ble_eq_true rfl) rfl ?_
  show At g YX8_draw _ (qm g YX8_draw (pI V (r.1) (r.2.1) (r.2.2))) V (0, 0) 0 _ [] mi ml
  refine a_aload iX8_draw_0 rfl <| a_aload iX8_draw_1 rfl <| a_getl iX8_draw_2 (lm_s229 hM) rfl <| a_lconst iX8_draw_5 <| a_lmul iX8_draw_8 <| a_lconst iX8_draw_9 <| a_ladd iX8_draw_12 <| a_lconst iX8_draw_13 <| ?_
  refine a_lrem iX8_draw_16 (by decide) <| a_putl iX8_draw_17 (lm_s229 hM) rfl <| a_aload iX8_draw_20 rfl <| a_getl iX8_draw_21 (lm_s229 hM) rfl <| a_lconst iX8_draw_24 <| a_ldiv iX8_draw_27 (by decide) <| a_iload iX8_draw_28 rfl <| a_i2l iX8_draw_29 <| ?_
  obtain ⟨hg1, h⟩ := og h
  refine a_lrem iX8_draw_30 hg1 <| a_l2i iX8_draw_31 <| ?_
  obtain rfl := Option.some.inj h
  exact a_iret iX8_draw_32 rfl ⟨Nat.le_refl 0, Nat.le_refl 0⟩ ⟨rfl, rfl, rfl, rfl⟩
def lp_X8_drift_14 (v1 : Int32) (v2 : Int32) (K : Int32 → Mi → Ml → Option (Int32 × Mi × Ml)) : Nat → Int32 → Mi → Ml → Option (Int32 × Mi × Ml)
  | 0, _, _, _ => none
  | n + 1, v3, mi, ml => if v1 ≤ v3 then (K v3 mi ml) else ((f_X8_remember mi).bind (fun mi5 => (f_X8_draw mi5 ml 8).bind (fun q11 => if q11.1 = 0 then (if (q11.2.1 229 20) ≤ 0 then (if q11.1 = 1 then ((f_X8_draw q11.2.1 q11.2.2 4).bind (fun q32 => if inb 1 121 then (f_X8_passes (u2 q32.2.1 238 (1 : Int32).toNatClampNeg q32.1) 238).bind (fun mi34 => lp_X8_drift_14 v1 v2 K n (v3 + 1) mi34 q32.2.2) else none)) else ((f_X8_passes q11.2.1 238).bind (fun mi26 => lp_X8_drift_14 v1 v2 K n (v3 + 1) mi26 q11.2.2))) else ((f_X8_draw q11.2.1 q11.2.2 (q11.2.1 229 20)).bind (fun q40 => (f_X8_draw q40.2.1 q40.2.2 10).bind (fun q45 => (f_X8_sets q45.2.1 q40.1 q45.1).bind (fun mi46 => (f_X8_passes mi46 238).bind (fun mi48 => lp_X8_drift_14 v1 v2 K n (v3 + 1) mi48 q45.2.2)))))) else (if q11.1 = 1 then ((f_X8_draw q11.2.1 q11.2.2 4).bind (fun q20 => if inb 1 121 then (f_X8_passes (u2 q20.2.1 238 (1 : Int32).toNatClampNeg q20.1) 238).bind (fun mi22 => lp_X8_drift_14 v1 v2 K n (v3 + 1) mi22 q20.2.2) else none)) else ((f_X8_passes q11.2.1 238).bind (fun mi14 => lp_X8_drift_14 v1 v2 K n (v3 + 1) mi14 q11.2.2))))))
def f_X8_drift (mi : Mi) (ml : Ml) (x1 : Int32) : Option (Int32 × Mi × Ml) := (f_X8_needHours mi x1).bind (fun r1 => if 0 ≤ r1 then (lp_X8_drift_14 x1 r1 (fun v3_50 mi50 ml50 => if inb 0 121 then some (mi50 238 (0 : Int32).toNatClampNeg, mi50, ml50) else none) FU 0 mi ml) else (some (r1, mi, ml)))
set_option maxRecDepth 20000 in
set_option maxHeartbeats 4000000 in
theorem w_X8_drift_14 {g : Gm} {V : Vw} {E : Ex} {v1 v2 : Int32} (hM : LayM V) {K : Int32 → Mi → Ml → Option (Int32 × Mi × Ml)} {r : Int32 × Mi × Ml} (hK : ∀ (v3 : Int32) (mi : Mi) (ml : Ml), K v3 mi ml = some r → At g YX8_drift E (qm g YX8_drift (pI V (r.1) (r.2.1) (r.2.2))) V (0, 0) 99 [some (rf g 229), some (.int v1), some (.int v2), some (.int v3), none, none] [] mi ml) : ∀ (n : Nat) (v3 : Int32) (mi : Mi) (ml : Ml), lp_X8_drift_14 v1 v2 K n v3 mi ml = some r → At g YX8_drift E (qm g YX8_drift (pI V (r.1) (r.2.1) (r.2.2))) V (0, 0) 14 [some (rf g 229), some (.int v1), some (.int v2), some (.int v3), none, none] [] mi ml := by
  intro n
  induction n with
  | zero => intro v3 mi ml h; exact oz h
  | succ n ih =>
    intro v3 mi ml h
    unfold lp_X8_drift_14 at h
    refine a_iload iX8_drift_14 rfl <| a_iload iX8_drift_15 rfl <| ?_
    refine a_icmp_ge iX8_drift_16 (fun hc4 => ?_) (fun hc4 => ?_)
    · have h := ot hc4 h
      exact a_sub (L' := [some (rf g 229), some (.int v1), some (.int v2), some (.int v3), none, none]) (by exact ⟨rfl, ⟨rfl, ⟨rfl, ⟨rfl, trivial⟩⟩⟩⟩) (hK _ _ _ h)
    · have h := oe hc4 h
      refine a_aload iX8_drift_19 rfl <| ?_
      obtain ⟨mi5, he6, h⟩ := ob h
      refine a_cVv iX8_drift_20 okX8_remember inX8_remember ⟨rfl, rfl⟩ (lm_s229 hM) (c_X8_remember hM he6) rfl rfl (Nat.le_of_ble_eq_true rfl) ⟨Nat.le_refl 0, Nat.le_refl 0⟩ <| a_aload iX8_drift_23 rfl <| a_const iX8_drift_24 <| ?_
      obtain ⟨⟨r7, mi8, ml9⟩, he10, h⟩ := ob h
      refine a_cVi iX8_drift_26 okX8_draw inX8_draw ⟨rfl, rfl⟩ (lm_s229 hM) (c_X8_draw hM he10) rfl rfl (Nat.le_of_ble_eq_true rfl) ⟨Nat.le_refl 0, Nat.le_refl 0⟩ <| a_istore iX8_drift_29 (by decide) rfl <| a_iload iX8_drift_31 rfl <| ?_
      refine a_if_ne iX8_drift_33 (fun hc12 => ?_) (fun hc12 => ?_)
      · have h := oe hc12 h
        refine a_iload iX8_drift_68 rfl <| a_const iX8_drift_70 <| ?_
        refine a_icmp_ne iX8_drift_71 (fun hc13 => ?_) (fun hc13 => ?_)
        · have h := oe hc13 h
          refine a_aload iX8_drift_85 rfl <| a_aload iX8_drift_86 rfl <| a_getr iX8_drift_87 (lm_s229 hM) rfl (lm_r229_27 hM) <| ?_
          obtain ⟨mi14, he15, h⟩ := ob h
          refine a_cVv iX8_drift_90 okX8_passes inX8_passes ⟨rfl, rfl⟩ (lm_s229 hM) (c_X8_passes hM (lm_s238 hM) he15) rfl rfl (Nat.le_of_ble_eq_true rfl) ⟨Nat.le_refl 0, Nat.le_refl 0⟩ <| a_iinc iX8_drift_93 rfl (by decide) rfl <| a_goto iX8_drift_96 <| ?_
          exact a_sub (L' := [some (rf g 229), some (.int v1), some (.int v2), some (.int (v3 + 1)), none, none]) (by exact ⟨rfl, ⟨rfl, ⟨rfl, ⟨rfl, trivial⟩⟩⟩⟩) (ih _ _ _ h)
        · have h := ot hc13 h
          refine a_aload iX8_drift_74 rfl <| a_getr iX8_drift_75 (lm_s229 hM) rfl (lm_r229_27 hM) <| a_const iX8_drift_78 <| a_aload iX8_drift_79 rfl <| a_const iX8_drift_80 <| ?_
          obtain ⟨⟨r16, mi17, ml18⟩, he19, h⟩ := ob h
          refine a_cVi iX8_drift_81 okX8_draw inX8_draw ⟨rfl, rfl⟩ (lm_s229 hM) (c_X8_draw hM he19) rfl rfl (Nat.le_of_ble_eq_true rfl) ⟨Nat.le_refl 0, Nat.le_refl 0⟩ <| ?_
          obtain ⟨hg21, h⟩ := og h
          refine a_iast iX8_drift_84 (lm_s238 hM) (inb_vp hg21) <| a_aload iX8_drift_85 rfl <| a_aload iX8_drift_86 rfl <| a_getr iX8_drift_87 (lm_s229 hM) rfl (lm_r229_27 hM) <| ?_
          obtain ⟨mi22, he23, h⟩ := ob h
          refine a_cVv iX8_drift_90 okX8_passes inX8_passes ⟨rfl, rfl⟩ (lm_s229 hM) (c_X8_passes hM (lm_s238 hM) he23) rfl rfl (Nat.le_of_ble_eq_true rfl) ⟨Nat.le_refl 0, Nat.le_refl 0⟩ <| a_iinc iX8_drift_93 rfl (by decide) rfl <| a_goto iX8_drift_96 <| ?_
          exact a_sub (L' := [some (rf g 229), some (.int v1), some (.int v2), some (.int (v3 + 1)), none, none]) (by exact ⟨rfl, ⟨rfl, ⟨rfl, ⟨rfl, trivial⟩⟩⟩⟩) (ih _ _ _ h)
      · have h := ot hc12 h
        refine a_aload iX8_drift_36 rfl <| a_geti iX8_drift_37 (lm_s229 hM) rfl <| ?_
        refine a_if_le iX8_drift_40 (fun hc24 => ?_) (fun hc24 => ?_)
        · have h := ot hc24 h
          refine a_iload iX8_drift_68 rfl <| a_const iX8_drift_70 <| ?_
          refine a_icmp_ne iX8_drift_71 (fun hc25 => ?_) (fun hc25 => ?_)
          · have h := oe hc25 h
            refine a_aload iX8_drift_85 rfl <| a_aload iX8_drift_86 rfl <| a_getr iX8_drift_87 (lm_s229 hM) rfl (lm_r229_27 hM) <| ?_
            obtain ⟨mi26, he27, h⟩ := ob h
            refine a_cVv iX8_drift_90 okX8_passes inX8_passes ⟨rfl, rfl⟩ (lm_s229 hM) (c_X8_passes hM (lm_s238 hM) he27) rfl rfl (Nat.le_of_ble_eq_true rfl) ⟨Nat.le_refl 0, Nat.le_refl 0⟩ <| a_iinc iX8_drift_93 rfl (by decide) rfl <| a_goto iX8_drift_96 <| ?_
            exact a_sub (L' := [some (rf g 229), some (.int v1), some (.int v2), some (.int (v3 + 1)), none, none]) (by exact ⟨rfl, ⟨rfl, ⟨rfl, ⟨rfl, trivial⟩⟩⟩⟩) (ih _ _ _ h)
          · have h := ot hc25 h
            refine a_aload iX8_drift_74 rfl <| a_getr iX8_drift_75 (lm_s229 hM) rfl (lm_r229_27 hM) <| a_const iX8_drift_78 <| a_aload iX8_drift_79 rfl <| a_const iX8_drift_80 <| ?_
            obtain ⟨⟨r28, mi29, ml30⟩, he31, h⟩ := ob h
            refine a_cVi iX8_drift_81 okX8_draw inX8_draw ⟨rfl, rfl⟩ (lm_s229 hM) (c_X8_draw hM he31) rfl rfl (Nat.le_of_ble_eq_true rfl) ⟨Nat.le_refl 0, Nat.le_refl 0⟩ <| ?_
            obtain ⟨hg33, h⟩ := og h
            refine a_iast iX8_drift_84 (lm_s238 hM) (inb_vp hg33) <| a_aload iX8_drift_85 rfl <| a_aload iX8_drift_86 rfl <| a_getr iX8_drift_87 (lm_s229 hM) rfl (lm_r229_27 hM) <| ?_
            obtain ⟨mi34, he35, h⟩ := ob h
            refine a_cVv iX8_drift_90 okX8_passes inX8_passes ⟨rfl, rfl⟩ (lm_s229 hM) (c_X8_passes hM (lm_s238 hM) he35) rfl rfl (Nat.le_of_ble_eq_true rfl) ⟨Nat.le_refl 0, Nat.le_refl 0⟩ <| a_iinc iX8_drift_93 rfl (by decide) rfl <| a_goto iX8_drift_96 <| ?_
            exact a_sub (L' := [some (rf g 229), some (.int v1), some (.int v2), some (.int (v3 + 1)), none, none]) (by exact ⟨rfl, ⟨rfl, ⟨rfl, ⟨rfl, trivial⟩⟩⟩⟩) (ih _ _ _ h)
        · have h := oe hc24 h
          refine a_aload iX8_drift_43 rfl <| a_aload iX8_drift_44 rfl <| a_geti iX8_drift_45 (lm_s229 hM) rfl <| ?_
          obtain ⟨⟨r36, mi37, ml38⟩, he39, h⟩ := ob h
          refine a_cVi iX8_drift_48 okX8_draw inX8_draw ⟨rfl, rfl⟩ (lm_s229 hM) (c_X8_draw hM he39) rfl rfl (Nat.le_of_ble_eq_true rfl) ⟨Nat.le_refl 0, Nat.le_refl 0⟩ <| a_istore iX8_drift_51 (by decide) rfl <| a_aload iX8_drift_53 rfl <| a_iload iX8_drift_54 rfl <| a_aload iX8_drift_56 rfl <| a_const iX8_drift_57 <| ?_
          obtain ⟨⟨r41, mi42, ml43⟩, he44, h⟩ := ob h
          refine a_cVi iX8_drift_59 okX8_draw inX8_draw ⟨rfl, rfl⟩ (lm_s229 hM) (c_X8_draw hM he44) rfl rfl (Nat.le_of_ble_eq_true rfl) ⟨Nat.le_refl 0, Nat.le_refl 0⟩ <| ?_
          obtain ⟨mi46, he47, h⟩ := ob h
          refine a_cVv iX8_drift_62 okX8_sets inX8_sets ⟨rfl, rfl⟩ (lm_s229 hM) (c_X8_sets hM he47) rfl rfl (Nat.le_of_ble_eq_true rfl) ⟨Nat.le_refl 0, Nat.le_refl 0⟩ <| a_goto iX8_drift_65 <| a_aload iX8_drift_85 rfl <| a_aload iX8_drift_86 rfl <| a_getr iX8_drift_87 (lm_s229 hM) rfl (lm_r229_27 hM) <| ?_
          obtain ⟨mi48, he49, h⟩ := ob h
          refine a_cVv iX8_drift_90 okX8_passes inX8_passes ⟨rfl, rfl⟩ (lm_s229 hM) (c_X8_passes hM (lm_s238 hM) he49) rfl rfl (Nat.le_of_ble_eq_true rfl) ⟨Nat.le_refl 0, Nat.le_refl 0⟩ <| a_iinc iX8_drift_93 rfl (by decide) rfl <| a_goto iX8_drift_96 <| ?_
          exact a_sub (L' := [some (rf g 229), some (.int v1), some (.int v2), some (.int (v3 + 1)), none, none]) (by exact ⟨rfl, ⟨rfl, ⟨rfl, ⟨rfl, trivial⟩⟩⟩⟩) (ih _ _ _ h)
set_option maxRecDepth 20000 in
set_option maxHeartbeats 4000000 in
theorem c_X8_drift {g : Gm} {V : Vw} {mi : Mi} {ml : Ml} {x1 : Int32} (hM : LayM V) {r : Int32 × Mi × Ml} (h : f_X8_drift mi ml x1 = some r) : DoI g YX8_drift V [rf g 229, .int x1] mi ml (r.1) (r.2.1) (r.2.2) := by
  unfold f_X8_drift at h
  refine does_of (L := [some (rf g 229), some (.int x1), none, none, none, none]) okX8_drift rfl (Nat.le_of_ble_eq_true rfl) rfl ?_
  show At g YX8_drift _ (qm g YX8_drift (pI V (r.1) (r.2.1) (r.2.2))) V (0, 0) 0 _ [] mi ml
  refine a_aload iX8_drift_0 rfl <| a_iload iX8_drift_1 rfl <| ?_
  obtain ⟨r1, he2, h⟩ := ob h
  refine a_cVi iX8_drift_2 okX8_needHours inX8_needHours ⟨rfl, rfl⟩ (lm_s229 hM) (c_X8_needHours hM he2) rfl rfl (Nat.le_of_ble_eq_true rfl) ⟨Nat.le_refl 0, Nat.le_refl 0⟩ <| a_istore iX8_drift_5 (by decide) rfl <| a_iload iX8_drift_6 rfl <| ?_
  refine a_if_ge iX8_drift_7 (fun hc3 => ?_) (fun hc3 => ?_)
  · have h := ot hc3 h
    refine a_const iX8_drift_12 <| a_istore iX8_drift_13 (by decide) rfl <| ?_
    refine a_sub (L' := [some (rf g 229), some (.int x1), some (.int r1), some (.int 0), none, none]) (by exact ⟨rfl, ⟨rfl, ⟨rfl, ⟨rfl, trivial⟩⟩⟩⟩) (w_X8_drift_14 hM (fun v3_50 mi50 ml50 h => ?_) FU _ _ _ h)
    refine a_aload iX8_drift_99 rfl <| a_getr iX8_drift_100 (lm_s229 hM) rfl (lm_r229_27 hM) <| a_const iX8_drift_103 <| ?_
    obtain ⟨hg51, h⟩ := og h
    refine a_iald iX8_drift_104 (lm_s238 hM) (inb_vp hg51) <| ?_
    obtain rfl := Option.some.inj h
    exact a_iret iX8_drift_105 rfl ⟨Nat.le_refl 0, Nat.le_refl 0⟩ ⟨rfl, rfl, rfl, rfl⟩
  · have h := oe hc3 h
    refine a_iload iX8_drift_10 rfl <| ?_
    obtain rfl := Option.some.inj h
    exact a_iret iX8_drift_11 rfl ⟨Nat.le_refl 0, Nat.le_refl 0⟩ ⟨rfl, rfl, rfl, rfl⟩
def lp_X8_undo_52 (v1 : Int32) (K : Int32 → Mi → Option (Int32 × Mi)) : Nat → Int32 → Mi → Option (Int32 × Mi)
  | 0, _, _ => none
  | n + 1, v2, mi => if 121 ≤ v2 then (K v2 mi) else (if inb ((121 * (mi 229 29)) + v2) 3630 then if inb v2 121 then lp_X8_undo_52 v1 K n (v2 + 1) (u2 mi 238 v2.toNatClampNeg (mi 239 ((121 * (mi 229 29)) + v2).toNatClampNeg)) else none else none)
def f_X8_undo (mi : Mi) (x1 : Int32) : Option (Int32 × Mi) := (f_X8_in x1 1 30).bind (fun r1 => if r1 = 0 then (some ((-1000000002), mi)) else (if x1 ≤ (mi 229 28) then (nx (u2 (u2 mi 229 29 ((((mi 229 29) + 30) - x1) - (((mi 229 29) + 30) - x1) / 30 * 30)) 229 28 (((u2 mi 229 29 ((((mi 229 29) + 30) - x1) - (((mi 229 29) + 30) - x1) / 30 * 30)) 229 28) - x1)) (fun mi6 => lp_X8_undo_52 x1 (fun v2_10 mi10 => if inb 0 121 then some (mi10 238 (0 : Int32).toNatClampNeg, mi10) else none) FU 0 mi6)) else (some ((-1000000003), mi))))
set_option maxRecDepth 20000 in
set_option maxHeartbeats 4000000 in
theorem w_X8_undo_52 {g : Gm} {V : Vw} {E : Ex} {ml : Ml} {v1 : Int32} (hM : LayM V) {K : Int32 → Mi → Option (Int32 × Mi)} {r : Int32 × Mi} (hK : ∀ (v2 : Int32) (mi : Mi), K v2 mi = some r → At g YX8_undo E (qm g YX8_undo (pI V (r.1) (r.2) ml)) V (0, 0) 84 [some (rf g 229), some (.int v1), some (.int v2)] [] mi ml) : ∀ (n : Nat) (v2 : Int32) (mi : Mi), lp_X8_undo_52 v1 K n v2 mi = some r → At g YX8_undo E (qm g YX8_undo (pI V (r.1) (r.2) ml)) V (0, 0) 52 [some (rf g 229), some (.int v1), some (.int v2)] [] mi ml := by
  intro n
  induction n with
  | zero => intro v2 mi h; exact oz h
  | succ n ih =>
    intro v2 mi h
    unfold lp_X8_undo_52 at h
    refine a_iload iX8_undo_52 rfl <| a_const iX8_undo_53 <| ?_
    refine a_icmp_ge iX8_undo_55 (fun hc7 => ?_) (fun hc7 => ?_)
    · have h := ot hc7 h
      exact a_sub (L' := [some (rf g 229), some (.int v1), some (.int v2)]) (by exact ⟨rfl, ⟨rfl, ⟨rfl, trivial⟩⟩⟩) (hK _ _ h)
    · have h := oe hc7 h
      refine a_aload iX8_undo_58 rfl <| a_getr iX8_undo_59 (lm_s229 hM) rfl (lm_r229_27 hM) <| a_iload iX8_undo_62 rfl <| a_aload iX8_undo_63 rfl <| a_getr iX8_undo_64 (lm_s229 hM) rfl (lm_r229_30 hM) <| a_const iX8_undo_67 <| a_aload iX8_undo_69 rfl <| a_geti iX8_undo_70 (lm_s229 hM) rfl <| ?_
      refine a_imul iX8_undo_73 <| a_iload iX8_undo_74 rfl <| a_iadd iX8_undo_75 <| ?_
      obtain ⟨hg8, h⟩ := og h
      refine a_iald iX8_undo_76 (lm_s239 hM) (inb_vp hg8) <| ?_
      obtain ⟨hg9, h⟩ := og h
      refine a_iast iX8_undo_77 (lm_s238 hM) (inb_vp hg9) <| a_iinc iX8_undo_78 rfl (by decide) rfl <| a_goto iX8_undo_81 <| ?_
      exact a_sub (L' := [some (rf g 229), some (.int v1), some (.int (v2 + 1))]) (by exact ⟨rfl, ⟨rfl, ⟨rfl, trivial⟩⟩⟩) (ih _ _ h)
set_option maxRecDepth 20000 in
set_option maxHeartbeats 4000000 in
theorem c_X8_undo {g : Gm} {V : Vw} {mi : Mi} {ml : Ml} {x1 : Int32} (hM : LayM V) {r : Int32 × Mi} (h : f_X8_undo mi x1 = some r) : DoI g YX8_undo V [rf g 229, .int x1] mi ml (r.1) (r.2) ml := by
  unfold f_X8_undo at h
  refine does_of (L := [some (rf g 229), some (.int x1), none]) okX8_undo rfl (Nat.le_of_ble_eq_true rfl) rfl ?_
  show At g YX8_undo _ (qm g YX8_undo (pI V (r.1) (r.2) ml)) V (0, 0) 0 _ [] mi ml
  refine a_iload iX8_undo_0 rfl <| a_const iX8_undo_1 <| a_const iX8_undo_2 <| ?_
  obtain ⟨r1, he2, h⟩ := ob h
  refine a_cSi iX8_undo_4 okX8_in stX8_in ⟨rfl, rfl⟩ (c_X8_in he2) rfl rfl (Nat.le_of_ble_eq_true rfl) ⟨Nat.le_refl 0, Nat.le_refl 0⟩ <| ?_
  refine a_if_ne iX8_undo_7 (fun hc3 => ?_) (fun hc3 => ?_)
  · have h := oe hc3 h
    refine a_iload iX8_undo_13 rfl <| a_aload iX8_undo_14 rfl <| a_geti iX8_undo_15 (lm_s229 hM) rfl <| ?_
    refine a_icmp_le iX8_undo_18 (fun hc4 => ?_) (fun hc4 => ?_)
    · have h := ot hc4 h
      refine a_aload iX8_undo_24 rfl <| a_aload iX8_undo_25 rfl <| a_geti iX8_undo_26 (lm_s229 hM) rfl <| a_const iX8_undo_29 <| a_iadd iX8_undo_31 <| a_iload iX8_undo_32 rfl <| a_isub iX8_undo_33 <| a_const iX8_undo_34 <| ?_
      refine a_irem iX8_undo_36 (by decide) <| a_puti iX8_undo_37 (lm_s229 hM) rfl rfl rfl <| a_aload iX8_undo_40 rfl <| a_dup iX8_undo_41 rfl <| a_geti iX8_undo_42 (lm_s229 hM) rfl <| a_iload iX8_undo_45 rfl <| a_isub iX8_undo_46 <| a_puti iX8_undo_47 (lm_s229 hM) rfl rfl rfl <| ?_
      obtain ⟨mi6, hm5, h⟩ := onx h
      refine a_mem hm5 <| a_const iX8_undo_50 <| a_istore iX8_undo_51 (by decide) rfl <| ?_
      refine a_sub (L' := [some (rf g 229), some (.int x1), some (.int 0)]) (by exact ⟨rfl, ⟨rfl, ⟨rfl, trivial⟩⟩⟩) (w_X8_undo_52 hM (fun v2_10 mi10 h => ?_) FU _ _ h)
      refine a_aload iX8_undo_84 rfl <| a_getr iX8_undo_85 (lm_s229 hM) rfl (lm_r229_27 hM) <| a_const iX8_undo_88 <| ?_
      obtain ⟨hg11, h⟩ := og h
      refine a_iald iX8_undo_89 (lm_s238 hM) (inb_vp hg11) <| ?_
      obtain rfl := Option.some.inj h
      exact a_iret iX8_undo_90 rfl ⟨Nat.le_refl 0, Nat.le_refl 0⟩ ⟨rfl, rfl, rfl, rfl⟩
    · have h := oe hc4 h
      refine a_const iX8_undo_21 <| ?_
      obtain rfl := Option.some.inj h
      exact a_iret iX8_undo_23 rfl ⟨Nat.le_refl 0, Nat.le_refl 0⟩ ⟨rfl, rfl, rfl, rfl⟩
  · have h := ot hc3 h
    refine a_const iX8_undo_10 <| ?_
    obtain rfl := Option.some.inj h
    exact a_iret iX8_undo_12 rfl ⟨Nat.le_refl 0, Nat.le_refl 0⟩ ⟨rfl, rfl, rfl, rfl⟩
def f_X8_heirIn (mi : Mi) (x1 : Int32) : Option (Int32) := if inb 1 121 then if (mi 238 (1 : Int32).toNatClampNeg) ≤ x1 then (if inb 0 121 then (f_X8_almanac mi ((mi 238 (0 : Int32).toNatClampNeg) + x1)).bind (fun r4 => some r4) else none) else (some 2) else none
set_option maxRecDepth 20000 in
set_option maxHeartbeats 4000000 in
theorem c_X8_heirIn {g : Gm} {V : Vw} {mi : Mi} {ml : Ml} {x1 : Int32} (hM : LayM V) {r : Int32} (h : f_X8_heirIn mi x1 = some r) : DoI g YX8_heirIn V [rf g 229, .int x1] mi ml r mi ml := by
  unfold f_X8_heirIn at h
  refine does_of (L := [some (rf g 229), some (.int x1)]) okX8_heirIn rfl (Nat.le_of_ble_eq_true rfl) rfl ?_
  show At g YX8_heirIn _ (qm g YX8_heirIn (pI V r mi ml)) V (0, 0) 0 _ [] mi ml
  refine a_iload iX8_heirIn_0 rfl <| a_aload iX8_heirIn_1 rfl <| a_getr iX8_heirIn_2 (lm_s229 hM) rfl (lm_r229_27 hM) <| a_const iX8_heirIn_5 <| ?_
  obtain ⟨hg1, h⟩ := og h
  refine a_iald iX8_heirIn_6 (lm_s238 hM) (inb_vp hg1) <| ?_
  refine a_icmp_ge iX8_heirIn_7 (fun hc2 => ?_) (fun hc2 => ?_)
  · have h := ot hc2 h
    refine a_aload iX8_heirIn_14 rfl <| a_aload iX8_heirIn_15 rfl <| a_getr iX8_heirIn_16 (lm_s229 hM) rfl (lm_r229_27 hM) <| a_const iX8_heirIn_19 <| ?_
    obtain ⟨hg3, h⟩ := og h
    refine a_iald iX8_heirIn_20 (lm_s238 hM) (inb_vp hg3) <| a_iload iX8_heirIn_21 rfl <| a_iadd iX8_heirIn_22 <| ?_
    obtain ⟨r4, he5, h⟩ := ob h
    refine a_cVi iX8_heirIn_23 okX8_almanac inX8_almanac ⟨rfl, rfl⟩ (lm_s229 hM) (c_X8_almanac hM he5) rfl rfl (Nat.le_of_ble_eq_true rfl) ⟨Nat.le_refl 0, Nat.le_refl 0⟩ <| ?_
    obtain rfl := Option.some.inj h
    exact a_iret iX8_heirIn_26 rfl ⟨Nat.le_refl 0, Nat.le_refl 0⟩ ⟨rfl, rfl, rfl, rfl⟩
  · have h := oe hc2 h
    refine a_const iX8_heirIn_10 <| a_goto iX8_heirIn_11 <| ?_
    obtain rfl := Option.some.inj h
    exact a_iret iX8_heirIn_26 rfl ⟨Nat.le_refl 0, Nat.le_refl 0⟩ ⟨rfl, rfl, rfl, rfl⟩
def f_X8_whose (mi : Mi) (x1 : Int32) : Option (Int32) := (f_X8_in x1 0 240).bind (fun r1 => if r1 = 0 then (some (-1000000002)) else ((f_X8_isCounty mi).bind (fun r4 => if r4 = 0 then (some (-1000000003)) else ((f_X8_heirIn mi x1).bind (fun r7 => some r7)))))
set_option maxRecDepth 20000 in
set_option maxHeartbeats 4000000 in
theorem c_X8_whose {g : Gm} {V : Vw} {mi : Mi} {ml : Ml} {x1 : Int32} (hM : LayM V) {r : Int32} (h : f_X8_whose mi x1 = some r) : DoI g YX8_whose V [rf g 229, .int x1] mi ml r mi ml := by
  unfold f_X8_whose at h
  refine does_of (L := [some (rf g 229), some (.int x1)]) okX8_whose rfl (Nat.le_of_ble_eq_true rfl) rfl ?_
  show At g YX8_whose _ (qm g YX8_whose (pI V r mi ml)) V (0, 0) 0 _ [] mi ml
  refine a_iload iX8_whose_0 rfl <| a_const iX8_whose_1 <| a_const iX8_whose_2 <| ?_
  obtain ⟨r1, he2, h⟩ := ob h
  refine a_cSi iX8_whose_5 okX8_in stX8_in ⟨rfl, rfl⟩ (c_X8_in he2) rfl rfl (Nat.le_of_ble_eq_true rfl) ⟨Nat.le_refl 0, Nat.le_refl 0⟩ <| ?_
  refine a_if_ne iX8_whose_8 (fun hc3 => ?_) (fun hc3 => ?_)
  · have h := oe hc3 h
    refine a_aload iX8_whose_16 rfl <| ?_
    obtain ⟨r4, he5, h⟩ := ob h
    refine a_cVi iX8_whose_17 okX8_isCounty inX8_isCounty ⟨rfl, rfl⟩ (lm_s229 hM) (c_X8_isCounty hM he5) rfl rfl (Nat.le_of_ble_eq_true rfl) ⟨Nat.le_refl 0, Nat.le_refl 0⟩ <| ?_
    refine a_if_ne iX8_whose_20 (fun hc6 => ?_) (fun hc6 => ?_)
    · have h := oe hc6 h
      refine a_aload iX8_whose_28 rfl <| a_iload iX8_whose_29 rfl <| ?_
      obtain ⟨r7, he8, h⟩ := ob h
      refine a_cVi iX8_whose_30 okX8_heirIn inX8_heirIn ⟨rfl, rfl⟩ (lm_s229 hM) (c_X8_heirIn hM he8) rfl rfl (Nat.le_of_ble_eq_true rfl) ⟨Nat.le_refl 0, Nat.le_refl 0⟩ <| ?_
      obtain rfl := Option.some.inj h
      exact a_iret iX8_whose_33 rfl ⟨Nat.le_refl 0, Nat.le_refl 0⟩ ⟨rfl, rfl, rfl, rfl⟩
    · have h := ot hc6 h
      refine a_const iX8_whose_23 <| a_goto iX8_whose_25 <| ?_
      obtain rfl := Option.some.inj h
      exact a_iret iX8_whose_33 rfl ⟨Nat.le_refl 0, Nat.le_refl 0⟩ ⟨rfl, rfl, rfl, rfl⟩
  · have h := ot hc3 h
    refine a_const iX8_whose_11 <| a_goto iX8_whose_13 <| ?_
    obtain rfl := Option.some.inj h
    exact a_iret iX8_whose_33 rfl ⟨Nat.le_refl 0, Nat.le_refl 0⟩ ⟨rfl, rfl, rfl, rfl⟩
def lp_X8_gets_29 (mi : Mi) (v1 : Int32) (v2 : Int32) (K : Int32 → Int32 → Option (Int32)) : Nat → Int32 → Int32 → Option (Int32)
  | 0, _, _ => none
  | n + 1, v3, v4 => if v2 ≤ v4 then (K v3 v4) else ((f_X8_isCounty mi).bind (fun r8 => if r8 = 0 then (K v3 v4) else ((f_X8_heirIn mi v4).bind (fun r11 => if r11 = v1 then (lp_X8_gets_29 mi v1 v2 K n (v3 + (mi 229 21)) (v4 + 1)) else (lp_X8_gets_29 mi v1 v2 K n (v3 + 0) (v4 + 1))))))
def f_X8_gets (mi : Mi) (x1 x2 : Int32) : Option (Int32) := (f_X8_isHeir x1).bind (fun r1 => if r1 = 0 then (some (-1000000001)) else ((f_X8_in x2 0 240).bind (fun r4 => if r4 = 0 then (some (-1000000002)) else (lp_X8_gets_29 mi x1 x2 (fun v3_14 v4_14 => some v3_14) FU 0 0))))
set_option maxRecDepth 20000 in
set_option maxHeartbeats 4000000 in
theorem w_X8_gets_29 {g : Gm} {V : Vw} {E : Ex} {mi : Mi} {ml : Ml} {v1 v2 : Int32} (hM : LayM V) {K : Int32 → Int32 → Option (Int32)} {r : Int32} (hK : ∀ (v3 : Int32) (v4 : Int32), K v3 v4 = some r → At g YX8_gets E (qm g YX8_gets (pI V r mi ml)) V (0, 0) 69 [some (rf g 229), some (.int v1), some (.int v2), some (.int v3), some (.int v4)] [] mi ml) : ∀ (n : Nat) (v3 : Int32) (v4 : Int32), lp_X8_gets_29 mi v1 v2 K n v3 v4 = some r → At g YX8_gets E (qm g YX8_gets (pI V r mi ml)) V (0, 0) 29 [some (rf g 229), some (.int v1), some (.int v2), some (.int v3), some (.int v4)] [] mi ml := by
  intro n
  induction n with
  | zero => intro v3 v4 h; exact oz h
  | succ n ih =>
    intro v3 v4 h
    unfold lp_X8_gets_29 at h
    refine a_iload iX8_gets_29 rfl <| a_iload iX8_gets_31 rfl <| ?_
    refine a_icmp_ge iX8_gets_32 (fun hc7 => ?_) (fun hc7 => ?_)
    · have h := ot hc7 h
      exact a_sub (L' := [some (rf g 229), some (.int v1), some (.int v2), some (.int v3), some (.int v4)]) (by exact ⟨rfl, ⟨rfl, ⟨rfl, ⟨rfl, ⟨rfl, trivial⟩⟩⟩⟩⟩) (hK _ _ h)
    · have h := oe hc7 h
      refine a_aload iX8_gets_35 rfl <| ?_
      obtain ⟨r8, he9, h⟩ := ob h
      refine a_cVi iX8_gets_36 okX8_isCounty inX8_isCounty ⟨rfl, rfl⟩ (lm_s229 hM) (c_X8_isCounty hM he9) rfl rfl (Nat.le_of_ble_eq_true rfl) ⟨Nat.le_refl 0, Nat.le_refl 0⟩ <| ?_
      refine a_if_eq iX8_gets_39 (fun hc10 => ?_) (fun hc10 => ?_)
      · have h := ot hc10 h
        exact a_sub (L' := [some (rf g 229), some (.int v1), some (.int v2), some (.int v3), some (.int v4)]) (by exact ⟨rfl, ⟨rfl, ⟨rfl, ⟨rfl, ⟨rfl, trivial⟩⟩⟩⟩⟩) (hK _ _ h)
      · have h := oe hc10 h
        refine a_iload iX8_gets_42 rfl <| a_aload iX8_gets_43 rfl <| a_iload iX8_gets_44 rfl <| ?_
        obtain ⟨r11, he12, h⟩ := ob h
        refine a_cVi iX8_gets_46 okX8_heirIn inX8_heirIn ⟨rfl, rfl⟩ (lm_s229 hM) (c_X8_heirIn hM he12) rfl rfl (Nat.le_of_ble_eq_true rfl) ⟨Nat.le_refl 0, Nat.le_refl 0⟩ <| a_iload iX8_gets_49 rfl <| ?_
        refine a_icmp_ne iX8_gets_50 (fun hc13 => ?_) (fun hc13 => ?_)
        · have h := oe hc13 h
          refine a_const iX8_gets_60 <| a_iadd iX8_gets_61 <| a_istore iX8_gets_62 (by decide) rfl <| a_iinc iX8_gets_63 rfl (by decide) rfl <| a_goto iX8_gets_66 <| ?_
          exact a_sub (L' := [some (rf g 229), some (.int v1), some (.int v2), some (.int (v3 + 0)), some (.int (v4 + 1))]) (by exact ⟨rfl, ⟨rfl, ⟨rfl, ⟨rfl, ⟨rfl, trivial⟩⟩⟩⟩⟩) (ih _ _ h)
        · have h := ot hc13 h
          refine a_aload iX8_gets_53 rfl <| a_geti iX8_gets_54 (lm_s229 hM) rfl <| a_goto iX8_gets_57 <| a_iadd iX8_gets_61 <| a_istore iX8_gets_62 (by decide) rfl <| a_iinc iX8_gets_63 rfl (by decide) rfl <| a_goto iX8_gets_66 <| ?_
          exact a_sub (L' := [some (rf g 229), some (.int v1), some (.int v2), some (.int (v3 + (mi 229 21))), some (.int (v4 + 1))]) (by exact ⟨rfl, ⟨rfl, ⟨rfl, ⟨rfl, ⟨rfl, trivial⟩⟩⟩⟩⟩) (ih _ _ h)
set_option maxRecDepth 20000 in
set_option maxHeartbeats 4000000 in
theorem c_X8_gets {g : Gm} {V : Vw} {mi : Mi} {ml : Ml} {x1 x2 : Int32} (hM : LayM V) {r : Int32} (h : f_X8_gets mi x1 x2 = some r) : DoI g YX8_gets V [rf g 229, .int x1, .int x2] mi ml r mi ml := by
  unfold f_X8_gets at h
  refine does_of (L := [some (rf g 229), some (.int x1), some (.int x2), none, none]) okX8_gets rfl (Nat.le_of_ble_eq_true rfl) rfl ?_
  show At g YX8_gets _ (qm g YX8_gets (pI V r mi ml)) V (0, 0) 0 _ [] mi ml
  refine a_iload iX8_gets_0 rfl <| ?_
  obtain ⟨r1, he2, h⟩ := ob h
  refine a_cSi iX8_gets_1 okX8_isHeir stX8_isHeir ⟨rfl, rfl⟩ (c_X8_isHeir he2) rfl rfl (Nat.le_of_ble_eq_true rfl) ⟨Nat.le_refl 0, Nat.le_refl 0⟩ <| ?_
  refine a_if_ne iX8_gets_4 (fun hc3 => ?_) (fun hc3 => ?_)
  · have h := oe hc3 h
    refine a_iload iX8_gets_10 rfl <| a_const iX8_gets_11 <| a_const iX8_gets_12 <| ?_
    obtain ⟨r4, he5, h⟩ := ob h
    refine a_cSi iX8_gets_15 okX8_in stX8_in ⟨rfl, rfl⟩ (c_X8_in he5) rfl rfl (Nat.le_of_ble_eq_true rfl) ⟨Nat.le_refl 0, Nat.le_refl 0⟩ <| ?_
    refine a_if_ne iX8_gets_18 (fun hc6 => ?_) (fun hc6 => ?_)
    · have h := oe hc6 h
      refine a_const iX8_gets_24 <| a_istore iX8_gets_25 (by decide) rfl <| a_const iX8_gets_26 <| a_istore iX8_gets_27 (by decide) rfl <| ?_
      refine a_sub (L' := [some (rf g 229), some (.int x1), some (.int x2), some (.int 0), some (.int 0)]) (by exact ⟨rfl, ⟨rfl, ⟨rfl, ⟨rfl, ⟨rfl, trivial⟩⟩⟩⟩⟩) (w_X8_gets_29 hM (fun v3_14 v4_14 h => ?_) FU _ _ h)
      refine a_iload iX8_gets_69 rfl <| ?_
      obtain rfl := Option.some.inj h
      exact a_iret iX8_gets_70 rfl ⟨Nat.le_refl 0, Nat.le_refl 0⟩ ⟨rfl, rfl, rfl, rfl⟩
    · have h := ot hc6 h
      refine a_const iX8_gets_21 <| ?_
      obtain rfl := Option.some.inj h
      exact a_iret iX8_gets_23 rfl ⟨Nat.le_refl 0, Nat.le_refl 0⟩ ⟨rfl, rfl, rfl, rfl⟩
  · have h := ot hc3 h
    refine a_const iX8_gets_7 <| ?_
    obtain rfl := Option.some.inj h
    exact a_iret iX8_gets_9 rfl ⟨Nat.le_refl 0, Nat.le_refl 0⟩ ⟨rfl, rfl, rfl, rfl⟩
def lp_X8_comesTo_6 (mi : Mi) (v1 : Int32) (v2 : Int32) (v3 : Int32) (v4 : Int32) (K : Int32 → Int32 → Option (Int32)) : Nat → Int32 → Int32 → Option (Int32)
  | 0, _, _ => none
  | n + 1, v5, v6 => if v4 ≤ v6 then (K v5 v6) else (if inb v1 8 then if inb 0 121 then (f_X8_heirIn mi v6).bind (fun r4 => (f_X8_comes mi (mi 236 v1.toNatClampNeg) v5 ((mi 238 (0 : Int32).toNatClampNeg) + v6) r4).bind (fun r6 => lp_X8_comesTo_6 mi v1 v2 v3 v4 K n r6 (v6 + 1))) else none else none)
def f_X8_comesTo (mi : Mi) (x1 x2 x3 x4 : Int32) : Option (Int32) := lp_X8_comesTo_6 mi x1 x2 x3 x4 (fun v5_8 v6_8 => some v5_8) FU x2 x3
set_option maxRecDepth 20000 in
set_option maxHeartbeats 4000000 in
theorem w_X8_comesTo_6 {g : Gm} {V : Vw} {E : Ex} {mi : Mi} {ml : Ml} {v1 v2 v3 v4 : Int32} (hM : LayM V) {K : Int32 → Int32 → Option (Int32)} {r : Int32} (hK : ∀ (v5 : Int32) (v6 : Int32), K v5 v6 = some r → At g YX8_comesTo E (qm g YX8_comesTo (pI V r mi ml)) V (0, 0) 48 [some (rf g 229), some (.int v1), some (.int v2), some (.int v3), some (.int v4), some (.int v5), some (.int v6)] [] mi ml) : ∀ (n : Nat) (v5 : Int32) (v6 : Int32), lp_X8_comesTo_6 mi v1 v2 v3 v4 K n v5 v6 = some r → At g YX8_comesTo E (qm g YX8_comesTo (pI V r mi ml)) V (0, 0) 6 [some (rf g 229), some (.int v1), some (.int v2), some (.int v3), some (.int v4), some (.int v5), some (.int v6)] [] mi ml := by
  intro n
  induction n with
  | zero => intro v5 v6 h; exact oz h
  | succ n ih =>
    intro v5 v6 h
    unfold lp_X8_comesTo_6 at h
    refine a_iload iX8_comesTo_6 rfl <| a_iload iX8_comesTo_8 rfl <| ?_
    refine a_icmp_ge iX8_comesTo_10 (fun hc1 => ?_) (fun hc1 => ?_)
    · have h := ot hc1 h
      exact a_sub (L' := [some (rf g 229), some (.int v1), some (.int v2), some (.int v3), some (.int v4), some (.int v5), some (.int v6)]) (by exact ⟨rfl, ⟨rfl, ⟨rfl, ⟨rfl, ⟨rfl, ⟨rfl, ⟨rfl, trivial⟩⟩⟩⟩⟩⟩⟩) (hK _ _ h)
    · have h := oe hc1 h
      refine a_aload iX8_comesTo_13 rfl <| a_aload iX8_comesTo_14 rfl <| a_getr iX8_comesTo_15 (lm_s229 hM) rfl (lm_r229_25 hM) <| a_iload iX8_comesTo_18 rfl <| ?_
      obtain ⟨hg2, h⟩ := og h
      refine a_iald iX8_comesTo_19 (lm_s236 hM) (inb_vp hg2) <| a_iload iX8_comesTo_20 rfl <| a_aload iX8_comesTo_22 rfl <| a_getr iX8_comesTo_23 (lm_s229 hM) rfl (lm_r229_27 hM) <| a_const iX8_comesTo_26 <| ?_
      obtain ⟨hg3, h⟩ := og h
      refine a_iald iX8_comesTo_27 (lm_s238 hM) (inb_vp hg3) <| a_iload iX8_comesTo_28 rfl <| a_iadd iX8_comesTo_30 <| a_aload iX8_comesTo_31 rfl <| a_iload iX8_comesTo_32 rfl <| ?_
      obtain ⟨r4, he5, h⟩ := ob h
      refine a_cVi iX8_comesTo_34 okX8_heirIn inX8_heirIn ⟨rfl, rfl⟩ (lm_s229 hM) (c_X8_heirIn hM he5) rfl rfl (Nat.le_of_ble_eq_true rfl) ⟨Nat.le_refl 0, Nat.le_refl 0⟩ <| ?_
      obtain ⟨r6, he7, h⟩ := ob h
      refine a_cVi iX8_comesTo_37 okX8_comes inX8_comes ⟨rfl, rfl⟩ (lm_s229 hM) (c_X8_comes hM he7) rfl rfl (Nat.le_of_ble_eq_true rfl) ⟨Nat.le_refl 0, Nat.le_refl 0⟩ <| a_istore iX8_comesTo_40 (by decide) rfl <| a_iinc iX8_comesTo_42 rfl (by decide) rfl <| a_goto iX8_comesTo_45 <| ?_
      exact a_sub (L' := [some (rf g 229), some (.int v1), some (.int v2), some (.int v3), some (.int v4), some (.int r6), some (.int (v6 + 1))]) (by exact ⟨rfl, ⟨rfl, ⟨rfl, ⟨rfl, ⟨rfl, ⟨rfl, ⟨rfl, trivial⟩⟩⟩⟩⟩⟩⟩) (ih _ _ h)
set_option maxRecDepth 20000 in
set_option maxHeartbeats 4000000 in
theorem c_X8_comesTo {g : Gm} {V : Vw} {mi : Mi} {ml : Ml} {x1 x2 x3 x4 : Int32} (hM : LayM V) {r : Int32} (h : f_X8_comesTo mi x1 x2 x3 x4 = some r) : DoI g YX8_comesTo V [rf g 229, .int x1, .int x2, .int x3, .int x4] mi ml r mi ml := by
  unfold f_X8_comesTo at h
  refine does_of (L := [some (rf g 229), some (.int x1), some (.int x2), some (.int x3), some (.int x4), none, none]) okX8_comesTo rfl (Nat.le_of_ble_eq_true rfl) rfl ?_
  show At g YX8_comesTo _ (qm g YX8_comesTo (pI V r mi ml)) V (0, 0) 0 _ [] mi ml
  refine a_iload iX8_comesTo_0 rfl <| a_istore iX8_comesTo_1 (by decide) rfl <| a_iload iX8_comesTo_3 rfl <| a_istore iX8_comesTo_4 (by decide) rfl <| ?_
  refine a_sub (L' := [some (rf g 229), some (.int x1), some (.int x2), some (.int x3), some (.int x4), some (.int x2), some (.int x3)]) (by exact ⟨rfl, ⟨rfl, ⟨rfl, ⟨rfl, ⟨rfl, ⟨rfl, ⟨rfl, trivial⟩⟩⟩⟩⟩⟩⟩) (w_X8_comesTo_6 hM (fun v5_8 v6_8 h => ?_) FU _ _ h)
  refine a_iload iX8_comesTo_48 rfl <| ?_
  obtain rfl := Option.some.inj h
  exact a_iret iX8_comesTo_50 rfl ⟨Nat.le_refl 0, Nat.le_refl 0⟩ ⟨rfl, rfl, rfl, rfl⟩
def f_X8_willBe (mi : Mi) (x1 x2 : Int32) : Option (Int32) := (f_X8_isThing mi x1).bind (fun r1 => if r1 = 0 then (some (-1000000001)) else ((f_X8_in x2 0 240).bind (fun r4 => if r4 = 0 then (some (-1000000002)) else (if inb (8 + x1) 121 then (f_X8_comesTo mi x1 (mi 238 (8 + x1).toNatClampNeg) 0 x2).bind (fun r8 => some r8) else none))))
set_option maxRecDepth 20000 in
set_option maxHeartbeats 4000000 in
theorem c_X8_willBe {g : Gm} {V : Vw} {mi : Mi} {ml : Ml} {x1 x2 : Int32} (hM : LayM V) {r : Int32} (h : f_X8_willBe mi x1 x2 = some r) : DoI g YX8_willBe V [rf g 229, .int x1, .int x2] mi ml r mi ml := by
  unfold f_X8_willBe at h
  refine does_of (L := [some (rf g 229), some (.int x1), some (.int x2)]) okX8_willBe rfl (Nat.le_of_ble_eq_true rfl) rfl ?_
  show At g YX8_willBe _ (qm g YX8_willBe (pI V r mi ml)) V (0, 0) 0 _ [] mi ml
  refine a_aload iX8_willBe_0 rfl <| a_iload iX8_willBe_1 rfl <| ?_
  obtain ⟨r1, he2, h⟩ := ob h
  refine a_cVi iX8_willBe_2 okX8_isThing inX8_isThing ⟨rfl, rfl⟩ (lm_s229 hM) (c_X8_isThing hM he2) rfl rfl (Nat.le_of_ble_eq_true rfl) ⟨Nat.le_refl 0, Nat.le_refl 0⟩ <| ?_
  refine a_if_ne iX8_willBe_5 (fun hc3 => ?_) (fun hc3 => ?_)
  · have h := oe hc3 h
    refine a_iload iX8_willBe_13 rfl <| a_const iX8_willBe_14 <| a_const iX8_willBe_15 <| ?_
    obtain ⟨r4, he5, h⟩ := ob h
    refine a_cSi iX8_willBe_18 okX8_in stX8_in ⟨rfl, rfl⟩ (c_X8_in he5) rfl rfl (Nat.le_of_ble_eq_true rfl) ⟨Nat.le_refl 0, Nat.le_refl 0⟩ <| ?_
    refine a_if_ne iX8_willBe_21 (fun hc6 => ?_) (fun hc6 => ?_)
    · have h := oe hc6 h
      refine a_aload iX8_willBe_29 rfl <| a_iload iX8_willBe_30 rfl <| a_aload iX8_willBe_31 rfl <| a_getr iX8_willBe_32 (lm_s229 hM) rfl (lm_r229_27 hM) <| a_const iX8_willBe_35 <| a_iload iX8_willBe_37 rfl <| a_iadd iX8_willBe_38 <| ?_
      obtain ⟨hg7, h⟩ := og h
      refine a_iald iX8_willBe_39 (lm_s238 hM) (inb_vp hg7) <| a_const iX8_willBe_40 <| a_iload iX8_willBe_41 rfl <| ?_
      obtain ⟨r8, he9, h⟩ := ob h
      refine a_cVi iX8_willBe_42 okX8_comesTo inX8_comesTo ⟨rfl, rfl⟩ (lm_s229 hM) (c_X8_comesTo hM he9) rfl rfl (Nat.le_of_ble_eq_true rfl) ⟨Nat.le_refl 0, Nat.le_refl 0⟩ <| ?_
      obtain rfl := Option.some.inj h
      exact a_iret iX8_willBe_45 rfl ⟨Nat.le_refl 0, Nat.le_refl 0⟩ ⟨rfl, rfl, rfl, rfl⟩
    · have h := ot hc6 h
      refine a_const iX8_willBe_24 <| a_goto iX8_willBe_26 <| ?_
      obtain rfl := Option.some.inj h
      exact a_iret iX8_willBe_45 rfl ⟨Nat.le_refl 0, Nat.le_refl 0⟩ ⟨rfl, rfl, rfl, rfl⟩
  · have h := ot hc3 h
    refine a_const iX8_willBe_8 <| a_goto iX8_willBe_10 <| ?_
    obtain rfl := Option.some.inj h
    exact a_iret iX8_willBe_45 rfl ⟨Nat.le_refl 0, Nat.le_refl 0⟩ ⟨rfl, rfl, rfl, rfl⟩
def lp_X8_next_22 (mi : Mi) (v1 : Int32) (K : Int32 → Option (Int32)) : Nat → Int32 → Option (Int32)
  | 0, _ => none
  | n + 1, v2 => if 48 < v2 then (K v2) else ((f_X8_heirIn mi v2).bind (fun r8 => if r8 = v1 then (some v2) else (lp_X8_next_22 mi v1 K n (v2 + 1))))
def f_X8_next (mi : Mi) (x1 : Int32) : Option (Int32) := (f_X8_isHeir x1).bind (fun r1 => if r1 = 0 then (some (-1000000001)) else ((f_X8_isCounty mi).bind (fun r4 => if r4 = 0 then (some (-1000000003)) else (lp_X8_next_22 mi x1 (fun v2_11 => some (-1)) FU 0))))
set_option maxRecDepth 20000 in
set_option maxHeartbeats 4000000 in
theorem w_X8_next_22 {g : Gm} {V : Vw} {E : Ex} {mi : Mi} {ml : Ml} {v1 : Int32} (hM : LayM V) {K : Int32 → Option (Int32)} {r : Int32} (hK : ∀ (v2 : Int32), K v2 = some r → At g YX8_next E (qm g YX8_next (pI V r mi ml)) V (0, 0) 45 [some (rf g 229), some (.int v1), some (.int v2)] [] mi ml) : ∀ (n : Nat) (v2 : Int32), lp_X8_next_22 mi v1 K n v2 = some r → At g YX8_next E (qm g YX8_next (pI V r mi ml)) V (0, 0) 22 [some (rf g 229), some (.int v1), some (.int v2)] [] mi ml := by
  intro n
  induction n with
  | zero => intro v2 h; exact oz h
  | succ n ih =>
    intro v2 h
    unfold lp_X8_next_22 at h
    refine a_iload iX8_next_22 rfl <| a_const iX8_next_23 <| ?_
    refine a_icmp_gt iX8_next_25 (fun hc7 => ?_) (fun hc7 => ?_)
    · have h := ot hc7 h
      exact a_sub (L' := [some (rf g 229), some (.int v1), some (.int v2)]) (by exact ⟨rfl, ⟨rfl, ⟨rfl, trivial⟩⟩⟩) (hK _ h)
    · have h := oe hc7 h
      refine a_aload iX8_next_28 rfl <| a_iload iX8_next_29 rfl <| ?_
      obtain ⟨r8, he9, h⟩ := ob h
      refine a_cVi iX8_next_30 okX8_heirIn inX8_heirIn ⟨rfl, rfl⟩ (lm_s229 hM) (c_X8_heirIn hM he9) rfl rfl (Nat.le_of_ble_eq_true rfl) ⟨Nat.le_refl 0, Nat.le_refl 0⟩ <| a_iload iX8_next_33 rfl <| ?_
      refine a_icmp_ne iX8_next_34 (fun hc10 => ?_) (fun hc10 => ?_)
      · have h := oe hc10 h
        refine a_iinc iX8_next_39 rfl (by decide) rfl <| a_goto iX8_next_42 <| ?_
        exact a_sub (L' := [some (rf g 229), some (.int v1), some (.int (v2 + 1))]) (by exact ⟨rfl, ⟨rfl, ⟨rfl, trivial⟩⟩⟩) (ih _ h)
      · have h := ot hc10 h
        refine a_iload iX8_next_37 rfl <| ?_
        obtain rfl := Option.some.inj h
        exact a_iret iX8_next_38 rfl ⟨Nat.le_refl 0, Nat.le_refl 0⟩ ⟨rfl, rfl, rfl, rfl⟩
set_option maxRecDepth 20000 in
set_option maxHeartbeats 4000000 in
theorem c_X8_next {g : Gm} {V : Vw} {mi : Mi} {ml : Ml} {x1 : Int32} (hM : LayM V) {r : Int32} (h : f_X8_next mi x1 = some r) : DoI g YX8_next V [rf g 229, .int x1] mi ml r mi ml := by
  unfold f_X8_next at h
  refine does_of (L := [some (rf g 229), some (.int x1), none]) okX8_next rfl (Nat.le_of_ble_eq_true rfl) rfl ?_
  show At g YX8_next _ (qm g YX8_next (pI V r mi ml)) V (0, 0) 0 _ [] mi ml
  refine a_iload iX8_next_0 rfl <| ?_
  obtain ⟨r1, he2, h⟩ := ob h
  refine a_cSi iX8_next_1 okX8_isHeir stX8_isHeir ⟨rfl, rfl⟩ (c_X8_isHeir he2) rfl rfl (Nat.le_of_ble_eq_true rfl) ⟨Nat.le_refl 0, Nat.le_refl 0⟩ <| ?_
  refine a_if_ne iX8_next_4 (fun hc3 => ?_) (fun hc3 => ?_)
  · have h := oe hc3 h
    refine a_aload iX8_next_10 rfl <| ?_
    obtain ⟨r4, he5, h⟩ := ob h
    refine a_cVi iX8_next_11 okX8_isCounty inX8_isCounty ⟨rfl, rfl⟩ (lm_s229 hM) (c_X8_isCounty hM he5) rfl rfl (Nat.le_of_ble_eq_true rfl) ⟨Nat.le_refl 0, Nat.le_refl 0⟩ <| ?_
    refine a_if_ne iX8_next_14 (fun hc6 => ?_) (fun hc6 => ?_)
    · have h := oe hc6 h
      refine a_const iX8_next_20 <| a_istore iX8_next_21 (by decide) rfl <| ?_
      refine a_sub (L' := [some (rf g 229), some (.int x1), some (.int 0)]) (by exact ⟨rfl, ⟨rfl, ⟨rfl, trivial⟩⟩⟩) (w_X8_next_22 hM (fun v2_11 h => ?_) FU _ h)
      refine a_const iX8_next_45 <| ?_
      obtain rfl := Option.some.inj h
      exact a_iret iX8_next_46 rfl ⟨Nat.le_refl 0, Nat.le_refl 0⟩ ⟨rfl, rfl, rfl, rfl⟩
    · have h := ot hc6 h
      refine a_const iX8_next_17 <| ?_
      obtain rfl := Option.some.inj h
      exact a_iret iX8_next_19 rfl ⟨Nat.le_refl 0, Nat.le_refl 0⟩ ⟨rfl, rfl, rfl, rfl⟩
  · have h := ot hc3 h
    refine a_const iX8_next_7 <| ?_
    obtain rfl := Option.some.inj h
    exact a_iret iX8_next_9 rfl ⟨Nat.le_refl 0, Nat.le_refl 0⟩ ⟨rfl, rfl, rfl, rfl⟩
def lp_X8_leastFor_3 (mi : Mi) (v1 : Int32) (v2 : Int32) (v3 : Int32) (v4 : Int32) (K : Int32 → Option (Int32)) : Nat → Int32 → Option (Int32)
  | 0, _ => none
  | n + 1, v5 => if 9 < v5 then (K v5) else ((f_X8_comesTo mi v1 v5 v3 v4).bind (fun r2 => if r2 = v2 then (some v5) else (lp_X8_leastFor_3 mi v1 v2 v3 v4 K n (v5 + 1))))
def f_X8_leastFor (mi : Mi) (x1 x2 x3 x4 : Int32) : Option (Int32) := lp_X8_leastFor_3 mi x1 x2 x3 x4 (fun v5_5 => some (-1)) FU 0
set_option maxRecDepth 20000 in
set_option maxHeartbeats 4000000 in
theorem w_X8_leastFor_3 {g : Gm} {V : Vw} {E : Ex} {mi : Mi} {ml : Ml} {v1 v2 v3 v4 : Int32} (hM : LayM V) {K : Int32 → Option (Int32)} {r : Int32} (hK : ∀ (v5 : Int32), K v5 = some r → At g YX8_leastFor E (qm g YX8_leastFor (pI V r mi ml)) V (0, 0) 33 [some (rf g 229), some (.int v1), some (.int v2), some (.int v3), some (.int v4), some (.int v5)] [] mi ml) : ∀ (n : Nat) (v5 : Int32), lp_X8_leastFor_3 mi v1 v2 v3 v4 K n v5 = some r → At g YX8_leastFor E (qm g YX8_leastFor (pI V r mi ml)) V (0, 0) 3 [some (rf g 229), some (.int v1), some (.int v2), some (.int v3), some (.int v4), some (.int v5)] [] mi ml := by
  intro n
  induction n with
  | zero => intro v5 h; exact oz h
  | succ n ih =>
    intro v5 h
    unfold lp_X8_leastFor_3 at h
    refine a_iload iX8_leastFor_3 rfl <| a_const iX8_leastFor_5 <| ?_
    refine a_icmp_gt iX8_leastFor_7 (fun hc1 => ?_) (fun hc1 => ?_)
    · have h := ot hc1 h
      exact a_sub (L' := [some (rf g 229), some (.int v1), some (.int v2), some (.int v3), some (.int v4), some (.int v5)]) (by exact ⟨rfl, ⟨rfl, ⟨rfl, ⟨rfl, ⟨rfl, ⟨rfl, trivial⟩⟩⟩⟩⟩⟩) (hK _ h)
    · have h := oe hc1 h
      refine a_aload iX8_leastFor_10 rfl <| a_iload iX8_leastFor_11 rfl <| a_iload iX8_leastFor_12 rfl <| a_iload iX8_leastFor_14 rfl <| a_iload iX8_leastFor_15 rfl <| ?_
      obtain ⟨r2, he3, h⟩ := ob h
      refine a_cVi iX8_leastFor_17 okX8_comesTo inX8_comesTo ⟨rfl, rfl⟩ (lm_s229 hM) (c_X8_comesTo hM he3) rfl rfl (Nat.le_of_ble_eq_true rfl) ⟨Nat.le_refl 0, Nat.le_refl 0⟩ <| a_iload iX8_leastFor_20 rfl <| ?_
      refine a_icmp_ne iX8_leastFor_21 (fun hc4 => ?_) (fun hc4 => ?_)
      · have h := oe hc4 h
        refine a_iinc iX8_leastFor_27 rfl (by decide) rfl <| a_goto iX8_leastFor_30 <| ?_
        exact a_sub (L' := [some (rf g 229), some (.int v1), some (.int v2), some (.int v3), some (.int v4), some (.int (v5 + 1))]) (by exact ⟨rfl, ⟨rfl, ⟨rfl, ⟨rfl, ⟨rfl, ⟨rfl, trivial⟩⟩⟩⟩⟩⟩) (ih _ h)
      · have h := ot hc4 h
        refine a_iload iX8_leastFor_24 rfl <| ?_
        obtain rfl := Option.some.inj h
        exact a_iret iX8_leastFor_26 rfl ⟨Nat.le_refl 0, Nat.le_refl 0⟩ ⟨rfl, rfl, rfl, rfl⟩
set_option maxRecDepth 20000 in
set_option maxHeartbeats 4000000 in
theorem c_X8_leastFor {g : Gm} {V : Vw} {mi : Mi} {ml : Ml} {x1 x2 x3 x4 : Int32} (hM : LayM V) {r : Int32} (h : f_X8_leastFor mi x1 x2 x3 x4 = some r) : DoI g YX8_leastFor V [rf g 229, .int x1, .int x2, .int x3, .int x4] mi ml r mi ml := by
  unfold f_X8_leastFor at h
  refine does_of (L := [some (rf g 229), some (.int x1), some (.int x2), some (.int x3), some (.int x4), none]) okX8_leastFor rfl (Nat.le_of_ble_eq_true rfl) rfl ?_
  show At g YX8_leastFor _ (qm g YX8_leastFor (pI V r mi ml)) V (0, 0) 0 _ [] mi ml
  refine a_const iX8_leastFor_0 <| a_istore iX8_leastFor_1 (by decide) rfl <| ?_
  refine a_sub (L' := [some (rf g 229), some (.int x1), some (.int x2), some (.int x3), some (.int x4), some (.int 0)]) (by exact ⟨rfl, ⟨rfl, ⟨rfl, ⟨rfl, ⟨rfl, ⟨rfl, trivial⟩⟩⟩⟩⟩⟩) (w_X8_leastFor_3 hM (fun v5_5 h => ?_) FU _ h)
  refine a_const iX8_leastFor_33 <| ?_
  obtain rfl := Option.some.inj h
  exact a_iret iX8_leastFor_34 rfl ⟨Nat.le_refl 0, Nat.le_refl 0⟩ ⟨rfl, rfl, rfl, rfl⟩
def lp_X8_keepSo_58 (mi : Mi) (v1 : Int32) (v2 : Int32) (v3 : Int32) (v4 : Int32) (v5 : Int32) (K : Int32 → Int32 → Option (Int32)) : Nat → Int32 → Int32 → Option (Int32)
  | 0, _, _ => none
  | n + 1, v6, v7 => if v7 < 0 then (K v6 v7) else ((f_X8_heirIn mi v7).bind (fun r17 => if r17 = v1 then ((f_X8_leastFor mi v2 v3 v7 v4).bind (fun r20 => if r20 = (-1) then (lp_X8_keepSo_58 mi v1 v2 v3 v4 v5 K n v6 (v7 + (-1))) else (lp_X8_keepSo_58 mi v1 v2 v3 v4 v5 K n v7 (v7 + (-1))))) else (K v6 v7)))
def f_X8_keepSo (mi : Mi) (x1 x2 x3 x4 x5 : Int32) : Option (Int32) := (f_X8_isHeir x1).bind (fun r1 => if r1 = 0 then (some (-1000000001)) else ((f_X8_isThing mi x2).bind (fun r4 => if r4 = 0 then (some (-1000000001)) else ((f_X8_isValue x3).bind (fun r7 => if r7 = 0 then (some (-1000000002)) else ((f_X8_in x4 1 48).bind (fun r10 => if r10 = 0 then (some (-1000000002)) else ((f_X8_in x5 0 1).bind (fun r13 => if r13 = 0 then (some (-1000000002)) else (lp_X8_keepSo_58 mi x1 x2 x3 x4 x5 (fun v6_23 v7_23 => if v6_23 = (-1) then (some (-1)) else (if x5 = 0 then (some v6_23) else ((f_X8_leastFor mi x2 x3 v6_23 x4).bind (fun r26 => some r26)))) FU (-1) (x4 - 1)))))))))))
set_option maxRecDepth 20000 in
set_option maxHeartbeats 4000000 in
theorem w_X8_keepSo_58 {g : Gm} {V : Vw} {E : Ex} {mi : Mi} {ml : Ml} {v1 v2 v3 v4 v5 : Int32} (hM : LayM V) {K : Int32 → Int32 → Option (Int32)} {r : Int32} (hK : ∀ (v6 : Int32) (v7 : Int32), K v6 v7 = some r → At g YX8_keepSo E (qm g YX8_keepSo (pI V r mi ml)) V (0, 0) 102 [some (rf g 229), some (.int v1), some (.int v2), some (.int v3), some (.int v4), some (.int v5), some (.int v6), some (.int v7)] [] mi ml) : ∀ (n : Nat) (v6 : Int32) (v7 : Int32), lp_X8_keepSo_58 mi v1 v2 v3 v4 v5 K n v6 v7 = some r → At g YX8_keepSo E (qm g YX8_keepSo (pI V r mi ml)) V (0, 0) 58 [some (rf g 229), some (.int v1), some (.int v2), some (.int v3), some (.int v4), some (.int v5), some (.int v6), some (.int v7)] [] mi ml := by
  intro n
  induction n with
  | zero => intro v6 v7 h; exact oz h
  | succ n ih =>
    intro v6 v7 h
    unfold lp_X8_keepSo_58 at h
    refine a_iload iX8_keepSo_58 rfl <| ?_
    refine a_if_lt iX8_keepSo_60 (fun hc16 => ?_) (fun hc16 => ?_)
    · have h := ot hc16 h
      exact a_sub (L' := [some (rf g 229), some (.int v1), some (.int v2), some (.int v3), some (.int v4), some (.int v5), some (.int v6), some (.int v7)]) (by exact ⟨rfl, ⟨rfl, ⟨rfl, ⟨rfl, ⟨rfl, ⟨rfl, ⟨rfl, ⟨rfl, trivial⟩⟩⟩⟩⟩⟩⟩⟩) (hK _ _ h)
    · have h := oe hc16 h
      refine a_aload iX8_keepSo_63 rfl <| a_iload iX8_keepSo_64 rfl <| ?_
      obtain ⟨r17, he18, h⟩ := ob h
      refine a_cVi iX8_keepSo_66 okX8_heirIn inX8_heirIn ⟨rfl, rfl⟩ (lm_s229 hM) (c_X8_heirIn hM he18) rfl rfl (Nat.le_of_ble_eq_true rfl) ⟨Nat.le_refl 0, Nat.le_refl 0⟩ <| a_iload iX8_keepSo_69 rfl <| ?_
      refine a_icmp_ne iX8_keepSo_70 (fun hc19 => ?_) (fun hc19 => ?_)
      · have h := oe hc19 h
        exact a_sub (L' := [some (rf g 229), some (.int v1), some (.int v2), some (.int v3), some (.int v4), some (.int v5), some (.int v6), some (.int v7)]) (by exact ⟨rfl, ⟨rfl, ⟨rfl, ⟨rfl, ⟨rfl, ⟨rfl, ⟨rfl, ⟨rfl, trivial⟩⟩⟩⟩⟩⟩⟩⟩) (hK _ _ h)
      · have h := ot hc19 h
        refine a_aload iX8_keepSo_73 rfl <| a_iload iX8_keepSo_74 rfl <| a_iload iX8_keepSo_75 rfl <| a_iload iX8_keepSo_76 rfl <| a_iload iX8_keepSo_78 rfl <| ?_
        obtain ⟨r20, he21, h⟩ := ob h
        refine a_cVi iX8_keepSo_80 okX8_leastFor inX8_leastFor ⟨rfl, rfl⟩ (lm_s229 hM) (c_X8_leastFor hM he21) rfl rfl (Nat.le_of_ble_eq_true rfl) ⟨Nat.le_refl 0, Nat.le_refl 0⟩ <| a_const iX8_keepSo_83 <| ?_
        refine a_icmp_eq iX8_keepSo_84 (fun hc22 => ?_) (fun hc22 => ?_)
        · have h := ot hc22 h
          refine a_iload iX8_keepSo_92 rfl <| a_istore iX8_keepSo_94 (by decide) rfl <| a_iinc iX8_keepSo_96 rfl (by decide) rfl <| a_goto iX8_keepSo_99 <| ?_
          exact a_sub (L' := [some (rf g 229), some (.int v1), some (.int v2), some (.int v3), some (.int v4), some (.int v5), some (.int v6), some (.int (v7 + (-1)))]) (by exact ⟨rfl, ⟨rfl, ⟨rfl, ⟨rfl, ⟨rfl, ⟨rfl, ⟨rfl, ⟨rfl, trivial⟩⟩⟩⟩⟩⟩⟩⟩) (ih _ _ h)
        · have h := oe hc22 h
          refine a_iload iX8_keepSo_87 rfl <| a_goto iX8_keepSo_89 <| a_istore iX8_keepSo_94 (by decide) rfl <| a_iinc iX8_keepSo_96 rfl (by decide) rfl <| a_goto iX8_keepSo_99 <| ?_
          exact a_sub (L' := [some (rf g 229), some (.int v1), some (.int v2), some (.int v3), some (.int v4), some (.int v5), some (.int v7), some (.int (v7 + (-1)))]) (by exact ⟨rfl, ⟨rfl, ⟨rfl, ⟨rfl, ⟨rfl, ⟨rfl, ⟨rfl, ⟨rfl, trivial⟩⟩⟩⟩⟩⟩⟩⟩) (ih _ _ h)
set_option maxRecDepth 20000 in
set_option maxHeartbeats 4000000 in
theorem c_X8_keepSo {g : Gm} {V : Vw} {mi : Mi} {ml : Ml} {x1 x2 x3 x4 x5 : Int32} (hM : LayM V) {r : Int32} (h : f_X8_keepSo mi x1 x2 x3 x4 x5 = some r) : DoI g YX8_keepSo V [rf g 229, .int x1, .int x2, .int x3, .int x4, .int x5] mi ml r mi ml := by
  unfold f_X8_keepSo at h
  refine does_of (L := [some (rf g 229), some (.int x1), some (.int x2), some (.int x3), some (.int x4), some (.int x5), none, none]) okX8_keepSo rfl (Nat.le_of_ble_eq_true rfl) rfl ?_
  show At g YX8_keepSo _ (qm g YX8_keepSo (pI V r mi ml)) V (0, 0) 0 _ [] mi ml
  refine a_iload iX8_keepSo_0 rfl <| ?_
  obtain ⟨r1, he2, h⟩ := ob h
  refine a_cSi iX8_keepSo_1 okX8_isHeir stX8_isHeir ⟨rfl, rfl⟩ (c_X8_isHeir he2) rfl rfl (Nat.le_of_ble_eq_true rfl) ⟨Nat.le_refl 0, Nat.le_refl 0⟩ <| ?_
  refine a_if_eq iX8_keepSo_4 (fun hc3 => ?_) (fun hc3 => ?_)
  · have h := ot hc3 h
    refine a_const iX8_keepSo_15 <| ?_
    obtain rfl := Option.some.inj h
    exact a_iret iX8_keepSo_17 rfl ⟨Nat.le_refl 0, Nat.le_refl 0⟩ ⟨rfl, rfl, rfl, rfl⟩
  · have h := oe hc3 h
    refine a_aload iX8_keepSo_7 rfl <| a_iload iX8_keepSo_8 rfl <| ?_
    obtain ⟨r4, he5, h⟩ := ob h
    refine a_cVi iX8_keepSo_9 okX8_isThing inX8_isThing ⟨rfl, rfl⟩ (lm_s229 hM) (c_X8_isThing hM he5) rfl rfl (Nat.le_of_ble_eq_true rfl) ⟨Nat.le_refl 0, Nat.le_refl 0⟩ <| ?_
    refine a_if_ne iX8_keepSo_12 (fun hc6 => ?_) (fun hc6 => ?_)
    · have h := oe hc6 h
      refine a_iload iX8_keepSo_18 rfl <| ?_
      obtain ⟨r7, he8, h⟩ := ob h
      refine a_cSi iX8_keepSo_19 okX8_isValue stX8_isValue ⟨rfl, rfl⟩ (c_X8_isValue he8) rfl rfl (Nat.le_of_ble_eq_true rfl) ⟨Nat.le_refl 0, Nat.le_refl 0⟩ <| ?_
      refine a_if_eq iX8_keepSo_22 (fun hc9 => ?_) (fun hc9 => ?_)
      · have h := ot hc9 h
        refine a_const iX8_keepSo_46 <| ?_
        obtain rfl := Option.some.inj h
        exact a_iret iX8_keepSo_48 rfl ⟨Nat.le_refl 0, Nat.le_refl 0⟩ ⟨rfl, rfl, rfl, rfl⟩
      · have h := oe hc9 h
        refine a_iload iX8_keepSo_25 rfl <| a_const iX8_keepSo_27 <| a_const iX8_keepSo_28 <| ?_
        obtain ⟨r10, he11, h⟩ := ob h
        refine a_cSi iX8_keepSo_30 okX8_in stX8_in ⟨rfl, rfl⟩ (c_X8_in he11) rfl rfl (Nat.le_of_ble_eq_true rfl) ⟨Nat.le_refl 0, Nat.le_refl 0⟩ <| ?_
        refine a_if_eq iX8_keepSo_33 (fun hc12 => ?_) (fun hc12 => ?_)
        · have h := ot hc12 h
          refine a_const iX8_keepSo_46 <| ?_
          obtain rfl := Option.some.inj h
          exact a_iret iX8_keepSo_48 rfl ⟨Nat.le_refl 0, Nat.le_refl 0⟩ ⟨rfl, rfl, rfl, rfl⟩
        · have h := oe hc12 h
          refine a_iload iX8_keepSo_36 rfl <| a_const iX8_keepSo_38 <| a_const iX8_keepSo_39 <| ?_
          obtain ⟨r13, he14, h⟩ := ob h
          refine a_cSi iX8_keepSo_40 okX8_in stX8_in ⟨rfl, rfl⟩ (c_X8_in he14) rfl rfl (Nat.le_of_ble_eq_true rfl) ⟨Nat.le_refl 0, Nat.le_refl 0⟩ <| ?_
          refine a_if_ne iX8_keepSo_43 (fun hc15 => ?_) (fun hc15 => ?_)
          · have h := oe hc15 h
            refine a_const iX8_keepSo_49 <| a_istore iX8_keepSo_50 (by decide) rfl <| a_iload iX8_keepSo_52 rfl <| a_const iX8_keepSo_54 <| a_isub iX8_keepSo_55 <| a_istore iX8_keepSo_56 (by decide) rfl <| ?_
            refine a_sub (L' := [some (rf g 229), some (.int x1), some (.int x2), some (.int x3), some (.int x4), some (.int x5), some (.int (-1)), some (.int (x4 - 1))]) (by exact ⟨rfl, ⟨rfl, ⟨rfl, ⟨rfl, ⟨rfl, ⟨rfl, ⟨rfl, ⟨rfl, trivial⟩⟩⟩⟩⟩⟩⟩⟩) (w_X8_keepSo_58 hM (fun v6_23 v7_23 h => ?_) FU _ _ h)
            refine a_iload iX8_keepSo_102 rfl <| a_const iX8_keepSo_104 <| ?_
            refine a_icmp_ne iX8_keepSo_105 (fun hc24 => ?_) (fun hc24 => ?_)
            · have h := oe hc24 h
              refine a_iload iX8_keepSo_112 rfl <| ?_
              refine a_if_ne iX8_keepSo_114 (fun hc25 => ?_) (fun hc25 => ?_)
              · have h := oe hc25 h
                refine a_aload iX8_keepSo_122 rfl <| a_iload iX8_keepSo_123 rfl <| a_iload iX8_keepSo_124 rfl <| a_iload iX8_keepSo_125 rfl <| a_iload iX8_keepSo_127 rfl <| ?_
                obtain ⟨r26, he27, h⟩ := ob h
                refine a_cVi iX8_keepSo_129 okX8_leastFor inX8_leastFor ⟨rfl, rfl⟩ (lm_s229 hM) (c_X8_leastFor hM he27) rfl rfl (Nat.le_of_ble_eq_true rfl) ⟨Nat.le_refl 0, Nat.le_refl 0⟩ <| ?_
                obtain rfl := Option.some.inj h
                exact a_iret iX8_keepSo_132 rfl ⟨Nat.le_refl 0, Nat.le_refl 0⟩ ⟨rfl, rfl, rfl, rfl⟩
              · have h := ot hc25 h
                refine a_iload iX8_keepSo_117 rfl <| a_goto iX8_keepSo_119 <| ?_
                obtain rfl := Option.some.inj h
                exact a_iret iX8_keepSo_132 rfl ⟨Nat.le_refl 0, Nat.le_refl 0⟩ ⟨rfl, rfl, rfl, rfl⟩
            · have h := ot hc24 h
              refine a_const iX8_keepSo_108 <| a_goto iX8_keepSo_109 <| ?_
              obtain rfl := Option.some.inj h
              exact a_iret iX8_keepSo_132 rfl ⟨Nat.le_refl 0, Nat.le_refl 0⟩ ⟨rfl, rfl, rfl, rfl⟩
          · have h := ot hc15 h
            refine a_const iX8_keepSo_46 <| ?_
            obtain rfl := Option.some.inj h
            exact a_iret iX8_keepSo_48 rfl ⟨Nat.le_refl 0, Nat.le_refl 0⟩ ⟨rfl, rfl, rfl, rfl⟩
    · have h := ot hc6 h
      refine a_const iX8_keepSo_15 <| ?_
      obtain rfl := Option.some.inj h
      exact a_iret iX8_keepSo_17 rfl ⟨Nat.le_refl 0, Nat.le_refl 0⟩ ⟨rfl, rfl, rfl, rfl⟩
def lp_X8_wanted_5 (mi : Mi) (v1 : Int32) (v2 : Int32) (K : Int32 → Int32 → Option (Int32)) : Nat → Int32 → Int32 → Option (Int32)
  | 0, _, _ => none
  | n + 1, v3, v4 => if (mi 229 23) ≤ v4 then (K v3 v4) else (if inb ((3 * v4) + 1) 30 then if (mi 237 ((3 * v4) + 1).toNatClampNeg) = v1 then (if inb ((3 * v4) + 2) 30 then if (mi 237 ((3 * v4) + 2).toNatClampNeg) = v2 then (lp_X8_wanted_5 mi v1 v2 K n (v3 + 1) (v4 + 1)) else (lp_X8_wanted_5 mi v1 v2 K n (v3 + 0) (v4 + 1)) else none) else (lp_X8_wanted_5 mi v1 v2 K n (v3 + 0) (v4 + 1)) else none)
def f_X8_wanted (mi : Mi) (x1 x2 : Int32) : Option (Int32) := lp_X8_wanted_5 mi x1 x2 (fun v3_6 v4_6 => some v3_6) FU 0 0
set_option maxRecDepth 20000 in
set_option maxHeartbeats 4000000 in
theorem w_X8_wanted_5 {g : Gm} {V : Vw} {E : Ex} {mi : Mi} {ml : Ml} {v1 v2 : Int32} (hM : LayM V) {K : Int32 → Int32 → Option (Int32)} {r : Int32} (hK : ∀ (v3 : Int32) (v4 : Int32), K v3 v4 = some r → At g YX8_wanted E (qm g YX8_wanted (pI V r mi ml)) V (0, 0) 58 [some (rf g 229), some (.int v1), some (.int v2), some (.int v3), some (.int v4)] [] mi ml) : ∀ (n : Nat) (v3 : Int32) (v4 : Int32), lp_X8_wanted_5 mi v1 v2 K n v3 v4 = some r → At g YX8_wanted E (qm g YX8_wanted (pI V r mi ml)) V (0, 0) 5 [some (rf g 229), some (.int v1), some (.int v2), some (.int v3), some (.int v4)] [] mi ml := by
  intro n
  induction n with
  | zero => intro v3 v4 h; exact oz h
  | succ n ih =>
    intro v3 v4 h
    unfold lp_X8_wanted_5 at h
    refine a_iload iX8_wanted_5 rfl <| a_aload iX8_wanted_7 rfl <| a_geti iX8_wanted_8 (lm_s229 hM) rfl <| ?_
    refine a_icmp_ge iX8_wanted_11 (fun hc1 => ?_) (fun hc1 => ?_)
    · have h := ot hc1 h
      exact a_sub (L' := [some (rf g 229), some (.int v1), some (.int v2), some (.int v3), some (.int v4)]) (by exact ⟨rfl, ⟨rfl, ⟨rfl, ⟨rfl, ⟨rfl, trivial⟩⟩⟩⟩⟩) (hK _ _ h)
    · have h := oe hc1 h
      refine a_iload iX8_wanted_14 rfl <| a_aload iX8_wanted_15 rfl <| a_getr iX8_wanted_16 (lm_s229 hM) rfl (lm_r229_26 hM) <| a_const iX8_wanted_19 <| a_iload iX8_wanted_20 rfl <| a_imul iX8_wanted_22 <| a_const iX8_wanted_23 <| a_iadd iX8_wanted_24 <| ?_
      obtain ⟨hg2, h⟩ := og h
      refine a_iald iX8_wanted_25 (lm_s237 hM) (inb_vp hg2) <| a_iload iX8_wanted_26 rfl <| ?_
      refine a_icmp_ne iX8_wanted_27 (fun hc3 => ?_) (fun hc3 => ?_)
      · have h := oe hc3 h
        refine a_const iX8_wanted_49 <| a_iadd iX8_wanted_50 <| a_istore iX8_wanted_51 (by decide) rfl <| a_iinc iX8_wanted_52 rfl (by decide) rfl <| a_goto iX8_wanted_55 <| ?_
        exact a_sub (L' := [some (rf g 229), some (.int v1), some (.int v2), some (.int (v3 + 0)), some (.int (v4 + 1))]) (by exact ⟨rfl, ⟨rfl, ⟨rfl, ⟨rfl, ⟨rfl, trivial⟩⟩⟩⟩⟩) (ih _ _ h)
      · have h := ot hc3 h
        refine a_aload iX8_wanted_30 rfl <| a_getr iX8_wanted_31 (lm_s229 hM) rfl (lm_r229_26 hM) <| a_const iX8_wanted_34 <| a_iload iX8_wanted_35 rfl <| a_imul iX8_wanted_37 <| a_const iX8_wanted_38 <| a_iadd iX8_wanted_39 <| ?_
        obtain ⟨hg4, h⟩ := og h
        refine a_iald iX8_wanted_40 (lm_s237 hM) (inb_vp hg4) <| a_iload iX8_wanted_41 rfl <| ?_
        refine a_icmp_ne iX8_wanted_42 (fun hc5 => ?_) (fun hc5 => ?_)
        · have h := oe hc5 h
          refine a_const iX8_wanted_49 <| a_iadd iX8_wanted_50 <| a_istore iX8_wanted_51 (by decide) rfl <| a_iinc iX8_wanted_52 rfl (by decide) rfl <| a_goto iX8_wanted_55 <| ?_
          exact a_sub (L' := [some (rf g 229), some (.int v1), some (.int v2), some (.int (v3 + 0)), some (.int (v4 + 1))]) (by exact ⟨rfl, ⟨rfl, ⟨rfl, ⟨rfl, ⟨rfl, trivial⟩⟩⟩⟩⟩) (ih _ _ h)
        · have h := ot hc5 h
          refine a_const iX8_wanted_45 <| a_goto iX8_wanted_46 <| a_iadd iX8_wanted_50 <| a_istore iX8_wanted_51 (by decide) rfl <| a_iinc iX8_wanted_52 rfl (by decide) rfl <| a_goto iX8_wanted_55 <| ?_
          exact a_sub (L' := [some (rf g 229), some (.int v1), some (.int v2), some (.int (v3 + 1)), some (.int (v4 + 1))]) (by exact ⟨rfl, ⟨rfl, ⟨rfl, ⟨rfl, ⟨rfl, trivial⟩⟩⟩⟩⟩) (ih _ _ h)
set_option maxRecDepth 20000 in
set_option maxHeartbeats 4000000 in
theorem c_X8_wanted {g : Gm} {V : Vw} {mi : Mi} {ml : Ml} {x1 x2 : Int32} (hM : LayM V) {r : Int32} (h : f_X8_wanted mi x1 x2 = some r) : DoI g YX8_wanted V [rf g 229, .int x1, .int x2] mi ml r mi ml := by
  unfold f_X8_wanted at h
  refine does_of (L := [some (rf g 229), some (.int x1), some (.int x2), none, none]) okX8_wanted rfl (Nat.le_of_ble_eq_true rfl) rfl ?_
  show At g YX8_wanted _ (qm g YX8_wanted (pI V r mi ml)) V (0, 0) 0 _ [] mi ml
  refine a_const iX8_wanted_0 <| a_istore iX8_wanted_1 (by decide) rfl <| a_const iX8_wanted_2 <| a_istore iX8_wanted_3 (by decide) rfl <| ?_
  refine a_sub (L' := [some (rf g 229), some (.int x1), some (.int x2), some (.int 0), some (.int 0)]) (by exact ⟨rfl, ⟨rfl, ⟨rfl, ⟨rfl, ⟨rfl, trivial⟩⟩⟩⟩⟩) (w_X8_wanted_5 hM (fun v3_6 v4_6 h => ?_) FU _ _ h)
  refine a_iload iX8_wanted_58 rfl <| ?_
  obtain rfl := Option.some.inj h
  exact a_iret iX8_wanted_59 rfl ⟨Nat.le_refl 0, Nat.le_refl 0⟩ ⟨rfl, rfl, rfl, rfl⟩
def lp_X8_mostWanted_7 (mi : Mi) (v1 : Int32) (K : Int32 → Int32 → Int32 → Option (Int32)) : Nat → Int32 → Int32 → Int32 → Option (Int32)
  | 0, _, _, _ => none
  | n + 1, v2, v3, v4 => if 9 < v4 then (K v2 v3 v4) else ((f_X8_wanted mi v1 v4).bind (fun r2 => if r2 ≤ v3 then (if r2 ≤ v3 then (lp_X8_mostWanted_7 mi v1 K n v2 v3 (v4 + 1)) else (lp_X8_mostWanted_7 mi v1 K n v2 r2 (v4 + 1))) else (if r2 ≤ v3 then (lp_X8_mostWanted_7 mi v1 K n v4 v3 (v4 + 1)) else (lp_X8_mostWanted_7 mi v1 K n v4 r2 (v4 + 1)))))
def f_X8_mostWanted (mi : Mi) (x1 : Int32) : Option (Int32) := lp_X8_mostWanted_7 mi x1 (fun v2_7 v3_7 v4_7 => some v2_7) FU (-1) 0 0
set_option maxRecDepth 20000 in
set_option maxHeartbeats 4000000 in
theorem w_X8_mostWanted_7 {g : Gm} {V : Vw} {E : Ex} {mi : Mi} {ml : Ml} {v1 : Int32} (hM : LayM V) {K : Int32 → Int32 → Int32 → Option (Int32)} {r : Int32} (hK : ∀ (v2 : Int32) (v3 : Int32) (v4 : Int32), K v2 v3 v4 = some r → At g YX8_mostWanted E (qm g YX8_mostWanted (pI V r mi ml)) V (0, 0) 55 [some (rf g 229), some (.int v1), some (.int v2), some (.int v3), some (.int v4), none] [] mi ml) : ∀ (n : Nat) (v2 : Int32) (v3 : Int32) (v4 : Int32), lp_X8_mostWanted_7 mi v1 K n v2 v3 v4 = some r → At g YX8_mostWanted E (qm g YX8_mostWanted (pI V r mi ml)) V (0, 0) 7 [some (rf g 229), some (.int v1), some (.int v2), some (.int v3), some (.int v4), none] [] mi ml := by
  intro n
  induction n with
  | zero => intro v2 v3 v4 h; exact oz h
  | succ n ih =>
    intro v2 v3 v4 h
    unfold lp_X8_mostWanted_7 at h
    refine a_iload iX8_mostWanted_7 rfl <| a_const iX8_mostWanted_9 <| ?_
    refine a_icmp_gt iX8_mostWanted_11 (fun hc1 => ?_) (fun hc1 => ?_)
    · have h := ot hc1 h
      exact a_sub (L' := [some (rf g 229), some (.int v1), some (.int v2), some (.int v3), some (.int v4), none]) (by exact ⟨rfl, ⟨rfl, ⟨rfl, ⟨rfl, ⟨rfl, trivial⟩⟩⟩⟩⟩) (hK _ _ _ h)
    · have h := oe hc1 h
      refine a_aload iX8_mostWanted_14 rfl <| a_iload iX8_mostWanted_15 rfl <| a_iload iX8_mostWanted_16 rfl <| ?_
      obtain ⟨r2, he3, h⟩ := ob h
      refine a_cVi iX8_mostWanted_18 okX8_wanted inX8_wanted ⟨rfl, rfl⟩ (lm_s229 hM) (c_X8_wanted hM he3) rfl rfl (Nat.le_of_ble_eq_true rfl) ⟨Nat.le_refl 0, Nat.le_refl 0⟩ <| a_istore iX8_mostWanted_21 (by decide) rfl <| a_iload iX8_mostWanted_23 rfl <| a_iload iX8_mostWanted_25 rfl <| ?_
      refine a_icmp_le iX8_mostWanted_26 (fun hc4 => ?_) (fun hc4 => ?_)
      · have h := ot hc4 h
        refine a_iload iX8_mostWanted_34 rfl <| a_istore iX8_mostWanted_35 (by decide) rfl <| a_iload iX8_mostWanted_36 rfl <| a_iload iX8_mostWanted_38 rfl <| ?_
        refine a_icmp_le iX8_mostWanted_39 (fun hc5 => ?_) (fun hc5 => ?_)
        · have h := ot hc5 h
          refine a_iload iX8_mostWanted_47 rfl <| a_istore iX8_mostWanted_48 (by decide) rfl <| a_iinc iX8_mostWanted_49 rfl (by decide) rfl <| a_goto iX8_mostWanted_52 <| ?_
          exact a_sub (L' := [some (rf g 229), some (.int v1), some (.int v2), some (.int v3), some (.int (v4 + 1)), none]) (by exact ⟨rfl, ⟨rfl, ⟨rfl, ⟨rfl, ⟨rfl, trivial⟩⟩⟩⟩⟩) (ih _ _ _ h)
        · have h := oe hc5 h
          refine a_iload iX8_mostWanted_42 rfl <| a_goto iX8_mostWanted_44 <| a_istore iX8_mostWanted_48 (by decide) rfl <| a_iinc iX8_mostWanted_49 rfl (by decide) rfl <| a_goto iX8_mostWanted_52 <| ?_
          exact a_sub (L' := [some (rf g 229), some (.int v1), some (.int v2), some (.int r2), some (.int (v4 + 1)), none]) (by exact ⟨rfl, ⟨rfl, ⟨rfl, ⟨rfl, ⟨rfl, trivial⟩⟩⟩⟩⟩) (ih _ _ _ h)
      · have h := oe hc4 h
        refine a_iload iX8_mostWanted_29 rfl <| a_goto iX8_mostWanted_31 <| a_istore iX8_mostWanted_35 (by decide) rfl <| a_iload iX8_mostWanted_36 rfl <| a_iload iX8_mostWanted_38 rfl <| ?_
        refine a_icmp_le iX8_mostWanted_39 (fun hc6 => ?_) (fun hc6 => ?_)
        · have h := ot hc6 h
          refine a_iload iX8_mostWanted_47 rfl <| a_istore iX8_mostWanted_48 (by decide) rfl <| a_iinc iX8_mostWanted_49 rfl (by decide) rfl <| a_goto iX8_mostWanted_52 <| ?_
          exact a_sub (L' := [some (rf g 229), some (.int v1), some (.int v4), some (.int v3), some (.int (v4 + 1)), none]) (by exact ⟨rfl, ⟨rfl, ⟨rfl, ⟨rfl, ⟨rfl, trivial⟩⟩⟩⟩⟩) (ih _ _ _ h)
        · have h := oe hc6 h
          refine a_iload iX8_mostWanted_42 rfl <| a_goto iX8_mostWanted_44 <| a_istore iX8_mostWanted_48 (by decide) rfl <| a_iinc iX8_mostWanted_49 rfl (by decide) rfl <| a_goto iX8_mostWanted_52 <| ?_
          exact a_sub (L' := [some (rf g 229), some (.int v1), some (.int v4), some (.int r2), some (.int (v4 + 1)), none]) (by exact ⟨rfl, ⟨rfl, ⟨rfl, ⟨rfl, ⟨rfl, trivial⟩⟩⟩⟩⟩) (ih _ _ _ h)
set_option maxRecDepth 20000 in
set_option maxHeartbeats 4000000 in
theorem c_X8_mostWanted {g : Gm} {V : Vw} {mi : Mi} {ml : Ml} {x1 : Int32} (hM : LayM V) {r : Int32} (h : f_X8_mostWanted mi x1 = some r) : DoI g YX8_mostWanted V [rf g 229, .int x1] mi ml r mi ml := by
  unfold f_X8_mostWanted at h
  refine does_of (L := [some (rf g 229), some (.int x1), none, none, none, none]) okX8_mostWanted rfl (Nat.le_of_ble_eq_true rfl) rfl ?_
  show At g YX8_mostWanted _ (qm g YX8_mostWanted (pI V r mi ml)) V (0, 0) 0 _ [] mi ml
  refine a_const iX8_mostWanted_0 <| a_istore iX8_mostWanted_1 (by decide) rfl <| a_const iX8_mostWanted_2 <| a_istore iX8_mostWanted_3 (by decide) rfl <| a_const iX8_mostWanted_4 <| a_istore iX8_mostWanted_5 (by decide) rfl <| ?_
  refine a_sub (L' := [some (rf g 229), some (.int x1), some (.int (-1)), some (.int 0), some (.int 0), none]) (by exact ⟨rfl, ⟨rfl, ⟨rfl, ⟨rfl, ⟨rfl, trivial⟩⟩⟩⟩⟩) (w_X8_mostWanted_7 hM (fun v2_7 v3_7 v4_7 h => ?_) FU _ _ _ h)
  refine a_iload iX8_mostWanted_55 rfl <| ?_
  obtain rfl := Option.some.inj h
  exact a_iret iX8_mostWanted_56 rfl ⟨Nat.le_refl 0, Nat.le_refl 0⟩ ⟨rfl, rfl, rfl, rfl⟩
def lp_X8_agreed_28 (mi : Mi) (v1 : Int32) (K : Int32 → Int32 → Option (Int32)) : Nat → Int32 → Int32 → Option (Int32)
  | 0, _, _ => none
  | n + 1, v2, v3 => if (mi 229 20) ≤ v3 then (K v2 v3) else ((f_X8_mostWanted mi v3).bind (fun r3 => if r3 = (-1) then (lp_X8_agreed_28 mi v1 K n (v2 + 0) (v3 + 1)) else ((f_X8_mostWanted mi v3).bind (fun r6 => (f_X8_wanted mi v3 r6).bind (fun r8 => lp_X8_agreed_28 mi v1 K n (v2 + r8) (v3 + 1))))))
def f_X8_agreed (mi : Mi) (x1 : Int32) : Option (Int32) := if x1 = (-1) then (lp_X8_agreed_28 mi x1 (fun v2_10 v3_10 => some v2_10) FU 0 0) else ((f_X8_isThing mi x1).bind (fun r11 => if r11 = 0 then (some (-1000000001)) else ((f_X8_mostWanted mi x1).bind (fun r14 => some r14))))
set_option maxRecDepth 20000 in
set_option maxHeartbeats 4000000 in
theorem w_X8_agreed_28 {g : Gm} {V : Vw} {E : Ex} {mi : Mi} {ml : Ml} {v1 : Int32} (hM : LayM V) {K : Int32 → Int32 → Option (Int32)} {r : Int32} (hK : ∀ (v2 : Int32) (v3 : Int32), K v2 v3 = some r → At g YX8_agreed E (qm g YX8_agreed (pI V r mi ml)) V (0, 0) 68 [some (rf g 229), some (.int v1), some (.int v2), some (.int v3)] [] mi ml) : ∀ (n : Nat) (v2 : Int32) (v3 : Int32), lp_X8_agreed_28 mi v1 K n v2 v3 = some r → At g YX8_agreed E (qm g YX8_agreed (pI V r mi ml)) V (0, 0) 28 [some (rf g 229), some (.int v1), some (.int v2), some (.int v3)] [] mi ml := by
  intro n
  induction n with
  | zero => intro v2 v3 h; exact oz h
  | succ n ih =>
    intro v2 v3 h
    unfold lp_X8_agreed_28 at h
    refine a_iload iX8_agreed_28 rfl <| a_aload iX8_agreed_29 rfl <| a_geti iX8_agreed_30 (lm_s229 hM) rfl <| ?_
    refine a_icmp_ge iX8_agreed_33 (fun hc2 => ?_) (fun hc2 => ?_)
    · have h := ot hc2 h
      exact a_sub (L' := [some (rf g 229), some (.int v1), some (.int v2), some (.int v3)]) (by exact ⟨rfl, ⟨rfl, ⟨rfl, ⟨rfl, trivial⟩⟩⟩⟩) (hK _ _ h)
    · have h := oe hc2 h
      refine a_iload iX8_agreed_36 rfl <| a_aload iX8_agreed_37 rfl <| a_iload iX8_agreed_38 rfl <| ?_
      obtain ⟨r3, he4, h⟩ := ob h
      refine a_cVi iX8_agreed_39 okX8_mostWanted inX8_mostWanted ⟨rfl, rfl⟩ (lm_s229 hM) (c_X8_mostWanted hM he4) rfl rfl (Nat.le_of_ble_eq_true rfl) ⟨Nat.le_refl 0, Nat.le_refl 0⟩ <| a_const iX8_agreed_42 <| ?_
      refine a_icmp_ne iX8_agreed_43 (fun hc5 => ?_) (fun hc5 => ?_)
      · have h := oe hc5 h
        refine a_aload iX8_agreed_50 rfl <| a_iload iX8_agreed_51 rfl <| a_aload iX8_agreed_52 rfl <| a_iload iX8_agreed_53 rfl <| ?_
        obtain ⟨r6, he7, h⟩ := ob h
        refine a_cVi iX8_agreed_54 okX8_mostWanted inX8_mostWanted ⟨rfl, rfl⟩ (lm_s229 hM) (c_X8_mostWanted hM he7) rfl rfl (Nat.le_of_ble_eq_true rfl) ⟨Nat.le_refl 0, Nat.le_refl 0⟩ <| ?_
        obtain ⟨r8, he9, h⟩ := ob h
        refine a_cVi iX8_agreed_57 okX8_wanted inX8_wanted ⟨rfl, rfl⟩ (lm_s229 hM) (c_X8_wanted hM he9) rfl rfl (Nat.le_of_ble_eq_true rfl) ⟨Nat.le_refl 0, Nat.le_refl 0⟩ <| a_iadd iX8_agreed_60 <| a_istore iX8_agreed_61 (by decide) rfl <| a_iinc iX8_agreed_62 rfl (by decide) rfl <| a_goto iX8_agreed_65 <| ?_
        exact a_sub (L' := [some (rf g 229), some (.int v1), some (.int (v2 + r8)), some (.int (v3 + 1))]) (by exact ⟨rfl, ⟨rfl, ⟨rfl, ⟨rfl, trivial⟩⟩⟩⟩) (ih _ _ h)
      · have h := ot hc5 h
        refine a_const iX8_agreed_46 <| a_goto iX8_agreed_47 <| a_iadd iX8_agreed_60 <| a_istore iX8_agreed_61 (by decide) rfl <| a_iinc iX8_agreed_62 rfl (by decide) rfl <| a_goto iX8_agreed_65 <| ?_
        exact a_sub (L' := [some (rf g 229), some (.int v1), some (.int (v2 + 0)), some (.int (v3 + 1))]) (by exact ⟨rfl, ⟨rfl, ⟨rfl, ⟨rfl, trivial⟩⟩⟩⟩) (ih _ _ h)
set_option maxRecDepth 20000 in
set_option maxHeartbeats 4000000 in
theorem c_X8_agreed {g : Gm} {V : Vw} {mi : Mi} {ml : Ml} {x1 : Int32} (hM : LayM V) {r : Int32} (h : f_X8_agreed mi x1 = some r) : DoI g YX8_agreed V [rf g 229, .int x1] mi ml r mi ml := by
  unfold f_X8_agreed at h
  refine does_of (L := [some (rf g 229), some (.int x1), none, none]) okX8_agreed rfl (Nat.le_of_ble_eq_true rfl) rfl ?_
  show At g YX8_agreed _ (qm g YX8_agreed (pI V r mi ml)) V (0, 0) 0 _ [] mi ml
  refine a_iload iX8_agreed_0 rfl <| a_const iX8_agreed_1 <| ?_
  refine a_icmp_eq iX8_agreed_2 (fun hc1 => ?_) (fun hc1 => ?_)
  · have h := ot hc1 h
    refine a_const iX8_agreed_24 <| a_istore iX8_agreed_25 (by decide) rfl <| a_const iX8_agreed_26 <| a_istore iX8_agreed_27 (by decide) rfl <| ?_
    refine a_sub (L' := [some (rf g 229), some (.int x1), some (.int 0), some (.int 0)]) (by exact ⟨rfl, ⟨rfl, ⟨rfl, ⟨rfl, trivial⟩⟩⟩⟩) (w_X8_agreed_28 hM (fun v2_10 v3_10 h => ?_) FU _ _ h)
    refine a_iload iX8_agreed_68 rfl <| ?_
    obtain rfl := Option.some.inj h
    exact a_iret iX8_agreed_69 rfl ⟨Nat.le_refl 0, Nat.le_refl 0⟩ ⟨rfl, rfl, rfl, rfl⟩
  · have h := oe hc1 h
    refine a_aload iX8_agreed_5 rfl <| a_iload iX8_agreed_6 rfl <| ?_
    obtain ⟨r11, he12, h⟩ := ob h
    refine a_cVi iX8_agreed_7 okX8_isThing inX8_isThing ⟨rfl, rfl⟩ (lm_s229 hM) (c_X8_isThing hM he12) rfl rfl (Nat.le_of_ble_eq_true rfl) ⟨Nat.le_refl 0, Nat.le_refl 0⟩ <| ?_
    refine a_if_eq iX8_agreed_10 (fun hc13 => ?_) (fun hc13 => ?_)
    · have h := ot hc13 h
      refine a_const iX8_agreed_21 <| ?_
      obtain rfl := Option.some.inj h
      exact a_iret iX8_agreed_23 rfl ⟨Nat.le_refl 0, Nat.le_refl 0⟩ ⟨rfl, rfl, rfl, rfl⟩
    · have h := oe hc13 h
      refine a_aload iX8_agreed_13 rfl <| a_iload iX8_agreed_14 rfl <| ?_
      obtain ⟨r14, he15, h⟩ := ob h
      refine a_cVi iX8_agreed_15 okX8_mostWanted inX8_mostWanted ⟨rfl, rfl⟩ (lm_s229 hM) (c_X8_mostWanted hM he15) rfl rfl (Nat.le_of_ble_eq_true rfl) ⟨Nat.le_refl 0, Nat.le_refl 0⟩ <| a_goto iX8_agreed_18 <| ?_
      obtain rfl := Option.some.inj h
      exact a_iret iX8_agreed_23 rfl ⟨Nat.le_refl 0, Nat.le_refl 0⟩ ⟨rfl, rfl, rfl, rfl⟩
def lp_X8_against_39 (mi : Mi) (v1 : Int32) (v2 : Int32) (v4 : Int32) (K : Int32 → Int32 → Option (Int32)) : Nat → Int32 → Int32 → Option (Int32)
  | 0, _, _ => none
  | n + 1, v3, v5 => if (mi 229 23) ≤ v5 then (K v3 v5) else (if inb (3 * v4) 30 then if (mi 237 (3 * v4).toNatClampNeg) = v1 then (if inb (3 * v5) 30 then if (mi 237 (3 * v5).toNatClampNeg) = v2 then (if inb ((3 * v4) + 1) 30 then if inb ((3 * v5) + 1) 30 then if (mi 237 ((3 * v4) + 1).toNatClampNeg) = (mi 237 ((3 * v5) + 1).toNatClampNeg) then (if inb ((3 * v4) + 2) 30 then if inb ((3 * v5) + 2) 30 then if (mi 237 ((3 * v4) + 2).toNatClampNeg) = (mi 237 ((3 * v5) + 2).toNatClampNeg) then (lp_X8_against_39 mi v1 v2 v4 K n (v3 + 0) (v5 + 1)) else (lp_X8_against_39 mi v1 v2 v4 K n (v3 + 1) (v5 + 1)) else none else none) else (lp_X8_against_39 mi v1 v2 v4 K n (v3 + 0) (v5 + 1)) else none else none) else (lp_X8_against_39 mi v1 v2 v4 K n (v3 + 0) (v5 + 1)) else none) else (lp_X8_against_39 mi v1 v2 v4 K n (v3 + 0) (v5 + 1)) else none)
def lp_X8_against_27 (mi : Mi) (v1 : Int32) (v2 : Int32) (K : Int32 → Int32 → Option (Int32)) : Nat → Int32 → Int32 → Option (Int32)
  | 0, _, _ => none
  | n + 1, v3, v4 => if (mi 229 23) ≤ v4 then (K v3 v4) else (lp_X8_against_39 mi v1 v2 v4 (fun v3_24 v5_24 => lp_X8_against_27 mi v1 v2 K n v3_24 (v4 + 1)) FU v3 0)
def f_X8_against (mi : Mi) (x1 x2 : Int32) : Option (Int32) := (f_X8_isHeir x1).bind (fun r1 => if r1 = 0 then (some (-1000000001)) else ((f_X8_isHeir x2).bind (fun r4 => if r4 = 0 then (some (-1000000001)) else (if x1 = x2 then (some (-1000000001)) else (lp_X8_against_27 mi x1 x2 (fun v3_25 v4_25 => some v3_25) FU 0 0)))))
set_option maxRecDepth 20000 in
set_option maxHeartbeats 4000000 in
theorem w_X8_against_39 {g : Gm} {V : Vw} {E : Ex} {mi : Mi} {ml : Ml} {v1 v2 v4 : Int32} (hM : LayM V) {K : Int32 → Int32 → Option (Int32)} {r : Int32} (hK : ∀ (v3 : Int32) (v5 : Int32), K v3 v5 = some r → At g YX8_against E (qm g YX8_against (pI V r mi ml)) V (0, 0) 150 [some (rf g 229), some (.int v1), some (.int v2), some (.int v3), some (.int v4), some (.int v5), none] [] mi ml) : ∀ (n : Nat) (v3 : Int32) (v5 : Int32), lp_X8_against_39 mi v1 v2 v4 K n v3 v5 = some r → At g YX8_against E (qm g YX8_against (pI V r mi ml)) V (0, 0) 39 [some (rf g 229), some (.int v1), some (.int v2), some (.int v3), some (.int v4), some (.int v5), none] [] mi ml := by
  intro n
  induction n with
  | zero => intro v3 v5 h; exact oz h
  | succ n ih =>
    intro v3 v5 h
    unfold lp_X8_against_39 at h
    refine a_iload iX8_against_39 rfl <| a_aload iX8_against_41 rfl <| a_geti iX8_against_42 (lm_s229 hM) rfl <| ?_
    refine a_icmp_ge iX8_against_45 (fun hc9 => ?_) (fun hc9 => ?_)
    · have h := ot hc9 h
      exact a_sub (L' := [some (rf g 229), some (.int v1), some (.int v2), some (.int v3), some (.int v4), some (.int v5), none]) (by exact ⟨rfl, ⟨rfl, ⟨rfl, ⟨rfl, ⟨rfl, ⟨rfl, trivial⟩⟩⟩⟩⟩⟩) (hK _ _ h)
    · have h := oe hc9 h
      refine a_aload iX8_against_48 rfl <| a_getr iX8_against_49 (lm_s229 hM) rfl (lm_r229_26 hM) <| a_const iX8_against_52 <| a_iload iX8_against_53 rfl <| a_imul iX8_against_55 <| ?_
      obtain ⟨hg10, h⟩ := og h
      refine a_iald iX8_against_56 (lm_s237 hM) (inb_vp hg10) <| a_iload iX8_against_57 rfl <| ?_
      refine a_icmp_ne iX8_against_58 (fun hc11 => ?_) (fun hc11 => ?_)
      · have h := oe hc11 h
        refine a_const iX8_against_103 <| a_istore iX8_against_104 (by decide) rfl <| a_iload iX8_against_106 rfl <| a_iload iX8_against_107 rfl <| ?_
        refine a_if_eq iX8_against_109 (fun hc12 => ?_) (fun hc12 => absurd hc12 (by decide))
        refine a_const iX8_against_141 <| a_iadd iX8_against_142 <| a_istore iX8_against_143 (by decide) rfl <| a_iinc iX8_against_144 rfl (by decide) rfl <| a_goto iX8_against_147 <| ?_
        exact a_sub (L' := [some (rf g 229), some (.int v1), some (.int v2), some (.int (v3 + 0)), some (.int v4), some (.int (v5 + 1)), none]) (by exact ⟨rfl, ⟨rfl, ⟨rfl, ⟨rfl, ⟨rfl, ⟨rfl, trivial⟩⟩⟩⟩⟩⟩) (ih _ _ h)
      · have h := ot hc11 h
        refine a_aload iX8_against_61 rfl <| a_getr iX8_against_62 (lm_s229 hM) rfl (lm_r229_26 hM) <| a_const iX8_against_65 <| a_iload iX8_against_66 rfl <| a_imul iX8_against_68 <| ?_
        obtain ⟨hg13, h⟩ := og h
        refine a_iald iX8_against_69 (lm_s237 hM) (inb_vp hg13) <| a_iload iX8_against_70 rfl <| ?_
        refine a_icmp_ne iX8_against_71 (fun hc14 => ?_) (fun hc14 => ?_)
        · have h := oe hc14 h
          refine a_const iX8_against_103 <| a_istore iX8_against_104 (by decide) rfl <| a_iload iX8_against_106 rfl <| a_iload iX8_against_107 rfl <| ?_
          refine a_if_eq iX8_against_109 (fun hc15 => ?_) (fun hc15 => absurd hc15 (by decide))
          refine a_const iX8_against_141 <| a_iadd iX8_against_142 <| a_istore iX8_against_143 (by decide) rfl <| a_iinc iX8_against_144 rfl (by decide) rfl <| a_goto iX8_against_147 <| ?_
          exact a_sub (L' := [some (rf g 229), some (.int v1), some (.int v2), some (.int (v3 + 0)), some (.int v4), some (.int (v5 + 1)), none]) (by exact ⟨rfl, ⟨rfl, ⟨rfl, ⟨rfl, ⟨rfl, ⟨rfl, trivial⟩⟩⟩⟩⟩⟩) (ih _ _ h)
        · have h := ot hc14 h
          refine a_aload iX8_against_74 rfl <| a_getr iX8_against_75 (lm_s229 hM) rfl (lm_r229_26 hM) <| a_const iX8_against_78 <| a_iload iX8_against_79 rfl <| a_imul iX8_against_81 <| a_const iX8_against_82 <| a_iadd iX8_against_83 <| ?_
          obtain ⟨hg16, h⟩ := og h
          refine a_iald iX8_against_84 (lm_s237 hM) (inb_vp hg16) <| a_aload iX8_against_85 rfl <| a_getr iX8_against_86 (lm_s229 hM) rfl (lm_r229_26 hM) <| a_const iX8_against_89 <| a_iload iX8_against_90 rfl <| a_imul iX8_against_92 <| a_const iX8_against_93 <| a_iadd iX8_against_94 <| ?_
          obtain ⟨hg17, h⟩ := og h
          refine a_iald iX8_against_95 (lm_s237 hM) (inb_vp hg17) <| ?_
          refine a_icmp_ne iX8_against_96 (fun hc18 => ?_) (fun hc18 => ?_)
          · have h := oe hc18 h
            refine a_const iX8_against_103 <| a_istore iX8_against_104 (by decide) rfl <| a_iload iX8_against_106 rfl <| a_iload iX8_against_107 rfl <| ?_
            refine a_if_eq iX8_against_109 (fun hc19 => ?_) (fun hc19 => absurd hc19 (by decide))
            refine a_const iX8_against_141 <| a_iadd iX8_against_142 <| a_istore iX8_against_143 (by decide) rfl <| a_iinc iX8_against_144 rfl (by decide) rfl <| a_goto iX8_against_147 <| ?_
            exact a_sub (L' := [some (rf g 229), some (.int v1), some (.int v2), some (.int (v3 + 0)), some (.int v4), some (.int (v5 + 1)), none]) (by exact ⟨rfl, ⟨rfl, ⟨rfl, ⟨rfl, ⟨rfl, ⟨rfl, trivial⟩⟩⟩⟩⟩⟩) (ih _ _ h)
          · have h := ot hc18 h
            refine a_const iX8_against_99 <| a_goto iX8_against_100 <| a_istore iX8_against_104 (by decide) rfl <| a_iload iX8_against_106 rfl <| a_iload iX8_against_107 rfl <| ?_
            refine a_if_eq iX8_against_109 (fun hc20 => absurd hc20 (by decide)) (fun hc20 => ?_)
            refine a_aload iX8_against_112 rfl <| a_getr iX8_against_113 (lm_s229 hM) rfl (lm_r229_26 hM) <| a_const iX8_against_116 <| a_iload iX8_against_117 rfl <| a_imul iX8_against_119 <| a_const iX8_against_120 <| a_iadd iX8_against_121 <| ?_
            obtain ⟨hg21, h⟩ := og h
            refine a_iald iX8_against_122 (lm_s237 hM) (inb_vp hg21) <| a_aload iX8_against_123 rfl <| a_getr iX8_against_124 (lm_s229 hM) rfl (lm_r229_26 hM) <| a_const iX8_against_127 <| a_iload iX8_against_128 rfl <| a_imul iX8_against_130 <| a_const iX8_against_131 <| a_iadd iX8_against_132 <| ?_
            obtain ⟨hg22, h⟩ := og h
            refine a_iald iX8_against_133 (lm_s237 hM) (inb_vp hg22) <| ?_
            refine a_icmp_eq iX8_against_134 (fun hc23 => ?_) (fun hc23 => ?_)
            · have h := ot hc23 h
              refine a_const iX8_against_141 <| a_iadd iX8_against_142 <| a_istore iX8_against_143 (by decide) rfl <| a_iinc iX8_against_144 rfl (by decide) rfl <| a_goto iX8_against_147 <| ?_
              exact a_sub (L' := [some (rf g 229), some (.int v1), some (.int v2), some (.int (v3 + 0)), some (.int v4), some (.int (v5 + 1)), none]) (by exact ⟨rfl, ⟨rfl, ⟨rfl, ⟨rfl, ⟨rfl, ⟨rfl, trivial⟩⟩⟩⟩⟩⟩) (ih _ _ h)
            · have h := oe hc23 h
              refine a_const iX8_against_137 <| a_goto iX8_against_138 <| a_iadd iX8_against_142 <| a_istore iX8_against_143 (by decide) rfl <| a_iinc iX8_against_144 rfl (by decide) rfl <| a_goto iX8_against_147 <| ?_
              exact a_sub (L' := [some (rf g 229), some (.int v1), some (.int v2), some (.int (v3 + 1)), some (.int v4), some (.int (v5 + 1)), none]) (by exact ⟨rfl, ⟨rfl, ⟨rfl, ⟨rfl, ⟨rfl, ⟨rfl, trivial⟩⟩⟩⟩⟩⟩) (ih _ _ h)
set_option maxRecDepth 20000 in
set_option maxHeartbeats 4000000 in
theorem w_X8_against_27 {g : Gm} {V : Vw} {E : Ex} {mi : Mi} {ml : Ml} {v1 v2 : Int32} (hM : LayM V) {K : Int32 → Int32 → Option (Int32)} {r : Int32} (hK : ∀ (v3 : Int32) (v4 : Int32), K v3 v4 = some r → At g YX8_against E (qm g YX8_against (pI V r mi ml)) V (0, 0) 156 [some (rf g 229), some (.int v1), some (.int v2), some (.int v3), some (.int v4), none, none] [] mi ml) : ∀ (n : Nat) (v3 : Int32) (v4 : Int32), lp_X8_against_27 mi v1 v2 K n v3 v4 = some r → At g YX8_against E (qm g YX8_against (pI V r mi ml)) V (0, 0) 27 [some (rf g 229), some (.int v1), some (.int v2), some (.int v3), some (.int v4), none, none] [] mi ml := by
  intro n
  induction n with
  | zero => intro v3 v4 h; exact oz h
  | succ n ih =>
    intro v3 v4 h
    unfold lp_X8_against_27 at h
    refine a_iload iX8_against_27 rfl <| a_aload iX8_against_29 rfl <| a_geti iX8_against_30 (lm_s229 hM) rfl <| ?_
    refine a_icmp_ge iX8_against_33 (fun hc8 => ?_) (fun hc8 => ?_)
    · have h := ot hc8 h
      exact a_sub (L' := [some (rf g 229), some (.int v1), some (.int v2), some (.int v3), some (.int v4), none, none]) (by exact ⟨rfl, ⟨rfl, ⟨rfl, ⟨rfl, ⟨rfl, trivial⟩⟩⟩⟩⟩) (hK _ _ h)
    · have h := oe hc8 h
      refine a_const iX8_against_36 <| a_istore iX8_against_37 (by decide) rfl <| ?_
      refine a_sub (L' := [some (rf g 229), some (.int v1), some (.int v2), some (.int v3), some (.int v4), some (.int 0), none]) (by exact ⟨rfl, ⟨rfl, ⟨rfl, ⟨rfl, ⟨rfl, ⟨rfl, trivial⟩⟩⟩⟩⟩⟩) (w_X8_against_39 hM (fun v3_24 v5_24 h => ?_) FU _ _ h)
      refine a_iinc iX8_against_150 rfl (by decide) rfl <| a_goto iX8_against_153 <| ?_
      exact a_sub (L' := [some (rf g 229), some (.int v1), some (.int v2), some (.int v3_24), some (.int (v4 + 1)), none, none]) (by exact ⟨rfl, ⟨rfl, ⟨rfl, ⟨rfl, ⟨rfl, trivial⟩⟩⟩⟩⟩) (ih _ _ h)
set_option maxRecDepth 20000 in
set_option maxHeartbeats 4000000 in
theorem c_X8_against {g : Gm} {V : Vw} {mi : Mi} {ml : Ml} {x1 x2 : Int32} (hM : LayM V) {r : Int32} (h : f_X8_against mi x1 x2 = some r) : DoI g YX8_against V [rf g 229, .int x1, .int x2] mi ml r mi ml := by
  unfold f_X8_against at h
  refine does_of (L := [some (rf g 229), some (.int x1), some (.int x2), none, none, none, none]) okX8_against rfl (Nat.le_of_ble_eq_true rfl) rfl ?_
  show At g YX8_against _ (qm g YX8_against (pI V r mi ml)) V (0, 0) 0 _ [] mi ml
  refine a_iload iX8_against_0 rfl <| ?_
  obtain ⟨r1, he2, h⟩ := ob h
  refine a_cSi iX8_against_1 okX8_isHeir stX8_isHeir ⟨rfl, rfl⟩ (c_X8_isHeir he2) rfl rfl (Nat.le_of_ble_eq_true rfl) ⟨Nat.le_refl 0, Nat.le_refl 0⟩ <| ?_
  refine a_if_eq iX8_against_4 (fun hc3 => ?_) (fun hc3 => ?_)
  · have h := ot hc3 h
    refine a_const iX8_against_19 <| ?_
    obtain rfl := Option.some.inj h
    exact a_iret iX8_against_21 rfl ⟨Nat.le_refl 0, Nat.le_refl 0⟩ ⟨rfl, rfl, rfl, rfl⟩
  · have h := oe hc3 h
    refine a_iload iX8_against_7 rfl <| ?_
    obtain ⟨r4, he5, h⟩ := ob h
    refine a_cSi iX8_against_8 okX8_isHeir stX8_isHeir ⟨rfl, rfl⟩ (c_X8_isHeir he5) rfl rfl (Nat.le_of_ble_eq_true rfl) ⟨Nat.le_refl 0, Nat.le_refl 0⟩ <| ?_
    refine a_if_eq iX8_against_11 (fun hc6 => ?_) (fun hc6 => ?_)
    · have h := ot hc6 h
      refine a_const iX8_against_19 <| ?_
      obtain rfl := Option.some.inj h
      exact a_iret iX8_against_21 rfl ⟨Nat.le_refl 0, Nat.le_refl 0⟩ ⟨rfl, rfl, rfl, rfl⟩
    · have h := oe hc6 h
      refine a_iload iX8_against_14 rfl <| a_iload iX8_against_15 rfl <| ?_
      refine a_icmp_ne iX8_against_16 (fun hc7 => ?_) (fun hc7 => ?_)
      · have h := oe hc7 h
        refine a_const iX8_against_22 <| a_istore iX8_against_23 (by decide) rfl <| a_const iX8_against_24 <| a_istore iX8_against_25 (by decide) rfl <| ?_
        refine a_sub (L' := [some (rf g 229), some (.int x1), some (.int x2), some (.int 0), some (.int 0), none, none]) (by exact ⟨rfl, ⟨rfl, ⟨rfl, ⟨rfl, ⟨rfl, trivial⟩⟩⟩⟩⟩) (w_X8_against_27 hM (fun v3_25 v4_25 h => ?_) FU _ _ h)
        refine a_iload iX8_against_156 rfl <| ?_
        obtain rfl := Option.some.inj h
        exact a_iret iX8_against_157 rfl ⟨Nat.le_refl 0, Nat.le_refl 0⟩ ⟨rfl, rfl, rfl, rfl⟩
      · have h := ot hc7 h
        refine a_const iX8_against_19 <| ?_
        obtain rfl := Option.some.inj h
        exact a_iret iX8_against_21 rfl ⟨Nat.le_refl 0, Nat.le_refl 0⟩ ⟨rfl, rfl, rfl, rfl⟩
def lp_X8_movers_60 (mi : Mi) (v1 : Int32) (v2 : Int32) (v3 : Int32) (K : Int32 → Int32 → Int32 → Option (Int32)) : Nat → Int32 → Int32 → Int32 → Option (Int32)
  | 0, _, _, _ => none
  | n + 1, v4, v5, v6 => if inb 0 121 then if (mi 238 (0 : Int32).toNatClampNeg) ≤ v6 then (K v4 v5 v6) else (if inb v1 8 then (f_X8_almanac mi v6).bind (fun r16 => (f_X8_comes mi (mi 236 v1.toNatClampNeg) v4 v6 r16).bind (fun r18 => (f_X8_almanac mi v6).bind (fun r20 => lp_X8_movers_60 mi v1 v2 v3 K n r18 (v5 ||| (1 <<< (r20 &&& 31))) (v6 + 1)))) else none) else none
def f_X8_movers (mi : Mi) (x1 x2 x3 : Int32) : Option (Int32) := (f_X8_isThing mi x1).bind (fun r1 => if r1 = 0 then (some (-1000000001)) else ((f_X8_isValue x2).bind (fun r4 => if r4 = 0 then (some (-1000000002)) else ((f_X8_in x3 0 48).bind (fun r7 => if r7 = 0 then (some (-1000000002)) else (if inb 0 121 then if x3 ≤ (mi 238 (0 : Int32).toNatClampNeg) then (if inb 0 121 then lp_X8_movers_60 mi x1 x2 x3 (fun v4_22 v5_22 v6_22 => if inb (8 + x1) 121 then if v4_22 = (mi 238 (8 + x1).toNatClampNeg) then (some 0) else (some v5_22) else none) FU x2 0 ((mi 238 (0 : Int32).toNatClampNeg) - x3) else none) else (some (-1000000003)) else none))))))
set_option maxRecDepth 20000 in
set_option maxHeartbeats 4000000 in
theorem w_X8_movers_60 {g : Gm} {V : Vw} {E : Ex} {mi : Mi} {ml : Ml} {v1 v2 v3 : Int32} (hM : LayM V) {K : Int32 → Int32 → Int32 → Option (Int32)} {r : Int32} (hK : ∀ (v4 : Int32) (v5 : Int32) (v6 : Int32), K v4 v5 v6 = some r → At g YX8_movers E (qm g YX8_movers (pI V r mi ml)) V (0, 0) 112 [some (rf g 229), some (.int v1), some (.int v2), some (.int v3), some (.int v4), some (.int v5), some (.int v6)] [] mi ml) : ∀ (n : Nat) (v4 : Int32) (v5 : Int32) (v6 : Int32), lp_X8_movers_60 mi v1 v2 v3 K n v4 v5 v6 = some r → At g YX8_movers E (qm g YX8_movers (pI V r mi ml)) V (0, 0) 60 [some (rf g 229), some (.int v1), some (.int v2), some (.int v3), some (.int v4), some (.int v5), some (.int v6)] [] mi ml := by
  intro n
  induction n with
  | zero => intro v4 v5 v6 h; exact oz h
  | succ n ih =>
    intro v4 v5 v6 h
    unfold lp_X8_movers_60 at h
    refine a_iload iX8_movers_60 rfl <| a_aload iX8_movers_62 rfl <| a_getr iX8_movers_63 (lm_s229 hM) rfl (lm_r229_27 hM) <| a_const iX8_movers_66 <| ?_
    obtain ⟨hg13, h⟩ := og h
    refine a_iald iX8_movers_67 (lm_s238 hM) (inb_vp hg13) <| ?_
    refine a_icmp_ge iX8_movers_68 (fun hc14 => ?_) (fun hc14 => ?_)
    · have h := ot hc14 h
      exact a_sub (L' := [some (rf g 229), some (.int v1), some (.int v2), some (.int v3), some (.int v4), some (.int v5), some (.int v6)]) (by exact ⟨rfl, ⟨rfl, ⟨rfl, ⟨rfl, ⟨rfl, ⟨rfl, ⟨rfl, trivial⟩⟩⟩⟩⟩⟩⟩) (hK _ _ _ h)
    · have h := oe hc14 h
      refine a_aload iX8_movers_71 rfl <| a_aload iX8_movers_72 rfl <| a_getr iX8_movers_73 (lm_s229 hM) rfl (lm_r229_25 hM) <| a_iload iX8_movers_76 rfl <| ?_
      obtain ⟨hg15, h⟩ := og h
      refine a_iald iX8_movers_77 (lm_s236 hM) (inb_vp hg15) <| a_iload iX8_movers_78 rfl <| a_iload iX8_movers_80 rfl <| a_aload iX8_movers_82 rfl <| a_iload iX8_movers_83 rfl <| ?_
      obtain ⟨r16, he17, h⟩ := ob h
      refine a_cVi iX8_movers_85 okX8_almanac inX8_almanac ⟨rfl, rfl⟩ (lm_s229 hM) (c_X8_almanac hM he17) rfl rfl (Nat.le_of_ble_eq_true rfl) ⟨Nat.le_refl 0, Nat.le_refl 0⟩ <| ?_
      obtain ⟨r18, he19, h⟩ := ob h
      refine a_cVi iX8_movers_88 okX8_comes inX8_comes ⟨rfl, rfl⟩ (lm_s229 hM) (c_X8_comes hM he19) rfl rfl (Nat.le_of_ble_eq_true rfl) ⟨Nat.le_refl 0, Nat.le_refl 0⟩ <| a_istore iX8_movers_91 (by decide) rfl <| a_iload iX8_movers_93 rfl <| a_const iX8_movers_95 <| a_aload iX8_movers_96 rfl <| a_iload iX8_movers_97 rfl <| ?_
      obtain ⟨r20, he21, h⟩ := ob h
      refine a_cVi iX8_movers_99 okX8_almanac inX8_almanac ⟨rfl, rfl⟩ (lm_s229 hM) (c_X8_almanac hM he21) rfl rfl (Nat.le_of_ble_eq_true rfl) ⟨Nat.le_refl 0, Nat.le_refl 0⟩ <| a_ishl iX8_movers_102 <| a_ior iX8_movers_103 <| a_istore iX8_movers_104 (by decide) rfl <| a_iinc iX8_movers_106 rfl (by decide) rfl <| a_goto iX8_movers_109 <| ?_
      exact a_sub (L' := [some (rf g 229), some (.int v1), some (.int v2), some (.int v3), some (.int r18), some (.int (v5 ||| (1 <<< (r20 &&& 31)))), some (.int (v6 + 1))]) (by exact ⟨rfl, ⟨rfl, ⟨rfl, ⟨rfl, ⟨rfl, ⟨rfl, ⟨rfl, trivial⟩⟩⟩⟩⟩⟩⟩) (ih _ _ _ h)
set_option maxRecDepth 20000 in
set_option maxHeartbeats 4000000 in
theorem c_X8_movers {g : Gm} {V : Vw} {mi : Mi} {ml : Ml} {x1 x2 x3 : Int32} (hM : LayM V) {r : Int32} (h : f_X8_movers mi x1 x2 x3 = some r) : DoI g YX8_movers V [rf g 229, .int x1, .int x2, .int x3] mi ml r mi ml := by
  unfold f_X8_movers at h
  refine does_of (L := [some (rf g 229), some (.int x1), some (.int x2), some (.int x3), none, none, none]) okX8_movers rfl (Nat.le_of_ble_eq_true rfl) rfl ?_
  show At g YX8_movers _ (qm g YX8_movers (pI V r mi ml)) V (0, 0) 0 _ [] mi ml
  refine a_aload iX8_movers_0 rfl <| a_iload iX8_movers_1 rfl <| ?_
  obtain ⟨r1, he2, h⟩ := ob h
  refine a_cVi iX8_movers_2 okX8_isThing inX8_isThing ⟨rfl, rfl⟩ (lm_s229 hM) (c_X8_isThing hM he2) rfl rfl (Nat.le_of_ble_eq_true rfl) ⟨Nat.le_refl 0, Nat.le_refl 0⟩ <| ?_
  refine a_if_ne iX8_movers_5 (fun hc3 => ?_) (fun hc3 => ?_)
  · have h := oe hc3 h
    refine a_iload iX8_movers_11 rfl <| ?_
    obtain ⟨r4, he5, h⟩ := ob h
    refine a_cSi iX8_movers_12 okX8_isValue stX8_isValue ⟨rfl, rfl⟩ (c_X8_isValue he5) rfl rfl (Nat.le_of_ble_eq_true rfl) ⟨Nat.le_refl 0, Nat.le_refl 0⟩ <| ?_
    refine a_if_eq iX8_movers_15 (fun hc6 => ?_) (fun hc6 => ?_)
    · have h := ot hc6 h
      refine a_const iX8_movers_28 <| ?_
      obtain rfl := Option.some.inj h
      exact a_iret iX8_movers_30 rfl ⟨Nat.le_refl 0, Nat.le_refl 0⟩ ⟨rfl, rfl, rfl, rfl⟩
    · have h := oe hc6 h
      refine a_iload iX8_movers_18 rfl <| a_const iX8_movers_19 <| a_const iX8_movers_20 <| ?_
      obtain ⟨r7, he8, h⟩ := ob h
      refine a_cSi iX8_movers_22 okX8_in stX8_in ⟨rfl, rfl⟩ (c_X8_in he8) rfl rfl (Nat.le_of_ble_eq_true rfl) ⟨Nat.le_refl 0, Nat.le_refl 0⟩ <| ?_
      refine a_if_ne iX8_movers_25 (fun hc9 => ?_) (fun hc9 => ?_)
      · have h := oe hc9 h
        refine a_iload iX8_movers_31 rfl <| a_aload iX8_movers_32 rfl <| a_getr iX8_movers_33 (lm_s229 hM) rfl (lm_r229_27 hM) <| a_const iX8_movers_36 <| ?_
        obtain ⟨hg10, h⟩ := og h
        refine a_iald iX8_movers_37 (lm_s238 hM) (inb_vp hg10) <| ?_
        refine a_icmp_le iX8_movers_38 (fun hc11 => ?_) (fun hc11 => ?_)
        · have h := ot hc11 h
          refine a_iload iX8_movers_44 rfl <| a_istore iX8_movers_45 (by decide) rfl <| a_const iX8_movers_47 <| a_istore iX8_movers_48 (by decide) rfl <| a_aload iX8_movers_50 rfl <| a_getr iX8_movers_51 (lm_s229 hM) rfl (lm_r229_27 hM) <| a_const iX8_movers_54 <| ?_
          obtain ⟨hg12, h⟩ := og h
          refine a_iald iX8_movers_55 (lm_s238 hM) (inb_vp hg12) <| a_iload iX8_movers_56 rfl <| a_isub iX8_movers_57 <| a_istore iX8_movers_58 (by decide) rfl <| ?_
          refine a_sub (L' := [some (rf g 229), some (.int x1), some (.int x2), some (.int x3), some (.int x2), some (.int 0), some (.int ((mi 238 (0 : Int32).toNatClampNeg) - x3))]) (by exact ⟨rfl, ⟨rfl, ⟨rfl, ⟨rfl, ⟨rfl, ⟨rfl, ⟨rfl, trivial⟩⟩⟩⟩⟩⟩⟩) (w_X8_movers_60 hM (fun v4_22 v5_22 v6_22 h => ?_) FU _ _ _ h)
          refine a_iload iX8_movers_112 rfl <| a_aload iX8_movers_114 rfl <| a_getr iX8_movers_115 (lm_s229 hM) rfl (lm_r229_27 hM) <| a_const iX8_movers_118 <| a_iload iX8_movers_120 rfl <| a_iadd iX8_movers_121 <| ?_
          obtain ⟨hg23, h⟩ := og h
          refine a_iald iX8_movers_122 (lm_s238 hM) (inb_vp hg23) <| ?_
          refine a_icmp_ne iX8_movers_123 (fun hc24 => ?_) (fun hc24 => ?_)
          · have h := oe hc24 h
            refine a_iload iX8_movers_130 rfl <| ?_
            obtain rfl := Option.some.inj h
            exact a_iret iX8_movers_132 rfl ⟨Nat.le_refl 0, Nat.le_refl 0⟩ ⟨rfl, rfl, rfl, rfl⟩
          · have h := ot hc24 h
            refine a_const iX8_movers_126 <| a_goto iX8_movers_127 <| ?_
            obtain rfl := Option.some.inj h
            exact a_iret iX8_movers_132 rfl ⟨Nat.le_refl 0, Nat.le_refl 0⟩ ⟨rfl, rfl, rfl, rfl⟩
        · have h := oe hc11 h
          refine a_const iX8_movers_41 <| ?_
          obtain rfl := Option.some.inj h
          exact a_iret iX8_movers_43 rfl ⟨Nat.le_refl 0, Nat.le_refl 0⟩ ⟨rfl, rfl, rfl, rfl⟩
      · have h := ot hc9 h
        refine a_const iX8_movers_28 <| ?_
        obtain rfl := Option.some.inj h
        exact a_iret iX8_movers_30 rfl ⟨Nat.le_refl 0, Nat.le_refl 0⟩ ⟨rfl, rfl, rfl, rfl⟩
  · have h := ot hc3 h
    refine a_const iX8_movers_8 <| ?_
    obtain rfl := Option.some.inj h
    exact a_iret iX8_movers_10 rfl ⟨Nat.le_refl 0, Nat.le_refl 0⟩ ⟨rfl, rfl, rfl, rfl⟩
def f_X8_needWhat (mi : Mi) (x1 : Int32) : Option (Int32) := (f_X8_in x1 0 1).bind (fun r1 => if r1 = 0 then (some (-1000000002)) else ((f_X8_isCounty mi).bind (fun r4 => if r4 = 0 then (some (-1000000003)) else (some 0))))
set_option maxRecDepth 20000 in
set_option maxHeartbeats 4000000 in
theorem c_X8_needWhat {g : Gm} {V : Vw} {mi : Mi} {ml : Ml} {x1 : Int32} (hM : LayM V) {r : Int32} (h : f_X8_needWhat mi x1 = some r) : DoI g YX8_needWhat V [rf g 229, .int x1] mi ml r mi ml := by
  unfold f_X8_needWhat at h
  refine does_of (L := [some (rf g 229), some (.int x1)]) okX8_needWhat rfl (Nat.le_of_ble_eq_true rfl) rfl ?_
  show At g YX8_needWhat _ (qm g YX8_needWhat (pI V r mi ml)) V (0, 0) 0 _ [] mi ml
  refine a_iload iX8_needWhat_0 rfl <| a_const iX8_needWhat_1 <| a_const iX8_needWhat_2 <| ?_
  obtain ⟨r1, he2, h⟩ := ob h
  refine a_cSi iX8_needWhat_3 okX8_in stX8_in ⟨rfl, rfl⟩ (c_X8_in he2) rfl rfl (Nat.le_of_ble_eq_true rfl) ⟨Nat.le_refl 0, Nat.le_refl 0⟩ <| ?_
  refine a_if_ne iX8_needWhat_6 (fun hc3 => ?_) (fun hc3 => ?_)
  · have h := oe hc3 h
    refine a_aload iX8_needWhat_14 rfl <| ?_
    obtain ⟨r4, he5, h⟩ := ob h
    refine a_cVi iX8_needWhat_15 okX8_isCounty inX8_isCounty ⟨rfl, rfl⟩ (lm_s229 hM) (c_X8_isCounty hM he5) rfl rfl (Nat.le_of_ble_eq_true rfl) ⟨Nat.le_refl 0, Nat.le_refl 0⟩ <| ?_
    refine a_if_eq iX8_needWhat_18 (fun hc6 => ?_) (fun hc6 => ?_)
    · have h := ot hc6 h
      refine a_const iX8_needWhat_25 <| ?_
      obtain rfl := Option.some.inj h
      exact a_iret iX8_needWhat_27 rfl ⟨Nat.le_refl 0, Nat.le_refl 0⟩ ⟨rfl, rfl, rfl, rfl⟩
    · have h := oe hc6 h
      refine a_const iX8_needWhat_21 <| a_goto iX8_needWhat_22 <| ?_
      obtain rfl := Option.some.inj h
      exact a_iret iX8_needWhat_27 rfl ⟨Nat.le_refl 0, Nat.le_refl 0⟩ ⟨rfl, rfl, rfl, rfl⟩
  · have h := ot hc3 h
    refine a_const iX8_needWhat_9 <| a_goto iX8_needWhat_11 <| ?_
    obtain rfl := Option.some.inj h
    exact a_iret iX8_needWhat_27 rfl ⟨Nat.le_refl 0, Nat.le_refl 0⟩ ⟨rfl, rfl, rfl, rfl⟩
def lp_X8_poorest_21 (mi : Mi) (v1 : Int32) (v2 : Int32) (K : Int32 → Int32 → Int32 → Option (Int32)) : Nat → Int32 → Int32 → Int32 → Option (Int32)
  | 0, _, _, _ => none
  | n + 1, v3, v4, v5 => if v5 < (mi 229 19) then ((f_X8_lightTo mi v5).bind (fun r5 => (f_X8_lightFrom mi v5).bind (fun r7 => if v4 ≤ ((24 - r5) + r7) then (if v4 ≤ ((24 - r5) + r7) then (lp_X8_poorest_21 mi v1 v2 K n v3 v4 (v5 + 1)) else (lp_X8_poorest_21 mi v1 v2 K n v3 ((24 - r5) + r7) (v5 + 1))) else (if v4 ≤ ((24 - r5) + r7) then (lp_X8_poorest_21 mi v1 v2 K n v5 v4 (v5 + 1)) else (lp_X8_poorest_21 mi v1 v2 K n v5 ((24 - r5) + r7) (v5 + 1)))))) else (if v5 = 0 then ((f_X8_lightTo mi v5).bind (fun r13 => (f_X8_lightFrom mi v5).bind (fun r15 => if v4 ≤ ((24 - r13) + r15) then (if v4 ≤ ((24 - r13) + r15) then (lp_X8_poorest_21 mi v1 v2 K n v3 v4 (v5 + 1)) else (lp_X8_poorest_21 mi v1 v2 K n v3 ((24 - r13) + r15) (v5 + 1))) else (if v4 ≤ ((24 - r13) + r15) then (lp_X8_poorest_21 mi v1 v2 K n v5 v4 (v5 + 1)) else (lp_X8_poorest_21 mi v1 v2 K n v5 ((24 - r13) + r15) (v5 + 1)))))) else (K v3 v4 v5))
def f_X8_poorest (mi : Mi) (x1 : Int32) : Option (Int32) := (f_X8_needWhat mi x1).bind (fun r1 => if 0 ≤ r1 then (lp_X8_poorest_21 mi x1 r1 (fun v3_20 v4_20 v5_20 => if x1 = 0 then (some v3_20) else (some v4_20)) FU (-1) 25 0) else (some r1))
set_option maxRecDepth 20000 in
set_option maxHeartbeats 4000000 in
theorem w_X8_poorest_21 {g : Gm} {V : Vw} {E : Ex} {mi : Mi} {ml : Ml} {v1 v2 : Int32} (hM : LayM V) {K : Int32 → Int32 → Int32 → Option (Int32)} {r : Int32} (hK : ∀ (v3 : Int32) (v4 : Int32) (v5 : Int32), K v3 v4 v5 = some r → At g YX8_poorest E (qm g YX8_poorest (pI V r mi ml)) V (0, 0) 89 [some (rf g 229), some (.int v1), some (.int v2), some (.int v3), some (.int v4), some (.int v5), none] [] mi ml) : ∀ (n : Nat) (v3 : Int32) (v4 : Int32) (v5 : Int32), lp_X8_poorest_21 mi v1 v2 K n v3 v4 v5 = some r → At g YX8_poorest E (qm g YX8_poorest (pI V r mi ml)) V (0, 0) 21 [some (rf g 229), some (.int v1), some (.int v2), some (.int v3), some (.int v4), some (.int v5), none] [] mi ml := by
  intro n
  induction n with
  | zero => intro v3 v4 v5 h; exact oz h
  | succ n ih =>
    intro v3 v4 v5 h
    unfold lp_X8_poorest_21 at h
    refine a_iload iX8_poorest_21 rfl <| a_aload iX8_poorest_23 rfl <| a_geti iX8_poorest_24 (lm_s229 hM) rfl <| ?_
    refine a_icmp_lt iX8_poorest_27 (fun hc4 => ?_) (fun hc4 => ?_)
    · have h := ot hc4 h
      refine a_const iX8_poorest_35 <| a_aload iX8_poorest_37 rfl <| a_iload iX8_poorest_38 rfl <| ?_
      obtain ⟨r5, he6, h⟩ := ob h
      refine a_cVi iX8_poorest_40 okX8_lightTo inX8_lightTo ⟨rfl, rfl⟩ (lm_s229 hM) (c_X8_lightTo hM he6) rfl rfl (Nat.le_of_ble_eq_true rfl) ⟨Nat.le_refl 0, Nat.le_refl 0⟩ <| a_isub iX8_poorest_43 <| a_aload iX8_poorest_44 rfl <| a_iload iX8_poorest_45 rfl <| ?_
      obtain ⟨r7, he8, h⟩ := ob h
      refine a_cVi iX8_poorest_47 okX8_lightFrom inX8_lightFrom ⟨rfl, rfl⟩ (lm_s229 hM) (c_X8_lightFrom hM he8) rfl rfl (Nat.le_of_ble_eq_true rfl) ⟨Nat.le_refl 0, Nat.le_refl 0⟩ <| a_iadd iX8_poorest_50 <| a_istore iX8_poorest_51 (by decide) rfl <| a_iload iX8_poorest_53 rfl <| a_iload iX8_poorest_55 rfl <| ?_
      refine a_icmp_ge iX8_poorest_57 (fun hc9 => ?_) (fun hc9 => ?_)
      · have h := ot hc9 h
        refine a_iload iX8_poorest_65 rfl <| a_istore iX8_poorest_66 (by decide) rfl <| a_iload iX8_poorest_67 rfl <| a_iload iX8_poorest_69 rfl <| ?_
        refine a_icmp_ge iX8_poorest_71 (fun hc10 => ?_) (fun hc10 => ?_)
        · have h := ot hc10 h
          refine a_iload iX8_poorest_79 rfl <| a_istore iX8_poorest_81 (by decide) rfl <| a_iinc iX8_poorest_83 rfl (by decide) rfl <| a_goto iX8_poorest_86 <| ?_
          exact a_sub (L' := [some (rf g 229), some (.int v1), some (.int v2), some (.int v3), some (.int v4), some (.int (v5 + 1)), none]) (by exact ⟨rfl, ⟨rfl, ⟨rfl, ⟨rfl, ⟨rfl, ⟨rfl, trivial⟩⟩⟩⟩⟩⟩) (ih _ _ _ h)
        · have h := oe hc10 h
          refine a_iload iX8_poorest_74 rfl <| a_goto iX8_poorest_76 <| a_istore iX8_poorest_81 (by decide) rfl <| a_iinc iX8_poorest_83 rfl (by decide) rfl <| a_goto iX8_poorest_86 <| ?_
          exact a_sub (L' := [some (rf g 229), some (.int v1), some (.int v2), some (.int v3), some (.int ((24 - r5) + r7)), some (.int (v5 + 1)), none]) (by exact ⟨rfl, ⟨rfl, ⟨rfl, ⟨rfl, ⟨rfl, ⟨rfl, trivial⟩⟩⟩⟩⟩⟩) (ih _ _ _ h)
      · have h := oe hc9 h
        refine a_iload iX8_poorest_60 rfl <| a_goto iX8_poorest_62 <| a_istore iX8_poorest_66 (by decide) rfl <| a_iload iX8_poorest_67 rfl <| a_iload iX8_poorest_69 rfl <| ?_
        refine a_icmp_ge iX8_poorest_71 (fun hc11 => ?_) (fun hc11 => ?_)
        · have h := ot hc11 h
          refine a_iload iX8_poorest_79 rfl <| a_istore iX8_poorest_81 (by decide) rfl <| a_iinc iX8_poorest_83 rfl (by decide) rfl <| a_goto iX8_poorest_86 <| ?_
          exact a_sub (L' := [some (rf g 229), some (.int v1), some (.int v2), some (.int v5), some (.int v4), some (.int (v5 + 1)), none]) (by exact ⟨rfl, ⟨rfl, ⟨rfl, ⟨rfl, ⟨rfl, ⟨rfl, trivial⟩⟩⟩⟩⟩⟩) (ih _ _ _ h)
        · have h := oe hc11 h
          refine a_iload iX8_poorest_74 rfl <| a_goto iX8_poorest_76 <| a_istore iX8_poorest_81 (by decide) rfl <| a_iinc iX8_poorest_83 rfl (by decide) rfl <| a_goto iX8_poorest_86 <| ?_
          exact a_sub (L' := [some (rf g 229), some (.int v1), some (.int v2), some (.int v5), some (.int ((24 - r5) + r7)), some (.int (v5 + 1)), none]) (by exact ⟨rfl, ⟨rfl, ⟨rfl, ⟨rfl, ⟨rfl, ⟨rfl, trivial⟩⟩⟩⟩⟩⟩) (ih _ _ _ h)
    · have h := oe hc4 h
      refine a_iload iX8_poorest_30 rfl <| ?_
      refine a_if_ne iX8_poorest_32 (fun hc12 => ?_) (fun hc12 => ?_)
      · have h := oe hc12 h
        exact a_sub (L' := [some (rf g 229), some (.int v1), some (.int v2), some (.int v3), some (.int v4), some (.int v5), none]) (by exact ⟨rfl, ⟨rfl, ⟨rfl, ⟨rfl, ⟨rfl, ⟨rfl, trivial⟩⟩⟩⟩⟩⟩) (hK _ _ _ h)
      · have h := ot hc12 h
        refine a_const iX8_poorest_35 <| a_aload iX8_poorest_37 rfl <| a_iload iX8_poorest_38 rfl <| ?_
        obtain ⟨r13, he14, h⟩ := ob h
        refine a_cVi iX8_poorest_40 okX8_lightTo inX8_lightTo ⟨rfl, rfl⟩ (lm_s229 hM) (c_X8_lightTo hM he14) rfl rfl (Nat.le_of_ble_eq_true rfl) ⟨Nat.le_refl 0, Nat.le_refl 0⟩ <| a_isub iX8_poorest_43 <| a_aload iX8_poorest_44 rfl <| a_iload iX8_poorest_45 rfl <| ?_
        obtain ⟨r15, he16, h⟩ := ob h
        refine a_cVi iX8_poorest_47 okX8_lightFrom inX8_lightFrom ⟨rfl, rfl⟩ (lm_s229 hM) (c_X8_lightFrom hM he16) rfl rfl (Nat.le_of_ble_eq_true rfl) ⟨Nat.le_refl 0, Nat.le_refl 0⟩ <| a_iadd iX8_poorest_50 <| a_istore iX8_poorest_51 (by decide) rfl <| a_iload iX8_poorest_53 rfl <| a_iload iX8_poorest_55 rfl <| ?_
        refine a_icmp_ge iX8_poorest_57 (fun hc17 => ?_) (fun hc17 => ?_)
        · have h := ot hc17 h
          refine a_iload iX8_poorest_65 rfl <| a_istore iX8_poorest_66 (by decide) rfl <| a_iload iX8_poorest_67 rfl <| a_iload iX8_poorest_69 rfl <| ?_
          refine a_icmp_ge iX8_poorest_71 (fun hc18 => ?_) (fun hc18 => ?_)
          · have h := ot hc18 h
            refine a_iload iX8_poorest_79 rfl <| a_istore iX8_poorest_81 (by decide) rfl <| a_iinc iX8_poorest_83 rfl (by decide) rfl <| a_goto iX8_poorest_86 <| ?_
            exact a_sub (L' := [some (rf g 229), some (.int v1), some (.int v2), some (.int v3), some (.int v4), some (.int (v5 + 1)), none]) (by exact ⟨rfl, ⟨rfl, ⟨rfl, ⟨rfl, ⟨rfl, ⟨rfl, trivial⟩⟩⟩⟩⟩⟩) (ih _ _ _ h)
          · have h := oe hc18 h
            refine a_iload iX8_poorest_74 rfl <| a_goto iX8_poorest_76 <| a_istore iX8_poorest_81 (by decide) rfl <| a_iinc iX8_poorest_83 rfl (by decide) rfl <| a_goto iX8_poorest_86 <| ?_
            exact a_sub (L' := [some (rf g 229), some (.int v1), some (.int v2), some (.int v3), some (.int ((24 - r13) + r15)), some (.int (v5 + 1)), none]) (by exact ⟨rfl, ⟨rfl, ⟨rfl, ⟨rfl, ⟨rfl, ⟨rfl, trivial⟩⟩⟩⟩⟩⟩) (ih _ _ _ h)
        · have h := oe hc17 h
          refine a_iload iX8_poorest_60 rfl <| a_goto iX8_poorest_62 <| a_istore iX8_poorest_66 (by decide) rfl <| a_iload iX8_poorest_67 rfl <| a_iload iX8_poorest_69 rfl <| ?_
          refine a_icmp_ge iX8_poorest_71 (fun hc19 => ?_) (fun hc19 => ?_)
          · have h := ot hc19 h
            refine a_iload iX8_poorest_79 rfl <| a_istore iX8_poorest_81 (by decide) rfl <| a_iinc iX8_poorest_83 rfl (by decide) rfl <| a_goto iX8_poorest_86 <| ?_
            exact a_sub (L' := [some (rf g 229), some (.int v1), some (.int v2), some (.int v5), some (.int v4), some (.int (v5 + 1)), none]) (by exact ⟨rfl, ⟨rfl, ⟨rfl, ⟨rfl, ⟨rfl, ⟨rfl, trivial⟩⟩⟩⟩⟩⟩) (ih _ _ _ h)
          · have h := oe hc19 h
            refine a_iload iX8_poorest_74 rfl <| a_goto iX8_poorest_76 <| a_istore iX8_poorest_81 (by decide) rfl <| a_iinc iX8_poorest_83 rfl (by decide) rfl <| a_goto iX8_poorest_86 <| ?_
            exact a_sub (L' := [some (rf g 229), some (.int v1), some (.int v2), some (.int v5), some (.int ((24 - r13) + r15)), some (.int (v5 + 1)), none]) (by exact ⟨rfl, ⟨rfl, ⟨rfl, ⟨rfl, ⟨rfl, ⟨rfl, trivial⟩⟩⟩⟩⟩⟩) (ih _ _ _ h)
set_option maxRecDepth 20000 in
set_option maxHeartbeats 4000000 in
theorem c_X8_poorest {g : Gm} {V : Vw} {mi : Mi} {ml : Ml} {x1 : Int32} (hM : LayM V) {r : Int32} (h : f_X8_poorest mi x1 = some r) : DoI g YX8_poorest V [rf g 229, .int x1] mi ml r mi ml := by
  unfold f_X8_poorest at h
  refine does_of (L := [some (rf g 229), some (.int x1), none, none, none, none, none]) okX8_poorest rfl (Nat.le_of_ble_eq_true rfl) rfl ?_
  show At g YX8_poorest _ (qm g YX8_poorest (pI V r mi ml)) V (0, 0) 0 _ [] mi ml
  refine a_aload iX8_poorest_0 rfl <| a_iload iX8_poorest_1 rfl <| ?_
  obtain ⟨r1, he2, h⟩ := ob h
  refine a_cVi iX8_poorest_2 okX8_needWhat inX8_needWhat ⟨rfl, rfl⟩ (lm_s229 hM) (c_X8_needWhat hM he2) rfl rfl (Nat.le_of_ble_eq_true rfl) ⟨Nat.le_refl 0, Nat.le_refl 0⟩ <| a_istore iX8_poorest_5 (by decide) rfl <| a_iload iX8_poorest_6 rfl <| ?_
  refine a_if_ge iX8_poorest_7 (fun hc3 => ?_) (fun hc3 => ?_)
  · have h := ot hc3 h
    refine a_const iX8_poorest_12 <| a_istore iX8_poorest_13 (by decide) rfl <| a_const iX8_poorest_14 <| a_istore iX8_poorest_16 (by decide) rfl <| a_const iX8_poorest_18 <| a_istore iX8_poorest_19 (by decide) rfl <| ?_
    refine a_sub (L' := [some (rf g 229), some (.int x1), some (.int r1), some (.int (-1)), some (.int 25), some (.int 0), none]) (by exact ⟨rfl, ⟨rfl, ⟨rfl, ⟨rfl, ⟨rfl, ⟨rfl, trivial⟩⟩⟩⟩⟩⟩) (w_X8_poorest_21 hM (fun v3_20 v4_20 v5_20 h => ?_) FU _ _ _ h)
    refine a_iload iX8_poorest_89 rfl <| ?_
    refine a_if_ne iX8_poorest_90 (fun hc21 => ?_) (fun hc21 => ?_)
    · have h := oe hc21 h
      refine a_iload iX8_poorest_97 rfl <| ?_
      obtain rfl := Option.some.inj h
      exact a_iret iX8_poorest_99 rfl ⟨Nat.le_refl 0, Nat.le_refl 0⟩ ⟨rfl, rfl, rfl, rfl⟩
    · have h := ot hc21 h
      refine a_iload iX8_poorest_93 rfl <| a_goto iX8_poorest_94 <| ?_
      obtain rfl := Option.some.inj h
      exact a_iret iX8_poorest_99 rfl ⟨Nat.le_refl 0, Nat.le_refl 0⟩ ⟨rfl, rfl, rfl, rfl⟩
  · have h := oe hc3 h
    refine a_iload iX8_poorest_10 rfl <| ?_
    obtain rfl := Option.some.inj h
    exact a_iret iX8_poorest_11 rfl ⟨Nat.le_refl 0, Nat.le_refl 0⟩ ⟨rfl, rfl, rfl, rfl⟩
def f_X8_light (mi : Mi) (x1 : Int32) : Option (Int32) := (f_X8_needWhat mi x1).bind (fun r1 => if 0 ≤ r1 then (if inb 0 121 then if x1 = 0 then ((f_X8_lightFrom mi ((mi 238 (0 : Int32).toNatClampNeg) / 24)).bind (fun r8 => some r8)) else ((f_X8_lightTo mi ((mi 238 (0 : Int32).toNatClampNeg) / 24)).bind (fun r6 => some r6)) else none) else (some r1))
set_option maxRecDepth 20000 in
set_option maxHeartbeats 4000000 in
theorem c_X8_light {g : Gm} {V : Vw} {mi : Mi} {ml : Ml} {x1 : Int32} (hM : LayM V) {r : Int32} (h : f_X8_light mi x1 = some r) : DoI g YX8_light V [rf g 229, .int x1] mi ml r mi ml := by
  unfold f_X8_light at h
  refine does_of (L := [some (rf g 229), some (.int x1), none, none]) okX8_light rfl (Nat.le_of_ble_eq_true rfl) rfl ?_
  show At g YX8_light _ (qm g YX8_light (pI V r mi ml)) V (0, 0) 0 _ [] mi ml
  refine a_aload iX8_light_0 rfl <| a_iload iX8_light_1 rfl <| ?_
  obtain ⟨r1, he2, h⟩ := ob h
  refine a_cVi iX8_light_2 okX8_needWhat inX8_needWhat ⟨rfl, rfl⟩ (lm_s229 hM) (c_X8_needWhat hM he2) rfl rfl (Nat.le_of_ble_eq_true rfl) ⟨Nat.le_refl 0, Nat.le_refl 0⟩ <| a_istore iX8_light_5 (by decide) rfl <| a_iload iX8_light_6 rfl <| ?_
  refine a_if_ge iX8_light_7 (fun hc3 => ?_) (fun hc3 => ?_)
  · have h := ot hc3 h
    refine a_aload iX8_light_12 rfl <| a_getr iX8_light_13 (lm_s229 hM) rfl (lm_r229_27 hM) <| a_const iX8_light_16 <| ?_
    obtain ⟨hg4, h⟩ := og h
    refine a_iald iX8_light_17 (lm_s238 hM) (inb_vp hg4) <| a_const iX8_light_18 <| a_idiv iX8_light_20 (by decide) <| a_istore iX8_light_21 (by decide) rfl <| a_iload iX8_light_22 rfl <| ?_
    refine a_if_ne iX8_light_23 (fun hc5 => ?_) (fun hc5 => ?_)
    · have h := oe hc5 h
      refine a_aload iX8_light_34 rfl <| a_iload iX8_light_35 rfl <| ?_
      obtain ⟨r6, he7, h⟩ := ob h
      refine a_cVi iX8_light_36 okX8_lightTo inX8_lightTo ⟨rfl, rfl⟩ (lm_s229 hM) (c_X8_lightTo hM he7) rfl rfl (Nat.le_of_ble_eq_true rfl) ⟨Nat.le_refl 0, Nat.le_refl 0⟩ <| ?_
      obtain rfl := Option.some.inj h
      exact a_iret iX8_light_39 rfl ⟨Nat.le_refl 0, Nat.le_refl 0⟩ ⟨rfl, rfl, rfl, rfl⟩
    · have h := ot hc5 h
      refine a_aload iX8_light_26 rfl <| a_iload iX8_light_27 rfl <| ?_
      obtain ⟨r8, he9, h⟩ := ob h
      refine a_cVi iX8_light_28 okX8_lightFrom inX8_lightFrom ⟨rfl, rfl⟩ (lm_s229 hM) (c_X8_lightFrom hM he9) rfl rfl (Nat.le_of_ble_eq_true rfl) ⟨Nat.le_refl 0, Nat.le_refl 0⟩ <| a_goto iX8_light_31 <| ?_
      obtain rfl := Option.some.inj h
      exact a_iret iX8_light_39 rfl ⟨Nat.le_refl 0, Nat.le_refl 0⟩ ⟨rfl, rfl, rfl, rfl⟩
  · have h := oe hc3 h
    refine a_iload iX8_light_10 rfl <| ?_
    obtain rfl := Option.some.inj h
    exact a_iret iX8_light_11 rfl ⟨Nat.le_refl 0, Nat.le_refl 0⟩ ⟨rfl, rfl, rfl, rfl⟩
def lp_X8_child_39 (mi : Mi) (v1 : Int32) (v2 : Int32) (K : Int32 → Int32 → Option (Int32)) : Nat → Int32 → Int32 → Option (Int32)
  | 0, _, _ => none
  | n + 1, v3, v4 => if v2 < v4 then (K v3 v4) else (if inb 0 121 then (f_X8_holds mi ((mi 238 (0 : Int32).toNatClampNeg) / 24) (((v1 + v4) + 24) - ((v1 + v4) + 24) / 24 * 24)).bind (fun r12 => lp_X8_child_39 mi v1 v2 K n (v3 ||| (1 <<< (r12 &&& 31))) (v4 + 1)) else none)
def f_X8_child (mi : Mi) (x1 x2 : Int32) : Option (Int32) := (f_X8_in x1 0 23).bind (fun r1 => if r1 = 0 then (some (-1000000002)) else ((f_X8_in x2 0 11).bind (fun r4 => if r4 = 0 then (some (-1000000002)) else ((f_X8_isCounty mi).bind (fun r7 => if r7 = 0 then (some (-1000000003)) else (lp_X8_child_39 mi x1 x2 (fun v3_14 v4_14 => some v3_14) FU 0 (-x2)))))))
set_option maxRecDepth 20000 in
set_option maxHeartbeats 4000000 in
theorem w_X8_child_39 {g : Gm} {V : Vw} {E : Ex} {mi : Mi} {ml : Ml} {v1 v2 : Int32} (hM : LayM V) {K : Int32 → Int32 → Option (Int32)} {r : Int32} (hK : ∀ (v3 : Int32) (v4 : Int32), K v3 v4 = some r → At g YX8_child E (qm g YX8_child (pI V r mi ml)) V (0, 0) 79 [some (rf g 229), some (.int v1), some (.int v2), some (.int v3), some (.int v4)] [] mi ml) : ∀ (n : Nat) (v3 : Int32) (v4 : Int32), lp_X8_child_39 mi v1 v2 K n v3 v4 = some r → At g YX8_child E (qm g YX8_child (pI V r mi ml)) V (0, 0) 39 [some (rf g 229), some (.int v1), some (.int v2), some (.int v3), some (.int v4)] [] mi ml := by
  intro n
  induction n with
  | zero => intro v3 v4 h; exact oz h
  | succ n ih =>
    intro v3 v4 h
    unfold lp_X8_child_39 at h
    refine a_iload iX8_child_39 rfl <| a_iload iX8_child_41 rfl <| ?_
    refine a_icmp_gt iX8_child_42 (fun hc10 => ?_) (fun hc10 => ?_)
    · have h := ot hc10 h
      exact a_sub (L' := [some (rf g 229), some (.int v1), some (.int v2), some (.int v3), some (.int v4)]) (by exact ⟨rfl, ⟨rfl, ⟨rfl, ⟨rfl, ⟨rfl, trivial⟩⟩⟩⟩⟩) (hK _ _ h)
    · have h := oe hc10 h
      refine a_iload iX8_child_45 rfl <| a_const iX8_child_46 <| a_aload iX8_child_47 rfl <| a_aload iX8_child_48 rfl <| a_getr iX8_child_49 (lm_s229 hM) rfl (lm_r229_27 hM) <| a_const iX8_child_52 <| ?_
      obtain ⟨hg11, h⟩ := og h
      refine a_iald iX8_child_53 (lm_s238 hM) (inb_vp hg11) <| a_const iX8_child_54 <| a_idiv iX8_child_56 (by decide) <| a_iload iX8_child_57 rfl <| a_iload iX8_child_58 rfl <| a_iadd iX8_child_60 <| a_const iX8_child_61 <| a_iadd iX8_child_63 <| ?_
      refine a_const iX8_child_64 <| a_irem iX8_child_66 (by decide) <| ?_
      obtain ⟨r12, he13, h⟩ := ob h
      refine a_cVi iX8_child_67 okX8_holds inX8_holds ⟨rfl, rfl⟩ (lm_s229 hM) (c_X8_holds hM he13) rfl rfl (Nat.le_of_ble_eq_true rfl) ⟨Nat.le_refl 0, Nat.le_refl 0⟩ <| a_ishl iX8_child_70 <| a_ior iX8_child_71 <| a_istore iX8_child_72 (by decide) rfl <| a_iinc iX8_child_73 rfl (by decide) rfl <| a_goto iX8_child_76 <| ?_
      exact a_sub (L' := [some (rf g 229), some (.int v1), some (.int v2), some (.int (v3 ||| (1 <<< (r12 &&& 31)))), some (.int (v4 + 1))]) (by exact ⟨rfl, ⟨rfl, ⟨rfl, ⟨rfl, ⟨rfl, trivial⟩⟩⟩⟩⟩) (ih _ _ h)
set_option maxRecDepth 20000 in
set_option maxHeartbeats 4000000 in
theorem c_X8_child {g : Gm} {V : Vw} {mi : Mi} {ml : Ml} {x1 x2 : Int32} (hM : LayM V) {r : Int32} (h : f_X8_child mi x1 x2 = some r) : DoI g YX8_child V [rf g 229, .int x1, .int x2] mi ml r mi ml := by
  unfold f_X8_child at h
  refine does_of (L := [some (rf g 229), some (.int x1), some (.int x2), none, none]) okX8_child rfl (Nat.le_of_ble_eq_true rfl) rfl ?_
  show At g YX8_child _ (qm g YX8_child (pI V r mi ml)) V (0, 0) 0 _ [] mi ml
  refine a_iload iX8_child_0 rfl <| a_const iX8_child_1 <| a_const iX8_child_2 <| ?_
  obtain ⟨r1, he2, h⟩ := ob h
  refine a_cSi iX8_child_4 okX8_in stX8_in ⟨rfl, rfl⟩ (c_X8_in he2) rfl rfl (Nat.le_of_ble_eq_true rfl) ⟨Nat.le_refl 0, Nat.le_refl 0⟩ <| ?_
  refine a_if_eq iX8_child_7 (fun hc3 => ?_) (fun hc3 => ?_)
  · have h := ot hc3 h
    refine a_const iX8_child_20 <| ?_
    obtain rfl := Option.some.inj h
    exact a_iret iX8_child_22 rfl ⟨Nat.le_refl 0, Nat.le_refl 0⟩ ⟨rfl, rfl, rfl, rfl⟩
  · have h := oe hc3 h
    refine a_iload iX8_child_10 rfl <| a_const iX8_child_11 <| a_const iX8_child_12 <| ?_
    obtain ⟨r4, he5, h⟩ := ob h
    refine a_cSi iX8_child_14 okX8_in stX8_in ⟨rfl, rfl⟩ (c_X8_in he5) rfl rfl (Nat.le_of_ble_eq_true rfl) ⟨Nat.le_refl 0, Nat.le_refl 0⟩ <| ?_
    refine a_if_ne iX8_child_17 (fun hc6 => ?_) (fun hc6 => ?_)
    · have h := oe hc6 h
      refine a_aload iX8_child_23 rfl <| ?_
      obtain ⟨r7, he8, h⟩ := ob h
      refine a_cVi iX8_child_24 okX8_isCounty inX8_isCounty ⟨rfl, rfl⟩ (lm_s229 hM) (c_X8_isCounty hM he8) rfl rfl (Nat.le_of_ble_eq_true rfl) ⟨Nat.le_refl 0, Nat.le_refl 0⟩ <| ?_
      refine a_if_ne iX8_child_27 (fun hc9 => ?_) (fun hc9 => ?_)
      · have h := oe hc9 h
        refine a_const iX8_child_33 <| a_istore iX8_child_34 (by decide) rfl <| a_iload iX8_child_35 rfl <| a_ineg iX8_child_36 <| a_istore iX8_child_37 (by decide) rfl <| ?_
        refine a_sub (L' := [some (rf g 229), some (.int x1), some (.int x2), some (.int 0), some (.int (-x2))]) (by exact ⟨rfl, ⟨rfl, ⟨rfl, ⟨rfl, ⟨rfl, trivial⟩⟩⟩⟩⟩) (w_X8_child_39 hM (fun v3_14 v4_14 h => ?_) FU _ _ h)
        refine a_iload iX8_child_79 rfl <| ?_
        obtain rfl := Option.some.inj h
        exact a_iret iX8_child_80 rfl ⟨Nat.le_refl 0, Nat.le_refl 0⟩ ⟨rfl, rfl, rfl, rfl⟩
      · have h := ot hc9 h
        refine a_const iX8_child_30 <| ?_
        obtain rfl := Option.some.inj h
        exact a_iret iX8_child_32 rfl ⟨Nat.le_refl 0, Nat.le_refl 0⟩ ⟨rfl, rfl, rfl, rfl⟩
    · have h := ot hc6 h
      refine a_const iX8_child_20 <| ?_
      obtain rfl := Option.some.inj h
      exact a_iret iX8_child_22 rfl ⟨Nat.le_refl 0, Nat.le_refl 0⟩ ⟨rfl, rfl, rfl, rfl⟩
def lp_X8_clear_30 (mi : Mi) (v1 : Int32) (v2 : Int32) (K : Int64 → Int32 → Option (Int32)) : Nat → Int64 → Int32 → Option (Int32)
  | 0, _, _ => none
  | n + 1, v3, v5 => if v1 ≤ v5 then (K v3 v5) else (lp_X8_clear_30 mi v1 v2 K n ((v3 * (v2.toInt64)) / (100)) (v5 + 1))
def f_X8_clear (mi : Mi) (x1 x2 : Int32) : Option (Int32) := (f_X8_in x1 0 60).bind (fun r1 => if r1 = 0 then (some (-1000000002)) else ((f_X8_in x2 0 100).bind (fun r4 => if r4 = 0 then (some (-1000000002)) else (lp_X8_clear_30 mi x1 x2 (fun v3_8 v5_8 => some (v3_8.toInt32)) FU (1000000000) 0))))
set_option maxRecDepth 20000 in
set_option maxHeartbeats 4000000 in
theorem w_X8_clear_30 {g : Gm} {V : Vw} {E : Ex} {mi : Mi} {ml : Ml} {v1 v2 : Int32} (hM : LayM V) {K : Int64 → Int32 → Option (Int32)} {r : Int32} (hK : ∀ (v3 : Int64) (v5 : Int32), K v3 v5 = some r → At g YX8_clear E (qm g YX8_clear (pI V r mi ml)) V (0, 0) 51 [some (rf g 229), some (.int v1), some (.int v2), some (.long v3), none, some (.int v5)] [] mi ml) : ∀ (n : Nat) (v3 : Int64) (v5 : Int32), lp_X8_clear_30 mi v1 v2 K n v3 v5 = some r → At g YX8_clear E (qm g YX8_clear (pI V r mi ml)) V (0, 0) 30 [some (rf g 229), some (.int v1), some (.int v2), some (.long v3), none, some (.int v5)] [] mi ml := by
  intro n
  induction n with
  | zero => intro v3 v5 h; exact oz h
  | succ n ih =>
    intro v3 v5 h
    unfold lp_X8_clear_30 at h
    refine a_iload iX8_clear_30 rfl <| a_iload iX8_clear_32 rfl <| ?_
    refine a_icmp_ge iX8_clear_33 (fun hc7 => ?_) (fun hc7 => ?_)
    · have h := ot hc7 h
      exact a_sub (L' := [some (rf g 229), some (.int v1), some (.int v2), some (.long v3), none, some (.int v5)]) (by exact ⟨rfl, ⟨rfl, ⟨rfl, ⟨rfl, ⟨rfl, trivial⟩⟩⟩⟩⟩) (hK _ _ h)
    · have h := oe hc7 h
      refine a_lload iX8_clear_36 rfl <| a_iload iX8_clear_37 rfl <| a_i2l iX8_clear_38 <| a_lmul iX8_clear_39 <| a_lconst iX8_clear_40 <| a_ldiv iX8_clear_43 (by decide) <| a_lstore iX8_clear_44 (by decide) rfl <| a_iinc iX8_clear_45 rfl (by decide) rfl <| ?_
      refine a_goto iX8_clear_48 <| ?_
      exact a_sub (L' := [some (rf g 229), some (.int v1), some (.int v2), some (.long ((v3 * (v2.toInt64)) / (100))), none, some (.int (v5 + 1))]) (by exact ⟨rfl, ⟨rfl, ⟨rfl, ⟨rfl, ⟨rfl, trivial⟩⟩⟩⟩⟩) (ih _ _ h)
set_option maxRecDepth 20000 in
set_option maxHeartbeats 4000000 in
theorem c_X8_clear {g : Gm} {V : Vw} {mi : Mi} {ml : Ml} {x1 x2 : Int32} (hM : LayM V) {r : Int32} (h : f_X8_clear mi x1 x2 = some r) : DoI g YX8_clear V [rf g 229, .int x1, .int x2] mi ml r mi ml := by
  unfold f_X8_clear at h
  refine does_of (L := [some (rf g 229), some (.int x1), some (.int x2), none, none, none]) okX8_clear rfl (Nat.le_of_ble_eq_true rfl) rfl ?_
  show At g YX8_clear _ (qm g YX8_clear (pI V r mi ml)) V (0, 0) 0 _ [] mi ml
  refine a_iload iX8_clear_0 rfl <| a_const iX8_clear_1 <| a_const iX8_clear_2 <| ?_
  obtain ⟨r1, he2, h⟩ := ob h
  refine a_cSi iX8_clear_4 okX8_in stX8_in ⟨rfl, rfl⟩ (c_X8_in he2) rfl rfl (Nat.le_of_ble_eq_true rfl) ⟨Nat.le_refl 0, Nat.le_refl 0⟩ <| ?_
  refine a_if_eq iX8_clear_7 (fun hc3 => ?_) (fun hc3 => ?_)
  · have h := ot hc3 h
    refine a_const iX8_clear_20 <| ?_
    obtain rfl := Option.some.inj h
    exact a_iret iX8_clear_22 rfl ⟨Nat.le_refl 0, Nat.le_refl 0⟩ ⟨rfl, rfl, rfl, rfl⟩
  · have h := oe hc3 h
    refine a_iload iX8_clear_10 rfl <| a_const iX8_clear_11 <| a_const iX8_clear_12 <| ?_
    obtain ⟨r4, he5, h⟩ := ob h
    refine a_cSi iX8_clear_14 okX8_in stX8_in ⟨rfl, rfl⟩ (c_X8_in he5) rfl rfl (Nat.le_of_ble_eq_true rfl) ⟨Nat.le_refl 0, Nat.le_refl 0⟩ <| ?_
    refine a_if_ne iX8_clear_17 (fun hc6 => ?_) (fun hc6 => ?_)
    · have h := oe hc6 h
      refine a_lconst iX8_clear_23 <| a_lstore iX8_clear_26 (by decide) rfl <| a_const iX8_clear_27 <| a_istore iX8_clear_28 (by decide) rfl <| ?_
      refine a_sub (L' := [some (rf g 229), some (.int x1), some (.int x2), some (.long (1000000000)), none, some (.int 0)]) (by exact ⟨rfl, ⟨rfl, ⟨rfl, ⟨rfl, ⟨rfl, trivial⟩⟩⟩⟩⟩) (w_X8_clear_30 hM (fun v3_8 v5_8 h => ?_) FU _ _ h)
      refine a_lload iX8_clear_51 rfl <| a_l2i iX8_clear_52 <| ?_
      obtain rfl := Option.some.inj h
      exact a_iret iX8_clear_53 rfl ⟨Nat.le_refl 0, Nat.le_refl 0⟩ ⟨rfl, rfl, rfl, rfl⟩
    · have h := ot hc6 h
      refine a_const iX8_clear_20 <| ?_
      obtain rfl := Option.some.inj h
      exact a_iret iX8_clear_22 rfl ⟨Nat.le_refl 0, Nat.le_refl 0⟩ ⟨rfl, rfl, rfl, rfl⟩
def f_X8_find (mi : Mi) (x1 x2 x3 : Int32) : Option (Int32 × Mi) := (f_X8_isThing mi x1).bind (fun r1 => if r1 = 0 then (some ((-1000000001), mi)) else ((f_X8_isValue x2).bind (fun r4 => if r4 = 0 then (some ((-1000000002), mi)) else (if (mi 229 32) = 6 then (some ((-1000000004), mi)) else (if inb (mi 229 32) 6 then if inb ((u2 mi 240 (mi 229 32).toNatClampNeg x1) 229 32) 6 then nx (u2 (u2 mi 240 (mi 229 32).toNatClampNeg x1) 241 ((u2 mi 240 (mi 229 32).toNatClampNeg x1) 229 32).toNatClampNeg x2) (fun mi11 => if inb (mi11 229 32) 6 then if x3 = 0 ∨ x3 = 1 then nx (u2 (u2 mi11 242 (mi11 229 32).toNatClampNeg x3) 229 32 (((u2 mi11 242 (mi11 229 32).toNatClampNeg x3) 229 32) + 1)) (fun mi15 => some (mi15 229 32, mi15)) else none else none) else none else none)))))
set_option maxRecDepth 20000 in
set_option maxHeartbeats 4000000 in
theorem c_X8_find {g : Gm} {V : Vw} {mi : Mi} {ml : Ml} {x1 x2 x3 : Int32} (hM : LayM V) {r : Int32 × Mi} (h : f_X8_find mi x1 x2 x3 = some r) : DoI g YX8_find V [rf g 229, .int x1, .int x2, .int x3] mi ml (r.1) (r.2) ml := by
  unfold f_X8_find at h
  refine does_of (L := [some (rf g 229), some (.int x1), some (.int x2), some (.int x3)]) okX8_find rfl (Nat.le_of_ble_eq_true rfl) rfl ?_
  show At g YX8_find _ (qm g YX8_find (pI V (r.1) (r.2) ml)) V (0, 0) 0 _ [] mi ml
  refine a_aload iX8_find_0 rfl <| a_iload iX8_find_1 rfl <| ?_
  obtain ⟨r1, he2, h⟩ := ob h
  refine a_cVi iX8_find_2 okX8_isThing inX8_isThing ⟨rfl, rfl⟩ (lm_s229 hM) (c_X8_isThing hM he2) rfl rfl (Nat.le_of_ble_eq_true rfl) ⟨Nat.le_refl 0, Nat.le_refl 0⟩ <| ?_
  refine a_if_ne iX8_find_5 (fun hc3 => ?_) (fun hc3 => ?_)
  · have h := oe hc3 h
    refine a_iload iX8_find_11 rfl <| ?_
    obtain ⟨r4, he5, h⟩ := ob h
    refine a_cSi iX8_find_12 okX8_isValue stX8_isValue ⟨rfl, rfl⟩ (c_X8_isValue he5) rfl rfl (Nat.le_of_ble_eq_true rfl) ⟨Nat.le_refl 0, Nat.le_refl 0⟩ <| ?_
    refine a_if_ne iX8_find_15 (fun hc6 => ?_) (fun hc6 => ?_)
    · have h := oe hc6 h
      refine a_aload iX8_find_21 rfl <| a_geti iX8_find_22 (lm_s229 hM) rfl <| a_const iX8_find_25 <| ?_
      refine a_icmp_ne iX8_find_27 (fun hc7 => ?_) (fun hc7 => ?_)
      · have h := oe hc7 h
        refine a_aload iX8_find_33 rfl <| a_getr iX8_find_34 (lm_s229 hM) rfl (lm_r229_33 hM) <| a_aload iX8_find_37 rfl <| a_geti iX8_find_38 (lm_s229 hM) rfl <| a_iload iX8_find_41 rfl <| ?_
        obtain ⟨hg8, h⟩ := og h
        refine a_iast iX8_find_42 (lm_s240 hM) (inb_vp hg8) <| a_aload iX8_find_43 rfl <| a_getr iX8_find_44 (lm_s229 hM) rfl (lm_r229_34 hM) <| a_aload iX8_find_47 rfl <| a_geti iX8_find_48 (lm_s229 hM) rfl <| a_iload iX8_find_51 rfl <| ?_
        obtain ⟨hg9, h⟩ := og h
        refine a_iast iX8_find_52 (lm_s241 hM) (inb_vp hg9) <| ?_
        obtain ⟨mi11, hm10, h⟩ := onx h
        refine a_mem hm10 <| a_aload iX8_find_53 rfl <| a_getr iX8_find_54 (lm_s229 hM) rfl (lm_r229_35 hM) <| a_aload iX8_find_57 rfl <| a_geti iX8_find_58 (lm_s229 hM) rfl <| a_iload iX8_find_61 rfl <| ?_
        obtain ⟨hg12, h⟩ := og h
        obtain ⟨hz13, h⟩ := og h
        refine a_zast iX8_find_62 (lm_s242 hM) (inb_vp hg12) (nb01 hz13) <| a_aload iX8_find_63 rfl <| a_dup iX8_find_64 rfl <| a_geti iX8_find_65 (lm_s229 hM) rfl <| a_const iX8_find_68 <| a_iadd iX8_find_69 <| a_puti iX8_find_70 (lm_s229 hM) rfl rfl rfl <| ?_
        obtain ⟨mi15, hm14, h⟩ := onx h
        refine a_mem hm14 <| a_aload iX8_find_73 rfl <| a_geti iX8_find_74 (lm_s229 hM) rfl <| ?_
        obtain rfl := Option.some.inj h
        exact a_iret iX8_find_77 rfl ⟨Nat.le_refl 0, Nat.le_refl 0⟩ ⟨rfl, rfl, rfl, rfl⟩
      · have h := ot hc7 h
        refine a_const iX8_find_30 <| ?_
        obtain rfl := Option.some.inj h
        exact a_iret iX8_find_32 rfl ⟨Nat.le_refl 0, Nat.le_refl 0⟩ ⟨rfl, rfl, rfl, rfl⟩
    · have h := ot hc6 h
      refine a_const iX8_find_18 <| ?_
      obtain rfl := Option.some.inj h
      exact a_iret iX8_find_20 rfl ⟨Nat.le_refl 0, Nat.le_refl 0⟩ ⟨rfl, rfl, rfl, rfl⟩
  · have h := ot hc3 h
    refine a_const iX8_find_8 <| ?_
    obtain rfl := Option.some.inj h
    exact a_iret iX8_find_10 rfl ⟨Nat.le_refl 0, Nat.le_refl 0⟩ ⟨rfl, rfl, rfl, rfl⟩
def f_X8_valueBy (mi : Mi) (x1 x2 : Int32) : Option (Int32) := if (x1 / 10) = x2 then (some (x1 - x1 / 10 * 10)) else (if inb (8 + x2) 121 then some (mi 238 (8 + x2).toNatClampNeg) else none)
set_option maxRecDepth 20000 in
set_option maxHeartbeats 4000000 in
theorem c_X8_valueBy {g : Gm} {V : Vw} {mi : Mi} {ml : Ml} {x1 x2 : Int32} (hM : LayM V) {r : Int32} (h : f_X8_valueBy mi x1 x2 = some r) : DoI g YX8_valueBy V [rf g 229, .int x1, .int x2] mi ml r mi ml := by
  unfold f_X8_valueBy at h
  refine does_of (L := [some (rf g 229), some (.int x1), some (.int x2)]) okX8_valueBy rfl (Nat.le_of_ble_eq_true rfl) rfl ?_
  show At g YX8_valueBy _ (qm g YX8_valueBy (pI V r mi ml)) V (0, 0) 0 _ [] mi ml
  refine a_iload iX8_valueBy_0 rfl <| a_const iX8_valueBy_1 <| a_idiv iX8_valueBy_3 (by decide) <| a_iload iX8_valueBy_4 rfl <| ?_
  refine a_icmp_ne iX8_valueBy_5 (fun hc1 => ?_) (fun hc1 => ?_)
  · have h := oe hc1 h
    refine a_aload iX8_valueBy_15 rfl <| a_getr iX8_valueBy_16 (lm_s229 hM) rfl (lm_r229_27 hM) <| a_const iX8_valueBy_19 <| a_iload iX8_valueBy_21 rfl <| a_iadd iX8_valueBy_22 <| ?_
    obtain ⟨hg2, h⟩ := og h
    refine a_iald iX8_valueBy_23 (lm_s238 hM) (inb_vp hg2) <| ?_
    obtain rfl := Option.some.inj h
    exact a_iret iX8_valueBy_24 rfl ⟨Nat.le_refl 0, Nat.le_refl 0⟩ ⟨rfl, rfl, rfl, rfl⟩
  · have h := ot hc1 h
    refine a_iload iX8_valueBy_8 rfl <| a_const iX8_valueBy_9 <| a_irem iX8_valueBy_11 (by decide) <| a_goto iX8_valueBy_12 <| ?_
    obtain rfl := Option.some.inj h
    exact a_iret iX8_valueBy_24 rfl ⟨Nat.le_refl 0, Nat.le_refl 0⟩ ⟨rfl, rfl, rfl, rfl⟩
def lp_X8_isFit_4 (mi : Mi) (v1 : Int32) (K : Int32 → Int32 → Option (Int32)) : Nat → Int32 → Int32 → Option (Int32)
  | 0, _, _ => none
  | n + 1, v2, v3 => if (mi 229 32) ≤ v3 then (K v2 v3) else (if v2 = 0 then (lp_X8_isFit_4 mi v1 K n 0 (v3 + 1)) else (if inb v3 6 then (f_X8_valueBy mi v1 (mi 240 v3.toNatClampNeg)).bind (fun r4 => if inb v3 6 then if r4 = (mi 241 v3.toNatClampNeg) then (if inb v3 6 then if 1 = (mi 242 v3.toNatClampNeg) then (lp_X8_isFit_4 mi v1 K n 1 (v3 + 1)) else (lp_X8_isFit_4 mi v1 K n 0 (v3 + 1)) else none) else (if inb v3 6 then if 0 = (mi 242 v3.toNatClampNeg) then (lp_X8_isFit_4 mi v1 K n 1 (v3 + 1)) else (lp_X8_isFit_4 mi v1 K n 0 (v3 + 1)) else none) else none) else none))
def f_X8_isFit (mi : Mi) (x1 : Int32) : Option (Int32) := lp_X8_isFit_4 mi x1 (fun v2_12 v3_12 => if v2_12 = 0 ∨ v2_12 = 1 then some v2_12 else none) FU 1 0
set_option maxRecDepth 20000 in
set_option maxHeartbeats 4000000 in
theorem w_X8_isFit_4 {g : Gm} {V : Vw} {E : Ex} {mi : Mi} {ml : Ml} {v1 : Int32} (hM : LayM V) {K : Int32 → Int32 → Option (Int32)} {r : Int32} (hK : ∀ (v2 : Int32) (v3 : Int32), K v2 v3 = some r → At g YX8_isFit E (qm g YX8_isFit (pI V r mi ml)) V (0, 0) 62 [some (rf g 229), some (.int v1), some (.int v2), some (.int v3)] [] mi ml) : ∀ (n : Nat) (v2 : Int32) (v3 : Int32), lp_X8_isFit_4 mi v1 K n v2 v3 = some r → At g YX8_isFit E (qm g YX8_isFit (pI V r mi ml)) V (0, 0) 4 [some (rf g 229), some (.int v1), some (.int v2), some (.int v3)] [] mi ml := by
  intro n
  induction n with
  | zero => intro v2 v3 h; exact oz h
  | succ n ih =>
    intro v2 v3 h
    unfold lp_X8_isFit_4 at h
    refine a_iload iX8_isFit_4 rfl <| a_aload iX8_isFit_5 rfl <| a_geti iX8_isFit_6 (lm_s229 hM) rfl <| ?_
    refine a_icmp_ge iX8_isFit_9 (fun hc1 => ?_) (fun hc1 => ?_)
    · have h := ot hc1 h
      exact a_sub (L' := [some (rf g 229), some (.int v1), some (.int v2), some (.int v3)]) (by exact ⟨rfl, ⟨rfl, ⟨rfl, ⟨rfl, trivial⟩⟩⟩⟩) (hK _ _ h)
    · have h := oe hc1 h
      refine a_iload iX8_isFit_12 rfl <| ?_
      refine a_if_eq iX8_isFit_13 (fun hc2 => ?_) (fun hc2 => ?_)
      · have h := ot hc2 h
        refine a_const iX8_isFit_54 <| a_istore iX8_isFit_55 (by decide) rfl <| a_iinc iX8_isFit_56 rfl (by decide) rfl <| a_goto iX8_isFit_59 <| ?_
        exact a_sub (L' := [some (rf g 229), some (.int v1), some (.int 0), some (.int (v3 + 1))]) (by exact ⟨rfl, ⟨rfl, ⟨rfl, ⟨rfl, trivial⟩⟩⟩⟩) (ih _ _ h)
      · have h := oe hc2 h
        refine a_aload iX8_isFit_16 rfl <| a_iload iX8_isFit_17 rfl <| a_aload iX8_isFit_18 rfl <| a_getr iX8_isFit_19 (lm_s229 hM) rfl (lm_r229_33 hM) <| a_iload iX8_isFit_22 rfl <| ?_
        obtain ⟨hg3, h⟩ := og h
        refine a_iald iX8_isFit_23 (lm_s240 hM) (inb_vp hg3) <| ?_
        obtain ⟨r4, he5, h⟩ := ob h
        refine a_cVi iX8_isFit_24 okX8_valueBy inX8_valueBy ⟨rfl, rfl⟩ (lm_s229 hM) (c_X8_valueBy hM he5) rfl rfl (Nat.le_of_ble_eq_true rfl) ⟨Nat.le_refl 0, Nat.le_refl 0⟩ <| a_aload iX8_isFit_27 rfl <| a_getr iX8_isFit_28 (lm_s229 hM) rfl (lm_r229_34 hM) <| a_iload iX8_isFit_31 rfl <| ?_
        obtain ⟨hg6, h⟩ := og h
        refine a_iald iX8_isFit_32 (lm_s241 hM) (inb_vp hg6) <| ?_
        refine a_icmp_ne iX8_isFit_33 (fun hc7 => ?_) (fun hc7 => ?_)
        · have h := oe hc7 h
          refine a_const iX8_isFit_40 <| a_aload iX8_isFit_41 rfl <| a_getr iX8_isFit_42 (lm_s229 hM) rfl (lm_r229_35 hM) <| a_iload iX8_isFit_45 rfl <| ?_
          obtain ⟨hg8, h⟩ := og h
          refine a_zald iX8_isFit_46 (lm_s242 hM) (inb_vp hg8) <| ?_
          refine a_icmp_ne iX8_isFit_47 (fun hc9 => ?_) (fun hc9 => ?_)
          · have h := oe hc9 h
            refine a_const iX8_isFit_54 <| a_istore iX8_isFit_55 (by decide) rfl <| a_iinc iX8_isFit_56 rfl (by decide) rfl <| a_goto iX8_isFit_59 <| ?_
            exact a_sub (L' := [some (rf g 229), some (.int v1), some (.int 0), some (.int (v3 + 1))]) (by exact ⟨rfl, ⟨rfl, ⟨rfl, ⟨rfl, trivial⟩⟩⟩⟩) (ih _ _ h)
          · have h := ot hc9 h
            refine a_const iX8_isFit_50 <| a_goto iX8_isFit_51 <| a_istore iX8_isFit_55 (by decide) rfl <| a_iinc iX8_isFit_56 rfl (by decide) rfl <| a_goto iX8_isFit_59 <| ?_
            exact a_sub (L' := [some (rf g 229), some (.int v1), some (.int 1), some (.int (v3 + 1))]) (by exact ⟨rfl, ⟨rfl, ⟨rfl, ⟨rfl, trivial⟩⟩⟩⟩) (ih _ _ h)
        · have h := ot hc7 h
          refine a_const iX8_isFit_36 <| a_goto iX8_isFit_37 <| a_aload iX8_isFit_41 rfl <| a_getr iX8_isFit_42 (lm_s229 hM) rfl (lm_r229_35 hM) <| a_iload iX8_isFit_45 rfl <| ?_
          obtain ⟨hg10, h⟩ := og h
          refine a_zald iX8_isFit_46 (lm_s242 hM) (inb_vp hg10) <| ?_
          refine a_icmp_ne iX8_isFit_47 (fun hc11 => ?_) (fun hc11 => ?_)
          · have h := oe hc11 h
            refine a_const iX8_isFit_54 <| a_istore iX8_isFit_55 (by decide) rfl <| a_iinc iX8_isFit_56 rfl (by decide) rfl <| a_goto iX8_isFit_59 <| ?_
            exact a_sub (L' := [some (rf g 229), some (.int v1), some (.int 0), some (.int (v3 + 1))]) (by exact ⟨rfl, ⟨rfl, ⟨rfl, ⟨rfl, trivial⟩⟩⟩⟩) (ih _ _ h)
          · have h := ot hc11 h
            refine a_const iX8_isFit_50 <| a_goto iX8_isFit_51 <| a_istore iX8_isFit_55 (by decide) rfl <| a_iinc iX8_isFit_56 rfl (by decide) rfl <| a_goto iX8_isFit_59 <| ?_
            exact a_sub (L' := [some (rf g 229), some (.int v1), some (.int 1), some (.int (v3 + 1))]) (by exact ⟨rfl, ⟨rfl, ⟨rfl, ⟨rfl, trivial⟩⟩⟩⟩) (ih _ _ h)
set_option maxRecDepth 20000 in
set_option maxHeartbeats 4000000 in
theorem c_X8_isFit {g : Gm} {V : Vw} {mi : Mi} {ml : Ml} {x1 : Int32} (hM : LayM V) {r : Int32} (h : f_X8_isFit mi x1 = some r) : DoI g YX8_isFit V [rf g 229, .int x1] mi ml r mi ml := by
  unfold f_X8_isFit at h
  refine does_of (L := [some (rf g 229), some (.int x1), none, none]) okX8_isFit rfl (Nat.le_of_ble_eq_true rfl) rfl ?_
  show At g YX8_isFit _ (qm g YX8_isFit (pI V r mi ml)) V (0, 0) 0 _ [] mi ml
  refine a_const iX8_isFit_0 <| a_istore iX8_isFit_1 (by decide) rfl <| a_const iX8_isFit_2 <| a_istore iX8_isFit_3 (by decide) rfl <| ?_
  refine a_sub (L' := [some (rf g 229), some (.int x1), some (.int 1), some (.int 0)]) (by exact ⟨rfl, ⟨rfl, ⟨rfl, ⟨rfl, trivial⟩⟩⟩⟩) (w_X8_isFit_4 hM (fun v2_12 v3_12 h => ?_) FU _ _ h)
  refine a_iload iX8_isFit_62 rfl <| ?_
  obtain ⟨hz13, h⟩ := og h
  obtain rfl := Option.some.inj h
  exact a_zret iX8_isFit_63 rfl (nb01 hz13) ⟨Nat.le_refl 0, Nat.le_refl 0⟩ ⟨rfl, rfl, rfl, rfl⟩
def lp_X8_fits_27 (mi : Mi) (v1 : Int32) (K : Int32 → Int32 → Int32 → Option (Int32)) : Nat → Int32 → Int32 → Int32 → Option (Int32)
  | 0, _, _, _ => none
  | n + 1, v2, v3, v4 => if v4 < 0 then (K v2 v3 v4) else ((f_X8_isFit mi v4).bind (fun r5 => if r5 = 0 then (if r5 = 0 then (lp_X8_fits_27 mi v1 K n (v2 + 0) v3 (v4 + (-1))) else (lp_X8_fits_27 mi v1 K n (v2 + 0) v4 (v4 + (-1)))) else (if r5 = 0 then (lp_X8_fits_27 mi v1 K n (v2 + 1) v3 (v4 + (-1))) else (lp_X8_fits_27 mi v1 K n (v2 + 1) v4 (v4 + (-1))))))
def f_X8_fits (mi : Mi) (x1 : Int32) : Option (Int32) := (f_X8_in x1 0 1).bind (fun r1 => if r1 = 0 then (some (-1000000002)) else (lp_X8_fits_27 mi x1 (fun v2_10 v3_10 v4_10 => if x1 = 0 then (some v2_10) else (some v3_10)) FU 0 (-1) ((10 * (mi 229 20)) - 1)))
set_option maxRecDepth 20000 in
set_option maxHeartbeats 4000000 in
theorem w_X8_fits_27 {g : Gm} {V : Vw} {E : Ex} {mi : Mi} {ml : Ml} {v1 : Int32} (hM : LayM V) {K : Int32 → Int32 → Int32 → Option (Int32)} {r : Int32} (hK : ∀ (v2 : Int32) (v3 : Int32) (v4 : Int32), K v2 v3 v4 = some r → At g YX8_fits E (qm g YX8_fits (pI V r mi ml)) V (0, 0) 71 [some (rf g 229), some (.int v1), some (.int v2), some (.int v3), some (.int v4), none] [] mi ml) : ∀ (n : Nat) (v2 : Int32) (v3 : Int32) (v4 : Int32), lp_X8_fits_27 mi v1 K n v2 v3 v4 = some r → At g YX8_fits E (qm g YX8_fits (pI V r mi ml)) V (0, 0) 27 [some (rf g 229), some (.int v1), some (.int v2), some (.int v3), some (.int v4), none] [] mi ml := by
  intro n
  induction n with
  | zero => intro v2 v3 v4 h; exact oz h
  | succ n ih =>
    intro v2 v3 v4 h
    unfold lp_X8_fits_27 at h
    refine a_iload iX8_fits_27 rfl <| ?_
    refine a_if_lt iX8_fits_29 (fun hc4 => ?_) (fun hc4 => ?_)
    · have h := ot hc4 h
      exact a_sub (L' := [some (rf g 229), some (.int v1), some (.int v2), some (.int v3), some (.int v4), none]) (by exact ⟨rfl, ⟨rfl, ⟨rfl, ⟨rfl, ⟨rfl, trivial⟩⟩⟩⟩⟩) (hK _ _ _ h)
    · have h := oe hc4 h
      refine a_aload iX8_fits_32 rfl <| a_iload iX8_fits_33 rfl <| ?_
      obtain ⟨r5, he6, h⟩ := ob h
      refine a_cVi iX8_fits_35 okX8_isFit inX8_isFit ⟨rfl, rfl⟩ (lm_s229 hM) (c_X8_isFit hM he6) rfl rfl (Nat.le_of_ble_eq_true rfl) ⟨Nat.le_refl 0, Nat.le_refl 0⟩ <| a_istore iX8_fits_38 (by decide) rfl <| a_iload iX8_fits_40 rfl <| a_iload iX8_fits_41 rfl <| ?_
      refine a_if_eq iX8_fits_43 (fun hc7 => ?_) (fun hc7 => ?_)
      · have h := ot hc7 h
        refine a_const iX8_fits_50 <| a_iadd iX8_fits_51 <| a_istore iX8_fits_52 (by decide) rfl <| a_iload iX8_fits_53 rfl <| ?_
        refine a_if_eq iX8_fits_55 (fun hc8 => ?_) (fun hc8 => ?_)
        · have h := ot hc8 h
          refine a_iload iX8_fits_63 rfl <| a_istore iX8_fits_64 (by decide) rfl <| a_iinc iX8_fits_65 rfl (by decide) rfl <| a_goto iX8_fits_68 <| ?_
          exact a_sub (L' := [some (rf g 229), some (.int v1), some (.int (v2 + 0)), some (.int v3), some (.int (v4 + (-1))), none]) (by exact ⟨rfl, ⟨rfl, ⟨rfl, ⟨rfl, ⟨rfl, trivial⟩⟩⟩⟩⟩) (ih _ _ _ h)
        · have h := oe hc8 h
          refine a_iload iX8_fits_58 rfl <| a_goto iX8_fits_60 <| a_istore iX8_fits_64 (by decide) rfl <| a_iinc iX8_fits_65 rfl (by decide) rfl <| a_goto iX8_fits_68 <| ?_
          exact a_sub (L' := [some (rf g 229), some (.int v1), some (.int (v2 + 0)), some (.int v4), some (.int (v4 + (-1))), none]) (by exact ⟨rfl, ⟨rfl, ⟨rfl, ⟨rfl, ⟨rfl, trivial⟩⟩⟩⟩⟩) (ih _ _ _ h)
      · have h := oe hc7 h
        refine a_const iX8_fits_46 <| a_goto iX8_fits_47 <| a_iadd iX8_fits_51 <| a_istore iX8_fits_52 (by decide) rfl <| a_iload iX8_fits_53 rfl <| ?_
        refine a_if_eq iX8_fits_55 (fun hc9 => ?_) (fun hc9 => ?_)
        · have h := ot hc9 h
          refine a_iload iX8_fits_63 rfl <| a_istore iX8_fits_64 (by decide) rfl <| a_iinc iX8_fits_65 rfl (by decide) rfl <| a_goto iX8_fits_68 <| ?_
          exact a_sub (L' := [some (rf g 229), some (.int v1), some (.int (v2 + 1)), some (.int v3), some (.int (v4 + (-1))), none]) (by exact ⟨rfl, ⟨rfl, ⟨rfl, ⟨rfl, ⟨rfl, trivial⟩⟩⟩⟩⟩) (ih _ _ _ h)
        · have h := oe hc9 h
          refine a_iload iX8_fits_58 rfl <| a_goto iX8_fits_60 <| a_istore iX8_fits_64 (by decide) rfl <| a_iinc iX8_fits_65 rfl (by decide) rfl <| a_goto iX8_fits_68 <| ?_
          exact a_sub (L' := [some (rf g 229), some (.int v1), some (.int (v2 + 1)), some (.int v4), some (.int (v4 + (-1))), none]) (by exact ⟨rfl, ⟨rfl, ⟨rfl, ⟨rfl, ⟨rfl, trivial⟩⟩⟩⟩⟩) (ih _ _ _ h)
set_option maxRecDepth 20000 in
set_option maxHeartbeats 4000000 in
theorem c_X8_fits {g : Gm} {V : Vw} {mi : Mi} {ml : Ml} {x1 : Int32} (hM : LayM V) {r : Int32} (h : f_X8_fits mi x1 = some r) : DoI g YX8_fits V [rf g 229, .int x1] mi ml r mi ml := by
  unfold f_X8_fits at h
  refine does_of (L := [some (rf g 229), some (.int x1), none, none, none, none]) okX8_fits rfl (Nat.le_of_ble_eq_true rfl) rfl ?_
  show At g YX8_fits _ (qm g YX8_fits (pI V r mi ml)) V (0, 0) 0 _ [] mi ml
  refine a_iload iX8_fits_0 rfl <| a_const iX8_fits_1 <| a_const iX8_fits_2 <| ?_
  obtain ⟨r1, he2, h⟩ := ob h
  refine a_cSi iX8_fits_3 okX8_in stX8_in ⟨rfl, rfl⟩ (c_X8_in he2) rfl rfl (Nat.le_of_ble_eq_true rfl) ⟨Nat.le_refl 0, Nat.le_refl 0⟩ <| ?_
  refine a_if_ne iX8_fits_6 (fun hc3 => ?_) (fun hc3 => ?_)
  · have h := oe hc3 h
    refine a_const iX8_fits_12 <| a_istore iX8_fits_13 (by decide) rfl <| a_const iX8_fits_14 <| a_istore iX8_fits_15 (by decide) rfl <| a_const iX8_fits_16 <| a_aload iX8_fits_18 rfl <| a_geti iX8_fits_19 (lm_s229 hM) rfl <| a_imul iX8_fits_22 <| ?_
    refine a_const iX8_fits_23 <| a_isub iX8_fits_24 <| a_istore iX8_fits_25 (by decide) rfl <| ?_
    refine a_sub (L' := [some (rf g 229), some (.int x1), some (.int 0), some (.int (-1)), some (.int ((10 * (mi 229 20)) - 1)), none]) (by exact ⟨rfl, ⟨rfl, ⟨rfl, ⟨rfl, ⟨rfl, trivial⟩⟩⟩⟩⟩) (w_X8_fits_27 hM (fun v2_10 v3_10 v4_10 h => ?_) FU _ _ _ h)
    refine a_iload iX8_fits_71 rfl <| ?_
    refine a_if_ne iX8_fits_72 (fun hc11 => ?_) (fun hc11 => ?_)
    · have h := oe hc11 h
      refine a_iload iX8_fits_79 rfl <| ?_
      obtain rfl := Option.some.inj h
      exact a_iret iX8_fits_80 rfl ⟨Nat.le_refl 0, Nat.le_refl 0⟩ ⟨rfl, rfl, rfl, rfl⟩
    · have h := ot hc11 h
      refine a_iload iX8_fits_75 rfl <| a_goto iX8_fits_76 <| ?_
      obtain rfl := Option.some.inj h
      exact a_iret iX8_fits_80 rfl ⟨Nat.le_refl 0, Nat.le_refl 0⟩ ⟨rfl, rfl, rfl, rfl⟩
  · have h := ot hc3 h
    refine a_const iX8_fits_9 <| ?_
    obtain rfl := Option.some.inj h
    exact a_iret iX8_fits_11 rfl ⟨Nat.le_refl 0, Nat.le_refl 0⟩ ⟨rfl, rfl, rfl, rfl⟩
def lp_X8_alike_2 (v1 : Int32) (K : Int32 → Mi → Option (Int32 × Mi)) : Nat → Int32 → Mi → Option (Int32 × Mi)
  | 0, _, _ => none
  | n + 1, v2, mi => if 9 < v2 then (K v2 mi) else (if inb v2 10 then lp_X8_alike_2 v1 K n (v2 + 1) (u2 mi 243 v2.toNatClampNeg 0) else none)
def lp_X8_alike_25 (v1 : Int32) (K : Int32 → Int32 → Mi → Option (Int32 × Mi)) : Nat → Int32 → Int32 → Mi → Option (Int32 × Mi)
  | 0, _, _, _ => none
  | n + 1, v2, v3, mi => if (10 * (mi 229 20)) ≤ v3 then (K v2 v3 mi) else ((f_X8_isFit mi v3).bind (fun r5 => if r5 = 0 then (lp_X8_alike_25 v1 K n v2 (v3 + 1) mi) else ((f_X8_valueBy mi v3 v1).bind (fun r8 => if inb r8 10 then if inb r8 10 then if inb r8 10 then if ((u2 mi 243 r8.toNatClampNeg ((mi 243 r8.toNatClampNeg) + 1)) 243 r8.toNatClampNeg) ≤ v2 then (lp_X8_alike_25 v1 K n v2 (v3 + 1) (u2 mi 243 r8.toNatClampNeg ((mi 243 r8.toNatClampNeg) + 1))) else (if inb r8 10 then lp_X8_alike_25 v1 K n ((u2 mi 243 r8.toNatClampNeg ((mi 243 r8.toNatClampNeg) + 1)) 243 r8.toNatClampNeg) (v3 + 1) (u2 mi 243 r8.toNatClampNeg ((mi 243 r8.toNatClampNeg) + 1)) else none) else none else none else none))))
def f_X8_alike (mi : Mi) (x1 : Int32) : Option (Int32 × Mi) := lp_X8_alike_2 x1 (fun v2_3 mi3 => lp_X8_alike_25 x1 (fun v2_15 v3_15 mi15 => some (v2_15, mi15)) FU 0 0 mi3) FU 0 mi
set_option maxRecDepth 20000 in
set_option maxHeartbeats 4000000 in
theorem w_X8_alike_2 {g : Gm} {V : Vw} {E : Ex} {ml : Ml} {v1 : Int32} (hM : LayM V) {K : Int32 → Mi → Option (Int32 × Mi)} {r : Int32 × Mi} (hK : ∀ (v2 : Int32) (mi : Mi), K v2 mi = some r → At g YX8_alike E (qm g YX8_alike (pI V (r.1) (r.2) ml)) V (0, 0) 21 [some (rf g 229), some (.int v1), some (.int v2), none, none] [] mi ml) : ∀ (n : Nat) (v2 : Int32) (mi : Mi), lp_X8_alike_2 v1 K n v2 mi = some r → At g YX8_alike E (qm g YX8_alike (pI V (r.1) (r.2) ml)) V (0, 0) 2 [some (rf g 229), some (.int v1), some (.int v2), none, none] [] mi ml := by
  intro n
  induction n with
  | zero => intro v2 mi h; exact oz h
  | succ n ih =>
    intro v2 mi h
    unfold lp_X8_alike_2 at h
    refine a_iload iX8_alike_2 rfl <| a_const iX8_alike_3 <| ?_
    refine a_icmp_gt iX8_alike_5 (fun hc1 => ?_) (fun hc1 => ?_)
    · have h := ot hc1 h
      exact a_sub (L' := [some (rf g 229), some (.int v1), some (.int v2), none, none]) (by exact ⟨rfl, ⟨rfl, ⟨rfl, trivial⟩⟩⟩) (hK _ _ h)
    · have h := oe hc1 h
      refine a_aload iX8_alike_8 rfl <| a_getr iX8_alike_9 (lm_s229 hM) rfl (lm_r229_36 hM) <| a_iload iX8_alike_12 rfl <| a_const iX8_alike_13 <| ?_
      obtain ⟨hg2, h⟩ := og h
      refine a_iast iX8_alike_14 (lm_s243 hM) (inb_vp hg2) <| a_iinc iX8_alike_15 rfl (by decide) rfl <| a_goto iX8_alike_18 <| ?_
      exact a_sub (L' := [some (rf g 229), some (.int v1), some (.int (v2 + 1)), none, none]) (by exact ⟨rfl, ⟨rfl, ⟨rfl, trivial⟩⟩⟩) (ih _ _ h)
set_option maxRecDepth 20000 in
set_option maxHeartbeats 4000000 in
theorem w_X8_alike_25 {g : Gm} {V : Vw} {E : Ex} {ml : Ml} {v1 : Int32} (hM : LayM V) {K : Int32 → Int32 → Mi → Option (Int32 × Mi)} {r : Int32 × Mi} (hK : ∀ (v2 : Int32) (v3 : Int32) (mi : Mi), K v2 v3 mi = some r → At g YX8_alike E (qm g YX8_alike (pI V (r.1) (r.2) ml)) V (0, 0) 92 [some (rf g 229), some (.int v1), some (.int v2), some (.int v3), none] [] mi ml) : ∀ (n : Nat) (v2 : Int32) (v3 : Int32) (mi : Mi), lp_X8_alike_25 v1 K n v2 v3 mi = some r → At g YX8_alike E (qm g YX8_alike (pI V (r.1) (r.2) ml)) V (0, 0) 25 [some (rf g 229), some (.int v1), some (.int v2), some (.int v3), none] [] mi ml := by
  intro n
  induction n with
  | zero => intro v2 v3 mi h; exact oz h
  | succ n ih =>
    intro v2 v3 mi h
    unfold lp_X8_alike_25 at h
    refine a_iload iX8_alike_25 rfl <| a_const iX8_alike_26 <| a_aload iX8_alike_28 rfl <| a_geti iX8_alike_29 (lm_s229 hM) rfl <| a_imul iX8_alike_32 <| ?_
    refine a_icmp_ge iX8_alike_33 (fun hc4 => ?_) (fun hc4 => ?_)
    · have h := ot hc4 h
      exact a_sub (L' := [some (rf g 229), some (.int v1), some (.int v2), some (.int v3), none]) (by exact ⟨rfl, ⟨rfl, ⟨rfl, ⟨rfl, trivial⟩⟩⟩⟩) (hK _ _ _ h)
    · have h := oe hc4 h
      refine a_aload iX8_alike_36 rfl <| a_iload iX8_alike_37 rfl <| ?_
      obtain ⟨r5, he6, h⟩ := ob h
      refine a_cVi iX8_alike_38 okX8_isFit inX8_isFit ⟨rfl, rfl⟩ (lm_s229 hM) (c_X8_isFit hM he6) rfl rfl (Nat.le_of_ble_eq_true rfl) ⟨Nat.le_refl 0, Nat.le_refl 0⟩ <| ?_
      refine a_if_eq iX8_alike_41 (fun hc7 => ?_) (fun hc7 => ?_)
      · have h := ot hc7 h
        refine a_iinc iX8_alike_86 rfl (by decide) rfl <| a_goto iX8_alike_89 <| ?_
        exact a_sub (L' := [some (rf g 229), some (.int v1), some (.int v2), some (.int (v3 + 1)), none]) (by exact ⟨rfl, ⟨rfl, ⟨rfl, ⟨rfl, trivial⟩⟩⟩⟩) (ih _ _ _ h)
      · have h := oe hc7 h
        refine a_aload iX8_alike_44 rfl <| a_iload iX8_alike_45 rfl <| a_iload iX8_alike_46 rfl <| ?_
        obtain ⟨r8, he9, h⟩ := ob h
        refine a_cVi iX8_alike_47 okX8_valueBy inX8_valueBy ⟨rfl, rfl⟩ (lm_s229 hM) (c_X8_valueBy hM he9) rfl rfl (Nat.le_of_ble_eq_true rfl) ⟨Nat.le_refl 0, Nat.le_refl 0⟩ <| a_istore iX8_alike_50 (by decide) rfl <| a_aload iX8_alike_52 rfl <| a_getr iX8_alike_53 (lm_s229 hM) rfl (lm_r229_36 hM) <| a_iload iX8_alike_56 rfl <| a_dup2 iX8_alike_58 rfl rfl <| ?_
        obtain ⟨hg10, h⟩ := og h
        refine a_iald iX8_alike_59 (lm_s243 hM) (inb_vp hg10) <| a_const iX8_alike_60 <| a_iadd iX8_alike_61 <| ?_
        obtain ⟨hg11, h⟩ := og h
        refine a_iast iX8_alike_62 (lm_s243 hM) (inb_vp hg11) <| a_aload iX8_alike_63 rfl <| a_getr iX8_alike_64 (lm_s229 hM) rfl (lm_r229_36 hM) <| a_iload iX8_alike_67 rfl <| ?_
        obtain ⟨hg12, h⟩ := og h
        refine a_iald iX8_alike_69 (lm_s243 hM) (inb_vp hg12) <| a_iload iX8_alike_70 rfl <| ?_
        refine a_icmp_le iX8_alike_71 (fun hc13 => ?_) (fun hc13 => ?_)
        · have h := ot hc13 h
          refine a_iload iX8_alike_84 rfl <| a_istore iX8_alike_85 (by decide) rfl <| a_iinc iX8_alike_86 rfl (by decide) rfl <| a_goto iX8_alike_89 <| ?_
          exact a_sub (L' := [some (rf g 229), some (.int v1), some (.int v2), some (.int (v3 + 1)), none]) (by exact ⟨rfl, ⟨rfl, ⟨rfl, ⟨rfl, trivial⟩⟩⟩⟩) (ih _ _ _ h)
        · have h := oe hc13 h
          refine a_aload iX8_alike_74 rfl <| a_getr iX8_alike_75 (lm_s229 hM) rfl (lm_r229_36 hM) <| a_iload iX8_alike_78 rfl <| ?_
          obtain ⟨hg14, h⟩ := og h
          refine a_iald iX8_alike_80 (lm_s243 hM) (inb_vp hg14) <| a_goto iX8_alike_81 <| a_istore iX8_alike_85 (by decide) rfl <| a_iinc iX8_alike_86 rfl (by decide) rfl <| a_goto iX8_alike_89 <| ?_
          exact a_sub (L' := [some (rf g 229), some (.int v1), some (.int ((u2 mi 243 r8.toNatClampNeg ((mi 243 r8.toNatClampNeg) + 1)) 243 r8.toNatClampNeg)), some (.int (v3 + 1)), none]) (by exact ⟨rfl, ⟨rfl, ⟨rfl, ⟨rfl, trivial⟩⟩⟩⟩) (ih _ _ _ h)
set_option maxRecDepth 20000 in
set_option maxHeartbeats 4000000 in
theorem c_X8_alike {g : Gm} {V : Vw} {mi : Mi} {ml : Ml} {x1 : Int32} (hM : LayM V) {r : Int32 × Mi} (h : f_X8_alike mi x1 = some r) : DoI g YX8_alike V [rf g 229, .int x1] mi ml (r.1) (r.2) ml := by
  unfold f_X8_alike at h
  refine does_of (L := [some (rf g 229), some (.int x1), none, none, none]) okX8_alike rfl (Nat.le_of_ble_eq_true rfl) rfl ?_
  show At g YX8_alike _ (qm g YX8_alike (pI V (r.1) (r.2) ml)) V (0, 0) 0 _ [] mi ml
  refine a_const iX8_alike_0 <| a_istore iX8_alike_1 (by decide) rfl <| ?_
  refine a_sub (L' := [some (rf g 229), some (.int x1), some (.int 0), none, none]) (by exact ⟨rfl, ⟨rfl, ⟨rfl, trivial⟩⟩⟩) (w_X8_alike_2 hM (fun v2_3 mi3 h => ?_) FU _ _ h)
  refine a_const iX8_alike_21 <| a_istore iX8_alike_22 (by decide) rfl <| a_const iX8_alike_23 <| a_istore iX8_alike_24 (by decide) rfl <| ?_
  refine a_sub (L' := [some (rf g 229), some (.int x1), some (.int 0), some (.int 0), none]) (by exact ⟨rfl, ⟨rfl, ⟨rfl, ⟨rfl, trivial⟩⟩⟩⟩) (w_X8_alike_25 hM (fun v2_15 v3_15 mi15 h => ?_) FU _ _ _ h)
  refine a_iload iX8_alike_92 rfl <| ?_
  obtain rfl := Option.some.inj h
  exact a_iret iX8_alike_93 rfl ⟨Nat.le_refl 0, Nat.le_refl 0⟩ ⟨rfl, rfl, rfl, rfl⟩
def lp_X8_lookAt_10 (K : Int32 → Int32 → Int32 → Mi → Option (Int32 × Mi)) : Nat → Int32 → Int32 → Int32 → Mi → Option (Int32 × Mi)
  | 0, _, _, _, _ => none
  | n + 1, v1, v2, v3, mi => if (mi 229 20) ≤ v3 then (K v1 v2 v3 mi) else ((f_X8_alike mi v3).bind (fun q7 => if v2 ≤ q7.1 then (if v2 ≤ q7.1 then (lp_X8_lookAt_10  K n v1 v2 (v3 + 1) q7.2) else (lp_X8_lookAt_10  K n v1 q7.1 (v3 + 1) q7.2)) else (if v2 ≤ q7.1 then (lp_X8_lookAt_10  K n v3 v2 (v3 + 1) q7.2) else (lp_X8_lookAt_10  K n v3 q7.1 (v3 + 1) q7.2))))
def f_X8_lookAt (mi : Mi) : Option (Int32 × Mi) := (f_X8_fits mi 0).bind (fun r1 => lp_X8_lookAt_10 (fun v1_11 v2_11 v3_11 mi11 => some (v1_11, mi11)) FU (-1) r1 0 mi)
set_option maxRecDepth 20000 in
set_option maxHeartbeats 4000000 in
theorem w_X8_lookAt_10 {g : Gm} {V : Vw} {E : Ex} {ml : Ml} (hM : LayM V) {K : Int32 → Int32 → Int32 → Mi → Option (Int32 × Mi)} {r : Int32 × Mi} (hK : ∀ (v1 : Int32) (v2 : Int32) (v3 : Int32) (mi : Mi), K v1 v2 v3 mi = some r → At g YX8_lookAt E (qm g YX8_lookAt (pI V (r.1) (r.2) ml)) V (0, 0) 56 [some (rf g 229), some (.int v1), some (.int v2), some (.int v3), none] [] mi ml) : ∀ (n : Nat) (v1 : Int32) (v2 : Int32) (v3 : Int32) (mi : Mi), lp_X8_lookAt_10  K n v1 v2 v3 mi = some r → At g YX8_lookAt E (qm g YX8_lookAt (pI V (r.1) (r.2) ml)) V (0, 0) 10 [some (rf g 229), some (.int v1), some (.int v2), some (.int v3), none] [] mi ml := by
  intro n
  induction n with
  | zero => intro v1 v2 v3 mi h; exact oz h
  | succ n ih =>
    intro v1 v2 v3 mi h
    unfold lp_X8_lookAt_10 at h
    refine a_iload iX8_lookAt_10 rfl <| a_aload iX8_lookAt_11 rfl <| a_geti iX8_lookAt_12 (lm_s229 hM) rfl <| ?_
    refine a_icmp_ge iX8_lookAt_15 (fun hc3 => ?_) (fun hc3 => ?_)
    · have h := ot hc3 h
      exact a_sub (L' := [some (rf g 229), some (.int v1), some (.int v2), some (.int v3), none]) (by exact ⟨rfl, ⟨rfl, ⟨rfl, ⟨rfl, trivial⟩⟩⟩⟩) (hK _ _ _ _ h)
    · have h := oe hc3 h
      refine a_aload iX8_lookAt_18 rfl <| a_iload iX8_lookAt_19 rfl <| ?_
      obtain ⟨⟨r4, mi5⟩, he6, h⟩ := ob h
      refine a_cVi iX8_lookAt_20 okX8_alike inX8_alike ⟨rfl, rfl⟩ (lm_s229 hM) (c_X8_alike hM he6) rfl rfl (Nat.le_of_ble_eq_true rfl) ⟨Nat.le_refl 0, Nat.le_refl 0⟩ <| a_istore iX8_lookAt_23 (by decide) rfl <| a_iload iX8_lookAt_25 rfl <| a_iload iX8_lookAt_27 rfl <| ?_
      refine a_icmp_ge iX8_lookAt_28 (fun hc8 => ?_) (fun hc8 => ?_)
      · have h := ot hc8 h
        refine a_iload iX8_lookAt_35 rfl <| a_istore iX8_lookAt_36 (by decide) rfl <| a_iload iX8_lookAt_37 rfl <| a_iload iX8_lookAt_39 rfl <| ?_
        refine a_icmp_ge iX8_lookAt_40 (fun hc9 => ?_) (fun hc9 => ?_)
        · have h := ot hc9 h
          refine a_iload iX8_lookAt_48 rfl <| a_istore iX8_lookAt_49 (by decide) rfl <| a_iinc iX8_lookAt_50 rfl (by decide) rfl <| a_goto iX8_lookAt_53 <| ?_
          exact a_sub (L' := [some (rf g 229), some (.int v1), some (.int v2), some (.int (v3 + 1)), none]) (by exact ⟨rfl, ⟨rfl, ⟨rfl, ⟨rfl, trivial⟩⟩⟩⟩) (ih _ _ _ _ h)
        · have h := oe hc9 h
          refine a_iload iX8_lookAt_43 rfl <| a_goto iX8_lookAt_45 <| a_istore iX8_lookAt_49 (by decide) rfl <| a_iinc iX8_lookAt_50 rfl (by decide) rfl <| a_goto iX8_lookAt_53 <| ?_
          exact a_sub (L' := [some (rf g 229), some (.int v1), some (.int r4), some (.int (v3 + 1)), none]) (by exact ⟨rfl, ⟨rfl, ⟨rfl, ⟨rfl, trivial⟩⟩⟩⟩) (ih _ _ _ _ h)
      · have h := oe hc8 h
        refine a_iload iX8_lookAt_31 rfl <| a_goto iX8_lookAt_32 <| a_istore iX8_lookAt_36 (by decide) rfl <| a_iload iX8_lookAt_37 rfl <| a_iload iX8_lookAt_39 rfl <| ?_
        refine a_icmp_ge iX8_lookAt_40 (fun hc10 => ?_) (fun hc10 => ?_)
        · have h := ot hc10 h
          refine a_iload iX8_lookAt_48 rfl <| a_istore iX8_lookAt_49 (by decide) rfl <| a_iinc iX8_lookAt_50 rfl (by decide) rfl <| a_goto iX8_lookAt_53 <| ?_
          exact a_sub (L' := [some (rf g 229), some (.int v3), some (.int v2), some (.int (v3 + 1)), none]) (by exact ⟨rfl, ⟨rfl, ⟨rfl, ⟨rfl, trivial⟩⟩⟩⟩) (ih _ _ _ _ h)
        · have h := oe hc10 h
          refine a_iload iX8_lookAt_43 rfl <| a_goto iX8_lookAt_45 <| a_istore iX8_lookAt_49 (by decide) rfl <| a_iinc iX8_lookAt_50 rfl (by decide) rfl <| a_goto iX8_lookAt_53 <| ?_
          exact a_sub (L' := [some (rf g 229), some (.int v3), some (.int r4), some (.int (v3 + 1)), none]) (by exact ⟨rfl, ⟨rfl, ⟨rfl, ⟨rfl, trivial⟩⟩⟩⟩) (ih _ _ _ _ h)
set_option maxRecDepth 20000 in
set_option maxHeartbeats 4000000 in
theorem c_X8_lookAt {g : Gm} {V : Vw} {mi : Mi} {ml : Ml} (hM : LayM V) {r : Int32 × Mi} (h : f_X8_lookAt mi = some r) : DoI g YX8_lookAt V [rf g 229] mi ml (r.1) (r.2) ml := by
  unfold f_X8_lookAt at h
  refine does_of (L := [some (rf g 229), none, none, none, none]) okX8_lookAt rfl (Nat.le_of_ble_eq_true rfl) rfl ?_
  show At g YX8_lookAt _ (qm g YX8_lookAt (pI V (r.1) (r.2) ml)) V (0, 0) 0 _ [] mi ml
  refine a_const iX8_lookAt_0 <| a_istore iX8_lookAt_1 (by decide) rfl <| a_aload iX8_lookAt_2 rfl <| a_const iX8_lookAt_3 <| ?_
  obtain ⟨r1, he2, h⟩ := ob h
  refine a_cVi iX8_lookAt_4 okX8_fits inX8_fits ⟨rfl, rfl⟩ (lm_s229 hM) (c_X8_fits hM he2) rfl rfl (Nat.le_of_ble_eq_true rfl) ⟨Nat.le_refl 0, Nat.le_refl 0⟩ <| a_istore iX8_lookAt_7 (by decide) rfl <| a_const iX8_lookAt_8 <| a_istore iX8_lookAt_9 (by decide) rfl <| ?_
  refine a_sub (L' := [some (rf g 229), some (.int (-1)), some (.int r1), some (.int 0), none]) (by exact ⟨rfl, ⟨rfl, ⟨rfl, ⟨rfl, trivial⟩⟩⟩⟩) (w_X8_lookAt_10 hM (fun v1_11 v2_11 v3_11 mi11 h => ?_) FU _ _ _ _ h)
  refine a_iload iX8_lookAt_56 rfl <| ?_
  obtain rfl := Option.some.inj h
  exact a_iret iX8_lookAt_57 rfl ⟨Nat.le_refl 0, Nat.le_refl 0⟩ ⟨rfl, rfl, rfl, rfl⟩
def f_X8_write (mi : Mi) (x1 x2 : Int32) : Option (Int32 × Mi) := (f_X8_isThing mi x1).bind (fun r1 => if r1 = 0 then (some ((-1000000001), mi)) else ((f_X8_isValue x2).bind (fun r4 => if r4 = 0 then (some ((-1000000002), mi)) else (if (mi 229 37) = 20 then (some ((-1000000004), mi)) else (if inb (mi 229 37) 20 then if inb ((u2 mi 244 (mi 229 37).toNatClampNeg x1) 229 37) 20 then nx (u2 (u2 mi 244 (mi 229 37).toNatClampNeg x1) 245 ((u2 mi 244 (mi 229 37).toNatClampNeg x1) 229 37).toNatClampNeg x2) (fun mi11 => some ((u2 mi11 229 37 ((mi11 229 37) + 1)) 229 37, u2 mi11 229 37 ((mi11 229 37) + 1))) else none else none)))))
set_option maxRecDepth 20000 in
set_option maxHeartbeats 4000000 in
theorem c_X8_write {g : Gm} {V : Vw} {mi : Mi} {ml : Ml} {x1 x2 : Int32} (hM : LayM V) {r : Int32 × Mi} (h : f_X8_write mi x1 x2 = some r) : DoI g YX8_write V [rf g 229, .int x1, .int x2] mi ml (r.1) (r.2) ml := by
  unfold f_X8_write at h
  refine does_of (L := [some (rf g 229), some (.int x1), some (.int x2)]) okX8_write rfl (Nat.le_of_ble_eq_true rfl) rfl ?_
  show At g YX8_write _ (qm g YX8_write (pI V (r.1) (r.2) ml)) V (0, 0) 0 _ [] mi ml
  refine a_aload iX8_write_0 rfl <| a_iload iX8_write_1 rfl <| ?_
  obtain ⟨r1, he2, h⟩ := ob h
  refine a_cVi iX8_write_2 okX8_isThing inX8_isThing ⟨rfl, rfl⟩ (lm_s229 hM) (c_X8_isThing hM he2) rfl rfl (Nat.le_of_ble_eq_true rfl) ⟨Nat.le_refl 0, Nat.le_refl 0⟩ <| ?_
  refine a_if_ne iX8_write_5 (fun hc3 => ?_) (fun hc3 => ?_)
  · have h := oe hc3 h
    refine a_iload iX8_write_11 rfl <| ?_
    obtain ⟨r4, he5, h⟩ := ob h
    refine a_cSi iX8_write_12 okX8_isValue stX8_isValue ⟨rfl, rfl⟩ (c_X8_isValue he5) rfl rfl (Nat.le_of_ble_eq_true rfl) ⟨Nat.le_refl 0, Nat.le_refl 0⟩ <| ?_
    refine a_if_ne iX8_write_15 (fun hc6 => ?_) (fun hc6 => ?_)
    · have h := oe hc6 h
      refine a_aload iX8_write_21 rfl <| a_geti iX8_write_22 (lm_s229 hM) rfl <| a_const iX8_write_25 <| ?_
      refine a_icmp_ne iX8_write_27 (fun hc7 => ?_) (fun hc7 => ?_)
      · have h := oe hc7 h
        refine a_aload iX8_write_33 rfl <| a_getr iX8_write_34 (lm_s229 hM) rfl (lm_r229_38 hM) <| a_aload iX8_write_37 rfl <| a_geti iX8_write_38 (lm_s229 hM) rfl <| a_iload iX8_write_41 rfl <| ?_
        obtain ⟨hg8, h⟩ := og h
        refine a_iast iX8_write_42 (lm_s244 hM) (inb_vp hg8) <| a_aload iX8_write_43 rfl <| a_getr iX8_write_44 (lm_s229 hM) rfl (lm_r229_39 hM) <| a_aload iX8_write_47 rfl <| a_geti iX8_write_48 (lm_s229 hM) rfl <| a_iload iX8_write_51 rfl <| ?_
        obtain ⟨hg9, h⟩ := og h
        refine a_iast iX8_write_52 (lm_s245 hM) (inb_vp hg9) <| ?_
        obtain ⟨mi11, hm10, h⟩ := onx h
        refine a_mem hm10 <| a_aload iX8_write_53 rfl <| a_dup iX8_write_54 rfl <| a_geti iX8_write_55 (lm_s229 hM) rfl <| a_const iX8_write_58 <| a_iadd iX8_write_59 <| a_puti iX8_write_60 (lm_s229 hM) rfl rfl rfl <| a_aload iX8_write_63 rfl <| ?_
        refine a_geti iX8_write_64 (lm_s229 hM) rfl <| ?_
        obtain rfl := Option.some.inj h
        exact a_iret iX8_write_67 rfl ⟨Nat.le_refl 0, Nat.le_refl 0⟩ ⟨rfl, rfl, rfl, rfl⟩
      · have h := ot hc7 h
        refine a_const iX8_write_30 <| ?_
        obtain rfl := Option.some.inj h
        exact a_iret iX8_write_32 rfl ⟨Nat.le_refl 0, Nat.le_refl 0⟩ ⟨rfl, rfl, rfl, rfl⟩
    · have h := ot hc6 h
      refine a_const iX8_write_18 <| ?_
      obtain rfl := Option.some.inj h
      exact a_iret iX8_write_20 rfl ⟨Nat.le_refl 0, Nat.le_refl 0⟩ ⟨rfl, rfl, rfl, rfl⟩
  · have h := ot hc3 h
    refine a_const iX8_write_8 <| ?_
    obtain rfl := Option.some.inj h
    exact a_iret iX8_write_10 rfl ⟨Nat.le_refl 0, Nat.le_refl 0⟩ ⟨rfl, rfl, rfl, rfl⟩
def lp_X8_judge_2 (mi : Mi) (K : Int32 → Option (Int32)) : Nat → Int32 → Option (Int32)
  | 0, _ => none
  | n + 1, v1 => if (mi 229 37) ≤ v1 then (K v1) else (if inb v1 20 then if inb (8 + (mi 244 v1.toNatClampNeg)) 121 then if inb v1 20 then if (mi 238 (8 + (mi 244 v1.toNatClampNeg)).toNatClampNeg) = (mi 245 v1.toNatClampNeg) then (lp_X8_judge_2 mi K n (v1 + 1)) else (some v1) else none else none else none)
def f_X8_judge (mi : Mi) : Option (Int32) := lp_X8_judge_2 mi (fun v1_6 => some (-1)) FU 0
set_option maxRecDepth 20000 in
set_option maxHeartbeats 4000000 in
theorem w_X8_judge_2 {g : Gm} {V : Vw} {E : Ex} {mi : Mi} {ml : Ml} (hM : LayM V) {K : Int32 → Option (Int32)} {r : Int32} (hK : ∀ (v1 : Int32), K v1 = some r → At g YX8_judge E (qm g YX8_judge (pI V r mi ml)) V (0, 0) 41 [some (rf g 229), some (.int v1)] [] mi ml) : ∀ (n : Nat) (v1 : Int32), lp_X8_judge_2 mi K n v1 = some r → At g YX8_judge E (qm g YX8_judge (pI V r mi ml)) V (0, 0) 2 [some (rf g 229), some (.int v1)] [] mi ml := by
  intro n
  induction n with
  | zero => intro v1 h; exact oz h
  | succ n ih =>
    intro v1 h
    unfold lp_X8_judge_2 at h
    refine a_iload iX8_judge_2 rfl <| a_aload iX8_judge_3 rfl <| a_geti iX8_judge_4 (lm_s229 hM) rfl <| ?_
    refine a_icmp_ge iX8_judge_7 (fun hc1 => ?_) (fun hc1 => ?_)
    · have h := ot hc1 h
      exact a_sub (L' := [some (rf g 229), some (.int v1)]) (by exact ⟨rfl, ⟨rfl, trivial⟩⟩) (hK _ h)
    · have h := oe hc1 h
      refine a_aload iX8_judge_10 rfl <| a_getr iX8_judge_11 (lm_s229 hM) rfl (lm_r229_27 hM) <| a_const iX8_judge_14 <| a_aload iX8_judge_16 rfl <| a_getr iX8_judge_17 (lm_s229 hM) rfl (lm_r229_38 hM) <| a_iload iX8_judge_20 rfl <| ?_
      obtain ⟨hg2, h⟩ := og h
      refine a_iald iX8_judge_21 (lm_s244 hM) (inb_vp hg2) <| a_iadd iX8_judge_22 <| ?_
      obtain ⟨hg3, h⟩ := og h
      refine a_iald iX8_judge_23 (lm_s238 hM) (inb_vp hg3) <| a_aload iX8_judge_24 rfl <| a_getr iX8_judge_25 (lm_s229 hM) rfl (lm_r229_39 hM) <| a_iload iX8_judge_28 rfl <| ?_
      obtain ⟨hg4, h⟩ := og h
      refine a_iald iX8_judge_29 (lm_s245 hM) (inb_vp hg4) <| ?_
      refine a_icmp_eq iX8_judge_30 (fun hc5 => ?_) (fun hc5 => ?_)
      · have h := ot hc5 h
        refine a_iinc iX8_judge_35 rfl (by decide) rfl <| a_goto iX8_judge_38 <| ?_
        exact a_sub (L' := [some (rf g 229), some (.int (v1 + 1))]) (by exact ⟨rfl, ⟨rfl, trivial⟩⟩) (ih _ h)
      · have h := oe hc5 h
        refine a_iload iX8_judge_33 rfl <| ?_
        obtain rfl := Option.some.inj h
        exact a_iret iX8_judge_34 rfl ⟨Nat.le_refl 0, Nat.le_refl 0⟩ ⟨rfl, rfl, rfl, rfl⟩
set_option maxRecDepth 20000 in
set_option maxHeartbeats 4000000 in
theorem c_X8_judge {g : Gm} {V : Vw} {mi : Mi} {ml : Ml} (hM : LayM V) {r : Int32} (h : f_X8_judge mi = some r) : DoI g YX8_judge V [rf g 229] mi ml r mi ml := by
  unfold f_X8_judge at h
  refine does_of (L := [some (rf g 229), none]) okX8_judge rfl (Nat.le_of_ble_eq_true rfl) rfl ?_
  show At g YX8_judge _ (qm g YX8_judge (pI V r mi ml)) V (0, 0) 0 _ [] mi ml
  refine a_const iX8_judge_0 <| a_istore iX8_judge_1 (by decide) rfl <| ?_
  refine a_sub (L' := [some (rf g 229), some (.int 0)]) (by exact ⟨rfl, ⟨rfl, trivial⟩⟩) (w_X8_judge_2 hM (fun v1_6 h => ?_) FU _ h)
  refine a_const iX8_judge_41 <| ?_
  obtain rfl := Option.some.inj h
  exact a_iret iX8_judge_42 rfl ⟨Nat.le_refl 0, Nat.le_refl 0⟩ ⟨rfl, rfl, rfl, rfl⟩
def f_X8_tear (mi : Mi) : Option (Int32 × Mi) := some ((mi 229 32) + (mi 229 37), u2 (u2 mi 229 32 0) 229 37 0)
set_option maxRecDepth 20000 in
set_option maxHeartbeats 4000000 in
theorem c_X8_tear {g : Gm} {V : Vw} {mi : Mi} {ml : Ml} (hM : LayM V) {r : Int32 × Mi} (h : f_X8_tear mi = some r) : DoI g YX8_tear V [rf g 229] mi ml (r.1) (r.2) ml := by
  unfold f_X8_tear at h
  refine does_of (L := [some (rf g 229), none]) okX8_tear rfl (Nat.le_of_ble_eq_true rfl) rfl ?_
  show At g YX8_tear _ (qm g YX8_tear (pI V (r.1) (r.2) ml)) V (0, 0) 0 _ [] mi ml
  refine a_aload iX8_tear_0 rfl <| a_geti iX8_tear_1 (lm_s229 hM) rfl <| a_aload iX8_tear_4 rfl <| a_geti iX8_tear_5 (lm_s229 hM) rfl <| a_iadd iX8_tear_8 <| a_istore iX8_tear_9 (by decide) rfl <| a_aload iX8_tear_10 rfl <| a_const iX8_tear_11 <| ?_
  refine a_puti iX8_tear_12 (lm_s229 hM) rfl rfl rfl <| a_aload iX8_tear_15 rfl <| a_const iX8_tear_16 <| a_puti iX8_tear_17 (lm_s229 hM) rfl rfl rfl <| a_iload iX8_tear_20 rfl <| ?_
  obtain rfl := Option.some.inj h
  exact a_iret iX8_tear_21 rfl ⟨Nat.le_refl 0, Nat.le_refl 0⟩ ⟨rfl, rfl, rfl, rfl⟩
def f_X8_seed (mi : Mi) (ml : Ml) (x1 : Int32) : Option (Int32 × Mi × Ml) := if 0 ≤ x1 then (some ((ml 229 31).toInt32, mi, u2 ml 229 31 (x1.toInt64))) else (some ((-1000000002), mi, ml))
set_option maxRecDepth 20000 in
set_option maxHeartbeats 4000000 in
theorem c_X8_seed {g : Gm} {V : Vw} {mi : Mi} {ml : Ml} {x1 : Int32} (hM : LayM V) {r : Int32 × Mi × Ml} (h : f_X8_seed mi ml x1 = some r) : DoI g YX8_seed V [rf g 229, .int x1] mi ml (r.1) (r.2.1) (r.2.2) := by
  unfold f_X8_seed at h
  refine does_of (L := [some (rf g 229), some (.int x1), none]) okX8_seed rfl (Nat.le_of_ble_eq_true rfl) rfl ?_
  show At g YX8_seed _ (qm g YX8_seed (pI V (r.1) (r.2.1) (r.2.2))) V (0, 0) 0 _ [] mi ml
  refine a_iload iX8_seed_0 rfl <| ?_
  refine a_if_ge iX8_seed_1 (fun hc1 => ?_) (fun hc1 => ?_)
  · have h := ot hc1 h
    refine a_aload iX8_seed_7 rfl <| a_getl iX8_seed_8 (lm_s229 hM) rfl <| a_l2i iX8_seed_11 <| a_istore iX8_seed_12 (by decide) rfl <| a_aload iX8_seed_13 rfl <| a_iload iX8_seed_14 rfl <| a_i2l iX8_seed_15 <| a_putl iX8_seed_16 (lm_s229 hM) rfl <| ?_
    refine a_iload iX8_seed_19 rfl <| ?_
    obtain rfl := Option.some.inj h
    exact a_iret iX8_seed_20 rfl ⟨Nat.le_refl 0, Nat.le_refl 0⟩ ⟨rfl, rfl, rfl, rfl⟩
  · have h := oe hc1 h
    refine a_const iX8_seed_4 <| ?_
    obtain rfl := Option.some.inj h
    exact a_iret iX8_seed_6 rfl ⟨Nat.le_refl 0, Nat.le_refl 0⟩ ⟨rfl, rfl, rfl, rfl⟩
def lp_X8_keep_36 (ml : Ml) (v1 : Int32) (K : Int32 → Mi → Option (Int32 × Mi × Ml)) : Nat → Int32 → Mi → Option (Int32 × Mi × Ml)
  | 0, _, _ => none
  | n + 1, v2, mi => if 121 ≤ v2 then (K v2 mi) else (if inb v2 121 then if inb ((121 * v1) + v2) 242 then lp_X8_keep_36 ml v1 K n (v2 + 1) (u2 mi 247 ((121 * v1) + v2).toNatClampNeg (mi 238 v2.toNatClampNeg)) else none else none)
def f_X8_keep (mi : Mi) (ml : Ml) (x1 : Int32) : Option (Int32 × Mi × Ml) := (f_X8_in x1 0 1).bind (fun r1 => if r1 = 0 then (some ((-1000000001), mi, ml)) else (if inb x1 2 then if inb x1 2 then lp_X8_keep_36 (u2 ml 248 x1.toNatClampNeg (ml 229 31)) x1 (fun v2_9 mi9 => some (1, mi9, u2 ml 248 x1.toNatClampNeg (ml 229 31))) FU 0 (u2 (u2 mi 246 x1.toNatClampNeg 1) 229 28 0) else none else none))
set_option maxRecDepth 20000 in
set_option maxHeartbeats 4000000 in
theorem w_X8_keep_36 {g : Gm} {V : Vw} {E : Ex} {ml : Ml} {v1 : Int32} (hM : LayM V) {K : Int32 → Mi → Option (Int32 × Mi × Ml)} {r : Int32 × Mi × Ml} (hK : ∀ (v2 : Int32) (mi : Mi), K v2 mi = some r → At g YX8_keep E (qm g YX8_keep (pI V (r.1) (r.2.1) (r.2.2))) V (0, 0) 65 [some (rf g 229), some (.int v1), some (.int v2)] [] mi ml) : ∀ (n : Nat) (v2 : Int32) (mi : Mi), lp_X8_keep_36 ml v1 K n v2 mi = some r → At g YX8_keep E (qm g YX8_keep (pI V (r.1) (r.2.1) (r.2.2))) V (0, 0) 36 [some (rf g 229), some (.int v1), some (.int v2)] [] mi ml := by
  intro n
  induction n with
  | zero => intro v2 mi h; exact oz h
  | succ n ih =>
    intro v2 mi h
    unfold lp_X8_keep_36 at h
    refine a_iload iX8_keep_36 rfl <| a_const iX8_keep_37 <| ?_
    refine a_icmp_ge iX8_keep_39 (fun hc6 => ?_) (fun hc6 => ?_)
    · have h := ot hc6 h
      exact a_sub (L' := [some (rf g 229), some (.int v1), some (.int v2)]) (by exact ⟨rfl, ⟨rfl, ⟨rfl, trivial⟩⟩⟩) (hK _ _ h)
    · have h := oe hc6 h
      refine a_aload iX8_keep_42 rfl <| a_getr iX8_keep_43 (lm_s229 hM) rfl (lm_r229_41 hM) <| a_const iX8_keep_46 <| a_iload iX8_keep_48 rfl <| a_imul iX8_keep_49 <| a_iload iX8_keep_50 rfl <| a_iadd iX8_keep_51 <| a_aload iX8_keep_52 rfl <| ?_
      refine a_getr iX8_keep_53 (lm_s229 hM) rfl (lm_r229_27 hM) <| a_iload iX8_keep_56 rfl <| ?_
      obtain ⟨hg7, h⟩ := og h
      refine a_iald iX8_keep_57 (lm_s238 hM) (inb_vp hg7) <| ?_
      obtain ⟨hg8, h⟩ := og h
      refine a_iast iX8_keep_58 (lm_s247 hM) (inb_vp hg8) <| a_iinc iX8_keep_59 rfl (by decide) rfl <| a_goto iX8_keep_62 <| ?_
      exact a_sub (L' := [some (rf g 229), some (.int v1), some (.int (v2 + 1))]) (by exact ⟨rfl, ⟨rfl, ⟨rfl, trivial⟩⟩⟩) (ih _ _ h)
set_option maxRecDepth 20000 in
set_option maxHeartbeats 4000000 in
theorem c_X8_keep {g : Gm} {V : Vw} {mi : Mi} {ml : Ml} {x1 : Int32} (hM : LayM V) {r : Int32 × Mi × Ml} (h : f_X8_keep mi ml x1 = some r) : DoI g YX8_keep V [rf g 229, .int x1] mi ml (r.1) (r.2.1) (r.2.2) := by
  unfold f_X8_keep at h
  refine does_of (L := [some (rf g 229), some (.int x1), none]) okX8_keep rfl (Nat.le_of_ble_eq_true rfl) rfl ?_
  show At g YX8_keep _ (qm g YX8_keep (pI V (r.1) (r.2.1) (r.2.2))) V (0, 0) 0 _ [] mi ml
  refine a_iload iX8_keep_0 rfl <| a_const iX8_keep_1 <| a_const iX8_keep_2 <| ?_
  obtain ⟨r1, he2, h⟩ := ob h
  refine a_cSi iX8_keep_3 okX8_in stX8_in ⟨rfl, rfl⟩ (c_X8_in he2) rfl rfl (Nat.le_of_ble_eq_true rfl) ⟨Nat.le_refl 0, Nat.le_refl 0⟩ <| ?_
  refine a_if_ne iX8_keep_6 (fun hc3 => ?_) (fun hc3 => ?_)
  · have h := oe hc3 h
    refine a_aload iX8_keep_12 rfl <| a_getr iX8_keep_13 (lm_s229 hM) rfl (lm_r229_40 hM) <| a_iload iX8_keep_16 rfl <| a_const iX8_keep_17 <| ?_
    obtain ⟨hg4, h⟩ := og h
    refine a_zast iX8_keep_18 (lm_s246 hM) (inb_vp hg4) rfl <| a_aload iX8_keep_19 rfl <| a_getr iX8_keep_20 (lm_s229 hM) rfl (lm_r229_42 hM) <| a_iload iX8_keep_23 rfl <| a_aload iX8_keep_24 rfl <| a_getl iX8_keep_25 (lm_s229 hM) rfl <| ?_
    obtain ⟨hg5, h⟩ := og h
    refine a_last iX8_keep_28 (lm_s248 hM) (inb_vp hg5) <| a_aload iX8_keep_29 rfl <| a_const iX8_keep_30 <| a_puti iX8_keep_31 (lm_s229 hM) rfl rfl rfl <| a_const iX8_keep_34 <| a_istore iX8_keep_35 (by decide) rfl <| ?_
    refine a_sub (L' := [some (rf g 229), some (.int x1), some (.int 0)]) (by exact ⟨rfl, ⟨rfl, ⟨rfl, trivial⟩⟩⟩) (w_X8_keep_36 hM (fun v2_9 mi9 h => ?_) FU _ _ h)
    refine a_const iX8_keep_65 <| ?_
    obtain rfl := Option.some.inj h
    exact a_iret iX8_keep_66 rfl ⟨Nat.le_refl 0, Nat.le_refl 0⟩ ⟨rfl, rfl, rfl, rfl⟩
  · have h := ot hc3 h
    refine a_const iX8_keep_9 <| ?_
    obtain rfl := Option.some.inj h
    exact a_iret iX8_keep_11 rfl ⟨Nat.le_refl 0, Nat.le_refl 0⟩ ⟨rfl, rfl, rfl, rfl⟩
def lp_X8_goBack_41 (ml : Ml) (v1 : Int32) (K : Int32 → Mi → Option (Int32 × Mi × Ml)) : Nat → Int32 → Mi → Option (Int32 × Mi × Ml)
  | 0, _, _ => none
  | n + 1, v2, mi => if 121 ≤ v2 then (K v2 mi) else (if inb ((121 * v1) + v2) 242 then if inb v2 121 then lp_X8_goBack_41 ml v1 K n (v2 + 1) (u2 mi 238 v2.toNatClampNeg (mi 247 ((121 * v1) + v2).toNatClampNeg)) else none else none)
def f_X8_goBack (mi : Mi) (ml : Ml) (x1 : Int32) : Option (Int32 × Mi × Ml) := (f_X8_in x1 0 1).bind (fun r1 => if r1 = 0 then (some ((-1000000001), mi, ml)) else (if inb x1 2 then if (mi 246 x1.toNatClampNeg) = 0 then (some ((-1000000003), mi, ml)) else (if inb x1 2 then lp_X8_goBack_41 (u2 ml 229 31 (ml 248 x1.toNatClampNeg)) x1 (fun v2_10 mi10 => some (1, mi10, u2 ml 229 31 (ml 248 x1.toNatClampNeg))) FU 0 (u2 mi 229 28 0) else none) else none))
set_option maxRecDepth 20000 in
set_option maxHeartbeats 4000000 in
theorem w_X8_goBack_41 {g : Gm} {V : Vw} {E : Ex} {ml : Ml} {v1 : Int32} (hM : LayM V) {K : Int32 → Mi → Option (Int32 × Mi × Ml)} {r : Int32 × Mi × Ml} (hK : ∀ (v2 : Int32) (mi : Mi), K v2 mi = some r → At g YX8_goBack E (qm g YX8_goBack (pI V (r.1) (r.2.1) (r.2.2))) V (0, 0) 70 [some (rf g 229), some (.int v1), some (.int v2)] [] mi ml) : ∀ (n : Nat) (v2 : Int32) (mi : Mi), lp_X8_goBack_41 ml v1 K n v2 mi = some r → At g YX8_goBack E (qm g YX8_goBack (pI V (r.1) (r.2.1) (r.2.2))) V (0, 0) 41 [some (rf g 229), some (.int v1), some (.int v2)] [] mi ml := by
  intro n
  induction n with
  | zero => intro v2 mi h; exact oz h
  | succ n ih =>
    intro v2 mi h
    unfold lp_X8_goBack_41 at h
    refine a_iload iX8_goBack_41 rfl <| a_const iX8_goBack_42 <| ?_
    refine a_icmp_ge iX8_goBack_44 (fun hc7 => ?_) (fun hc7 => ?_)
    · have h := ot hc7 h
      exact a_sub (L' := [some (rf g 229), some (.int v1), some (.int v2)]) (by exact ⟨rfl, ⟨rfl, ⟨rfl, trivial⟩⟩⟩) (hK _ _ h)
    · have h := oe hc7 h
      refine a_aload iX8_goBack_47 rfl <| a_getr iX8_goBack_48 (lm_s229 hM) rfl (lm_r229_27 hM) <| a_iload iX8_goBack_51 rfl <| a_aload iX8_goBack_52 rfl <| a_getr iX8_goBack_53 (lm_s229 hM) rfl (lm_r229_41 hM) <| a_const iX8_goBack_56 <| a_iload iX8_goBack_58 rfl <| a_imul iX8_goBack_59 <| ?_
      refine a_iload iX8_goBack_60 rfl <| a_iadd iX8_goBack_61 <| ?_
      obtain ⟨hg8, h⟩ := og h
      refine a_iald iX8_goBack_62 (lm_s247 hM) (inb_vp hg8) <| ?_
      obtain ⟨hg9, h⟩ := og h
      refine a_iast iX8_goBack_63 (lm_s238 hM) (inb_vp hg9) <| a_iinc iX8_goBack_64 rfl (by decide) rfl <| a_goto iX8_goBack_67 <| ?_
      exact a_sub (L' := [some (rf g 229), some (.int v1), some (.int (v2 + 1))]) (by exact ⟨rfl, ⟨rfl, ⟨rfl, trivial⟩⟩⟩) (ih _ _ h)
set_option maxRecDepth 20000 in
set_option maxHeartbeats 4000000 in
theorem c_X8_goBack {g : Gm} {V : Vw} {mi : Mi} {ml : Ml} {x1 : Int32} (hM : LayM V) {r : Int32 × Mi × Ml} (h : f_X8_goBack mi ml x1 = some r) : DoI g YX8_goBack V [rf g 229, .int x1] mi ml (r.1) (r.2.1) (r.2.2) := by
  unfold f_X8_goBack at h
  refine does_of (L := [some (rf g 229), some (.int x1), none]) okX8_goBack rfl (Nat.le_of_ble_eq_true rfl) rfl ?_
  show At g YX8_goBack _ (qm g YX8_goBack (pI V (r.1) (r.2.1) (r.2.2))) V (0, 0) 0 _ [] mi ml
  refine a_iload iX8_goBack_0 rfl <| a_const iX8_goBack_1 <| a_const iX8_goBack_2 <| ?_
  obtain ⟨r1, he2, h⟩ := ob h
  refine a_cSi iX8_goBack_3 okX8_in stX8_in ⟨rfl, rfl⟩ (c_X8_in he2) rfl rfl (Nat.le_of_ble_eq_true rfl) ⟨Nat.le_refl 0, Nat.le_refl 0⟩ <| ?_
  refine a_if_ne iX8_goBack_6 (fun hc3 => ?_) (fun hc3 => ?_)
  · have h := oe hc3 h
    refine a_aload iX8_goBack_12 rfl <| a_getr iX8_goBack_13 (lm_s229 hM) rfl (lm_r229_40 hM) <| a_iload iX8_goBack_16 rfl <| ?_
    obtain ⟨hg4, h⟩ := og h
    refine a_zald iX8_goBack_17 (lm_s246 hM) (inb_vp hg4) <| ?_
    refine a_if_ne iX8_goBack_18 (fun hc5 => ?_) (fun hc5 => ?_)
    · have h := oe hc5 h
      refine a_aload iX8_goBack_24 rfl <| a_aload iX8_goBack_25 rfl <| a_getr iX8_goBack_26 (lm_s229 hM) rfl (lm_r229_42 hM) <| a_iload iX8_goBack_29 rfl <| ?_
      obtain ⟨hg6, h⟩ := og h
      refine a_lald iX8_goBack_30 (lm_s248 hM) (inb_vp hg6) <| a_putl iX8_goBack_31 (lm_s229 hM) rfl <| a_aload iX8_goBack_34 rfl <| a_const iX8_goBack_35 <| a_puti iX8_goBack_36 (lm_s229 hM) rfl rfl rfl <| a_const iX8_goBack_39 <| a_istore iX8_goBack_40 (by decide) rfl <| ?_
      refine a_sub (L' := [some (rf g 229), some (.int x1), some (.int 0)]) (by exact ⟨rfl, ⟨rfl, ⟨rfl, trivial⟩⟩⟩) (w_X8_goBack_41 hM (fun v2_10 mi10 h => ?_) FU _ _ h)
      refine a_const iX8_goBack_70 <| ?_
      obtain rfl := Option.some.inj h
      exact a_iret iX8_goBack_71 rfl ⟨Nat.le_refl 0, Nat.le_refl 0⟩ ⟨rfl, rfl, rfl, rfl⟩
    · have h := ot hc5 h
      refine a_const iX8_goBack_21 <| ?_
      obtain rfl := Option.some.inj h
      exact a_iret iX8_goBack_23 rfl ⟨Nat.le_refl 0, Nat.le_refl 0⟩ ⟨rfl, rfl, rfl, rfl⟩
  · have h := ot hc3 h
    refine a_const iX8_goBack_9 <| ?_
    obtain rfl := Option.some.inj h
    exact a_iret iX8_goBack_11 rfl ⟨Nat.le_refl 0, Nat.le_refl 0⟩ ⟨rfl, rfl, rfl, rfl⟩
