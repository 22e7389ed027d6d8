/-! 12b.fun.lean.txt: functions of the code and their rows, laid by program -/
def f_X4_forget (mi : Mi) : Option (Mi) := some (u2 (u2 mi 17 1 0) 17 2 0)
set_option maxRecDepth 20000 in
set_option maxHeartbeats 4000000 in
theorem c_X4_forget {g : Gm} {V : Vw} {mi : Mi} {ml : Ml} {ld dr : Nat} (hV : LayT V ld dr) {r : Mi} (h : f_X4_forget mi = some r) : DoV g YX4_forget V [rf g 17] mi ml r ml := by
  unfold f_X4_forget at h
  refine does_of (L := [some (rf g 17)]) okX4_forget rfl (Nat.le_of_ble_eq_true rfl) rfl ?_
  show At g YX4_forget _ (qm g YX4_forget (pV V r ml)) V (0, 0) 0 _ [] mi ml
  refine a_aload iX4_forget_0 rfl <| a_const iX4_forget_1 <| a_puti iX4_forget_2 (lt_s17 hV) rfl rfl rfl <| a_aload iX4_forget_5 rfl <| a_const iX4_forget_6 <| a_puti iX4_forget_7 (lt_s17 hV) rfl rfl rfl <| ?_
  obtain rfl := Option.some.inj h
  exact a_vret iX4_forget_10 rfl ⟨Nat.le_refl 0, Nat.le_refl 0⟩ ⟨rfl, rfl, rfl, rfl⟩
def f_X4_remember (mi : Mi) (e1 : Nat) : Option (Mi) := if inb (((mi 17 1) + (mi 17 2)) - ((mi 17 1) + (mi 17 2)) / 30 * 30) 30 then (f_X2_copyOf mi (19 + 6 * (((mi 17 1) + (mi 17 2)) - ((mi 17 1) + (mi 17 2)) / 30 * 30).toNatClampNeg) e1).bind (fun mi2 => if 30 ≤ (mi2 17 2) then (some (u2 mi2 17 1 (((mi2 17 1) + 1) - ((mi2 17 1) + 1) / 30 * 30))) else (some (u2 mi2 17 2 ((mi2 17 2) + 1)))) else none
set_option maxRecDepth 20000 in
set_option maxHeartbeats 4000000 in
theorem c_X4_remember {g : Gm} {V : Vw} {mi : Mi} {ml : Ml} {e1 ld dr : Nat} (hV : LayT V ld dr) (hE1 : LayE V e1) {r : Mi} (h : f_X4_remember mi e1 = some r) : DoV g YX4_remember V [rf g 17, rf g e1] mi ml r ml := by
  unfold f_X4_remember at h
  refine does_of (L := [some (rf g 17), some (rf g e1)]) okX4_remember rfl (Nat.le_of_ble_eq_true rfl) rfl ?_
  show At g YX4_remember _ (qm g YX4_remember (pV V r ml)) V (0, 0) 0 _ [] mi ml
  refine a_aload iX4_remember_0 rfl <| a_getr iX4_remember_1 (lt_s17 hV) rfl (lt_r17_0 hV) <| a_aload iX4_remember_4 rfl <| a_geti iX4_remember_5 (lt_s17 hV) rfl <| a_aload iX4_remember_8 rfl <| a_geti iX4_remember_9 (lt_s17 hV) rfl <| a_iadd iX4_remember_12 <| a_const iX4_remember_13 <| ?_
  refine a_irem iX4_remember_15 (by decide) <| ?_
  obtain ⟨hg1, h⟩ := og h
  refine a_aald iX4_remember_16 (lt_s18 hV) (inb_vp hg1) (lt_a18 hV _ hg1.2).1 <| a_aload iX4_remember_17 rfl <| ?_
  obtain ⟨mi2, he3, h⟩ := ob h
  refine a_cVv iX4_remember_18 okX2_copyOf inX2_copyOf ⟨rfl, rfl⟩ (lt_a18 hV _ hg1.2).2.1 (c_X2_copyOf (lt_a18 hV _ hg1.2).2 hE1 (lt_fl hV) he3) rfl rfl (Nat.le_of_ble_eq_true rfl) ⟨Nat.le_refl 0, Nat.le_refl 0⟩ <| a_aload iX4_remember_21 rfl <| a_geti iX4_remember_22 (lt_s17 hV) rfl <| a_const iX4_remember_25 <| ?_
  refine a_icmp_ge iX4_remember_27 (fun hc4 => ?_) (fun hc4 => ?_)
  · have h := ot hc4 h
    refine a_aload iX4_remember_43 rfl <| a_aload iX4_remember_44 rfl <| a_geti iX4_remember_45 (lt_s17 hV) rfl <| a_const iX4_remember_48 <| a_iadd iX4_remember_49 <| a_const iX4_remember_50 <| a_irem iX4_remember_52 (by decide) <| a_puti iX4_remember_53 (lt_s17 hV) rfl rfl rfl <| ?_
    obtain rfl := Option.some.inj h
    exact a_vret iX4_remember_56 rfl ⟨Nat.le_refl 0, Nat.le_refl 0⟩ ⟨rfl, rfl, rfl, rfl⟩
  · have h := oe hc4 h
    refine a_aload iX4_remember_30 rfl <| a_dup iX4_remember_31 rfl <| a_geti iX4_remember_32 (lt_s17 hV) rfl <| a_const iX4_remember_35 <| a_iadd iX4_remember_36 <| a_puti iX4_remember_37 (lt_s17 hV) rfl rfl rfl <| a_goto iX4_remember_40 <| ?_
    obtain rfl := Option.some.inj h
    exact a_vret iX4_remember_56 rfl ⟨Nat.le_refl 0, Nat.le_refl 0⟩ ⟨rfl, rfl, rfl, rfl⟩
def f_X4_bringBack (mi : Mi) (e1 : Nat) (x1 : Int32) : Option (Mi) := (f_X7_isWithin x1 1 (mi 17 2)).bind (fun r1 => if r1 = 0 then (some mi) else (if inb ((((u2 mi 17 2 ((mi 17 2) - x1)) 17 1) + ((u2 mi 17 2 ((mi 17 2) - x1)) 17 2)) - (((u2 mi 17 2 ((mi 17 2) - x1)) 17 1) + ((u2 mi 17 2 ((mi 17 2) - x1)) 17 2)) / 30 * 30) 30 then (f_X2_copyOf (u2 mi 17 2 ((mi 17 2) - x1)) e1 (19 + 6 * ((((u2 mi 17 2 ((mi 17 2) - x1)) 17 1) + ((u2 mi 17 2 ((mi 17 2) - x1)) 17 2)) - (((u2 mi 17 2 ((mi 17 2) - x1)) 17 1) + ((u2 mi 17 2 ((mi 17 2) - x1)) 17 2)) / 30 * 30).toNatClampNeg)).bind (fun mi5 => some mi5) else none))
set_option maxRecDepth 20000 in
set_option maxHeartbeats 4000000 in
theorem c_X4_bringBack {g : Gm} {V : Vw} {mi : Mi} {ml : Ml} {e1 ld dr : Nat} {x1 : Int32} (hV : LayT V ld dr) (hE1 : LayE V e1) {r : Mi} (h : f_X4_bringBack mi e1 x1 = some r) : DoV g YX4_bringBack V [rf g 17, .int x1, rf g e1] mi ml r ml := by
  unfold f_X4_bringBack at h
  refine does_of (L := [some (rf g 17), some (.int x1), some (rf g e1)]) okX4_bringBack rfl (Nat.le_of_ble_eq_true rfl) rfl ?_
  show At g YX4_bringBack _ (qm g YX4_bringBack (pV V r ml)) V (0, 0) 0 _ [] mi ml
  refine a_iload iX4_bringBack_0 rfl <| a_const iX4_bringBack_1 <| a_aload iX4_bringBack_2 rfl <| a_geti iX4_bringBack_3 (lt_s17 hV) rfl <| ?_
  obtain ⟨r1, he2, h⟩ := ob h
  refine a_cSi iX4_bringBack_6 okX7_isWithin stX7_isWithin ⟨rfl, rfl⟩ (c_X7_isWithin he2) rfl rfl (Nat.le_of_ble_eq_true rfl) ⟨Nat.le_refl 0, Nat.le_refl 0⟩ <| ?_
  refine a_if_eq iX4_bringBack_9 (fun hc3 => ?_) (fun hc3 => ?_)
  · have h := ot hc3 h
    obtain rfl := Option.some.inj h
    exact a_vret iX4_bringBack_43 rfl ⟨Nat.le_refl 0, Nat.le_refl 0⟩ ⟨rfl, rfl, rfl, rfl⟩
  · have h := oe hc3 h
    refine a_aload iX4_bringBack_12 rfl <| a_dup iX4_bringBack_13 rfl <| a_geti iX4_bringBack_14 (lt_s17 hV) rfl <| a_iload iX4_bringBack_17 rfl <| a_isub iX4_bringBack_18 <| a_puti iX4_bringBack_19 (lt_s17 hV) rfl rfl rfl <| a_aload iX4_bringBack_22 rfl <| a_aload iX4_bringBack_23 rfl <| ?_
    refine a_getr iX4_bringBack_24 (lt_s17 hV) rfl (lt_r17_0 hV) <| a_aload iX4_bringBack_27 rfl <| a_geti iX4_bringBack_28 (lt_s17 hV) rfl <| a_aload iX4_bringBack_31 rfl <| a_geti iX4_bringBack_32 (lt_s17 hV) rfl <| a_iadd iX4_bringBack_35 <| a_const iX4_bringBack_36 <| a_irem iX4_bringBack_38 (by decide) <| ?_
    obtain ⟨hg4, h⟩ := og h
    refine a_aald iX4_bringBack_39 (lt_s18 hV) (inb_vp hg4) (lt_a18 hV _ hg4.2).1 <| ?_
    obtain ⟨mi5, he6, h⟩ := ob h
    refine a_cVv iX4_bringBack_40 okX2_copyOf inX2_copyOf ⟨rfl, rfl⟩ hE1.1 (c_X2_copyOf hE1 (lt_a18 hV _ hg4.2).2 (lt_fl hV) he6) rfl rfl (Nat.le_of_ble_eq_true rfl) ⟨Nat.le_refl 0, Nat.le_refl 0⟩ <| ?_
    obtain rfl := Option.some.inj h
    exact a_vret iX4_bringBack_43 rfl ⟨Nat.le_refl 0, Nat.le_refl 0⟩ ⟨rfl, rfl, rfl, rfl⟩
def lp_X5_skipBlanks_0 (K : Mi → Option (Mi)) : Nat → Mi → Option (Mi)
  | 0, _ => none
  | n + 1, mi => if (mi 1 1) ≤ (mi 3 2) then (K mi) else ((f_X6_letterAt mi (mi 3 2)).bind (fun r2 => if r2 = 32 then (lp_X5_skipBlanks_0  K n (u2 mi 3 2 ((mi 3 2) + 1))) else (K mi)))
def f_X5_skipBlanks (mi : Mi) : Option (Mi) := lp_X5_skipBlanks_0 (fun mi5 => some mi5) FU mi
set_option maxRecDepth 20000 in
set_option maxHeartbeats 4000000 in
theorem w_X5_skipBlanks_0 {g : Gm} {V : Vw} {E : Ex} {ld dr : Nat} {ml : Ml} (hV : LayT V ld dr) {K : Mi → Option (Mi)} {r : Mi} (hK : ∀ (mi : Mi), K mi = some r → At g YX5_skipBlanks E (qm g YX5_skipBlanks (pV V r ml)) V (0, 0) 43 [some (rf g 3)] [] mi ml) : ∀ (n : Nat) (mi : Mi), lp_X5_skipBlanks_0  K n mi = some r → At g YX5_skipBlanks E (qm g YX5_skipBlanks (pV V r ml)) V (0, 0) 0 [some (rf g 3)] [] mi ml := by
  intro n
  induction n with
  | zero => intro mi h; exact oz h
  | succ n ih =>
    intro mi h
    unfold lp_X5_skipBlanks_0 at h
    refine a_aload iX5_skipBlanks_0 rfl <| a_geti iX5_skipBlanks_1 (lt_s3 hV) rfl <| a_aload iX5_skipBlanks_4 rfl <| a_getr iX5_skipBlanks_5 (lt_s3 hV) rfl (lt_r3_0 hV) <| a_geti iX5_skipBlanks_8 (lt_s1 hV) rfl <| ?_
    refine a_icmp_ge iX5_skipBlanks_11 (fun hc1 => ?_) (fun hc1 => ?_)
    · have h := ot hc1 h
      exact a_sub (L' := [some (rf g 3)]) (by exact ⟨rfl, trivial⟩) (hK _ h)
    · have h := oe hc1 h
      refine a_aload iX5_skipBlanks_14 rfl <| a_getr iX5_skipBlanks_15 (lt_s3 hV) rfl (lt_r3_0 hV) <| a_aload iX5_skipBlanks_18 rfl <| a_geti iX5_skipBlanks_19 (lt_s3 hV) rfl <| ?_
      obtain ⟨r2, he3, h⟩ := ob h
      refine a_cVi iX5_skipBlanks_22 okX6_letterAt inX6_letterAt ⟨rfl, rfl⟩ (lt_s1 hV) (c_X6_letterAt hV he3) rfl rfl (Nat.le_of_ble_eq_true rfl) ⟨Nat.le_refl 0, Nat.le_refl 0⟩ <| a_const iX5_skipBlanks_25 <| ?_
      refine a_icmp_ne iX5_skipBlanks_27 (fun hc4 => ?_) (fun hc4 => ?_)
      · have h := oe hc4 h
        exact a_sub (L' := [some (rf g 3)]) (by exact ⟨rfl, trivial⟩) (hK _ h)
      · have h := ot hc4 h
        refine a_aload iX5_skipBlanks_30 rfl <| a_dup iX5_skipBlanks_31 rfl <| a_geti iX5_skipBlanks_32 (lt_s3 hV) rfl <| a_const iX5_skipBlanks_35 <| a_iadd iX5_skipBlanks_36 <| a_puti iX5_skipBlanks_37 (lt_s3 hV) rfl rfl rfl <| a_goto iX5_skipBlanks_40 <| ?_
        exact a_sub (L' := [some (rf g 3)]) (by exact ⟨rfl, trivial⟩) (ih _ h)
set_option maxRecDepth 20000 in
set_option maxHeartbeats 4000000 in
theorem c_X5_skipBlanks {g : Gm} {V : Vw} {mi : Mi} {ml : Ml} {ld dr : Nat} (hV : LayT V ld dr) {r : Mi} (h : f_X5_skipBlanks mi = some r) : DoV g YX5_skipBlanks V [rf g 3] mi ml r ml := by
  unfold f_X5_skipBlanks at h
  refine does_of (L := [some (rf g 3)]) okX5_skipBlanks rfl (Nat.le_of_ble_eq_true rfl) rfl ?_
  show At g YX5_skipBlanks _ (qm g YX5_skipBlanks (pV V r ml)) V (0, 0) 0 _ [] mi ml
  refine a_sub (L' := [some (rf g 3)]) (by exact ⟨rfl, trivial⟩) (w_X5_skipBlanks_0 hV (fun mi5 h => ?_) FU _ h)
  obtain rfl := Option.some.inj h
  exact a_vret iX5_skipBlanks_43 rfl ⟨Nat.le_refl 0, Nat.le_refl 0⟩ ⟨rfl, rfl, rfl, rfl⟩
def f_X5_isWord (x0 : Int32) : Option (Int32) := if x0 = 99 then (some 1) else (if x0 = 115 then (some 1) else (if x0 = 116 then (some 1) else (if x0 = 108 then (some 1) else (if x0 = 119 then (some 1) else (some 0)))))
set_option maxRecDepth 20000 in
set_option maxHeartbeats 4000000 in
theorem c_X5_isWord {g : Gm} {V : Vw} {mi : Mi} {ml : Ml} {x0 : Int32}  {r : Int32} (h : f_X5_isWord x0 = some r) : DoI g YX5_isWord V [.int x0] mi ml r mi ml := by
  unfold f_X5_isWord at h
  refine does_of (L := [some (.int x0)]) okX5_isWord rfl (Nat.le_of_ble_eq_true rfl) rfl ?_
  show At g YX5_isWord _ (qm g YX5_isWord (pI V r mi ml)) V (0, 0) 0 _ [] mi ml
  refine a_iload iX5_isWord_0 rfl <| a_const iX5_isWord_1 <| ?_
  refine a_icmp_eq iX5_isWord_3 (fun hc1 => ?_) (fun hc1 => ?_)
  · have h := ot hc1 h
    refine a_const iX5_isWord_30 <| a_goto iX5_isWord_31 <| ?_
    obtain rfl := Option.some.inj h
    exact a_zret iX5_isWord_35 rfl rfl ⟨Nat.le_refl 0, Nat.le_refl 0⟩ ⟨rfl, rfl, rfl, rfl⟩
  · have h := oe hc1 h
    refine a_iload iX5_isWord_6 rfl <| a_const iX5_isWord_7 <| ?_
    refine a_icmp_eq iX5_isWord_9 (fun hc2 => ?_) (fun hc2 => ?_)
    · have h := ot hc2 h
      refine a_const iX5_isWord_30 <| a_goto iX5_isWord_31 <| ?_
      obtain rfl := Option.some.inj h
      exact a_zret iX5_isWord_35 rfl rfl ⟨Nat.le_refl 0, Nat.le_refl 0⟩ ⟨rfl, rfl, rfl, rfl⟩
    · have h := oe hc2 h
      refine a_iload iX5_isWord_12 rfl <| a_const iX5_isWord_13 <| ?_
      refine a_icmp_eq iX5_isWord_15 (fun hc3 => ?_) (fun hc3 => ?_)
      · have h := ot hc3 h
        refine a_const iX5_isWord_30 <| a_goto iX5_isWord_31 <| ?_
        obtain rfl := Option.some.inj h
        exact a_zret iX5_isWord_35 rfl rfl ⟨Nat.le_refl 0, Nat.le_refl 0⟩ ⟨rfl, rfl, rfl, rfl⟩
      · have h := oe hc3 h
        refine a_iload iX5_isWord_18 rfl <| a_const iX5_isWord_19 <| ?_
        refine a_icmp_eq iX5_isWord_21 (fun hc4 => ?_) (fun hc4 => ?_)
        · have h := ot hc4 h
          refine a_const iX5_isWord_30 <| a_goto iX5_isWord_31 <| ?_
          obtain rfl := Option.some.inj h
          exact a_zret iX5_isWord_35 rfl rfl ⟨Nat.le_refl 0, Nat.le_refl 0⟩ ⟨rfl, rfl, rfl, rfl⟩
        · have h := oe hc4 h
          refine a_iload iX5_isWord_24 rfl <| a_const iX5_isWord_25 <| ?_
          refine a_icmp_ne iX5_isWord_27 (fun hc5 => ?_) (fun hc5 => ?_)
          · have h := oe hc5 h
            refine a_const iX5_isWord_34 <| ?_
            obtain rfl := Option.some.inj h
            exact a_zret iX5_isWord_35 rfl rfl ⟨Nat.le_refl 0, Nat.le_refl 0⟩ ⟨rfl, rfl, rfl, rfl⟩
          · have h := ot hc5 h
            refine a_const iX5_isWord_30 <| a_goto iX5_isWord_31 <| ?_
            obtain rfl := Option.some.inj h
            exact a_zret iX5_isWord_35 rfl rfl ⟨Nat.le_refl 0, Nat.le_refl 0⟩ ⟨rfl, rfl, rfl, rfl⟩
def f_X5_accuse (mi : Mi) (x1 x2 : Int32) : Option (Mi) := if (mi 3 3) = 0 then (some (u2 (u2 mi 3 3 x1) 3 4 x2)) else (some mi)
set_option maxRecDepth 20000 in
set_option maxHeartbeats 4000000 in
theorem c_X5_accuse {g : Gm} {V : Vw} {mi : Mi} {ml : Ml} {ld dr : Nat} {x1 x2 : Int32} (hV : LayT V ld dr) {r : Mi} (h : f_X5_accuse mi x1 x2 = some r) : DoV g YX5_accuse V [rf g 3, .int x1, .int x2] mi ml r ml := by
  unfold f_X5_accuse at h
  refine does_of (L := [some (rf g 3), some (.int x1), some (.int x2)]) okX5_accuse rfl (Nat.le_of_ble_eq_true rfl) rfl ?_
  show At g YX5_accuse _ (qm g YX5_accuse (pV V r ml)) V (0, 0) 0 _ [] mi ml
  refine a_aload iX5_accuse_0 rfl <| a_geti iX5_accuse_1 (lt_s3 hV) rfl <| ?_
  refine a_if_ne iX5_accuse_4 (fun hc1 => ?_) (fun hc1 => ?_)
  · have h := oe hc1 h
    obtain rfl := Option.some.inj h
    exact a_vret iX5_accuse_17 rfl ⟨Nat.le_refl 0, Nat.le_refl 0⟩ ⟨rfl, rfl, rfl, rfl⟩
  · have h := ot hc1 h
    refine a_aload iX5_accuse_7 rfl <| a_iload iX5_accuse_8 rfl <| a_puti iX5_accuse_9 (lt_s3 hV) rfl rfl rfl <| a_aload iX5_accuse_12 rfl <| a_iload iX5_accuse_13 rfl <| a_puti iX5_accuse_14 (lt_s3 hV) rfl rfl rfl <| ?_
    obtain rfl := Option.some.inj h
    exact a_vret iX5_accuse_17 rfl ⟨Nat.le_refl 0, Nat.le_refl 0⟩ ⟨rfl, rfl, rfl, rfl⟩
def f_X5_isFigure (x0 : Int32) : Option (Int32) := if x0 < 48 then (some 0) else (if 57 < x0 then (some 0) else (some 1))
set_option maxRecDepth 20000 in
set_option maxHeartbeats 4000000 in
theorem c_X5_isFigure {g : Gm} {V : Vw} {mi : Mi} {ml : Ml} {x0 : Int32}  {r : Int32} (h : f_X5_isFigure x0 = some r) : DoI g YX5_isFigure V [.int x0] mi ml r mi ml := by
  unfold f_X5_isFigure at h
  refine does_of (L := [some (.int x0)]) okX5_isFigure rfl (Nat.le_of_ble_eq_true rfl) rfl ?_
  show At g YX5_isFigure _ (qm g YX5_isFigure (pI V r mi ml)) V (0, 0) 0 _ [] mi ml
  refine a_iload iX5_isFigure_0 rfl <| a_const iX5_isFigure_1 <| ?_
  refine a_icmp_lt iX5_isFigure_3 (fun hc1 => ?_) (fun hc1 => ?_)
  · have h := ot hc1 h
    refine a_const iX5_isFigure_16 <| ?_
    obtain rfl := Option.some.inj h
    exact a_zret iX5_isFigure_17 rfl rfl ⟨Nat.le_refl 0, Nat.le_refl 0⟩ ⟨rfl, rfl, rfl, rfl⟩
  · have h := oe hc1 h
    refine a_iload iX5_isFigure_6 rfl <| a_const iX5_isFigure_7 <| ?_
    refine a_icmp_gt iX5_isFigure_9 (fun hc2 => ?_) (fun hc2 => ?_)
    · have h := ot hc2 h
      refine a_const iX5_isFigure_16 <| ?_
      obtain rfl := Option.some.inj h
      exact a_zret iX5_isFigure_17 rfl rfl ⟨Nat.le_refl 0, Nat.le_refl 0⟩ ⟨rfl, rfl, rfl, rfl⟩
    · have h := oe hc2 h
      refine a_const iX5_isFigure_12 <| a_goto iX5_isFigure_13 <| ?_
      obtain rfl := Option.some.inj h
      exact a_zret iX5_isFigure_17 rfl rfl ⟨Nat.le_refl 0, Nat.le_refl 0⟩ ⟨rfl, rfl, rfl, rfl⟩
def lp_X5_readNumber_12 (v1 : Int32) (v2 : Int32) (v3 : Int32) (K : Int32 → Mi → Option (Int32 × Mi)) : Nat → Int32 → Mi → Option (Int32 × Mi)
  | 0, _, _ => none
  | n + 1, v4, mi => if (mi 1 1) ≤ (mi 3 2) then (K v4 mi) else ((f_X6_letterAt mi (mi 3 2)).bind (fun r4 => (f_X5_isFigure r4).bind (fun r6 => if r6 = 0 then (K v4 mi) else (if 3 ≤ ((mi 3 2) - v3) then (lp_X5_readNumber_12 v1 v2 v3 K n v4 (u2 mi 3 2 ((mi 3 2) + 1))) else ((f_X6_letterAt mi (mi 3 2)).bind (fun r10 => lp_X5_readNumber_12 v1 v2 v3 K n (((v4 * 10) + r10) - 48) (u2 mi 3 2 ((mi 3 2) + 1))))))))
def f_X5_readNumber (mi : Mi) (x1 x2 : Int32) : Option (Int32 × Mi) := (f_X5_skipBlanks mi).bind (fun mi1 => lp_X5_readNumber_12 x1 x2 (mi1 3 2) (fun v4_12 mi12 => if (mi12 3 2) = (mi1 3 2) then ((f_X5_accuse mi12 1 (mi1 3 2)).bind (fun mi22 => some (v4_12, mi22))) else (if 3 < ((mi12 3 2) - (mi1 3 2)) then ((f_X5_accuse mi12 2 (mi1 3 2)).bind (fun mi15 => some (v4_12, mi15))) else ((f_X7_isWithin v4_12 x1 x2).bind (fun r17 => if r17 = 0 then ((f_X5_accuse mi12 2 (mi1 3 2)).bind (fun mi20 => some (v4_12, mi20))) else (some (v4_12, mi12)))))) FU 0 mi1)
set_option maxRecDepth 20000 in
set_option maxHeartbeats 4000000 in
theorem w_X5_readNumber_12 {g : Gm} {V : Vw} {E : Ex} {ld dr : Nat} {ml : Ml} {v1 v2 v3 : Int32} (hV : LayT V ld dr) {K : Int32 → Mi → Option (Int32 × Mi)} {r : Int32 × Mi} (hK : ∀ (v4 : Int32) (mi : Mi), K v4 mi = some r → At g YX5_readNumber E (qm g YX5_readNumber (pI V (r.1) (r.2) ml)) V (0, 0) 88 [some (rf g 3), some (.int v1), some (.int v2), some (.int v3), some (.int v4)] [] mi ml) : ∀ (n : Nat) (v4 : Int32) (mi : Mi), lp_X5_readNumber_12 v1 v2 v3 K n v4 mi = some r → At g YX5_readNumber E (qm g YX5_readNumber (pI V (r.1) (r.2) ml)) V (0, 0) 12 [some (rf g 3), some (.int v1), some (.int v2), some (.int v3), some (.int v4)] [] mi ml := by
  intro n
  induction n with
  | zero => intro v4 mi h; exact oz h
  | succ n ih =>
    intro v4 mi h
    unfold lp_X5_readNumber_12 at h
    refine a_aload iX5_readNumber_12 rfl <| a_geti iX5_readNumber_13 (lt_s3 hV) rfl <| a_aload iX5_readNumber_16 rfl <| a_getr iX5_readNumber_17 (lt_s3 hV) rfl (lt_r3_0 hV) <| a_geti iX5_readNumber_20 (lt_s1 hV) rfl <| ?_
    refine a_icmp_ge iX5_readNumber_23 (fun hc3 => ?_) (fun hc3 => ?_)
    · have h := ot hc3 h
      exact a_sub (L' := [some (rf g 3), some (.int v1), some (.int v2), some (.int v3), some (.int v4)]) (by exact ⟨rfl, ⟨rfl, ⟨rfl, ⟨rfl, ⟨rfl, trivial⟩⟩⟩⟩⟩) (hK _ _ h)
    · have h := oe hc3 h
      refine a_aload iX5_readNumber_26 rfl <| a_getr iX5_readNumber_27 (lt_s3 hV) rfl (lt_r3_0 hV) <| a_aload iX5_readNumber_30 rfl <| a_geti iX5_readNumber_31 (lt_s3 hV) rfl <| ?_
      obtain ⟨r4, he5, h⟩ := ob h
      refine a_cVi iX5_readNumber_34 okX6_letterAt inX6_letterAt ⟨rfl, rfl⟩ (lt_s1 hV) (c_X6_letterAt hV he5) rfl rfl (Nat.le_of_ble_eq_true rfl) ⟨Nat.le_refl 0, Nat.le_refl 0⟩ <| ?_
      obtain ⟨r6, he7, h⟩ := ob h
      refine a_cSi iX5_readNumber_37 okX5_isFigure stX5_isFigure ⟨rfl, rfl⟩ (c_X5_isFigure he7) rfl rfl (Nat.le_of_ble_eq_true rfl) ⟨Nat.le_refl 0, Nat.le_refl 0⟩ <| ?_
      refine a_if_eq iX5_readNumber_40 (fun hc8 => ?_) (fun hc8 => ?_)
      · have h := ot hc8 h
        exact a_sub (L' := [some (rf g 3), some (.int v1), some (.int v2), some (.int v3), some (.int v4)]) (by exact ⟨rfl, ⟨rfl, ⟨rfl, ⟨rfl, ⟨rfl, trivial⟩⟩⟩⟩⟩) (hK _ _ h)
      · have h := oe hc8 h
        refine a_aload iX5_readNumber_43 rfl <| a_geti iX5_readNumber_44 (lt_s3 hV) rfl <| a_iload iX5_readNumber_47 rfl <| a_isub iX5_readNumber_48 <| a_const iX5_readNumber_49 <| ?_
        refine a_icmp_ge iX5_readNumber_50 (fun hc9 => ?_) (fun hc9 => ?_)
        · have h := ot hc9 h
          refine a_aload iX5_readNumber_75 rfl <| a_dup iX5_readNumber_76 rfl <| a_geti iX5_readNumber_77 (lt_s3 hV) rfl <| a_const iX5_readNumber_80 <| a_iadd iX5_readNumber_81 <| a_puti iX5_readNumber_82 (lt_s3 hV) rfl rfl rfl <| a_goto iX5_readNumber_85 <| ?_
          exact a_sub (L' := [some (rf g 3), some (.int v1), some (.int v2), some (.int v3), some (.int v4)]) (by exact ⟨rfl, ⟨rfl, ⟨rfl, ⟨rfl, ⟨rfl, trivial⟩⟩⟩⟩⟩) (ih _ _ h)
        · have h := oe hc9 h
          refine a_iload iX5_readNumber_53 rfl <| a_const iX5_readNumber_55 <| a_imul iX5_readNumber_57 <| a_aload iX5_readNumber_58 rfl <| a_getr iX5_readNumber_59 (lt_s3 hV) rfl (lt_r3_0 hV) <| a_aload iX5_readNumber_62 rfl <| a_geti iX5_readNumber_63 (lt_s3 hV) rfl <| ?_
          obtain ⟨r10, he11, h⟩ := ob h
          refine a_cVi iX5_readNumber_66 okX6_letterAt inX6_letterAt ⟨rfl, rfl⟩ (lt_s1 hV) (c_X6_letterAt hV he11) rfl rfl (Nat.le_of_ble_eq_true rfl) ⟨Nat.le_refl 0, Nat.le_refl 0⟩ <| a_iadd iX5_readNumber_69 <| a_const iX5_readNumber_70 <| a_isub iX5_readNumber_72 <| a_istore iX5_readNumber_73 (by decide) rfl <| a_aload iX5_readNumber_75 rfl <| a_dup iX5_readNumber_76 rfl <| a_geti iX5_readNumber_77 (lt_s3 hV) rfl <| ?_
          refine a_const iX5_readNumber_80 <| a_iadd iX5_readNumber_81 <| a_puti iX5_readNumber_82 (lt_s3 hV) rfl rfl rfl <| a_goto iX5_readNumber_85 <| ?_
          exact a_sub (L' := [some (rf g 3), some (.int v1), some (.int v2), some (.int v3), some (.int (((v4 * 10) + r10) - 48))]) (by exact ⟨rfl, ⟨rfl, ⟨rfl, ⟨rfl, ⟨rfl, trivial⟩⟩⟩⟩⟩) (ih _ _ h)
set_option maxRecDepth 20000 in
set_option maxHeartbeats 4000000 in
theorem c_X5_readNumber {g : Gm} {V : Vw} {mi : Mi} {ml : Ml} {ld dr : Nat} {x1 x2 : Int32} (hV : LayT V ld dr) {r : Int32 × Mi} (h : f_X5_readNumber mi x1 x2 = some r) : DoI g YX5_readNumber V [rf g 3, .int x1, .int x2] mi ml (r.1) (r.2) ml := by
  unfold f_X5_readNumber at h
  refine does_of (L := [some (rf g 3), some (.int x1), some (.int x2), none, none]) okX5_readNumber rfl (Nat.le_of_ble_eq_true rfl) rfl ?_
  show At g YX5_readNumber _ (qm g YX5_readNumber (pI V (r.1) (r.2) ml)) V (0, 0) 0 _ [] mi ml
  refine a_aload iX5_readNumber_0 rfl <| ?_
  obtain ⟨mi1, he2, h⟩ := ob h
  refine a_cVv iX5_readNumber_1 okX5_skipBlanks inX5_skipBlanks ⟨rfl, rfl⟩ (lt_s3 hV) (c_X5_skipBlanks hV he2) rfl rfl (Nat.le_of_ble_eq_true rfl) ⟨Nat.le_refl 0, Nat.le_refl 0⟩ <| a_aload iX5_readNumber_4 rfl <| a_geti iX5_readNumber_5 (lt_s3 hV) rfl <| a_istore iX5_readNumber_8 (by decide) rfl <| a_const iX5_readNumber_9 <| a_istore iX5_readNumber_10 (by decide) rfl <| ?_
  refine a_sub (L' := [some (rf g 3), some (.int x1), some (.int x2), some (.int (mi1 3 2)), some (.int 0)]) (by exact ⟨rfl, ⟨rfl, ⟨rfl, ⟨rfl, ⟨rfl, trivial⟩⟩⟩⟩⟩) (w_X5_readNumber_12 hV (fun v4_12 mi12 h => ?_) FU _ _ h)
  refine a_aload iX5_readNumber_88 rfl <| a_geti iX5_readNumber_89 (lt_s3 hV) rfl <| a_iload iX5_readNumber_92 rfl <| ?_
  refine a_icmp_ne iX5_readNumber_93 (fun hc13 => ?_) (fun hc13 => ?_)
  · have h := oe hc13 h
    refine a_aload iX5_readNumber_105 rfl <| a_geti iX5_readNumber_106 (lt_s3 hV) rfl <| a_iload iX5_readNumber_109 rfl <| a_isub iX5_readNumber_110 <| a_const iX5_readNumber_111 <| ?_
    refine a_icmp_gt iX5_readNumber_112 (fun hc14 => ?_) (fun hc14 => ?_)
    · have h := ot hc14 h
      refine a_aload iX5_readNumber_125 rfl <| a_const iX5_readNumber_126 <| a_iload iX5_readNumber_127 rfl <| ?_
      obtain ⟨mi15, he16, h⟩ := ob h
      refine a_cVv iX5_readNumber_128 okX5_accuse inX5_accuse ⟨rfl, rfl⟩ (lt_s3 hV) (c_X5_accuse hV he16) rfl rfl (Nat.le_of_ble_eq_true rfl) ⟨Nat.le_refl 0, Nat.le_refl 0⟩ <| a_iload iX5_readNumber_131 rfl <| ?_
      obtain rfl := Option.some.inj h
      exact a_iret iX5_readNumber_133 rfl ⟨Nat.le_refl 0, Nat.le_refl 0⟩ ⟨rfl, rfl, rfl, rfl⟩
    · have h := oe hc14 h
      refine a_iload iX5_readNumber_115 rfl <| a_iload iX5_readNumber_117 rfl <| a_iload iX5_readNumber_118 rfl <| ?_
      obtain ⟨r17, he18, h⟩ := ob h
      refine a_cSi iX5_readNumber_119 okX7_isWithin stX7_isWithin ⟨rfl, rfl⟩ (c_X7_isWithin he18) rfl rfl (Nat.le_of_ble_eq_true rfl) ⟨Nat.le_refl 0, Nat.le_refl 0⟩ <| ?_
      refine a_if_ne iX5_readNumber_122 (fun hc19 => ?_) (fun hc19 => ?_)
      · have h := oe hc19 h
        refine a_iload iX5_readNumber_131 rfl <| ?_
        obtain rfl := Option.some.inj h
        exact a_iret iX5_readNumber_133 rfl ⟨Nat.le_refl 0, Nat.le_refl 0⟩ ⟨rfl, rfl, rfl, rfl⟩
      · have h := ot hc19 h
        refine a_aload iX5_readNumber_125 rfl <| a_const iX5_readNumber_126 <| a_iload iX5_readNumber_127 rfl <| ?_
        obtain ⟨mi20, he21, h⟩ := ob h
        refine a_cVv iX5_readNumber_128 okX5_accuse inX5_accuse ⟨rfl, rfl⟩ (lt_s3 hV) (c_X5_accuse hV he21) rfl rfl (Nat.le_of_ble_eq_true rfl) ⟨Nat.le_refl 0, Nat.le_refl 0⟩ <| a_iload iX5_readNumber_131 rfl <| ?_
        obtain rfl := Option.some.inj h
        exact a_iret iX5_readNumber_133 rfl ⟨Nat.le_refl 0, Nat.le_refl 0⟩ ⟨rfl, rfl, rfl, rfl⟩
  · have h := ot hc13 h
    refine a_aload iX5_readNumber_96 rfl <| a_const iX5_readNumber_97 <| a_iload iX5_readNumber_98 rfl <| ?_
    obtain ⟨mi22, he23, h⟩ := ob h
    refine a_cVv iX5_readNumber_99 okX5_accuse inX5_accuse ⟨rfl, rfl⟩ (lt_s3 hV) (c_X5_accuse hV he23) rfl rfl (Nat.le_of_ble_eq_true rfl) ⟨Nat.le_refl 0, Nat.le_refl 0⟩ <| a_goto iX5_readNumber_102 <| a_iload iX5_readNumber_131 rfl <| ?_
    obtain rfl := Option.some.inj h
    exact a_iret iX5_readNumber_133 rfl ⟨Nat.le_refl 0, Nat.le_refl 0⟩ ⟨rfl, rfl, rfl, rfl⟩
def f_X5_readDay (mi : Mi) (dr : Nat) : Option (Mi) := (f_X5_readNumber mi 1 11).bind (fun q4 => (f_X5_readNumber q4.2 13 23).bind (fun q8 => (f_X1_addDay q8.2 dr q4.1 q8.1).bind (fun mi9 => some mi9)))
set_option maxRecDepth 20000 in
set_option maxHeartbeats 4000000 in
theorem c_X5_readDay {g : Gm} {V : Vw} {mi : Mi} {ml : Ml} {dr ld : Nat} (hV : LayT V ld dr) {r : Mi} (h : f_X5_readDay mi dr = some r) : DoV g YX5_readDay V [rf g 3] mi ml r ml := by
  unfold f_X5_readDay at h
  refine does_of (L := [some (rf g 3), none, none]) okX5_readDay rfl (Nat.le_of_ble_eq_true rfl) rfl ?_
  show At g YX5_readDay _ (qm g YX5_readDay (pV V r ml)) V (0, 0) 0 _ [] mi ml
  refine a_aload iX5_readDay_0 rfl <| a_const iX5_readDay_1 <| a_const iX5_readDay_2 <| ?_
  obtain ⟨⟨r1, mi2⟩, he3, h⟩ := ob h
  refine a_cVi iX5_readDay_4 okX5_readNumber inX5_readNumber ⟨rfl, rfl⟩ (lt_s3 hV) (c_X5_readNumber hV he3) rfl rfl (Nat.le_of_ble_eq_true rfl) ⟨Nat.le_refl 0, Nat.le_refl 0⟩ <| a_istore iX5_readDay_7 (by decide) rfl <| a_aload iX5_readDay_8 rfl <| a_const iX5_readDay_9 <| a_const iX5_readDay_11 <| ?_
  obtain ⟨⟨r5, mi6⟩, he7, h⟩ := ob h
  refine a_cVi iX5_readDay_13 okX5_readNumber inX5_readNumber ⟨rfl, rfl⟩ (lt_s3 hV) (c_X5_readNumber hV he7) rfl rfl (Nat.le_of_ble_eq_true rfl) ⟨Nat.le_refl 0, Nat.le_refl 0⟩ <| a_istore iX5_readDay_16 (by decide) rfl <| a_aload iX5_readDay_17 rfl <| a_getr iX5_readDay_18 (lt_s3 hV) rfl (lt_r3_1 hV) <| a_iload iX5_readDay_21 rfl <| a_iload iX5_readDay_22 rfl <| ?_
  obtain ⟨mi9, he10, h⟩ := ob h
  refine a_cVv iX5_readDay_23 okX1_addDay inX1_addDay ⟨rfl, rfl⟩ (lt_dr hV).1 (c_X1_addDay (lt_dr hV) he10) rfl rfl (Nat.le_of_ble_eq_true rfl) ⟨Nat.le_refl 0, Nat.le_refl 0⟩ <| ?_
  obtain rfl := Option.some.inj h
  exact a_vret iX5_readDay_26 rfl ⟨Nat.le_refl 0, Nat.le_refl 0⟩ ⟨rfl, rfl, rfl, rfl⟩
def lp_X5_readSeasons_2 (dr : Nat) (K : Int32 → Mi → Option (Mi)) : Nat → Int32 → Mi → Option (Mi)
  | 0, _, _ => none
  | n + 1, v1, mi => if 12 ≤ v1 then (K v1 mi) else ((f_X5_readNumber mi 0 9).bind (fun q5 => (f_X1_addSeason q5.2 dr q5.1).bind (fun mi6 => (f_X5_skipBlanks mi6).bind (fun mi8 => if (mi8 3 3) = 0 then (if v1 = 11 then (some mi8) else ((f_X6_letterAt mi8 (mi8 3 2)).bind (fun r12 => if r12 = 44 then (lp_X5_readSeasons_2 dr K n (v1 + 1) (u2 mi8 3 2 ((mi8 3 2) + 1))) else (some mi8)))) else (some mi8)))))
def f_X5_readSeasons (mi : Mi) (dr : Nat) : Option (Mi) := lp_X5_readSeasons_2 dr (fun v1_15 mi15 => some mi15) FU 0 mi
set_option maxRecDepth 20000 in
set_option maxHeartbeats 4000000 in
theorem w_X5_readSeasons_2 {g : Gm} {V : Vw} {E : Ex} {dr ld : Nat} {ml : Ml} (hV : LayT V ld dr) {K : Int32 → Mi → Option (Mi)} {r : Mi} (hK : ∀ (v1 : Int32) (mi : Mi), K v1 mi = some r → At g YX5_readSeasons E (qm g YX5_readSeasons (pV V r ml)) V (0, 0) 72 [some (rf g 3), some (.int v1)] [] mi ml) : ∀ (n : Nat) (v1 : Int32) (mi : Mi), lp_X5_readSeasons_2 dr K n v1 mi = some r → At g YX5_readSeasons E (qm g YX5_readSeasons (pV V r ml)) V (0, 0) 2 [some (rf g 3), some (.int v1)] [] mi ml := by
  intro n
  induction n with
  | zero => intro v1 mi h; exact oz h
  | succ n ih =>
    intro v1 mi h
    unfold lp_X5_readSeasons_2 at h
    refine a_iload iX5_readSeasons_2 rfl <| a_const iX5_readSeasons_3 <| ?_
    refine a_icmp_ge iX5_readSeasons_5 (fun hc1 => ?_) (fun hc1 => ?_)
    · have h := ot hc1 h
      exact a_sub (L' := [some (rf g 3), some (.int v1)]) (by exact ⟨rfl, ⟨rfl, trivial⟩⟩) (hK _ _ h)
    · have h := oe hc1 h
      refine a_aload iX5_readSeasons_8 rfl <| a_getr iX5_readSeasons_9 (lt_s3 hV) rfl (lt_r3_1 hV) <| a_aload iX5_readSeasons_12 rfl <| a_const iX5_readSeasons_13 <| a_const iX5_readSeasons_14 <| ?_
      obtain ⟨⟨r2, mi3⟩, he4, h⟩ := ob h
      refine a_cVi iX5_readSeasons_16 okX5_readNumber inX5_readNumber ⟨rfl, rfl⟩ (lt_s3 hV) (c_X5_readNumber hV he4) rfl rfl (Nat.le_of_ble_eq_true rfl) ⟨Nat.le_refl 0, Nat.le_refl 0⟩ <| ?_
      obtain ⟨mi6, he7, h⟩ := ob h
      refine a_cVv iX5_readSeasons_19 okX1_addSeason inX1_addSeason ⟨rfl, rfl⟩ (lt_dr hV).1 (c_X1_addSeason (lt_dr hV) he7) rfl rfl (Nat.le_of_ble_eq_true rfl) ⟨Nat.le_refl 0, Nat.le_refl 0⟩ <| a_aload iX5_readSeasons_22 rfl <| ?_
      obtain ⟨mi8, he9, h⟩ := ob h
      refine a_cVv iX5_readSeasons_23 okX5_skipBlanks inX5_skipBlanks ⟨rfl, rfl⟩ (lt_s3 hV) (c_X5_skipBlanks hV he9) rfl rfl (Nat.le_of_ble_eq_true rfl) ⟨Nat.le_refl 0, Nat.le_refl 0⟩ <| a_aload iX5_readSeasons_26 rfl <| a_geti iX5_readSeasons_27 (lt_s3 hV) rfl <| ?_
      refine a_if_ne iX5_readSeasons_30 (fun hc10 => ?_) (fun hc10 => ?_)
      · have h := oe hc10 h
        obtain rfl := Option.some.inj h
        exact a_vret iX5_readSeasons_55 rfl ⟨Nat.le_refl 0, Nat.le_refl 0⟩ ⟨rfl, rfl, rfl, rfl⟩
      · have h := ot hc10 h
        refine a_iload iX5_readSeasons_33 rfl <| a_const iX5_readSeasons_34 <| ?_
        refine a_icmp_eq iX5_readSeasons_36 (fun hc11 => ?_) (fun hc11 => ?_)
        · have h := ot hc11 h
          obtain rfl := Option.some.inj h
          exact a_vret iX5_readSeasons_55 rfl ⟨Nat.le_refl 0, Nat.le_refl 0⟩ ⟨rfl, rfl, rfl, rfl⟩
        · have h := oe hc11 h
          refine a_aload iX5_readSeasons_39 rfl <| a_getr iX5_readSeasons_40 (lt_s3 hV) rfl (lt_r3_0 hV) <| a_aload iX5_readSeasons_43 rfl <| a_geti iX5_readSeasons_44 (lt_s3 hV) rfl <| ?_
          obtain ⟨r12, he13, h⟩ := ob h
          refine a_cVi iX5_readSeasons_47 okX6_letterAt inX6_letterAt ⟨rfl, rfl⟩ (lt_s1 hV) (c_X6_letterAt hV he13) rfl rfl (Nat.le_of_ble_eq_true rfl) ⟨Nat.le_refl 0, Nat.le_refl 0⟩ <| a_const iX5_readSeasons_50 <| ?_
          refine a_icmp_eq iX5_readSeasons_52 (fun hc14 => ?_) (fun hc14 => ?_)
          · have h := ot hc14 h
            refine a_aload iX5_readSeasons_56 rfl <| a_dup iX5_readSeasons_57 rfl <| a_geti iX5_readSeasons_58 (lt_s3 hV) rfl <| a_const iX5_readSeasons_61 <| a_iadd iX5_readSeasons_62 <| a_puti iX5_readSeasons_63 (lt_s3 hV) rfl rfl rfl <| a_iinc iX5_readSeasons_66 rfl (by decide) rfl <| a_goto iX5_readSeasons_69 <| ?_
            exact a_sub (L' := [some (rf g 3), some (.int (v1 + 1))]) (by exact ⟨rfl, ⟨rfl, trivial⟩⟩) (ih _ _ h)
          · have h := oe hc14 h
            obtain rfl := Option.some.inj h
            exact a_vret iX5_readSeasons_55 rfl ⟨Nat.le_refl 0, Nat.le_refl 0⟩ ⟨rfl, rfl, rfl, rfl⟩
set_option maxRecDepth 20000 in
set_option maxHeartbeats 4000000 in
theorem c_X5_readSeasons {g : Gm} {V : Vw} {mi : Mi} {ml : Ml} {dr ld : Nat} (hV : LayT V ld dr) {r : Mi} (h : f_X5_readSeasons mi dr = some r) : DoV g YX5_readSeasons V [rf g 3] mi ml r ml := by
  unfold f_X5_readSeasons at h
  refine does_of (L := [some (rf g 3), none]) okX5_readSeasons rfl (Nat.le_of_ble_eq_true rfl) rfl ?_
  show At g YX5_readSeasons _ (qm g YX5_readSeasons (pV V r ml)) V (0, 0) 0 _ [] mi ml
  refine a_const iX5_readSeasons_0 <| a_istore iX5_readSeasons_1 (by decide) rfl <| ?_
  refine a_sub (L' := [some (rf g 3), some (.int 0)]) (by exact ⟨rfl, ⟨rfl, trivial⟩⟩) (w_X5_readSeasons_2 hV (fun v1_15 mi15 h => ?_) FU _ _ h)
  obtain rfl := Option.some.inj h
  exact a_vret iX5_readSeasons_72 rfl ⟨Nat.le_refl 0, Nat.le_refl 0⟩ ⟨rfl, rfl, rfl, rfl⟩
def f_X5_readThing (mi : Mi) (dr : Nat) : Option (Mi) := (f_X5_readNumber mi 0 3).bind (fun q4 => (f_X5_readNumber q4.2 0 9).bind (fun q8 => (f_X1_addThing q8.2 dr q4.1 q8.1).bind (fun mi9 => some mi9)))
set_option maxRecDepth 20000 in
set_option maxHeartbeats 4000000 in
theorem c_X5_readThing {g : Gm} {V : Vw} {mi : Mi} {ml : Ml} {dr ld : Nat} (hV : LayT V ld dr) {r : Mi} (h : f_X5_readThing mi dr = some r) : DoV g YX5_readThing V [rf g 3] mi ml r ml := by
  unfold f_X5_readThing at h
  refine does_of (L := [some (rf g 3), none, none]) okX5_readThing rfl (Nat.le_of_ble_eq_true rfl) rfl ?_
  show At g YX5_readThing _ (qm g YX5_readThing (pV V r ml)) V (0, 0) 0 _ [] mi ml
  refine a_aload iX5_readThing_0 rfl <| a_const iX5_readThing_1 <| a_const iX5_readThing_2 <| ?_
  obtain ⟨⟨r1, mi2⟩, he3, h⟩ := ob h
  refine a_cVi iX5_readThing_3 okX5_readNumber inX5_readNumber ⟨rfl, rfl⟩ (lt_s3 hV) (c_X5_readNumber hV he3) rfl rfl (Nat.le_of_ble_eq_true rfl) ⟨Nat.le_refl 0, Nat.le_refl 0⟩ <| a_istore iX5_readThing_6 (by decide) rfl <| a_aload iX5_readThing_7 rfl <| a_const iX5_readThing_8 <| a_const iX5_readThing_9 <| ?_
  obtain ⟨⟨r5, mi6⟩, he7, h⟩ := ob h
  refine a_cVi iX5_readThing_11 okX5_readNumber inX5_readNumber ⟨rfl, rfl⟩ (lt_s3 hV) (c_X5_readNumber hV he7) rfl rfl (Nat.le_of_ble_eq_true rfl) ⟨Nat.le_refl 0, Nat.le_refl 0⟩ <| a_istore iX5_readThing_14 (by decide) rfl <| a_aload iX5_readThing_15 rfl <| a_getr iX5_readThing_16 (lt_s3 hV) rfl (lt_r3_1 hV) <| a_iload iX5_readThing_19 rfl <| a_iload iX5_readThing_20 rfl <| ?_
  obtain ⟨mi9, he10, h⟩ := ob h
  refine a_cVv iX5_readThing_21 okX1_addThing inX1_addThing ⟨rfl, rfl⟩ (lt_dr hV).1 (c_X1_addThing (lt_dr hV) he10) rfl rfl (Nat.le_of_ble_eq_true rfl) ⟨Nat.le_refl 0, Nat.le_refl 0⟩ <| ?_
  obtain rfl := Option.some.inj h
  exact a_vret iX5_readThing_24 rfl ⟨Nat.le_refl 0, Nat.le_refl 0⟩ ⟨rfl, rfl, rfl, rfl⟩
def f_X5_readLand (mi : Mi) (dr : Nat) : Option (Mi) := (f_X5_readNumber mi 1 9).bind (fun q4 => (f_X1_addLand q4.2 dr q4.1).bind (fun mi5 => some mi5))
set_option maxRecDepth 20000 in
set_option maxHeartbeats 4000000 in
theorem c_X5_readLand {g : Gm} {V : Vw} {mi : Mi} {ml : Ml} {dr ld : Nat} (hV : LayT V ld dr) {r : Mi} (h : f_X5_readLand mi dr = some r) : DoV g YX5_readLand V [rf g 3] mi ml r ml := by
  unfold f_X5_readLand at h
  refine does_of (L := [some (rf g 3)]) okX5_readLand rfl (Nat.le_of_ble_eq_true rfl) rfl ?_
  show At g YX5_readLand _ (qm g YX5_readLand (pV V r ml)) V (0, 0) 0 _ [] mi ml
  refine a_aload iX5_readLand_0 rfl <| a_getr iX5_readLand_1 (lt_s3 hV) rfl (lt_r3_1 hV) <| a_aload iX5_readLand_4 rfl <| a_const iX5_readLand_5 <| a_const iX5_readLand_6 <| ?_
  obtain ⟨⟨r1, mi2⟩, he3, h⟩ := ob h
  refine a_cVi iX5_readLand_8 okX5_readNumber inX5_readNumber ⟨rfl, rfl⟩ (lt_s3 hV) (c_X5_readNumber hV he3) rfl rfl (Nat.le_of_ble_eq_true rfl) ⟨Nat.le_refl 0, Nat.le_refl 0⟩ <| ?_
  obtain ⟨mi5, he6, h⟩ := ob h
  refine a_cVv iX5_readLand_11 okX1_addLand inX1_addLand ⟨rfl, rfl⟩ (lt_dr hV).1 (c_X1_addLand (lt_dr hV) he6) rfl rfl (Nat.le_of_ble_eq_true rfl) ⟨Nat.le_refl 0, Nat.le_refl 0⟩ <| ?_
  obtain rfl := Option.some.inj h
  exact a_vret iX5_readLand_14 rfl ⟨Nat.le_refl 0, Nat.le_refl 0⟩ ⟨rfl, rfl, rfl, rfl⟩
def f_X5_readWant (mi : Mi) (dr : Nat) : Option (Mi) := (f_X5_readNumber mi 0 2).bind (fun q4 => (f_X5_readNumber q4.2 0 ((q4.2 dr 5) - 1)).bind (fun q8 => (f_X5_readNumber q8.2 0 9).bind (fun q12 => (f_X1_addWant q12.2 dr q4.1 q8.1 q12.1).bind (fun mi13 => some mi13))))
set_option maxRecDepth 20000 in
set_option maxHeartbeats 4000000 in
theorem c_X5_readWant {g : Gm} {V : Vw} {mi : Mi} {ml : Ml} {dr ld : Nat} (hV : LayT V ld dr) {r : Mi} (h : f_X5_readWant mi dr = some r) : DoV g YX5_readWant V [rf g 3] mi ml r ml := by
  unfold f_X5_readWant at h
  refine does_of (L := [some (rf g 3), none, none, none]) okX5_readWant rfl (Nat.le_of_ble_eq_true rfl) rfl ?_
  show At g YX5_readWant _ (qm g YX5_readWant (pV V r ml)) V (0, 0) 0 _ [] mi ml
  refine a_aload iX5_readWant_0 rfl <| a_const iX5_readWant_1 <| a_const iX5_readWant_2 <| ?_
  obtain ⟨⟨r1, mi2⟩, he3, h⟩ := ob h
  refine a_cVi iX5_readWant_3 okX5_readNumber inX5_readNumber ⟨rfl, rfl⟩ (lt_s3 hV) (c_X5_readNumber hV he3) rfl rfl (Nat.le_of_ble_eq_true rfl) ⟨Nat.le_refl 0, Nat.le_refl 0⟩ <| a_istore iX5_readWant_6 (by decide) rfl <| a_aload iX5_readWant_7 rfl <| a_const iX5_readWant_8 <| a_aload iX5_readWant_9 rfl <| a_getr iX5_readWant_10 (lt_s3 hV) rfl (lt_r3_1 hV) <| a_geti iX5_readWant_13 (lt_dr hV).1 rfl <| a_const iX5_readWant_16 <| ?_
  refine a_isub iX5_readWant_17 <| ?_
  obtain ⟨⟨r5, mi6⟩, he7, h⟩ := ob h
  refine a_cVi iX5_readWant_18 okX5_readNumber inX5_readNumber ⟨rfl, rfl⟩ (lt_s3 hV) (c_X5_readNumber hV he7) rfl rfl (Nat.le_of_ble_eq_true rfl) ⟨Nat.le_refl 0, Nat.le_refl 0⟩ <| a_istore iX5_readWant_21 (by decide) rfl <| a_aload iX5_readWant_22 rfl <| a_const iX5_readWant_23 <| a_const iX5_readWant_24 <| ?_
  obtain ⟨⟨r9, mi10⟩, he11, h⟩ := ob h
  refine a_cVi iX5_readWant_26 okX5_readNumber inX5_readNumber ⟨rfl, rfl⟩ (lt_s3 hV) (c_X5_readNumber hV he11) rfl rfl (Nat.le_of_ble_eq_true rfl) ⟨Nat.le_refl 0, Nat.le_refl 0⟩ <| a_istore iX5_readWant_29 (by decide) rfl <| a_aload iX5_readWant_30 rfl <| a_getr iX5_readWant_31 (lt_s3 hV) rfl (lt_r3_1 hV) <| a_iload iX5_readWant_34 rfl <| a_iload iX5_readWant_35 rfl <| a_iload iX5_readWant_36 rfl <| ?_
  obtain ⟨mi13, he14, h⟩ := ob h
  refine a_cVv iX5_readWant_37 okX1_addWant inX1_addWant ⟨rfl, rfl⟩ (lt_dr hV).1 (c_X1_addWant (lt_dr hV) he14) rfl rfl (Nat.le_of_ble_eq_true rfl) ⟨Nat.le_refl 0, Nat.le_refl 0⟩ <| ?_
  obtain rfl := Option.some.inj h
  exact a_vret iX5_readWant_40 rfl ⟨Nat.le_refl 0, Nat.le_refl 0⟩ ⟨rfl, rfl, rfl, rfl⟩
def f_X5_readEnd (mi : Mi) : Option (Mi) := (f_X5_skipBlanks mi).bind (fun mi1 => (f_X6_letterAt mi1 (mi1 3 2)).bind (fun r3 => if r3 = 59 then (some (u2 mi1 3 2 ((mi1 3 2) + 1))) else ((f_X5_accuse mi1 1 (mi1 3 2)).bind (fun mi6 => some mi6))))
set_option maxRecDepth 20000 in
set_option maxHeartbeats 4000000 in
theorem c_X5_readEnd {g : Gm} {V : Vw} {mi : Mi} {ml : Ml} {ld dr : Nat} (hV : LayT V ld dr) {r : Mi} (h : f_X5_readEnd mi = some r) : DoV g YX5_readEnd V [rf g 3] mi ml r ml := by
  unfold f_X5_readEnd at h
  refine does_of (L := [some (rf g 3)]) okX5_readEnd rfl (Nat.le_of_ble_eq_true rfl) rfl ?_
  show At g YX5_readEnd _ (qm g YX5_readEnd (pV V r ml)) V (0, 0) 0 _ [] mi ml
  refine a_aload iX5_readEnd_0 rfl <| ?_
  obtain ⟨mi1, he2, h⟩ := ob h
  refine a_cVv iX5_readEnd_1 okX5_skipBlanks inX5_skipBlanks ⟨rfl, rfl⟩ (lt_s3 hV) (c_X5_skipBlanks hV he2) rfl rfl (Nat.le_of_ble_eq_true rfl) ⟨Nat.le_refl 0, Nat.le_refl 0⟩ <| a_aload iX5_readEnd_4 rfl <| a_getr iX5_readEnd_5 (lt_s3 hV) rfl (lt_r3_0 hV) <| a_aload iX5_readEnd_8 rfl <| a_geti iX5_readEnd_9 (lt_s3 hV) rfl <| ?_
  obtain ⟨r3, he4, h⟩ := ob h
  refine a_cVi iX5_readEnd_12 okX6_letterAt inX6_letterAt ⟨rfl, rfl⟩ (lt_s1 hV) (c_X6_letterAt hV he4) rfl rfl (Nat.le_of_ble_eq_true rfl) ⟨Nat.le_refl 0, Nat.le_refl 0⟩ <| a_const iX5_readEnd_15 <| ?_
  refine a_icmp_ne iX5_readEnd_17 (fun hc5 => ?_) (fun hc5 => ?_)
  · have h := oe hc5 h
    refine a_aload iX5_readEnd_33 rfl <| a_const iX5_readEnd_34 <| a_aload iX5_readEnd_35 rfl <| a_geti iX5_readEnd_36 (lt_s3 hV) rfl <| ?_
    obtain ⟨mi6, he7, h⟩ := ob h
    refine a_cVv iX5_readEnd_39 okX5_accuse inX5_accuse ⟨rfl, rfl⟩ (lt_s3 hV) (c_X5_accuse hV he7) rfl rfl (Nat.le_of_ble_eq_true rfl) ⟨Nat.le_refl 0, Nat.le_refl 0⟩ <| ?_
    obtain rfl := Option.some.inj h
    exact a_vret iX5_readEnd_42 rfl ⟨Nat.le_refl 0, Nat.le_refl 0⟩ ⟨rfl, rfl, rfl, rfl⟩
  · have h := ot hc5 h
    refine a_aload iX5_readEnd_20 rfl <| a_dup iX5_readEnd_21 rfl <| a_geti iX5_readEnd_22 (lt_s3 hV) rfl <| a_const iX5_readEnd_25 <| a_iadd iX5_readEnd_26 <| a_puti iX5_readEnd_27 (lt_s3 hV) rfl rfl rfl <| a_goto iX5_readEnd_30 <| ?_
    obtain rfl := Option.some.inj h
    exact a_vret iX5_readEnd_42 rfl ⟨Nat.le_refl 0, Nat.le_refl 0⟩ ⟨rfl, rfl, rfl, rfl⟩
def f_X5_readClause (mi : Mi) (dr : Nat) : Option (Mi) := (f_X6_letterAt mi (mi 3 2)).bind (fun r1 => (f_X5_isWord r1).bind (fun r3 => if r3 = 0 then ((f_X5_accuse mi 1 (mi 3 2)).bind (fun mi6 => some mi6)) else (if (mi dr 0) = 0 then (if r1 = 99 then ((f_X1_hasRoomFor mi dr r1).bind (fun r39 => if r39 = 0 then ((f_X5_accuse mi 3 (mi 3 2)).bind (fun mi66 => some mi66)) else (if r1 = 99 then ((f_X5_readDay (u2 mi 3 2 ((mi 3 2) + 1)) dr).bind (fun mi43 => (f_X5_readEnd mi43).bind (fun mi45 => some mi45))) else (if r1 = 108 then ((f_X5_readLand (u2 mi 3 2 ((mi 3 2) + 1)) dr).bind (fun mi48 => (f_X5_readEnd mi48).bind (fun mi50 => some mi50))) else (if r1 = 115 then ((f_X5_readSeasons (u2 mi 3 2 ((mi 3 2) + 1)) dr).bind (fun mi53 => (f_X5_readEnd mi53).bind (fun mi55 => some mi55))) else (if r1 = 116 then ((f_X5_readThing (u2 mi 3 2 ((mi 3 2) + 1)) dr).bind (fun mi58 => (f_X5_readEnd mi58).bind (fun mi60 => some mi60))) else ((f_X5_readWant (u2 mi 3 2 ((mi 3 2) + 1)) dr).bind (fun mi62 => (f_X5_readEnd mi62).bind (fun mi64 => some mi64))))))))) else ((f_X5_accuse mi 1 (mi 3 2)).bind (fun mi68 => some mi68))) else ((f_X1_hasRoomFor mi dr r1).bind (fun r9 => if r9 = 0 then ((f_X5_accuse mi 3 (mi 3 2)).bind (fun mi36 => some mi36)) else (if r1 = 99 then ((f_X5_readDay (u2 mi 3 2 ((mi 3 2) + 1)) dr).bind (fun mi13 => (f_X5_readEnd mi13).bind (fun mi15 => some mi15))) else (if r1 = 108 then ((f_X5_readLand (u2 mi 3 2 ((mi 3 2) + 1)) dr).bind (fun mi18 => (f_X5_readEnd mi18).bind (fun mi20 => some mi20))) else (if r1 = 115 then ((f_X5_readSeasons (u2 mi 3 2 ((mi 3 2) + 1)) dr).bind (fun mi23 => (f_X5_readEnd mi23).bind (fun mi25 => some mi25))) else (if r1 = 116 then ((f_X5_readThing (u2 mi 3 2 ((mi 3 2) + 1)) dr).bind (fun mi28 => (f_X5_readEnd mi28).bind (fun mi30 => some mi30))) else ((f_X5_readWant (u2 mi 3 2 ((mi 3 2) + 1)) dr).bind (fun mi32 => (f_X5_readEnd mi32).bind (fun mi34 => some mi34))))))))))))
set_option maxRecDepth 20000 in
set_option maxHeartbeats 4000000 in
theorem c_X5_readClause {g : Gm} {V : Vw} {mi : Mi} {ml : Ml} {dr ld : Nat} (hV : LayT V ld dr) {r : Mi} (h : f_X5_readClause mi dr = some r) : DoV g YX5_readClause V [rf g 3] mi ml r ml := by
  unfold f_X5_readClause at h
  refine does_of (L := [some (rf g 3), none]) okX5_readClause rfl (Nat.le_of_ble_eq_true rfl) rfl ?_
  show At g YX5_readClause _ (qm g YX5_readClause (pV V r ml)) V (0, 0) 0 _ [] mi ml
  refine a_aload iX5_readClause_0 rfl <| a_getr iX5_readClause_1 (lt_s3 hV) rfl (lt_r3_0 hV) <| a_aload iX5_readClause_4 rfl <| a_geti iX5_readClause_5 (lt_s3 hV) rfl <| ?_
  obtain ⟨r1, he2, h⟩ := ob h
  refine a_cVi iX5_readClause_8 okX6_letterAt inX6_letterAt ⟨rfl, rfl⟩ (lt_s1 hV) (c_X6_letterAt hV he2) rfl rfl (Nat.le_of_ble_eq_true rfl) ⟨Nat.le_refl 0, Nat.le_refl 0⟩ <| a_istore iX5_readClause_11 (by decide) rfl <| a_iload iX5_readClause_12 rfl <| ?_
  obtain ⟨r3, he4, h⟩ := ob h
  refine a_cSi iX5_readClause_13 okX5_isWord stX5_isWord ⟨rfl, rfl⟩ (c_X5_isWord he4) rfl rfl (Nat.le_of_ble_eq_true rfl) ⟨Nat.le_refl 0, Nat.le_refl 0⟩ <| ?_
  refine a_if_eq iX5_readClause_16 (fun hc5 => ?_) (fun hc5 => ?_)
  · have h := ot hc5 h
    refine a_aload iX5_readClause_35 rfl <| a_const iX5_readClause_36 <| a_aload iX5_readClause_37 rfl <| a_geti iX5_readClause_38 (lt_s3 hV) rfl <| ?_
    obtain ⟨mi6, he7, h⟩ := ob h
    refine a_cVv iX5_readClause_41 okX5_accuse inX5_accuse ⟨rfl, rfl⟩ (lt_s3 hV) (c_X5_accuse hV he7) rfl rfl (Nat.le_of_ble_eq_true rfl) ⟨Nat.le_refl 0, Nat.le_refl 0⟩ <| ?_
    obtain rfl := Option.some.inj h
    exact a_vret iX5_readClause_44 rfl ⟨Nat.le_refl 0, Nat.le_refl 0⟩ ⟨rfl, rfl, rfl, rfl⟩
  · have h := oe hc5 h
    refine a_aload iX5_readClause_19 rfl <| a_getr iX5_readClause_20 (lt_s3 hV) rfl (lt_r3_1 hV) <| a_geti iX5_readClause_23 (lt_dr hV).1 rfl <| ?_
    refine a_if_ne iX5_readClause_26 (fun hc8 => ?_) (fun hc8 => ?_)
    · have h := oe hc8 h
      refine a_aload iX5_readClause_45 rfl <| a_getr iX5_readClause_46 (lt_s3 hV) rfl (lt_r3_1 hV) <| a_iload iX5_readClause_49 rfl <| ?_
      obtain ⟨r9, he10, h⟩ := ob h
      refine a_cVi iX5_readClause_50 okX1_hasRoomFor inX1_hasRoomFor ⟨rfl, rfl⟩ (lt_dr hV).1 (c_X1_hasRoomFor (lt_dr hV) he10) rfl rfl (Nat.le_of_ble_eq_true rfl) ⟨Nat.le_refl 0, Nat.le_refl 0⟩ <| ?_
      refine a_if_ne iX5_readClause_53 (fun hc11 => ?_) (fun hc11 => ?_)
      · have h := oe hc11 h
        refine a_aload iX5_readClause_66 rfl <| a_dup iX5_readClause_67 rfl <| a_geti iX5_readClause_68 (lt_s3 hV) rfl <| a_const iX5_readClause_71 <| a_iadd iX5_readClause_72 <| a_puti iX5_readClause_73 (lt_s3 hV) rfl rfl rfl <| a_iload iX5_readClause_76 rfl <| ?_
        by_cases hc12 : r1 = 99
        · have h := ot hc12 h
          refine a_lwv (tgt := 120) iX5_readClause_77 hc12 (by decide) ?_
          refine a_aload iX5_readClause_120 rfl <| ?_
          obtain ⟨mi13, he14, h⟩ := ob h
          refine a_cVv iX5_readClause_121 okX5_readDay inX5_readDay ⟨rfl, rfl⟩ (lt_s3 hV) (c_X5_readDay hV he14) rfl rfl (Nat.le_of_ble_eq_true rfl) ⟨Nat.le_refl 0, Nat.le_refl 0⟩ <| a_goto iX5_readClause_124 <| a_aload iX5_readClause_152 rfl <| ?_
          obtain ⟨mi15, he16, h⟩ := ob h
          refine a_cVv iX5_readClause_153 okX5_readEnd inX5_readEnd ⟨rfl, rfl⟩ (lt_s3 hV) (c_X5_readEnd hV he16) rfl rfl (Nat.le_of_ble_eq_true rfl) ⟨Nat.le_refl 0, Nat.le_refl 0⟩ <| ?_
          obtain rfl := Option.some.inj h
          exact a_vret iX5_readClause_156 rfl ⟨Nat.le_refl 0, Nat.le_refl 0⟩ ⟨rfl, rfl, rfl, rfl⟩
        · have h := oe hc12 h
          by_cases hc17 : r1 = 108
          · have h := ot hc17 h
            refine a_lwv (tgt := 141) iX5_readClause_77 hc17 (by decide) ?_
            refine a_aload iX5_readClause_141 rfl <| ?_
            obtain ⟨mi18, he19, h⟩ := ob h
            refine a_cVv iX5_readClause_142 okX5_readLand inX5_readLand ⟨rfl, rfl⟩ (lt_s3 hV) (c_X5_readLand hV he19) rfl rfl (Nat.le_of_ble_eq_true rfl) ⟨Nat.le_refl 0, Nat.le_refl 0⟩ <| a_goto iX5_readClause_145 <| a_aload iX5_readClause_152 rfl <| ?_
            obtain ⟨mi20, he21, h⟩ := ob h
            refine a_cVv iX5_readClause_153 okX5_readEnd inX5_readEnd ⟨rfl, rfl⟩ (lt_s3 hV) (c_X5_readEnd hV he21) rfl rfl (Nat.le_of_ble_eq_true rfl) ⟨Nat.le_refl 0, Nat.le_refl 0⟩ <| ?_
            obtain rfl := Option.some.inj h
            exact a_vret iX5_readClause_156 rfl ⟨Nat.le_refl 0, Nat.le_refl 0⟩ ⟨rfl, rfl, rfl, rfl⟩
          · have h := oe hc17 h
            by_cases hc22 : r1 = 115
            · have h := ot hc22 h
              refine a_lwv (tgt := 127) iX5_readClause_77 hc22 (by decide) ?_
              refine a_aload iX5_readClause_127 rfl <| ?_
              obtain ⟨mi23, he24, h⟩ := ob h
              refine a_cVv iX5_readClause_128 okX5_readSeasons inX5_readSeasons ⟨rfl, rfl⟩ (lt_s3 hV) (c_X5_readSeasons hV he24) rfl rfl (Nat.le_of_ble_eq_true rfl) ⟨Nat.le_refl 0, Nat.le_refl 0⟩ <| a_goto iX5_readClause_131 <| a_aload iX5_readClause_152 rfl <| ?_
              obtain ⟨mi25, he26, h⟩ := ob h
              refine a_cVv iX5_readClause_153 okX5_readEnd inX5_readEnd ⟨rfl, rfl⟩ (lt_s3 hV) (c_X5_readEnd hV he26) rfl rfl (Nat.le_of_ble_eq_true rfl) ⟨Nat.le_refl 0, Nat.le_refl 0⟩ <| ?_
              obtain rfl := Option.some.inj h
              exact a_vret iX5_readClause_156 rfl ⟨Nat.le_refl 0, Nat.le_refl 0⟩ ⟨rfl, rfl, rfl, rfl⟩
            · have h := oe hc22 h
              by_cases hc27 : r1 = 116
              · have h := ot hc27 h
                refine a_lwv (tgt := 134) iX5_readClause_77 hc27 (by decide) ?_
                refine a_aload iX5_readClause_134 rfl <| ?_
                obtain ⟨mi28, he29, h⟩ := ob h
                refine a_cVv iX5_readClause_135 okX5_readThing inX5_readThing ⟨rfl, rfl⟩ (lt_s3 hV) (c_X5_readThing hV he29) rfl rfl (Nat.le_of_ble_eq_true rfl) ⟨Nat.le_refl 0, Nat.le_refl 0⟩ <| a_goto iX5_readClause_138 <| a_aload iX5_readClause_152 rfl <| ?_
                obtain ⟨mi30, he31, h⟩ := ob h
                refine a_cVv iX5_readClause_153 okX5_readEnd inX5_readEnd ⟨rfl, rfl⟩ (lt_s3 hV) (c_X5_readEnd hV he31) rfl rfl (Nat.le_of_ble_eq_true rfl) ⟨Nat.le_refl 0, Nat.le_refl 0⟩ <| ?_
                obtain rfl := Option.some.inj h
                exact a_vret iX5_readClause_156 rfl ⟨Nat.le_refl 0, Nat.le_refl 0⟩ ⟨rfl, rfl, rfl, rfl⟩
              · have h := oe hc27 h
                refine a_lwd iX5_readClause_77 (lw_all ⟨lw_ne (k := 99) hc12 (by decide), lw_ne (k := 108) hc17 (by decide), lw_ne (k := 115) hc22 (by decide), lw_ne (k := 116) hc27 (by decide), trivial⟩) ?_
                refine a_aload iX5_readClause_148 rfl <| ?_
                obtain ⟨mi32, he33, h⟩ := ob h
                refine a_cVv iX5_readClause_149 okX5_readWant inX5_readWant ⟨rfl, rfl⟩ (lt_s3 hV) (c_X5_readWant hV he33) rfl rfl (Nat.le_of_ble_eq_true rfl) ⟨Nat.le_refl 0, Nat.le_refl 0⟩ <| a_aload iX5_readClause_152 rfl <| ?_
                obtain ⟨mi34, he35, h⟩ := ob h
                refine a_cVv iX5_readClause_153 okX5_readEnd inX5_readEnd ⟨rfl, rfl⟩ (lt_s3 hV) (c_X5_readEnd hV he35) rfl rfl (Nat.le_of_ble_eq_true rfl) ⟨Nat.le_refl 0, Nat.le_refl 0⟩ <| ?_
                obtain rfl := Option.some.inj h
                exact a_vret iX5_readClause_156 rfl ⟨Nat.le_refl 0, Nat.le_refl 0⟩ ⟨rfl, rfl, rfl, rfl⟩
      · have h := ot hc11 h
        refine a_aload iX5_readClause_56 rfl <| a_const iX5_readClause_57 <| a_aload iX5_readClause_58 rfl <| a_geti iX5_readClause_59 (lt_s3 hV) rfl <| ?_
        obtain ⟨mi36, he37, h⟩ := ob h
        refine a_cVv iX5_readClause_62 okX5_accuse inX5_accuse ⟨rfl, rfl⟩ (lt_s3 hV) (c_X5_accuse hV he37) rfl rfl (Nat.le_of_ble_eq_true rfl) ⟨Nat.le_refl 0, Nat.le_refl 0⟩ <| ?_
        obtain rfl := Option.some.inj h
        exact a_vret iX5_readClause_65 rfl ⟨Nat.le_refl 0, Nat.le_refl 0⟩ ⟨rfl, rfl, rfl, rfl⟩
    · have h := ot hc8 h
      refine a_iload iX5_readClause_29 rfl <| a_const iX5_readClause_30 <| ?_
      refine a_icmp_eq iX5_readClause_32 (fun hc38 => ?_) (fun hc38 => ?_)
      · have h := ot hc38 h
        refine a_aload iX5_readClause_45 rfl <| a_getr iX5_readClause_46 (lt_s3 hV) rfl (lt_r3_1 hV) <| a_iload iX5_readClause_49 rfl <| ?_
        obtain ⟨r39, he40, h⟩ := ob h
        refine a_cVi iX5_readClause_50 okX1_hasRoomFor inX1_hasRoomFor ⟨rfl, rfl⟩ (lt_dr hV).1 (c_X1_hasRoomFor (lt_dr hV) he40) rfl rfl (Nat.le_of_ble_eq_true rfl) ⟨Nat.le_refl 0, Nat.le_refl 0⟩ <| ?_
        refine a_if_ne iX5_readClause_53 (fun hc41 => ?_) (fun hc41 => ?_)
        · have h := oe hc41 h
          refine a_aload iX5_readClause_66 rfl <| a_dup iX5_readClause_67 rfl <| a_geti iX5_readClause_68 (lt_s3 hV) rfl <| a_const iX5_readClause_71 <| a_iadd iX5_readClause_72 <| a_puti iX5_readClause_73 (lt_s3 hV) rfl rfl rfl <| a_iload iX5_readClause_76 rfl <| ?_
          by_cases hc42 : r1 = 99
          · have h := ot hc42 h
            refine a_lwv (tgt := 120) iX5_readClause_77 hc42 (by decide) ?_
            refine a_aload iX5_readClause_120 rfl <| ?_
            obtain ⟨mi43, he44, h⟩ := ob h
            refine a_cVv iX5_readClause_121 okX5_readDay inX5_readDay ⟨rfl, rfl⟩ (lt_s3 hV) (c_X5_readDay hV he44) rfl rfl (Nat.le_of_ble_eq_true rfl) ⟨Nat.le_refl 0, Nat.le_refl 0⟩ <| a_goto iX5_readClause_124 <| a_aload iX5_readClause_152 rfl <| ?_
            obtain ⟨mi45, he46, h⟩ := ob h
            refine a_cVv iX5_readClause_153 okX5_readEnd inX5_readEnd ⟨rfl, rfl⟩ (lt_s3 hV) (c_X5_readEnd hV he46) rfl rfl (Nat.le_of_ble_eq_true rfl) ⟨Nat.le_refl 0, Nat.le_refl 0⟩ <| ?_
            obtain rfl := Option.some.inj h
            exact a_vret iX5_readClause_156 rfl ⟨Nat.le_refl 0, Nat.le_refl 0⟩ ⟨rfl, rfl, rfl, rfl⟩
          · have h := oe hc42 h
            by_cases hc47 : r1 = 108
            · have h := ot hc47 h
              refine a_lwv (tgt := 141) iX5_readClause_77 hc47 (by decide) ?_
              refine a_aload iX5_readClause_141 rfl <| ?_
              obtain ⟨mi48, he49, h⟩ := ob h
              refine a_cVv iX5_readClause_142 okX5_readLand inX5_readLand ⟨rfl, rfl⟩ (lt_s3 hV) (c_X5_readLand hV he49) rfl rfl (Nat.le_of_ble_eq_true rfl) ⟨Nat.le_refl 0, Nat.le_refl 0⟩ <| a_goto iX5_readClause_145 <| a_aload iX5_readClause_152 rfl <| ?_
              obtain ⟨mi50, he51, h⟩ := ob h
              refine a_cVv iX5_readClause_153 okX5_readEnd inX5_readEnd ⟨rfl, rfl⟩ (lt_s3 hV) (c_X5_readEnd hV he51) rfl rfl (Nat.le_of_ble_eq_true rfl) ⟨Nat.le_refl 0, Nat.le_refl 0⟩ <| ?_
              obtain rfl := Option.some.inj h
              exact a_vret iX5_readClause_156 rfl ⟨Nat.le_refl 0, Nat.le_refl 0⟩ ⟨rfl, rfl, rfl, rfl⟩
            · have h := oe hc47 h
              by_cases hc52 : r1 = 115
              · have h := ot hc52 h
                refine a_lwv (tgt := 127) iX5_readClause_77 hc52 (by decide) ?_
                refine a_aload iX5_readClause_127 rfl <| ?_
                obtain ⟨mi53, he54, h⟩ := ob h
                refine a_cVv iX5_readClause_128 okX5_readSeasons inX5_readSeasons ⟨rfl, rfl⟩ (lt_s3 hV) (c_X5_readSeasons hV he54) rfl rfl (Nat.le_of_ble_eq_true rfl) ⟨Nat.le_refl 0, Nat.le_refl 0⟩ <| a_goto iX5_readClause_131 <| a_aload iX5_readClause_152 rfl <| ?_
                obtain ⟨mi55, he56, h⟩ := ob h
                refine a_cVv iX5_readClause_153 okX5_readEnd inX5_readEnd ⟨rfl, rfl⟩ (lt_s3 hV) (c_X5_readEnd hV he56) rfl rfl (Nat.le_of_ble_eq_true rfl) ⟨Nat.le_refl 0, Nat.le_refl 0⟩ <| ?_
                obtain rfl := Option.some.inj h
                exact a_vret iX5_readClause_156 rfl ⟨Nat.le_refl 0, Nat.le_refl 0⟩ ⟨rfl, rfl, rfl, rfl⟩
              · have h := oe hc52 h
                by_cases hc57 : r1 = 116
                · have h := ot hc57 h
                  refine a_lwv (tgt := 134) iX5_readClause_77 hc57 (by decide) ?_
                  refine a_aload iX5_readClause_134 rfl <| ?_
                  obtain ⟨mi58, he59, h⟩ := ob h
                  refine a_cVv iX5_readClause_135 okX5_readThing inX5_readThing ⟨rfl, rfl⟩ (lt_s3 hV) (c_X5_readThing hV he59) rfl rfl (Nat.le_of_ble_eq_true rfl) ⟨Nat.le_refl 0, Nat.le_refl 0⟩ <| a_goto iX5_readClause_138 <| a_aload iX5_readClause_152 rfl <| ?_
                  obtain ⟨mi60, he61, h⟩ := ob h
                  refine a_cVv iX5_readClause_153 okX5_readEnd inX5_readEnd ⟨rfl, rfl⟩ (lt_s3 hV) (c_X5_readEnd hV he61) rfl rfl (Nat.le_of_ble_eq_true rfl) ⟨Nat.le_refl 0, Nat.le_refl 0⟩ <| ?_
                  obtain rfl := Option.some.inj h
                  exact a_vret iX5_readClause_156 rfl ⟨Nat.le_refl 0, Nat.le_refl 0⟩ ⟨rfl, rfl, rfl, rfl⟩
                · have h := oe hc57 h
                  refine a_lwd iX5_readClause_77 (lw_all ⟨lw_ne (k := 99) hc42 (by decide), lw_ne (k := 108) hc47 (by decide), lw_ne (k := 115) hc52 (by decide), lw_ne (k := 116) hc57 (by decide), trivial⟩) ?_
                  refine a_aload iX5_readClause_148 rfl <| ?_
                  obtain ⟨mi62, he63, h⟩ := ob h
                  refine a_cVv iX5_readClause_149 okX5_readWant inX5_readWant ⟨rfl, rfl⟩ (lt_s3 hV) (c_X5_readWant hV he63) rfl rfl (Nat.le_of_ble_eq_true rfl) ⟨Nat.le_refl 0, Nat.le_refl 0⟩ <| a_aload iX5_readClause_152 rfl <| ?_
                  obtain ⟨mi64, he65, h⟩ := ob h
                  refine a_cVv iX5_readClause_153 okX5_readEnd inX5_readEnd ⟨rfl, rfl⟩ (lt_s3 hV) (c_X5_readEnd hV he65) rfl rfl (Nat.le_of_ble_eq_true rfl) ⟨Nat.le_refl 0, Nat.le_refl 0⟩ <| ?_
                  obtain rfl := Option.some.inj h
                  exact a_vret iX5_readClause_156 rfl ⟨Nat.le_refl 0, Nat.le_refl 0⟩ ⟨rfl, rfl, rfl, rfl⟩
        · have h := ot hc41 h
          refine a_aload iX5_readClause_56 rfl <| a_const iX5_readClause_57 <| a_aload iX5_readClause_58 rfl <| a_geti iX5_readClause_59 (lt_s3 hV) rfl <| ?_
          obtain ⟨mi66, he67, h⟩ := ob h
          refine a_cVv iX5_readClause_62 okX5_accuse inX5_accuse ⟨rfl, rfl⟩ (lt_s3 hV) (c_X5_accuse hV he67) rfl rfl (Nat.le_of_ble_eq_true rfl) ⟨Nat.le_refl 0, Nat.le_refl 0⟩ <| ?_
          obtain rfl := Option.some.inj h
          exact a_vret iX5_readClause_65 rfl ⟨Nat.le_refl 0, Nat.le_refl 0⟩ ⟨rfl, rfl, rfl, rfl⟩
      · have h := oe hc38 h
        refine a_aload iX5_readClause_35 rfl <| a_const iX5_readClause_36 <| a_aload iX5_readClause_37 rfl <| a_geti iX5_readClause_38 (lt_s3 hV) rfl <| ?_
        obtain ⟨mi68, he69, h⟩ := ob h
        refine a_cVv iX5_readClause_41 okX5_accuse inX5_accuse ⟨rfl, rfl⟩ (lt_s3 hV) (c_X5_accuse hV he69) rfl rfl (Nat.le_of_ble_eq_true rfl) ⟨Nat.le_refl 0, Nat.le_refl 0⟩ <| ?_
        obtain rfl := Option.some.inj h
        exact a_vret iX5_readClause_44 rfl ⟨Nat.le_refl 0, Nat.le_refl 0⟩ ⟨rfl, rfl, rfl, rfl⟩
def lp_X5_readAll_28 (dr : Nat) (K : Int32 → Mi → Option (Int32 × Mi)) : Nat → Int32 → Mi → Option (Int32 × Mi)
  | 0, _, _ => none
  | n + 1, v1, mi => if 240 ≤ v1 then (K v1 mi) else (if (mi 3 3) = 0 then (if (mi 1 1) ≤ (mi 3 2) then (K v1 mi) else ((f_X5_readClause mi dr).bind (fun mi8 => (f_X5_skipBlanks mi8).bind (fun mi10 => lp_X5_readAll_28 dr K n (v1 + 1) mi10)))) else (K v1 mi))
def f_X5_readAll (mi : Mi) (dr : Nat) : Option (Int32 × Mi) := (f_X1_empty (u2 (u2 (u2 mi 3 2 0) 3 3 0) 3 4 (-1)) dr).bind (fun mi1 => (f_X5_skipBlanks mi1).bind (fun mi3 => lp_X5_readAll_28 dr (fun v1_12 mi12 => if (mi12 3 3) = 0 then (some (1, mi12)) else (some (0, mi12))) FU 0 mi3))
set_option maxRecDepth 20000 in
set_option maxHeartbeats 4000000 in
theorem w_X5_readAll_28 {g : Gm} {V : Vw} {E : Ex} {dr ld : Nat} {ml : Ml} (hV : LayT V ld dr) {K : Int32 → Mi → Option (Int32 × Mi)} {r : Int32 × Mi} (hK : ∀ (v1 : Int32) (mi : Mi), K v1 mi = some r → At g YX5_readAll E (qm g YX5_readAll (pI V (r.1) (r.2) ml)) V (0, 0) 70 [some (rf g 3), some (.int v1)] [] mi ml) : ∀ (n : Nat) (v1 : Int32) (mi : Mi), lp_X5_readAll_28 dr K n v1 mi = some r → At g YX5_readAll E (qm g YX5_readAll (pI V (r.1) (r.2) ml)) V (0, 0) 28 [some (rf g 3), some (.int v1)] [] mi ml := by
  intro n
  induction n with
  | zero => intro v1 mi h; exact oz h
  | succ n ih =>
    intro v1 mi h
    unfold lp_X5_readAll_28 at h
    refine a_iload iX5_readAll_28 rfl <| a_const iX5_readAll_29 <| ?_
    refine a_icmp_ge iX5_readAll_32 (fun hc5 => ?_) (fun hc5 => ?_)
    · have h := ot hc5 h
      exact a_sub (L' := [some (rf g 3), some (.int v1)]) (by exact ⟨rfl, ⟨rfl, trivial⟩⟩) (hK _ _ h)
    · have h := oe hc5 h
      refine a_aload iX5_readAll_35 rfl <| a_geti iX5_readAll_36 (lt_s3 hV) rfl <| ?_
      refine a_if_ne iX5_readAll_39 (fun hc6 => ?_) (fun hc6 => ?_)
      · have h := oe hc6 h
        exact a_sub (L' := [some (rf g 3), some (.int v1)]) (by exact ⟨rfl, ⟨rfl, trivial⟩⟩) (hK _ _ h)
      · have h := ot hc6 h
        refine a_aload iX5_readAll_42 rfl <| a_geti iX5_readAll_43 (lt_s3 hV) rfl <| a_aload iX5_readAll_46 rfl <| a_getr iX5_readAll_47 (lt_s3 hV) rfl (lt_r3_0 hV) <| a_geti iX5_readAll_50 (lt_s1 hV) rfl <| ?_
        refine a_icmp_ge iX5_readAll_53 (fun hc7 => ?_) (fun hc7 => ?_)
        · have h := ot hc7 h
          exact a_sub (L' := [some (rf g 3), some (.int v1)]) (by exact ⟨rfl, ⟨rfl, trivial⟩⟩) (hK _ _ h)
        · have h := oe hc7 h
          refine a_aload iX5_readAll_56 rfl <| ?_
          obtain ⟨mi8, he9, h⟩ := ob h
          refine a_cVv iX5_readAll_57 okX5_readClause inX5_readClause ⟨rfl, rfl⟩ (lt_s3 hV) (c_X5_readClause hV he9) rfl rfl (Nat.le_of_ble_eq_true rfl) ⟨Nat.le_refl 0, Nat.le_refl 0⟩ <| a_aload iX5_readAll_60 rfl <| ?_
          obtain ⟨mi10, he11, h⟩ := ob h
          refine a_cVv iX5_readAll_61 okX5_skipBlanks inX5_skipBlanks ⟨rfl, rfl⟩ (lt_s3 hV) (c_X5_skipBlanks hV he11) rfl rfl (Nat.le_of_ble_eq_true rfl) ⟨Nat.le_refl 0, Nat.le_refl 0⟩ <| a_iinc iX5_readAll_64 rfl (by decide) rfl <| a_goto iX5_readAll_67 <| ?_
          exact a_sub (L' := [some (rf g 3), some (.int (v1 + 1))]) (by exact ⟨rfl, ⟨rfl, trivial⟩⟩) (ih _ _ h)
set_option maxRecDepth 20000 in
set_option maxHeartbeats 4000000 in
theorem c_X5_readAll {g : Gm} {V : Vw} {mi : Mi} {ml : Ml} {dr ld : Nat} (hV : LayT V ld dr) {r : Int32 × Mi} (h : f_X5_readAll mi dr = some r) : DoI g YX5_readAll V [rf g 3] mi ml (r.1) (r.2) ml := by
  unfold f_X5_readAll at h
  refine does_of (L := [some (rf g 3), none]) okX5_readAll rfl (Nat.le_of_ble_eq_true rfl) rfl ?_
  show At g YX5_readAll _ (qm g YX5_readAll (pI V (r.1) (r.2) ml)) V (0, 0) 0 _ [] mi ml
  refine a_aload iX5_readAll_0 rfl <| a_const iX5_readAll_1 <| a_puti iX5_readAll_2 (lt_s3 hV) rfl rfl rfl <| a_aload iX5_readAll_5 rfl <| a_const iX5_readAll_6 <| a_puti iX5_readAll_7 (lt_s3 hV) rfl rfl rfl <| a_aload iX5_readAll_10 rfl <| a_const iX5_readAll_11 <| ?_
  refine a_puti iX5_readAll_12 (lt_s3 hV) rfl rfl rfl <| a_aload iX5_readAll_15 rfl <| a_getr iX5_readAll_16 (lt_s3 hV) rfl (lt_r3_1 hV) <| ?_
  obtain ⟨mi1, he2, h⟩ := ob h
  refine a_cVv iX5_readAll_19 okX1_empty inX1_empty ⟨rfl, rfl⟩ (lt_dr hV).1 (c_X1_empty (lt_dr hV) he2) rfl rfl (Nat.le_of_ble_eq_true rfl) ⟨Nat.le_refl 0, Nat.le_refl 0⟩ <| a_aload iX5_readAll_22 rfl <| ?_
  obtain ⟨mi3, he4, h⟩ := ob h
  refine a_cVv iX5_readAll_23 okX5_skipBlanks inX5_skipBlanks ⟨rfl, rfl⟩ (lt_s3 hV) (c_X5_skipBlanks hV he4) rfl rfl (Nat.le_of_ble_eq_true rfl) ⟨Nat.le_refl 0, Nat.le_refl 0⟩ <| a_const iX5_readAll_26 <| a_istore iX5_readAll_27 (by decide) rfl <| ?_
  refine a_sub (L' := [some (rf g 3), some (.int 0)]) (by exact ⟨rfl, ⟨rfl, trivial⟩⟩) (w_X5_readAll_28 hV (fun v1_12 mi12 h => ?_) FU _ _ h)
  refine a_aload iX5_readAll_70 rfl <| a_geti iX5_readAll_71 (lt_s3 hV) rfl <| ?_
  refine a_if_ne iX5_readAll_74 (fun hc13 => ?_) (fun hc13 => ?_)
  · have h := oe hc13 h
    refine a_const iX5_readAll_81 <| ?_
    obtain rfl := Option.some.inj h
    exact a_zret iX5_readAll_82 rfl rfl ⟨Nat.le_refl 0, Nat.le_refl 0⟩ ⟨rfl, rfl, rfl, rfl⟩
  · have h := ot hc13 h
    refine a_const iX5_readAll_77 <| a_goto iX5_readAll_78 <| ?_
    obtain rfl := Option.some.inj h
    exact a_zret iX5_readAll_82 rfl rfl ⟨Nat.le_refl 0, Nat.le_refl 0⟩ ⟨rfl, rfl, rfl, rfl⟩
