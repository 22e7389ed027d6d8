/-! 12a.fun.lean.txt: functions of the code and their rows, laid by program -/
def f_X0_add (mi : Mi) (x1 x2 : Int32) : Option (Mi) := if 20 ≤ (mi 204 2) then (some mi) else (if inb (mi 204 2) 20 then if inb ((u2 mi 205 (mi 204 2).toNatClampNeg x1) 204 2) 20 then nx (u2 (u2 mi 205 (mi 204 2).toNatClampNeg x1) 206 ((u2 mi 205 (mi 204 2).toNatClampNeg x1) 204 2).toNatClampNeg x2) (fun mi5 => some (u2 mi5 204 2 ((mi5 204 2) + 1))) else none else none)
set_option maxRecDepth 20000 in
set_option maxHeartbeats 4000000 in
theorem c_X0_add {g : Gm} {V : Vw} {mi : Mi} {ml : Ml} {ld dr : Nat} {x1 x2 : Int32} (hV : LayT V ld dr) {r : Mi} (h : f_X0_add mi x1 x2 = some r) : DoV g YX0_add V [rf g 204, .int x1, .int x2] mi ml r ml := by
  unfold f_X0_add at h
  refine does_of (L := [some (rf g 204), some (.int x1), some (.int x2)]) okX0_add rfl (Nat.le_of_ble_eq_true rfl) rfl ?_
  show At g YX0_add _ (qm g YX0_add (pV V r ml)) V (0, 0) 0 _ [] mi ml
  refine a_aload iX0_add_0 rfl <| a_geti iX0_add_1 (lt_s204 hV) rfl <| a_const iX0_add_4 <| ?_
  refine a_icmp_ge iX0_add_6 (fun hc1 => ?_) (fun hc1 => ?_)
  · have h := ot hc1 h
    obtain rfl := Option.some.inj h
    exact a_vret iX0_add_39 rfl ⟨Nat.le_refl 0, Nat.le_refl 0⟩ ⟨rfl, rfl, rfl, rfl⟩
  · have h := oe hc1 h
    refine a_aload iX0_add_9 rfl <| a_getr iX0_add_10 (lt_s204 hV) rfl (lt_r204_0 hV) <| a_aload iX0_add_13 rfl <| a_geti iX0_add_14 (lt_s204 hV) rfl <| a_iload iX0_add_17 rfl <| ?_
    obtain ⟨hg2, h⟩ := og h
    refine a_iast iX0_add_18 (lt_s205 hV) (inb_vp hg2) <| a_aload iX0_add_19 rfl <| a_getr iX0_add_20 (lt_s204 hV) rfl (lt_r204_1 hV) <| a_aload iX0_add_23 rfl <| a_geti iX0_add_24 (lt_s204 hV) rfl <| a_iload iX0_add_27 rfl <| ?_
    obtain ⟨hg3, h⟩ := og h
    refine a_iast iX0_add_28 (lt_s206 hV) (inb_vp hg3) <| ?_
    obtain ⟨mi5, hm4, h⟩ := onx h
    refine a_mem hm4 <| a_aload iX0_add_29 rfl <| a_dup iX0_add_30 rfl <| a_geti iX0_add_31 (lt_s204 hV) rfl <| a_const iX0_add_34 <| a_iadd iX0_add_35 <| a_puti iX0_add_36 (lt_s204 hV) rfl rfl rfl <| ?_
    obtain rfl := Option.some.inj h
    exact a_vret iX0_add_39 rfl ⟨Nat.le_refl 0, Nat.le_refl 0⟩ ⟨rfl, rfl, rfl, rfl⟩
def lp_X0_firstWrong_2 (e1 : Nat) (mi : Mi) (K : Int32 → Option (Int32)) : Nat → Int32 → Option (Int32)
  | 0, _ => none
  | n + 1, v2 => if (mi 204 2) ≤ v2 then (K v2) else (if inb v2 20 then if inb (mi 205 v2.toNatClampNeg) 8 then if inb v2 20 then if (mi (e1 + 3) (mi 205 v2.toNatClampNeg).toNatClampNeg) = (mi 206 v2.toNatClampNeg) then (lp_X0_firstWrong_2 e1 mi K n (v2 + 1)) else (some v2) else none else none else none)
def f_X0_firstWrong (mi : Mi) (e1 : Nat) : Option (Int32) := lp_X0_firstWrong_2 e1 mi (fun v2_6 => some (-1)) FU 0
set_option maxRecDepth 20000 in
set_option maxHeartbeats 4000000 in
theorem w_X0_firstWrong_2 {g : Gm} {V : Vw} {E : Ex} {e1 ld dr : Nat} {mi : Mi} {ml : Ml} (hV : LayT V ld dr) (hE1 : LayE V e1) {K : Int32 → Option (Int32)} {r : Int32} (hK : ∀ (v2 : Int32), K v2 = some r → At g YX0_firstWrong E (qm g YX0_firstWrong (pI V r mi ml)) V (0, 0) 38 [some (rf g 204), some (rf g e1), some (.int v2)] [] mi ml) : ∀ (n : Nat) (v2 : Int32), lp_X0_firstWrong_2 e1 mi K n v2 = some r → At g YX0_firstWrong E (qm g YX0_firstWrong (pI V r mi ml)) V (0, 0) 2 [some (rf g 204), some (rf g e1), some (.int v2)] [] mi ml := by
  intro n
  induction n with
  | zero => intro v2 h; exact oz h
  | succ n ih =>
    intro v2 h
    unfold lp_X0_firstWrong_2 at h
    refine a_iload iX0_firstWrong_2 rfl <| a_aload iX0_firstWrong_3 rfl <| a_geti iX0_firstWrong_4 (lt_s204 hV) rfl <| ?_
    refine a_icmp_ge iX0_firstWrong_7 (fun hc1 => ?_) (fun hc1 => ?_)
    · have h := ot hc1 h
      exact a_sub (L' := [some (rf g 204), some (rf g e1), some (.int v2)]) (by exact ⟨rfl, ⟨rfl, ⟨rfl, trivial⟩⟩⟩) (hK _ h)
    · have h := oe hc1 h
      refine a_aload iX0_firstWrong_10 rfl <| a_getr iX0_firstWrong_11 hE1.1 rfl hE1.2.2.2.2.2.2.2.2.1 <| a_aload iX0_firstWrong_14 rfl <| a_getr iX0_firstWrong_15 (lt_s204 hV) rfl (lt_r204_0 hV) <| a_iload iX0_firstWrong_18 rfl <| ?_
      obtain ⟨hg2, h⟩ := og h
      refine a_iald iX0_firstWrong_19 (lt_s205 hV) (inb_vp hg2) <| ?_
      obtain ⟨hg3, h⟩ := og h
      refine a_iald iX0_firstWrong_20 hE1.2.2.2.1 (inb_vp hg3) <| a_aload iX0_firstWrong_21 rfl <| a_getr iX0_firstWrong_22 (lt_s204 hV) rfl (lt_r204_1 hV) <| a_iload iX0_firstWrong_25 rfl <| ?_
      obtain ⟨hg4, h⟩ := og h
      refine a_iald iX0_firstWrong_26 (lt_s206 hV) (inb_vp hg4) <| ?_
      refine a_icmp_eq iX0_firstWrong_27 (fun hc5 => ?_) (fun hc5 => ?_)
      · have h := ot hc5 h
        refine a_iinc iX0_firstWrong_32 rfl (by decide) rfl <| a_goto iX0_firstWrong_35 <| ?_
        exact a_sub (L' := [some (rf g 204), some (rf g e1), some (.int (v2 + 1))]) (by exact ⟨rfl, ⟨rfl, ⟨rfl, trivial⟩⟩⟩) (ih _ h)
      · have h := oe hc5 h
        refine a_iload iX0_firstWrong_30 rfl <| ?_
        obtain rfl := Option.some.inj h
        exact a_iret iX0_firstWrong_31 rfl ⟨Nat.le_refl 0, Nat.le_refl 0⟩ ⟨rfl, rfl, rfl, rfl⟩
set_option maxRecDepth 20000 in
set_option maxHeartbeats 4000000 in
theorem c_X0_firstWrong {g : Gm} {V : Vw} {mi : Mi} {ml : Ml} {e1 ld dr : Nat} (hV : LayT V ld dr) (hE1 : LayE V e1) {r : Int32} (h : f_X0_firstWrong mi e1 = some r) : DoI g YX0_firstWrong V [rf g 204, rf g e1] mi ml r mi ml := by
  unfold f_X0_firstWrong at h
  refine does_of (L := [some (rf g 204), some (rf g e1), none]) okX0_firstWrong rfl (Nat.le_of_ble_eq_true rfl) rfl ?_
  show At g YX0_firstWrong _ (qm g YX0_firstWrong (pI V r mi ml)) V (0, 0) 0 _ [] mi ml
  refine a_const iX0_firstWrong_0 <| a_istore iX0_firstWrong_1 (by decide) rfl <| ?_
  refine a_sub (L' := [some (rf g 204), some (rf g e1), some (.int 0)]) (by exact ⟨rfl, ⟨rfl, ⟨rfl, trivial⟩⟩⟩) (w_X0_firstWrong_2 hV hE1 (fun v2_6 h => ?_) FU _ h)
  refine a_const iX0_firstWrong_38 <| ?_
  obtain rfl := Option.some.inj h
  exact a_iret iX0_firstWrong_39 rfl ⟨Nat.le_refl 0, Nat.le_refl 0⟩ ⟨rfl, rfl, rfl, rfl⟩
def f_X1_empty (mi : Mi) (c : Nat) : Option (Mi) := some (u2 (u2 (u2 (u2 (u2 (u2 (u2 (u2 mi c 0 0) c 1 0) c 2 0) c 3 0) c 4 0) c 5 0) c 6 0) c 7 0)
set_option maxRecDepth 20000 in
set_option maxHeartbeats 4000000 in
theorem c_X1_empty {g : Gm} {V : Vw} {mi : Mi} {ml : Ml} {c : Nat} (hC : LayC V c) {r : Mi} (h : f_X1_empty mi c = some r) : DoV g YX1_empty V [rf g c] mi ml r ml := by
  unfold f_X1_empty at h
  refine does_of (L := [some (rf g c)]) okX1_empty rfl (Nat.le_of_ble_eq_true rfl) rfl ?_
  show At g YX1_empty _ (qm g YX1_empty (pV V r ml)) V (0, 0) 0 _ [] mi ml
  refine a_aload iX1_empty_0 rfl <| a_const iX1_empty_1 <| a_puti iX1_empty_2 hC.1 rfl rfl rfl <| a_aload iX1_empty_5 rfl <| a_const iX1_empty_6 <| a_puti iX1_empty_7 hC.1 rfl rfl rfl <| a_aload iX1_empty_10 rfl <| a_const iX1_empty_11 <| ?_
  refine a_puti iX1_empty_12 hC.1 rfl rfl rfl <| a_aload iX1_empty_15 rfl <| a_const iX1_empty_16 <| a_puti iX1_empty_17 hC.1 rfl rfl rfl <| a_aload iX1_empty_20 rfl <| a_const iX1_empty_21 <| a_puti iX1_empty_22 hC.1 rfl rfl rfl <| a_aload iX1_empty_25 rfl <| ?_
  refine a_const iX1_empty_26 <| a_puti iX1_empty_27 hC.1 rfl rfl rfl <| a_aload iX1_empty_30 rfl <| a_const iX1_empty_31 <| a_puti iX1_empty_32 hC.1 rfl rfl rfl <| a_aload iX1_empty_35 rfl <| a_const iX1_empty_36 <| a_puti iX1_empty_37 hC.1 rfl rfl rfl <| ?_
  obtain rfl := Option.some.inj h
  exact a_vret iX1_empty_40 rfl ⟨Nat.le_refl 0, Nat.le_refl 0⟩ ⟨rfl, rfl, rfl, rfl⟩
def f_X1_hasRoomFor (mi : Mi) (c : Nat) (x1 : Int32) : Option (Int32) := if x1 = 99 then (if (mi c 0) = 0 then (some 1) else (some 0)) else (if x1 = 108 then (if 6 ≤ (mi c 6) then (some 0) else (some 1)) else (if x1 = 115 then (if (mi c 4) = 0 then (some 1) else (some 0)) else (if x1 = 116 then (if 8 ≤ (mi c 5) then (some 0) else (some 1)) else (if 10 ≤ (mi c 7) then (some 0) else (some 1)))))
set_option maxRecDepth 20000 in
set_option maxHeartbeats 4000000 in
theorem c_X1_hasRoomFor {g : Gm} {V : Vw} {mi : Mi} {ml : Ml} {c : Nat} {x1 : Int32} (hC : LayC V c) {r : Int32} (h : f_X1_hasRoomFor mi c x1 = some r) : DoI g YX1_hasRoomFor V [rf g c, .int x1] mi ml r mi ml := by
  unfold f_X1_hasRoomFor at h
  refine does_of (L := [some (rf g c), some (.int x1)]) okX1_hasRoomFor rfl (Nat.le_of_ble_eq_true rfl) rfl ?_
  show At g YX1_hasRoomFor _ (qm g YX1_hasRoomFor (pI V r mi ml)) V (0, 0) 0 _ [] mi ml
  refine a_iload iX1_hasRoomFor_0 rfl <| ?_
  by_cases hc1 : x1 = 99
  · have h := ot hc1 h
    refine a_lwv (tgt := 44) iX1_hasRoomFor_1 hc1 (by decide) ?_
    refine a_aload iX1_hasRoomFor_44 rfl <| a_geti iX1_hasRoomFor_45 hC.1 rfl <| ?_
    refine a_if_ne iX1_hasRoomFor_48 (fun hc2 => ?_) (fun hc2 => ?_)
    · have h := oe hc2 h
      refine a_const iX1_hasRoomFor_55 <| ?_
      obtain rfl := Option.some.inj h
      exact a_zret iX1_hasRoomFor_56 rfl rfl ⟨Nat.le_refl 0, Nat.le_refl 0⟩ ⟨rfl, rfl, rfl, rfl⟩
    · have h := ot hc2 h
      refine a_const iX1_hasRoomFor_51 <| a_goto iX1_hasRoomFor_52 <| ?_
      obtain rfl := Option.some.inj h
      exact a_zret iX1_hasRoomFor_56 rfl rfl ⟨Nat.le_refl 0, Nat.le_refl 0⟩ ⟨rfl, rfl, rfl, rfl⟩
  · have h := oe hc1 h
    by_cases hc3 : x1 = 108
    · have h := ot hc3 h
      refine a_lwv (tgt := 85) iX1_hasRoomFor_1 hc3 (by decide) ?_
      refine a_aload iX1_hasRoomFor_85 rfl <| a_geti iX1_hasRoomFor_86 hC.1 rfl <| a_const iX1_hasRoomFor_89 <| ?_
      refine a_icmp_ge iX1_hasRoomFor_91 (fun hc4 => ?_) (fun hc4 => ?_)
      · have h := ot hc4 h
        refine a_const iX1_hasRoomFor_98 <| ?_
        obtain rfl := Option.some.inj h
        exact a_zret iX1_hasRoomFor_99 rfl rfl ⟨Nat.le_refl 0, Nat.le_refl 0⟩ ⟨rfl, rfl, rfl, rfl⟩
      · have h := oe hc4 h
        refine a_const iX1_hasRoomFor_94 <| a_goto iX1_hasRoomFor_95 <| ?_
        obtain rfl := Option.some.inj h
        exact a_zret iX1_hasRoomFor_99 rfl rfl ⟨Nat.le_refl 0, Nat.le_refl 0⟩ ⟨rfl, rfl, rfl, rfl⟩
    · have h := oe hc3 h
      by_cases hc5 : x1 = 115
      · have h := ot hc5 h
        refine a_lwv (tgt := 57) iX1_hasRoomFor_1 hc5 (by decide) ?_
        refine a_aload iX1_hasRoomFor_57 rfl <| a_geti iX1_hasRoomFor_58 hC.1 rfl <| ?_
        refine a_if_ne iX1_hasRoomFor_61 (fun hc6 => ?_) (fun hc6 => ?_)
        · have h := oe hc6 h
          refine a_const iX1_hasRoomFor_68 <| ?_
          obtain rfl := Option.some.inj h
          exact a_zret iX1_hasRoomFor_69 rfl rfl ⟨Nat.le_refl 0, Nat.le_refl 0⟩ ⟨rfl, rfl, rfl, rfl⟩
        · have h := ot hc6 h
          refine a_const iX1_hasRoomFor_64 <| a_goto iX1_hasRoomFor_65 <| ?_
          obtain rfl := Option.some.inj h
          exact a_zret iX1_hasRoomFor_69 rfl rfl ⟨Nat.le_refl 0, Nat.le_refl 0⟩ ⟨rfl, rfl, rfl, rfl⟩
      · have h := oe hc5 h
        by_cases hc7 : x1 = 116
        · have h := ot hc7 h
          refine a_lwv (tgt := 70) iX1_hasRoomFor_1 hc7 (by decide) ?_
          refine a_aload iX1_hasRoomFor_70 rfl <| a_geti iX1_hasRoomFor_71 hC.1 rfl <| a_const iX1_hasRoomFor_74 <| ?_
          refine a_icmp_ge iX1_hasRoomFor_76 (fun hc8 => ?_) (fun hc8 => ?_)
          · have h := ot hc8 h
            refine a_const iX1_hasRoomFor_83 <| ?_
            obtain rfl := Option.some.inj h
            exact a_zret iX1_hasRoomFor_84 rfl rfl ⟨Nat.le_refl 0, Nat.le_refl 0⟩ ⟨rfl, rfl, rfl, rfl⟩
          · have h := oe hc8 h
            refine a_const iX1_hasRoomFor_79 <| a_goto iX1_hasRoomFor_80 <| ?_
            obtain rfl := Option.some.inj h
            exact a_zret iX1_hasRoomFor_84 rfl rfl ⟨Nat.le_refl 0, Nat.le_refl 0⟩ ⟨rfl, rfl, rfl, rfl⟩
        · have h := oe hc7 h
          refine a_lwd iX1_hasRoomFor_1 (lw_all ⟨lw_ne (k := 99) hc1 (by decide), lw_ne (k := 108) hc3 (by decide), lw_ne (k := 115) hc5 (by decide), lw_ne (k := 116) hc7 (by decide), trivial⟩) ?_
          refine a_aload iX1_hasRoomFor_100 rfl <| a_geti iX1_hasRoomFor_101 hC.1 rfl <| a_const iX1_hasRoomFor_104 <| ?_
          refine a_icmp_ge iX1_hasRoomFor_106 (fun hc9 => ?_) (fun hc9 => ?_)
          · have h := ot hc9 h
            refine a_const iX1_hasRoomFor_113 <| ?_
            obtain rfl := Option.some.inj h
            exact a_zret iX1_hasRoomFor_114 rfl rfl ⟨Nat.le_refl 0, Nat.le_refl 0⟩ ⟨rfl, rfl, rfl, rfl⟩
          · have h := oe hc9 h
            refine a_const iX1_hasRoomFor_109 <| a_goto iX1_hasRoomFor_110 <| ?_
            obtain rfl := Option.some.inj h
            exact a_zret iX1_hasRoomFor_114 rfl rfl ⟨Nat.le_refl 0, Nat.le_refl 0⟩ ⟨rfl, rfl, rfl, rfl⟩
def f_X1_addDay (mi : Mi) (c : Nat) (x1 x2 : Int32) : Option (Mi) := some (u2 (u2 (u2 mi c 0 1) c 1 x1) c 2 x2)
set_option maxRecDepth 20000 in
set_option maxHeartbeats 4000000 in
theorem c_X1_addDay {g : Gm} {V : Vw} {mi : Mi} {ml : Ml} {c : Nat} {x1 x2 : Int32} (hC : LayC V c) {r : Mi} (h : f_X1_addDay mi c x1 x2 = some r) : DoV g YX1_addDay V [rf g c, .int x1, .int x2] mi ml r ml := by
  unfold f_X1_addDay at h
  refine does_of (L := [some (rf g c), some (.int x1), some (.int x2)]) okX1_addDay rfl (Nat.le_of_ble_eq_true rfl) rfl ?_
  show At g YX1_addDay _ (qm g YX1_addDay (pV V r ml)) V (0, 0) 0 _ [] mi ml
  refine a_aload iX1_addDay_0 rfl <| a_const iX1_addDay_1 <| a_puti iX1_addDay_2 hC.1 rfl rfl rfl <| a_aload iX1_addDay_5 rfl <| a_iload iX1_addDay_6 rfl <| a_puti iX1_addDay_7 hC.1 rfl rfl rfl <| a_aload iX1_addDay_10 rfl <| a_iload iX1_addDay_11 rfl <| ?_
  refine a_puti iX1_addDay_12 hC.1 rfl rfl rfl <| ?_
  obtain rfl := Option.some.inj h
  exact a_vret iX1_addDay_15 rfl ⟨Nat.le_refl 0, Nat.le_refl 0⟩ ⟨rfl, rfl, rfl, rfl⟩
def f_X1_addSeason (mi : Mi) (c : Nat) (x1 : Int32) : Option (Mi) := if 12 ≤ (mi c 4) then (some mi) else (if inb (mi c 4) 12 then some (u2 (u2 mi (c + 1) (mi c 4).toNatClampNeg x1) c 4 (((u2 mi (c + 1) (mi c 4).toNatClampNeg x1) c 4) + 1)) else none)
set_option maxRecDepth 20000 in
set_option maxHeartbeats 4000000 in
theorem c_X1_addSeason {g : Gm} {V : Vw} {mi : Mi} {ml : Ml} {c : Nat} {x1 : Int32} (hC : LayC V c) {r : Mi} (h : f_X1_addSeason mi c x1 = some r) : DoV g YX1_addSeason V [rf g c, .int x1] mi ml r ml := by
  unfold f_X1_addSeason at h
  refine does_of (L := [some (rf g c), some (.int x1)]) okX1_addSeason rfl (Nat.le_of_ble_eq_true rfl) rfl ?_
  show At g YX1_addSeason _ (qm g YX1_addSeason (pV V r ml)) V (0, 0) 0 _ [] mi ml
  refine a_aload iX1_addSeason_0 rfl <| a_geti iX1_addSeason_1 hC.1 rfl <| a_const iX1_addSeason_4 <| ?_
  refine a_icmp_ge iX1_addSeason_6 (fun hc1 => ?_) (fun hc1 => ?_)
  · have h := ot hc1 h
    obtain rfl := Option.some.inj h
    exact a_vret iX1_addSeason_29 rfl ⟨Nat.le_refl 0, Nat.le_refl 0⟩ ⟨rfl, rfl, rfl, rfl⟩
  · have h := oe hc1 h
    refine a_aload iX1_addSeason_9 rfl <| a_getr iX1_addSeason_10 hC.1 rfl hC.2.2.2.2.2.2.2.1 <| a_aload iX1_addSeason_13 rfl <| a_geti iX1_addSeason_14 hC.1 rfl <| a_iload iX1_addSeason_17 rfl <| ?_
    obtain ⟨hg2, h⟩ := og h
    refine a_iast iX1_addSeason_18 hC.2.1 (inb_vp hg2) <| a_aload iX1_addSeason_19 rfl <| a_dup iX1_addSeason_20 rfl <| a_geti iX1_addSeason_21 hC.1 rfl <| a_const iX1_addSeason_24 <| a_iadd iX1_addSeason_25 <| a_puti iX1_addSeason_26 hC.1 rfl rfl rfl <| ?_
    obtain rfl := Option.some.inj h
    exact a_vret iX1_addSeason_29 rfl ⟨Nat.le_refl 0, Nat.le_refl 0⟩ ⟨rfl, rfl, rfl, rfl⟩
def f_X1_addThing (mi : Mi) (c : Nat) (x1 x2 : Int32) : Option (Mi) := if 8 ≤ (mi c 5) then (some mi) else (if inb (mi c 5) 8 then if inb ((u2 mi (c + 2) (mi c 5).toNatClampNeg x1) c 5) 8 then nx (u2 (u2 mi (c + 2) (mi c 5).toNatClampNeg x1) (c + 3) ((u2 mi (c + 2) (mi c 5).toNatClampNeg x1) c 5).toNatClampNeg x2) (fun mi5 => some (u2 mi5 c 5 ((mi5 c 5) + 1))) else none else none)
set_option maxRecDepth 20000 in
set_option maxHeartbeats 4000000 in
theorem c_X1_addThing {g : Gm} {V : Vw} {mi : Mi} {ml : Ml} {c : Nat} {x1 x2 : Int32} (hC : LayC V c) {r : Mi} (h : f_X1_addThing mi c x1 x2 = some r) : DoV g YX1_addThing V [rf g c, .int x1, .int x2] mi ml r ml := by
  unfold f_X1_addThing at h
  refine does_of (L := [some (rf g c), some (.int x1), some (.int x2)]) okX1_addThing rfl (Nat.le_of_ble_eq_true rfl) rfl ?_
  show At g YX1_addThing _ (qm g YX1_addThing (pV V r ml)) V (0, 0) 0 _ [] mi ml
  refine a_aload iX1_addThing_0 rfl <| a_geti iX1_addThing_1 hC.1 rfl <| a_const iX1_addThing_4 <| ?_
  refine a_icmp_ge iX1_addThing_6 (fun hc1 => ?_) (fun hc1 => ?_)
  · have h := ot hc1 h
    obtain rfl := Option.some.inj h
    exact a_vret iX1_addThing_39 rfl ⟨Nat.le_refl 0, Nat.le_refl 0⟩ ⟨rfl, rfl, rfl, rfl⟩
  · have h := oe hc1 h
    refine a_aload iX1_addThing_9 rfl <| a_getr iX1_addThing_10 hC.1 rfl hC.2.2.2.2.2.2.2.2.1 <| a_aload iX1_addThing_13 rfl <| a_geti iX1_addThing_14 hC.1 rfl <| a_iload iX1_addThing_17 rfl <| ?_
    obtain ⟨hg2, h⟩ := og h
    refine a_iast iX1_addThing_18 hC.2.2.1 (inb_vp hg2) <| a_aload iX1_addThing_19 rfl <| a_getr iX1_addThing_20 hC.1 rfl hC.2.2.2.2.2.2.2.2.2.1 <| a_aload iX1_addThing_23 rfl <| a_geti iX1_addThing_24 hC.1 rfl <| a_iload iX1_addThing_27 rfl <| ?_
    obtain ⟨hg3, h⟩ := og h
    refine a_iast iX1_addThing_28 hC.2.2.2.1 (inb_vp hg3) <| ?_
    obtain ⟨mi5, hm4, h⟩ := onx h
    refine a_mem hm4 <| a_aload iX1_addThing_29 rfl <| a_dup iX1_addThing_30 rfl <| a_geti iX1_addThing_31 hC.1 rfl <| a_const iX1_addThing_34 <| a_iadd iX1_addThing_35 <| a_puti iX1_addThing_36 hC.1 rfl rfl rfl <| ?_
    obtain rfl := Option.some.inj h
    exact a_vret iX1_addThing_39 rfl ⟨Nat.le_refl 0, Nat.le_refl 0⟩ ⟨rfl, rfl, rfl, rfl⟩
def f_X1_addLand (mi : Mi) (c : Nat) (x1 : Int32) : Option (Mi) := some (u2 (u2 mi c 3 ((mi c 3) + x1)) c 6 (((u2 mi c 3 ((mi c 3) + x1)) c 6) + 1))
set_option maxRecDepth 20000 in
set_option maxHeartbeats 4000000 in
theorem c_X1_addLand {g : Gm} {V : Vw} {mi : Mi} {ml : Ml} {c : Nat} {x1 : Int32} (hC : LayC V c) {r : Mi} (h : f_X1_addLand mi c x1 = some r) : DoV g YX1_addLand V [rf g c, .int x1] mi ml r ml := by
  unfold f_X1_addLand at h
  refine does_of (L := [some (rf g c), some (.int x1)]) okX1_addLand rfl (Nat.le_of_ble_eq_true rfl) rfl ?_
  show At g YX1_addLand _ (qm g YX1_addLand (pV V r ml)) V (0, 0) 0 _ [] mi ml
  refine a_aload iX1_addLand_0 rfl <| a_dup iX1_addLand_1 rfl <| a_geti iX1_addLand_2 hC.1 rfl <| a_iload iX1_addLand_5 rfl <| a_iadd iX1_addLand_6 <| a_puti iX1_addLand_7 hC.1 rfl rfl rfl <| a_aload iX1_addLand_10 rfl <| a_dup iX1_addLand_11 rfl <| ?_
  refine a_geti iX1_addLand_12 hC.1 rfl <| a_const iX1_addLand_15 <| a_iadd iX1_addLand_16 <| a_puti iX1_addLand_17 hC.1 rfl rfl rfl <| ?_
  obtain rfl := Option.some.inj h
  exact a_vret iX1_addLand_20 rfl ⟨Nat.le_refl 0, Nat.le_refl 0⟩ ⟨rfl, rfl, rfl, rfl⟩
def f_X1_addWant (mi : Mi) (c : Nat) (x1 x2 x3 : Int32) : Option (Mi) := if 10 ≤ (mi c 7) then (some mi) else (if inb (mi c 7) 10 then if inb ((u2 mi (c + 4) (mi c 7).toNatClampNeg x1) c 7) 10 then nx (u2 (u2 mi (c + 4) (mi c 7).toNatClampNeg x1) (c + 5) ((u2 mi (c + 4) (mi c 7).toNatClampNeg x1) c 7).toNatClampNeg x2) (fun mi5 => if inb (mi5 c 7) 10 then some (u2 (u2 mi5 (c + 6) (mi5 c 7).toNatClampNeg x3) c 7 (((u2 mi5 (c + 6) (mi5 c 7).toNatClampNeg x3) c 7) + 1)) else none) else none else none)
set_option maxRecDepth 20000 in
set_option maxHeartbeats 4000000 in
theorem c_X1_addWant {g : Gm} {V : Vw} {mi : Mi} {ml : Ml} {c : Nat} {x1 x2 x3 : Int32} (hC : LayC V c) {r : Mi} (h : f_X1_addWant mi c x1 x2 x3 = some r) : DoV g YX1_addWant V [rf g c, .int x1, .int x2, .int x3] mi ml r ml := by
  unfold f_X1_addWant at h
  refine does_of (L := [some (rf g c), some (.int x1), some (.int x2), some (.int x3)]) okX1_addWant rfl (Nat.le_of_ble_eq_true rfl) rfl ?_
  show At g YX1_addWant _ (qm g YX1_addWant (pV V r ml)) V (0, 0) 0 _ [] mi ml
  refine a_aload iX1_addWant_0 rfl <| a_geti iX1_addWant_1 hC.1 rfl <| a_const iX1_addWant_4 <| ?_
  refine a_icmp_ge iX1_addWant_6 (fun hc1 => ?_) (fun hc1 => ?_)
  · have h := ot hc1 h
    obtain rfl := Option.some.inj h
    exact a_vret iX1_addWant_49 rfl ⟨Nat.le_refl 0, Nat.le_refl 0⟩ ⟨rfl, rfl, rfl, rfl⟩
  · have h := oe hc1 h
    refine a_aload iX1_addWant_9 rfl <| a_getr iX1_addWant_10 hC.1 rfl hC.2.2.2.2.2.2.2.2.2.2.1 <| a_aload iX1_addWant_13 rfl <| a_geti iX1_addWant_14 hC.1 rfl <| a_iload iX1_addWant_17 rfl <| ?_
    obtain ⟨hg2, h⟩ := og h
    refine a_iast iX1_addWant_18 hC.2.2.2.2.1 (inb_vp hg2) <| a_aload iX1_addWant_19 rfl <| a_getr iX1_addWant_20 hC.1 rfl hC.2.2.2.2.2.2.2.2.2.2.2.1 <| a_aload iX1_addWant_23 rfl <| a_geti iX1_addWant_24 hC.1 rfl <| a_iload iX1_addWant_27 rfl <| ?_
    obtain ⟨hg3, h⟩ := og h
    refine a_iast iX1_addWant_28 hC.2.2.2.2.2.1 (inb_vp hg3) <| ?_
    obtain ⟨mi5, hm4, h⟩ := onx h
    refine a_mem hm4 <| a_aload iX1_addWant_29 rfl <| a_getr iX1_addWant_30 hC.1 rfl hC.2.2.2.2.2.2.2.2.2.2.2.2 <| a_aload iX1_addWant_33 rfl <| a_geti iX1_addWant_34 hC.1 rfl <| a_iload iX1_addWant_37 rfl <| ?_
    obtain ⟨hg6, h⟩ := og h
    refine a_iast iX1_addWant_38 hC.2.2.2.2.2.2.1 (inb_vp hg6) <| a_aload iX1_addWant_39 rfl <| a_dup iX1_addWant_40 rfl <| a_geti iX1_addWant_41 hC.1 rfl <| a_const iX1_addWant_44 <| a_iadd iX1_addWant_45 <| a_puti iX1_addWant_46 hC.1 rfl rfl rfl <| ?_
    obtain rfl := Option.some.inj h
    exact a_vret iX1_addWant_49 rfl ⟨Nat.le_refl 0, Nat.le_refl 0⟩ ⟨rfl, rfl, rfl, rfl⟩
def f_X1_seasonOf (mi : Mi) (c : Nat) (x1 : Int32) : Option (Int32) := if (mi c 4) ≤ 0 then (some 4) else (if x1 < 0 then (some 4) else (if ¬ (mi c 4) = 0 then if inb (x1 - x1 / (mi c 4) * (mi c 4)) 12 then some (mi (c + 1) (x1 - x1 / (mi c 4) * (mi c 4)).toNatClampNeg) else none else none))
set_option maxRecDepth 20000 in
set_option maxHeartbeats 4000000 in
theorem c_X1_seasonOf {g : Gm} {V : Vw} {mi : Mi} {ml : Ml} {c : Nat} {x1 : Int32} (hC : LayC V c) {r : Int32} (h : f_X1_seasonOf mi c x1 = some r) : DoI g YX1_seasonOf V [rf g c, .int x1] mi ml r mi ml := by
  unfold f_X1_seasonOf at h
  refine does_of (L := [some (rf g c), some (.int x1)]) okX1_seasonOf rfl (Nat.le_of_ble_eq_true rfl) rfl ?_
  show At g YX1_seasonOf _ (qm g YX1_seasonOf (pI V r mi ml)) V (0, 0) 0 _ [] mi ml
  refine a_aload iX1_seasonOf_0 rfl <| a_geti iX1_seasonOf_1 hC.1 rfl <| ?_
  refine a_if_le iX1_seasonOf_4 (fun hc1 => ?_) (fun hc1 => ?_)
  · have h := ot hc1 h
    refine a_const iX1_seasonOf_25 <| ?_
    obtain rfl := Option.some.inj h
    exact a_iret iX1_seasonOf_26 rfl ⟨Nat.le_refl 0, Nat.le_refl 0⟩ ⟨rfl, rfl, rfl, rfl⟩
  · have h := oe hc1 h
    refine a_iload iX1_seasonOf_7 rfl <| ?_
    refine a_if_lt iX1_seasonOf_8 (fun hc2 => ?_) (fun hc2 => ?_)
    · have h := ot hc2 h
      refine a_const iX1_seasonOf_25 <| ?_
      obtain rfl := Option.some.inj h
      exact a_iret iX1_seasonOf_26 rfl ⟨Nat.le_refl 0, Nat.le_refl 0⟩ ⟨rfl, rfl, rfl, rfl⟩
    · have h := oe hc2 h
      refine a_aload iX1_seasonOf_11 rfl <| a_getr iX1_seasonOf_12 hC.1 rfl hC.2.2.2.2.2.2.2.1 <| a_iload iX1_seasonOf_15 rfl <| a_aload iX1_seasonOf_16 rfl <| a_geti iX1_seasonOf_17 hC.1 rfl <| ?_
      obtain ⟨hg3, h⟩ := og h
      refine a_irem iX1_seasonOf_20 hg3 <| ?_
      obtain ⟨hg4, h⟩ := og h
      refine a_iald iX1_seasonOf_21 hC.2.1 (inb_vp hg4) <| a_goto iX1_seasonOf_22 <| ?_
      obtain rfl := Option.some.inj h
      exact a_iret iX1_seasonOf_26 rfl ⟨Nat.le_refl 0, Nat.le_refl 0⟩ ⟨rfl, rfl, rfl, rfl⟩
def f_X1_lightFrom (mi : Mi) (c : Nat) (x1 : Int32) : Option (Int32) := (f_X1_seasonOf mi c x1).bind (fun r1 => some (if 1 < (if (((mi c 1) + 4) - r1) < 11 then (((mi c 1) + 4) - r1) else 11) then (if (((mi c 1) + 4) - r1) < 11 then (((mi c 1) + 4) - r1) else 11) else 1))
set_option maxRecDepth 20000 in
set_option maxHeartbeats 4000000 in
theorem c_X1_lightFrom {g : Gm} {V : Vw} {mi : Mi} {ml : Ml} {c : Nat} {x1 : Int32} (hC : LayC V c) {r : Int32} (h : f_X1_lightFrom mi c x1 = some r) : DoI g YX1_lightFrom V [rf g c, .int x1] mi ml r mi ml := by
  unfold f_X1_lightFrom at h
  refine does_of (L := [some (rf g c), some (.int x1), none]) okX1_lightFrom rfl (Nat.le_of_ble_eq_true rfl) rfl ?_
  show At g YX1_lightFrom _ (qm g YX1_lightFrom (pI V r mi ml)) V (0, 0) 0 _ [] mi ml
  refine a_aload iX1_lightFrom_0 rfl <| a_geti iX1_lightFrom_1 hC.1 rfl <| a_const iX1_lightFrom_4 <| a_iadd iX1_lightFrom_5 <| a_aload iX1_lightFrom_6 rfl <| a_iload iX1_lightFrom_7 rfl <| ?_
  obtain ⟨r1, he2, h⟩ := ob h
  refine a_cVi iX1_lightFrom_8 okX1_seasonOf inX1_seasonOf ⟨rfl, rfl⟩ hC.1 (c_X1_seasonOf hC he2) rfl rfl (Nat.le_of_ble_eq_true rfl) ⟨Nat.le_refl 0, Nat.le_refl 0⟩ <| a_isub iX1_lightFrom_11 <| a_istore iX1_lightFrom_12 (by decide) rfl <| a_const iX1_lightFrom_13 <| a_const iX1_lightFrom_14 <| a_iload iX1_lightFrom_16 rfl <| a_min iX1_lightFrom_17 ⟨by decide, Nat.le_of_ble_eq_true rfl⟩ ⟨Nat.le_refl 0, Nat.le_refl 0⟩ <| a_max iX1_lightFrom_20 ⟨by decide, Nat.le_of_ble_eq_true rfl⟩ ⟨Nat.le_refl 0, Nat.le_refl 0⟩ <| ?_
  obtain rfl := Option.some.inj h
  exact a_iret iX1_lightFrom_23 rfl ⟨Nat.le_refl 0, Nat.le_refl 0⟩ ⟨rfl, rfl, rfl, rfl⟩
def f_X1_lightTo (mi : Mi) (c : Nat) (x1 : Int32) : Option (Int32) := (f_X1_seasonOf mi c x1).bind (fun r1 => some (if 13 < (if (((mi c 2) + r1) - 4) < 23 then (((mi c 2) + r1) - 4) else 23) then (if (((mi c 2) + r1) - 4) < 23 then (((mi c 2) + r1) - 4) else 23) else 13))
set_option maxRecDepth 20000 in
set_option maxHeartbeats 4000000 in
theorem c_X1_lightTo {g : Gm} {V : Vw} {mi : Mi} {ml : Ml} {c : Nat} {x1 : Int32} (hC : LayC V c) {r : Int32} (h : f_X1_lightTo mi c x1 = some r) : DoI g YX1_lightTo V [rf g c, .int x1] mi ml r mi ml := by
  unfold f_X1_lightTo at h
  refine does_of (L := [some (rf g c), some (.int x1), none]) okX1_lightTo rfl (Nat.le_of_ble_eq_true rfl) rfl ?_
  show At g YX1_lightTo _ (qm g YX1_lightTo (pI V r mi ml)) V (0, 0) 0 _ [] mi ml
  refine a_aload iX1_lightTo_0 rfl <| a_geti iX1_lightTo_1 hC.1 rfl <| a_aload iX1_lightTo_4 rfl <| a_iload iX1_lightTo_5 rfl <| ?_
  obtain ⟨r1, he2, h⟩ := ob h
  refine a_cVi iX1_lightTo_6 okX1_seasonOf inX1_seasonOf ⟨rfl, rfl⟩ hC.1 (c_X1_seasonOf hC he2) rfl rfl (Nat.le_of_ble_eq_true rfl) ⟨Nat.le_refl 0, Nat.le_refl 0⟩ <| a_iadd iX1_lightTo_9 <| a_const iX1_lightTo_10 <| a_isub iX1_lightTo_11 <| a_istore iX1_lightTo_12 (by decide) rfl <| a_const iX1_lightTo_13 <| a_const iX1_lightTo_15 <| a_iload iX1_lightTo_17 rfl <| ?_
  refine a_min iX1_lightTo_18 ⟨by decide, Nat.le_of_ble_eq_true rfl⟩ ⟨Nat.le_refl 0, Nat.le_refl 0⟩ <| a_max iX1_lightTo_21 ⟨by decide, Nat.le_of_ble_eq_true rfl⟩ ⟨Nat.le_refl 0, Nat.le_refl 0⟩ <| ?_
  obtain rfl := Option.some.inj h
  exact a_iret iX1_lightTo_24 rfl ⟨Nat.le_refl 0, Nat.le_refl 0⟩ ⟨rfl, rfl, rfl, rfl⟩
def f_X1_darkHours (mi : Mi) (c : Nat) (x1 : Int32) : Option (Int32) := (f_X1_lightTo mi c x1).bind (fun r1 => (f_X1_lightFrom mi c x1).bind (fun r3 => some ((24 - r1) + r3)))
set_option maxRecDepth 20000 in
set_option maxHeartbeats 4000000 in
theorem c_X1_darkHours {g : Gm} {V : Vw} {mi : Mi} {ml : Ml} {c : Nat} {x1 : Int32} (hC : LayC V c) {r : Int32} (h : f_X1_darkHours mi c x1 = some r) : DoI g YX1_darkHours V [rf g c, .int x1] mi ml r mi ml := by
  unfold f_X1_darkHours at h
  refine does_of (L := [some (rf g c), some (.int x1)]) okX1_darkHours rfl (Nat.le_of_ble_eq_true rfl) rfl ?_
  show At g YX1_darkHours _ (qm g YX1_darkHours (pI V r mi ml)) V (0, 0) 0 _ [] mi ml
  refine a_const iX1_darkHours_0 <| a_aload iX1_darkHours_2 rfl <| a_iload iX1_darkHours_3 rfl <| ?_
  obtain ⟨r1, he2, h⟩ := ob h
  refine a_cVi iX1_darkHours_4 okX1_lightTo inX1_lightTo ⟨rfl, rfl⟩ hC.1 (c_X1_lightTo hC he2) rfl rfl (Nat.le_of_ble_eq_true rfl) ⟨Nat.le_refl 0, Nat.le_refl 0⟩ <| a_isub iX1_darkHours_7 <| a_aload iX1_darkHours_8 rfl <| a_iload iX1_darkHours_9 rfl <| ?_
  obtain ⟨r3, he4, h⟩ := ob h
  refine a_cVi iX1_darkHours_10 okX1_lightFrom inX1_lightFrom ⟨rfl, rfl⟩ hC.1 (c_X1_lightFrom hC he4) rfl rfl (Nat.le_of_ble_eq_true rfl) ⟨Nat.le_refl 0, Nat.le_refl 0⟩ <| a_iadd iX1_darkHours_13 <| ?_
  obtain rfl := Option.some.inj h
  exact a_iret iX1_darkHours_14 rfl ⟨Nat.le_refl 0, Nat.le_refl 0⟩ ⟨rfl, rfl, rfl, rfl⟩
def lp_X1_darkPoorest_4 (c : Nat) (mi : Mi) (K : Int32 → Int32 → Option (Int32)) : Nat → Int32 → Int32 → Option (Int32)
  | 0, _, _ => none
  | n + 1, v1, v2 => if (mi c 4) ≤ v2 then (K v1 v2) else ((f_X1_darkHours mi c v2).bind (fun r2 => (f_X1_darkHours mi c v1).bind (fun r4 => if r4 ≤ r2 then (lp_X1_darkPoorest_4 c mi K n v1 (v2 + 1)) else (lp_X1_darkPoorest_4 c mi K n v2 (v2 + 1)))))
def f_X1_darkPoorest (mi : Mi) (c : Nat) : Option (Int32) := lp_X1_darkPoorest_4 c mi (fun v1_7 v2_7 => some v1_7) FU 0 1
set_option maxRecDepth 20000 in
set_option maxHeartbeats 4000000 in
theorem w_X1_darkPoorest_4 {g : Gm} {V : Vw} {E : Ex} {c : Nat} {mi : Mi} {ml : Ml} (hC : LayC V c) {K : Int32 → Int32 → Option (Int32)} {r : Int32} (hK : ∀ (v1 : Int32) (v2 : Int32), K v1 v2 = some r → At g YX1_darkPoorest E (qm g YX1_darkPoorest (pI V r mi ml)) V (0, 0) 33 [some (rf g c), some (.int v1), some (.int v2)] [] mi ml) : ∀ (n : Nat) (v1 : Int32) (v2 : Int32), lp_X1_darkPoorest_4 c mi K n v1 v2 = some r → At g YX1_darkPoorest E (qm g YX1_darkPoorest (pI V r mi ml)) V (0, 0) 4 [some (rf g c), some (.int v1), some (.int v2)] [] mi ml := by
  intro n
  induction n with
  | zero => intro v1 v2 h; exact oz h
  | succ n ih =>
    intro v1 v2 h
    unfold lp_X1_darkPoorest_4 at h
    refine a_iload iX1_darkPoorest_4 rfl <| a_aload iX1_darkPoorest_5 rfl <| a_geti iX1_darkPoorest_6 hC.1 rfl <| ?_
    refine a_icmp_ge iX1_darkPoorest_9 (fun hc1 => ?_) (fun hc1 => ?_)
    · have h := ot hc1 h
      exact a_sub (L' := [some (rf g c), some (.int v1), some (.int v2)]) (by exact ⟨rfl, ⟨rfl, ⟨rfl, trivial⟩⟩⟩) (hK _ _ h)
    · have h := oe hc1 h
      refine a_aload iX1_darkPoorest_12 rfl <| a_iload iX1_darkPoorest_13 rfl <| ?_
      obtain ⟨r2, he3, h⟩ := ob h
      refine a_cVi iX1_darkPoorest_14 okX1_darkHours inX1_darkHours ⟨rfl, rfl⟩ hC.1 (c_X1_darkHours hC he3) rfl rfl (Nat.le_of_ble_eq_true rfl) ⟨Nat.le_refl 0, Nat.le_refl 0⟩ <| a_aload iX1_darkPoorest_17 rfl <| a_iload iX1_darkPoorest_18 rfl <| ?_
      obtain ⟨r4, he5, h⟩ := ob h
      refine a_cVi iX1_darkPoorest_19 okX1_darkHours inX1_darkHours ⟨rfl, rfl⟩ hC.1 (c_X1_darkHours hC he5) rfl rfl (Nat.le_of_ble_eq_true rfl) ⟨Nat.le_refl 0, Nat.le_refl 0⟩ <| ?_
      refine a_icmp_ge iX1_darkPoorest_22 (fun hc6 => ?_) (fun hc6 => ?_)
      · have h := ot hc6 h
        refine a_iinc iX1_darkPoorest_27 rfl (by decide) rfl <| a_goto iX1_darkPoorest_30 <| ?_
        exact a_sub (L' := [some (rf g c), some (.int v1), some (.int (v2 + 1))]) (by exact ⟨rfl, ⟨rfl, ⟨rfl, trivial⟩⟩⟩) (ih _ _ h)
      · have h := oe hc6 h
        refine a_iload iX1_darkPoorest_25 rfl <| a_istore iX1_darkPoorest_26 (by decide) rfl <| a_iinc iX1_darkPoorest_27 rfl (by decide) rfl <| a_goto iX1_darkPoorest_30 <| ?_
        exact a_sub (L' := [some (rf g c), some (.int v2), some (.int (v2 + 1))]) (by exact ⟨rfl, ⟨rfl, ⟨rfl, trivial⟩⟩⟩) (ih _ _ h)
set_option maxRecDepth 20000 in
set_option maxHeartbeats 4000000 in
theorem c_X1_darkPoorest {g : Gm} {V : Vw} {mi : Mi} {ml : Ml} {c : Nat} (hC : LayC V c) {r : Int32} (h : f_X1_darkPoorest mi c = some r) : DoI g YX1_darkPoorest V [rf g c] mi ml r mi ml := by
  unfold f_X1_darkPoorest at h
  refine does_of (L := [some (rf g c), none, none]) okX1_darkPoorest rfl (Nat.le_of_ble_eq_true rfl) rfl ?_
  show At g YX1_darkPoorest _ (qm g YX1_darkPoorest (pI V r mi ml)) V (0, 0) 0 _ [] mi ml
  refine a_const iX1_darkPoorest_0 <| a_istore iX1_darkPoorest_1 (by decide) rfl <| a_const iX1_darkPoorest_2 <| a_istore iX1_darkPoorest_3 (by decide) rfl <| ?_
  refine a_sub (L' := [some (rf g c), some (.int 0), some (.int 1)]) (by exact ⟨rfl, ⟨rfl, ⟨rfl, trivial⟩⟩⟩) (w_X1_darkPoorest_4 hC (fun v1_7 v2_7 h => ?_) FU _ _ h)
  refine a_iload iX1_darkPoorest_33 rfl <| ?_
  obtain rfl := Option.some.inj h
  exact a_iret iX1_darkPoorest_34 rfl ⟨Nat.le_refl 0, Nat.le_refl 0⟩ ⟨rfl, rfl, rfl, rfl⟩
def f_X1_holderByLight (mi : Mi) (c : Nat) (x1 : Int32) : Option (Int32) := (f_X1_lightFrom mi c (x1 / 24)).bind (fun r1 => if (x1 - x1 / 24 * 24) < r1 then (some 2) else ((f_X1_lightTo mi c (x1 / 24)).bind (fun r4 => if (x1 - x1 / 24 * 24) < r4 then (if 12 ≤ (x1 - x1 / 24 * 24) then (some 1) else (some 0)) else (some 2))))
set_option maxRecDepth 20000 in
set_option maxHeartbeats 4000000 in
theorem c_X1_holderByLight {g : Gm} {V : Vw} {mi : Mi} {ml : Ml} {c : Nat} {x1 : Int32} (hC : LayC V c) {r : Int32} (h : f_X1_holderByLight mi c x1 = some r) : DoI g YX1_holderByLight V [rf g c, .int x1] mi ml r mi ml := by
  unfold f_X1_holderByLight at h
  refine does_of (L := [some (rf g c), some (.int x1), none, none]) okX1_holderByLight rfl (Nat.le_of_ble_eq_true rfl) rfl ?_
  show At g YX1_holderByLight _ (qm g YX1_holderByLight (pI V r mi ml)) V (0, 0) 0 _ [] mi ml
  refine a_iload iX1_holderByLight_0 rfl <| a_const iX1_holderByLight_1 <| a_idiv iX1_holderByLight_3 (by decide) <| a_istore iX1_holderByLight_4 (by decide) rfl <| a_iload iX1_holderByLight_5 rfl <| a_const iX1_holderByLight_6 <| a_irem iX1_holderByLight_8 (by decide) <| a_istore iX1_holderByLight_9 (by decide) rfl <| ?_
  refine a_iload iX1_holderByLight_10 rfl <| a_aload iX1_holderByLight_11 rfl <| a_iload iX1_holderByLight_12 rfl <| ?_
  obtain ⟨r1, he2, h⟩ := ob h
  refine a_cVi iX1_holderByLight_13 okX1_lightFrom inX1_lightFrom ⟨rfl, rfl⟩ hC.1 (c_X1_lightFrom hC he2) rfl rfl (Nat.le_of_ble_eq_true rfl) ⟨Nat.le_refl 0, Nat.le_refl 0⟩ <| ?_
  refine a_icmp_lt iX1_holderByLight_16 (fun hc3 => ?_) (fun hc3 => ?_)
  · have h := ot hc3 h
    refine a_const iX1_holderByLight_28 <| ?_
    obtain rfl := Option.some.inj h
    exact a_iret iX1_holderByLight_29 rfl ⟨Nat.le_refl 0, Nat.le_refl 0⟩ ⟨rfl, rfl, rfl, rfl⟩
  · have h := oe hc3 h
    refine a_iload iX1_holderByLight_19 rfl <| a_aload iX1_holderByLight_20 rfl <| a_iload iX1_holderByLight_21 rfl <| ?_
    obtain ⟨r4, he5, h⟩ := ob h
    refine a_cVi iX1_holderByLight_22 okX1_lightTo inX1_lightTo ⟨rfl, rfl⟩ hC.1 (c_X1_lightTo hC he5) rfl rfl (Nat.le_of_ble_eq_true rfl) ⟨Nat.le_refl 0, Nat.le_refl 0⟩ <| ?_
    refine a_icmp_lt iX1_holderByLight_25 (fun hc6 => ?_) (fun hc6 => ?_)
    · have h := ot hc6 h
      refine a_iload iX1_holderByLight_30 rfl <| a_const iX1_holderByLight_31 <| ?_
      refine a_icmp_ge iX1_holderByLight_33 (fun hc7 => ?_) (fun hc7 => ?_)
      · have h := ot hc7 h
        refine a_const iX1_holderByLight_40 <| ?_
        obtain rfl := Option.some.inj h
        exact a_iret iX1_holderByLight_41 rfl ⟨Nat.le_refl 0, Nat.le_refl 0⟩ ⟨rfl, rfl, rfl, rfl⟩
      · have h := oe hc7 h
        refine a_const iX1_holderByLight_36 <| a_goto iX1_holderByLight_37 <| ?_
        obtain rfl := Option.some.inj h
        exact a_iret iX1_holderByLight_41 rfl ⟨Nat.le_refl 0, Nat.le_refl 0⟩ ⟨rfl, rfl, rfl, rfl⟩
    · have h := oe hc6 h
      refine a_const iX1_holderByLight_28 <| ?_
      obtain rfl := Option.some.inj h
      exact a_iret iX1_holderByLight_29 rfl ⟨Nat.le_refl 0, Nat.le_refl 0⟩ ⟨rfl, rfl, rfl, rfl⟩
def f_X1_behindHour (x0 x1 x2 x3 : Int32) : Option (Int32) := if x0 = 0 then (if (x2 - x2 / 3 * 3) = 0 then (if x3 = 2 then (some x1) else (some (if (x1 + 1) < 9 then (x1 + 1) else 9))) else (some x1)) else (if x0 = 1 then (if x3 = 2 then (some (if 0 < (x1 - 1) then (x1 - 1) else 0)) else (some x1)) else (if x0 = 2 then (some x1) else (if x0 = 3 then (if (x2 - x2 / 24 * 24) = 12 then (some 0) else (some x1)) else (some x1))))
set_option maxRecDepth 20000 in
set_option maxHeartbeats 4000000 in
theorem c_X1_behindHour {g : Gm} {V : Vw} {mi : Mi} {ml : Ml} {x0 x1 x2 x3 : Int32}  {r : Int32} (h : f_X1_behindHour x0 x1 x2 x3 = some r) : DoI g YX1_behindHour V [.int x0, .int x1, .int x2, .int x3] mi ml r mi ml := by
  unfold f_X1_behindHour at h
  refine does_of (L := [some (.int x0), some (.int x1), some (.int x2), some (.int x3)]) okX1_behindHour rfl (Nat.le_of_ble_eq_true rfl) rfl ?_
  show At g YX1_behindHour _ (qm g YX1_behindHour (pI V r mi ml)) V (0, 0) 0 _ [] mi ml
  refine a_iload iX1_behindHour_0 rfl <| ?_
  by_cases hc1 : x0 = 0
  · have h := ot hc1 h
    refine a_tbv (tgt := 32) iX1_behindHour_1 hc1 (by decide) ?_
    refine a_iload iX1_behindHour_32 rfl <| a_const iX1_behindHour_33 <| a_irem iX1_behindHour_34 (by decide) <| ?_
    refine a_if_ne iX1_behindHour_35 (fun hc2 => ?_) (fun hc2 => ?_)
    · have h := oe hc2 h
      refine a_iload iX1_behindHour_54 rfl <| ?_
      obtain rfl := Option.some.inj h
      exact a_iret iX1_behindHour_55 rfl ⟨Nat.le_refl 0, Nat.le_refl 0⟩ ⟨rfl, rfl, rfl, rfl⟩
    · have h := ot hc2 h
      refine a_iload iX1_behindHour_38 rfl <| a_const iX1_behindHour_39 <| ?_
      refine a_icmp_eq iX1_behindHour_40 (fun hc3 => ?_) (fun hc3 => ?_)
      · have h := ot hc3 h
        refine a_iload iX1_behindHour_54 rfl <| ?_
        obtain rfl := Option.some.inj h
        exact a_iret iX1_behindHour_55 rfl ⟨Nat.le_refl 0, Nat.le_refl 0⟩ ⟨rfl, rfl, rfl, rfl⟩
      · have h := oe hc3 h
        refine a_const iX1_behindHour_43 <| a_iload iX1_behindHour_45 rfl <| a_const iX1_behindHour_46 <| a_iadd iX1_behindHour_47 <| a_min iX1_behindHour_48 ⟨by decide, Nat.le_of_ble_eq_true rfl⟩ ⟨Nat.le_refl 0, Nat.le_refl 0⟩ <| a_goto iX1_behindHour_51 <| ?_
        obtain rfl := Option.some.inj h
        exact a_iret iX1_behindHour_55 rfl ⟨Nat.le_refl 0, Nat.le_refl 0⟩ ⟨rfl, rfl, rfl, rfl⟩
  · have h := oe hc1 h
    by_cases hc4 : x0 = 1
    · have h := ot hc4 h
      refine a_tbv (tgt := 56) iX1_behindHour_1 hc4 (by decide) ?_
      refine a_iload iX1_behindHour_56 rfl <| a_const iX1_behindHour_57 <| ?_
      refine a_icmp_ne iX1_behindHour_58 (fun hc5 => ?_) (fun hc5 => ?_)
      · have h := oe hc5 h
        refine a_iload iX1_behindHour_71 rfl <| ?_
        obtain rfl := Option.some.inj h
        exact a_iret iX1_behindHour_72 rfl ⟨Nat.le_refl 0, Nat.le_refl 0⟩ ⟨rfl, rfl, rfl, rfl⟩
      · have h := ot hc5 h
        refine a_const iX1_behindHour_61 <| a_iload iX1_behindHour_62 rfl <| a_const iX1_behindHour_63 <| a_isub iX1_behindHour_64 <| a_max iX1_behindHour_65 ⟨by decide, Nat.le_of_ble_eq_true rfl⟩ ⟨Nat.le_refl 0, Nat.le_refl 0⟩ <| a_goto iX1_behindHour_68 <| ?_
        obtain rfl := Option.some.inj h
        exact a_iret iX1_behindHour_72 rfl ⟨Nat.le_refl 0, Nat.le_refl 0⟩ ⟨rfl, rfl, rfl, rfl⟩
    · have h := oe hc4 h
      by_cases hc6 : x0 = 2
      · have h := ot hc6 h
        refine a_tbv (tgt := 88) iX1_behindHour_1 hc6 (by decide) ?_
        refine a_iload iX1_behindHour_88 rfl <| ?_
        obtain rfl := Option.some.inj h
        exact a_iret iX1_behindHour_89 rfl ⟨Nat.le_refl 0, Nat.le_refl 0⟩ ⟨rfl, rfl, rfl, rfl⟩
      · have h := oe hc6 h
        by_cases hc7 : x0 = 3
        · have h := ot hc7 h
          refine a_tbv (tgt := 73) iX1_behindHour_1 hc7 (by decide) ?_
          refine a_iload iX1_behindHour_73 rfl <| a_const iX1_behindHour_74 <| a_irem iX1_behindHour_76 (by decide) <| a_const iX1_behindHour_77 <| ?_
          refine a_icmp_ne iX1_behindHour_79 (fun hc8 => ?_) (fun hc8 => ?_)
          · have h := oe hc8 h
            refine a_iload iX1_behindHour_86 rfl <| ?_
            obtain rfl := Option.some.inj h
            exact a_iret iX1_behindHour_87 rfl ⟨Nat.le_refl 0, Nat.le_refl 0⟩ ⟨rfl, rfl, rfl, rfl⟩
          · have h := ot hc8 h
            refine a_const iX1_behindHour_82 <| a_goto iX1_behindHour_83 <| ?_
            obtain rfl := Option.some.inj h
            exact a_iret iX1_behindHour_87 rfl ⟨Nat.le_refl 0, Nat.le_refl 0⟩ ⟨rfl, rfl, rfl, rfl⟩
        · have h := oe hc7 h
          refine a_tbd (n := 4) iX1_behindHour_1 (by decide) ⟨⟨⟨⟨trivial, hc1⟩, hc4⟩, hc6⟩, hc7⟩ ?_
          refine a_iload iX1_behindHour_88 rfl <| ?_
          obtain rfl := Option.some.inj h
          exact a_iret iX1_behindHour_89 rfl ⟨Nat.le_refl 0, Nat.le_refl 0⟩ ⟨rfl, rfl, rfl, rfl⟩
def lp_X1_valueAfter_6 (c : Nat) (mi : Mi) (v1 : Int32) (v2 : Int32) (v3 : Int32) (v4 : Int32) (v5 : Int32) (K : Int32 → Int32 → Option (Int32)) : Nat → Int32 → Int32 → Option (Int32)
  | 0, _, _ => none
  | n + 1, v6, v7 => if v4 ≤ v7 then (K v6 v7) else (if v5 ≤ v7 then ((f_X1_holderByLight mi c v7).bind (fun r3 => (f_X1_behindHour v1 v6 v7 r3).bind (fun r5 => lp_X1_valueAfter_6 c mi v1 v2 v3 v4 v5 K n r5 (v7 + 1)))) else ((f_X1_behindHour v1 v6 v7 2).bind (fun r7 => lp_X1_valueAfter_6 c mi v1 v2 v3 v4 v5 K n r7 (v7 + 1))))
def f_X1_valueAfter (mi : Mi) (c : Nat) (x1 x2 x3 x4 x5 : Int32) : Option (Int32) := lp_X1_valueAfter_6 c mi x1 x2 x3 x4 x5 (fun v6_9 v7_9 => some v6_9) FU x2 x3
set_option maxRecDepth 20000 in
set_option maxHeartbeats 4000000 in
theorem w_X1_valueAfter_6 {g : Gm} {V : Vw} {E : Ex} {c : Nat} {mi : Mi} {ml : Ml} {v1 v2 v3 v4 v5 : Int32} (hC : LayC V c) {K : Int32 → Int32 → Option (Int32)} {r : Int32} (hK : ∀ (v6 : Int32) (v7 : Int32), K v6 v7 = some r → At g YX1_valueAfter E (qm g YX1_valueAfter (pI V r mi ml)) V (0, 0) 50 [some (rf g c), some (.int v1), some (.int v2), some (.int v3), some (.int v4), some (.int v5), some (.int v6), some (.int v7), none] [] mi ml) : ∀ (n : Nat) (v6 : Int32) (v7 : Int32), lp_X1_valueAfter_6 c mi v1 v2 v3 v4 v5 K n v6 v7 = some r → At g YX1_valueAfter E (qm g YX1_valueAfter (pI V r mi ml)) V (0, 0) 6 [some (rf g c), some (.int v1), some (.int v2), some (.int v3), some (.int v4), some (.int v5), some (.int v6), some (.int v7), none] [] mi ml := by
  intro n
  induction n with
  | zero => intro v6 v7 h; exact oz h
  | succ n ih =>
    intro v6 v7 h
    unfold lp_X1_valueAfter_6 at h
    refine a_iload iX1_valueAfter_6 rfl <| a_iload iX1_valueAfter_8 rfl <| ?_
    refine a_icmp_ge iX1_valueAfter_10 (fun hc1 => ?_) (fun hc1 => ?_)
    · have h := ot hc1 h
      exact a_sub (L' := [some (rf g c), some (.int v1), some (.int v2), some (.int v3), some (.int v4), some (.int v5), some (.int v6), some (.int v7), none]) (by exact ⟨rfl, ⟨rfl, ⟨rfl, ⟨rfl, ⟨rfl, ⟨rfl, ⟨rfl, ⟨rfl, trivial⟩⟩⟩⟩⟩⟩⟩⟩) (hK _ _ h)
    · have h := oe hc1 h
      refine a_iload iX1_valueAfter_13 rfl <| a_iload iX1_valueAfter_15 rfl <| ?_
      refine a_icmp_ge iX1_valueAfter_17 (fun hc2 => ?_) (fun hc2 => ?_)
      · have h := ot hc2 h
        refine a_aload iX1_valueAfter_24 rfl <| a_iload iX1_valueAfter_25 rfl <| ?_
        obtain ⟨r3, he4, h⟩ := ob h
        refine a_cVi iX1_valueAfter_27 okX1_holderByLight inX1_holderByLight ⟨rfl, rfl⟩ hC.1 (c_X1_holderByLight hC he4) rfl rfl (Nat.le_of_ble_eq_true rfl) ⟨Nat.le_refl 0, Nat.le_refl 0⟩ <| a_istore iX1_valueAfter_30 (by decide) rfl <| a_iload iX1_valueAfter_32 rfl <| a_iload iX1_valueAfter_33 rfl <| a_iload iX1_valueAfter_35 rfl <| a_iload iX1_valueAfter_37 rfl <| ?_
        obtain ⟨r5, he6, h⟩ := ob h
        refine a_cSi iX1_valueAfter_39 okX1_behindHour stX1_behindHour ⟨rfl, rfl⟩ (c_X1_behindHour he6) rfl rfl (Nat.le_of_ble_eq_true rfl) ⟨Nat.le_refl 0, Nat.le_refl 0⟩ <| a_istore iX1_valueAfter_42 (by decide) rfl <| a_iinc iX1_valueAfter_44 rfl (by decide) rfl <| a_goto iX1_valueAfter_47 <| ?_
        exact a_sub (L' := [some (rf g c), some (.int v1), some (.int v2), some (.int v3), some (.int v4), some (.int v5), some (.int r5), some (.int (v7 + 1)), none]) (by exact ⟨rfl, ⟨rfl, ⟨rfl, ⟨rfl, ⟨rfl, ⟨rfl, ⟨rfl, ⟨rfl, trivial⟩⟩⟩⟩⟩⟩⟩⟩) (ih _ _ h)
      · have h := oe hc2 h
        refine a_const iX1_valueAfter_20 <| a_goto iX1_valueAfter_21 <| a_istore iX1_valueAfter_30 (by decide) rfl <| a_iload iX1_valueAfter_32 rfl <| a_iload iX1_valueAfter_33 rfl <| a_iload iX1_valueAfter_35 rfl <| a_iload iX1_valueAfter_37 rfl <| ?_
        obtain ⟨r7, he8, h⟩ := ob h
        refine a_cSi iX1_valueAfter_39 okX1_behindHour stX1_behindHour ⟨rfl, rfl⟩ (c_X1_behindHour he8) rfl rfl (Nat.le_of_ble_eq_true rfl) ⟨Nat.le_refl 0, Nat.le_refl 0⟩ <| a_istore iX1_valueAfter_42 (by decide) rfl <| a_iinc iX1_valueAfter_44 rfl (by decide) rfl <| a_goto iX1_valueAfter_47 <| ?_
        exact a_sub (L' := [some (rf g c), some (.int v1), some (.int v2), some (.int v3), some (.int v4), some (.int v5), some (.int r7), some (.int (v7 + 1)), none]) (by exact ⟨rfl, ⟨rfl, ⟨rfl, ⟨rfl, ⟨rfl, ⟨rfl, ⟨rfl, ⟨rfl, trivial⟩⟩⟩⟩⟩⟩⟩⟩) (ih _ _ h)
set_option maxRecDepth 20000 in
set_option maxHeartbeats 4000000 in
theorem c_X1_valueAfter {g : Gm} {V : Vw} {mi : Mi} {ml : Ml} {c : Nat} {x1 x2 x3 x4 x5 : Int32} (hC : LayC V c) {r : Int32} (h : f_X1_valueAfter mi c x1 x2 x3 x4 x5 = some r) : DoI g YX1_valueAfter V [rf g c, .int x1, .int x2, .int x3, .int x4, .int x5] mi ml r mi ml := by
  unfold f_X1_valueAfter at h
  refine does_of (L := [some (rf g c), some (.int x1), some (.int x2), some (.int x3), some (.int x4), some (.int x5), none, none, none]) okX1_valueAfter rfl (Nat.le_of_ble_eq_true rfl) rfl ?_
  show At g YX1_valueAfter _ (qm g YX1_valueAfter (pI V r mi ml)) V (0, 0) 0 _ [] mi ml
  refine a_iload iX1_valueAfter_0 rfl <| a_istore iX1_valueAfter_1 (by decide) rfl <| a_iload iX1_valueAfter_3 rfl <| a_istore iX1_valueAfter_4 (by decide) rfl <| ?_
  refine a_sub (L' := [some (rf g c), some (.int x1), some (.int x2), some (.int x3), some (.int x4), some (.int x5), some (.int x2), some (.int x3), none]) (by exact ⟨rfl, ⟨rfl, ⟨rfl, ⟨rfl, ⟨rfl, ⟨rfl, ⟨rfl, ⟨rfl, trivial⟩⟩⟩⟩⟩⟩⟩⟩) (w_X1_valueAfter_6 hC (fun v6_9 v7_9 h => ?_) FU _ _ h)
  refine a_iload iX1_valueAfter_50 rfl <| ?_
  obtain rfl := Option.some.inj h
  exact a_iret iX1_valueAfter_52 rfl ⟨Nat.le_refl 0, Nat.le_refl 0⟩ ⟨rfl, rfl, rfl, rfl⟩
def lp_X1_wantsOf_4 (c : Nat) (mi : Mi) (v1 : Int32) (K : Int32 → Int32 → Option (Int32)) : Nat → Int32 → Int32 → Option (Int32)
  | 0, _, _ => none
  | n + 1, v2, v3 => if (mi c 7) ≤ v3 then (K v2 v3) else (if inb v3 10 then if (mi (c + 4) v3.toNatClampNeg) = v1 then (lp_X1_wantsOf_4 c mi v1 K n (v2 + 1) (v3 + 1)) else (lp_X1_wantsOf_4 c mi v1 K n v2 (v3 + 1)) else none)
def f_X1_wantsOf (mi : Mi) (c : Nat) (x1 : Int32) : Option (Int32) := lp_X1_wantsOf_4 c mi x1 (fun v2_4 v3_4 => some v2_4) FU 0 0
set_option maxRecDepth 20000 in
set_option maxHeartbeats 4000000 in
theorem w_X1_wantsOf_4 {g : Gm} {V : Vw} {E : Ex} {c : Nat} {mi : Mi} {ml : Ml} {v1 : Int32} (hC : LayC V c) {K : Int32 → Int32 → Option (Int32)} {r : Int32} (hK : ∀ (v2 : Int32) (v3 : Int32), K v2 v3 = some r → At g YX1_wantsOf E (qm g YX1_wantsOf (pI V r mi ml)) V (0, 0) 31 [some (rf g c), some (.int v1), some (.int v2), some (.int v3)] [] mi ml) : ∀ (n : Nat) (v2 : Int32) (v3 : Int32), lp_X1_wantsOf_4 c mi v1 K n v2 v3 = some r → At g YX1_wantsOf E (qm g YX1_wantsOf (pI V r mi ml)) V (0, 0) 4 [some (rf g c), some (.int v1), some (.int v2), some (.int v3)] [] mi ml := by
  intro n
  induction n with
  | zero => intro v2 v3 h; exact oz h
  | succ n ih =>
    intro v2 v3 h
    unfold lp_X1_wantsOf_4 at h
    refine a_iload iX1_wantsOf_4 rfl <| a_aload iX1_wantsOf_5 rfl <| a_geti iX1_wantsOf_6 hC.1 rfl <| ?_
    refine a_icmp_ge iX1_wantsOf_9 (fun hc1 => ?_) (fun hc1 => ?_)
    · have h := ot hc1 h
      exact a_sub (L' := [some (rf g c), some (.int v1), some (.int v2), some (.int v3)]) (by exact ⟨rfl, ⟨rfl, ⟨rfl, ⟨rfl, trivial⟩⟩⟩⟩) (hK _ _ h)
    · have h := oe hc1 h
      refine a_aload iX1_wantsOf_12 rfl <| a_getr iX1_wantsOf_13 hC.1 rfl hC.2.2.2.2.2.2.2.2.2.2.1 <| a_iload iX1_wantsOf_16 rfl <| ?_
      obtain ⟨hg2, h⟩ := og h
      refine a_iald iX1_wantsOf_17 hC.2.2.2.2.1 (inb_vp hg2) <| a_iload iX1_wantsOf_18 rfl <| ?_
      refine a_icmp_ne iX1_wantsOf_19 (fun hc3 => ?_) (fun hc3 => ?_)
      · have h := oe hc3 h
        refine a_iinc iX1_wantsOf_25 rfl (by decide) rfl <| a_goto iX1_wantsOf_28 <| ?_
        exact a_sub (L' := [some (rf g c), some (.int v1), some (.int v2), some (.int (v3 + 1))]) (by exact ⟨rfl, ⟨rfl, ⟨rfl, ⟨rfl, trivial⟩⟩⟩⟩) (ih _ _ h)
      · have h := ot hc3 h
        refine a_iinc iX1_wantsOf_22 rfl (by decide) rfl <| a_iinc iX1_wantsOf_25 rfl (by decide) rfl <| a_goto iX1_wantsOf_28 <| ?_
        exact a_sub (L' := [some (rf g c), some (.int v1), some (.int (v2 + 1)), some (.int (v3 + 1))]) (by exact ⟨rfl, ⟨rfl, ⟨rfl, ⟨rfl, trivial⟩⟩⟩⟩) (ih _ _ h)
set_option maxRecDepth 20000 in
set_option maxHeartbeats 4000000 in
theorem c_X1_wantsOf {g : Gm} {V : Vw} {mi : Mi} {ml : Ml} {c : Nat} {x1 : Int32} (hC : LayC V c) {r : Int32} (h : f_X1_wantsOf mi c x1 = some r) : DoI g YX1_wantsOf V [rf g c, .int x1] mi ml r mi ml := by
  unfold f_X1_wantsOf at h
  refine does_of (L := [some (rf g c), some (.int x1), none, none]) okX1_wantsOf rfl (Nat.le_of_ble_eq_true rfl) rfl ?_
  show At g YX1_wantsOf _ (qm g YX1_wantsOf (pI V r mi ml)) V (0, 0) 0 _ [] mi ml
  refine a_const iX1_wantsOf_0 <| a_istore iX1_wantsOf_1 (by decide) rfl <| a_const iX1_wantsOf_2 <| a_istore iX1_wantsOf_3 (by decide) rfl <| ?_
  refine a_sub (L' := [some (rf g c), some (.int x1), some (.int 0), some (.int 0)]) (by exact ⟨rfl, ⟨rfl, ⟨rfl, ⟨rfl, trivial⟩⟩⟩⟩) (w_X1_wantsOf_4 hC (fun v2_4 v3_4 h => ?_) FU _ _ h)
  refine a_iload iX1_wantsOf_31 rfl <| ?_
  obtain rfl := Option.some.inj h
  exact a_iret iX1_wantsOf_32 rfl ⟨Nat.le_refl 0, Nat.le_refl 0⟩ ⟨rfl, rfl, rfl, rfl⟩
def lp_X1_voices_5 (c : Nat) (mi : Mi) (v1 : Int32) (v2 : Int32) (K : Int32 → Int32 → Option (Int32)) : Nat → Int32 → Int32 → Option (Int32)
  | 0, _, _ => none
  | n + 1, v3, v4 => if (mi c 7) ≤ v4 then (K v3 v4) else (if inb v4 10 then if (mi (c + 5) v4.toNatClampNeg) = v1 then (if inb v4 10 then if (mi (c + 6) v4.toNatClampNeg) = v2 then (lp_X1_voices_5 c mi v1 v2 K n (v3 + 1) (v4 + 1)) else (lp_X1_voices_5 c mi v1 v2 K n v3 (v4 + 1)) else none) else (lp_X1_voices_5 c mi v1 v2 K n v3 (v4 + 1)) else none)
def f_X1_voices (mi : Mi) (c : Nat) (x1 x2 : Int32) : Option (Int32) := lp_X1_voices_5 c mi x1 x2 (fun v3_6 v4_6 => some v3_6) FU 0 0
set_option maxRecDepth 20000 in
set_option maxHeartbeats 4000000 in
theorem w_X1_voices_5 {g : Gm} {V : Vw} {E : Ex} {c : Nat} {mi : Mi} {ml : Ml} {v1 v2 : Int32} (hC : LayC V c) {K : Int32 → Int32 → Option (Int32)} {r : Int32} (hK : ∀ (v3 : Int32) (v4 : Int32), K v3 v4 = some r → At g YX1_voices E (qm g YX1_voices (pI V r mi ml)) V (0, 0) 45 [some (rf g c), some (.int v1), some (.int v2), some (.int v3), some (.int v4)] [] mi ml) : ∀ (n : Nat) (v3 : Int32) (v4 : Int32), lp_X1_voices_5 c mi v1 v2 K n v3 v4 = some r → At g YX1_voices E (qm g YX1_voices (pI V r mi ml)) V (0, 0) 5 [some (rf g c), some (.int v1), some (.int v2), some (.int v3), some (.int v4)] [] mi ml := by
  intro n
  induction n with
  | zero => intro v3 v4 h; exact oz h
  | succ n ih =>
    intro v3 v4 h
    unfold lp_X1_voices_5 at h
    refine a_iload iX1_voices_5 rfl <| a_aload iX1_voices_7 rfl <| a_geti iX1_voices_8 hC.1 rfl <| ?_
    refine a_icmp_ge iX1_voices_11 (fun hc1 => ?_) (fun hc1 => ?_)
    · have h := ot hc1 h
      exact a_sub (L' := [some (rf g c), some (.int v1), some (.int v2), some (.int v3), some (.int v4)]) (by exact ⟨rfl, ⟨rfl, ⟨rfl, ⟨rfl, ⟨rfl, trivial⟩⟩⟩⟩⟩) (hK _ _ h)
    · have h := oe hc1 h
      refine a_aload iX1_voices_14 rfl <| a_getr iX1_voices_15 hC.1 rfl hC.2.2.2.2.2.2.2.2.2.2.2.1 <| a_iload iX1_voices_18 rfl <| ?_
      obtain ⟨hg2, h⟩ := og h
      refine a_iald iX1_voices_20 hC.2.2.2.2.2.1 (inb_vp hg2) <| a_iload iX1_voices_21 rfl <| ?_
      refine a_icmp_ne iX1_voices_22 (fun hc3 => ?_) (fun hc3 => ?_)
      · have h := oe hc3 h
        refine a_iinc iX1_voices_39 rfl (by decide) rfl <| a_goto iX1_voices_42 <| ?_
        exact a_sub (L' := [some (rf g c), some (.int v1), some (.int v2), some (.int v3), some (.int (v4 + 1))]) (by exact ⟨rfl, ⟨rfl, ⟨rfl, ⟨rfl, ⟨rfl, trivial⟩⟩⟩⟩⟩) (ih _ _ h)
      · have h := ot hc3 h
        refine a_aload iX1_voices_25 rfl <| a_getr iX1_voices_26 hC.1 rfl hC.2.2.2.2.2.2.2.2.2.2.2.2 <| a_iload iX1_voices_29 rfl <| ?_
        obtain ⟨hg4, h⟩ := og h
        refine a_iald iX1_voices_31 hC.2.2.2.2.2.2.1 (inb_vp hg4) <| a_iload iX1_voices_32 rfl <| ?_
        refine a_icmp_ne iX1_voices_33 (fun hc5 => ?_) (fun hc5 => ?_)
        · have h := oe hc5 h
          refine a_iinc iX1_voices_39 rfl (by decide) rfl <| a_goto iX1_voices_42 <| ?_
          exact a_sub (L' := [some (rf g c), some (.int v1), some (.int v2), some (.int v3), some (.int (v4 + 1))]) (by exact ⟨rfl, ⟨rfl, ⟨rfl, ⟨rfl, ⟨rfl, trivial⟩⟩⟩⟩⟩) (ih _ _ h)
        · have h := ot hc5 h
          refine a_iinc iX1_voices_36 rfl (by decide) rfl <| a_iinc iX1_voices_39 rfl (by decide) rfl <| a_goto iX1_voices_42 <| ?_
          exact a_sub (L' := [some (rf g c), some (.int v1), some (.int v2), some (.int (v3 + 1)), some (.int (v4 + 1))]) (by exact ⟨rfl, ⟨rfl, ⟨rfl, ⟨rfl, ⟨rfl, trivial⟩⟩⟩⟩⟩) (ih _ _ h)
set_option maxRecDepth 20000 in
set_option maxHeartbeats 4000000 in
theorem c_X1_voices {g : Gm} {V : Vw} {mi : Mi} {ml : Ml} {c : Nat} {x1 x2 : Int32} (hC : LayC V c) {r : Int32} (h : f_X1_voices mi c x1 x2 = some r) : DoI g YX1_voices V [rf g c, .int x1, .int x2] mi ml r mi ml := by
  unfold f_X1_voices at h
  refine does_of (L := [some (rf g c), some (.int x1), some (.int x2), none, none]) okX1_voices rfl (Nat.le_of_ble_eq_true rfl) rfl ?_
  show At g YX1_voices _ (qm g YX1_voices (pI V r mi ml)) V (0, 0) 0 _ [] mi ml
  refine a_const iX1_voices_0 <| a_istore iX1_voices_1 (by decide) rfl <| a_const iX1_voices_2 <| a_istore iX1_voices_3 (by decide) rfl <| ?_
  refine a_sub (L' := [some (rf g c), some (.int x1), some (.int x2), some (.int 0), some (.int 0)]) (by exact ⟨rfl, ⟨rfl, ⟨rfl, ⟨rfl, ⟨rfl, trivial⟩⟩⟩⟩⟩) (w_X1_voices_5 hC (fun v3_6 v4_6 h => ?_) FU _ _ h)
  refine a_iload iX1_voices_45 rfl <| ?_
  obtain rfl := Option.some.inj h
  exact a_iret iX1_voices_46 rfl ⟨Nat.le_refl 0, Nat.le_refl 0⟩ ⟨rfl, rfl, rfl, rfl⟩
def lp_X1_favourite_7 (c : Nat) (mi : Mi) (v1 : Int32) (K : Int32 → Int32 → Int32 → Option (Int32)) : Nat → Int32 → Int32 → Int32 → Option (Int32)
  | 0, _, _, _ => none
  | n + 1, v2, v3, v4 => if 10 ≤ v4 then (K v2 v3 v4) else ((f_X1_voices mi c v1 v4).bind (fun r2 => if r2 ≤ v3 then (lp_X1_favourite_7 c mi v1 K n v2 v3 (v4 + 1)) else (lp_X1_favourite_7 c mi v1 K n v4 r2 (v4 + 1))))
def f_X1_favourite (mi : Mi) (c : Nat) (x1 : Int32) : Option (Int32) := lp_X1_favourite_7 c mi x1 (fun v2_5 v3_5 v4_5 => some v2_5) FU (-1) 0 0
set_option maxRecDepth 20000 in
set_option maxHeartbeats 4000000 in
theorem w_X1_favourite_7 {g : Gm} {V : Vw} {E : Ex} {c : Nat} {mi : Mi} {ml : Ml} {v1 : Int32} (hC : LayC V c) {K : Int32 → Int32 → Int32 → Option (Int32)} {r : Int32} (hK : ∀ (v2 : Int32) (v3 : Int32) (v4 : Int32), K v2 v3 v4 = some r → At g YX1_favourite E (qm g YX1_favourite (pI V r mi ml)) V (0, 0) 41 [some (rf g c), some (.int v1), some (.int v2), some (.int v3), some (.int v4), none] [] mi ml) : ∀ (n : Nat) (v2 : Int32) (v3 : Int32) (v4 : Int32), lp_X1_favourite_7 c mi v1 K n v2 v3 v4 = some r → At g YX1_favourite E (qm g YX1_favourite (pI V r mi ml)) V (0, 0) 7 [some (rf g c), some (.int v1), some (.int v2), some (.int v3), some (.int v4), none] [] mi ml := by
  intro n
  induction n with
  | zero => intro v2 v3 v4 h; exact oz h
  | succ n ih =>
    intro v2 v3 v4 h
    unfold lp_X1_favourite_7 at h
    refine a_iload iX1_favourite_7 rfl <| a_const iX1_favourite_9 <| ?_
    refine a_icmp_ge iX1_favourite_11 (fun hc1 => ?_) (fun hc1 => ?_)
    · have h := ot hc1 h
      exact a_sub (L' := [some (rf g c), some (.int v1), some (.int v2), some (.int v3), some (.int v4), none]) (by exact ⟨rfl, ⟨rfl, ⟨rfl, ⟨rfl, ⟨rfl, trivial⟩⟩⟩⟩⟩) (hK _ _ _ h)
    · have h := oe hc1 h
      refine a_aload iX1_favourite_14 rfl <| a_iload iX1_favourite_15 rfl <| a_iload iX1_favourite_16 rfl <| ?_
      obtain ⟨r2, he3, h⟩ := ob h
      refine a_cVi iX1_favourite_18 okX1_voices inX1_voices ⟨rfl, rfl⟩ hC.1 (c_X1_voices hC he3) rfl rfl (Nat.le_of_ble_eq_true rfl) ⟨Nat.le_refl 0, Nat.le_refl 0⟩ <| a_istore iX1_favourite_21 (by decide) rfl <| a_iload iX1_favourite_23 rfl <| a_iload iX1_favourite_25 rfl <| ?_
      refine a_icmp_le iX1_favourite_26 (fun hc4 => ?_) (fun hc4 => ?_)
      · have h := ot hc4 h
        refine a_iinc iX1_favourite_35 rfl (by decide) rfl <| a_goto iX1_favourite_38 <| ?_
        exact a_sub (L' := [some (rf g c), some (.int v1), some (.int v2), some (.int v3), some (.int (v4 + 1)), none]) (by exact ⟨rfl, ⟨rfl, ⟨rfl, ⟨rfl, ⟨rfl, trivial⟩⟩⟩⟩⟩) (ih _ _ _ h)
      · have h := oe hc4 h
        refine a_iload iX1_favourite_29 rfl <| a_istore iX1_favourite_31 (by decide) rfl <| a_iload iX1_favourite_32 rfl <| a_istore iX1_favourite_34 (by decide) rfl <| a_iinc iX1_favourite_35 rfl (by decide) rfl <| a_goto iX1_favourite_38 <| ?_
        exact a_sub (L' := [some (rf g c), some (.int v1), some (.int v4), some (.int r2), some (.int (v4 + 1)), none]) (by exact ⟨rfl, ⟨rfl, ⟨rfl, ⟨rfl, ⟨rfl, trivial⟩⟩⟩⟩⟩) (ih _ _ _ h)
set_option maxRecDepth 20000 in
set_option maxHeartbeats 4000000 in
theorem c_X1_favourite {g : Gm} {V : Vw} {mi : Mi} {ml : Ml} {c : Nat} {x1 : Int32} (hC : LayC V c) {r : Int32} (h : f_X1_favourite mi c x1 = some r) : DoI g YX1_favourite V [rf g c, .int x1] mi ml r mi ml := by
  unfold f_X1_favourite at h
  refine does_of (L := [some (rf g c), some (.int x1), none, none, none, none]) okX1_favourite rfl (Nat.le_of_ble_eq_true rfl) rfl ?_
  show At g YX1_favourite _ (qm g YX1_favourite (pI V r mi ml)) V (0, 0) 0 _ [] mi ml
  refine a_const iX1_favourite_0 <| a_istore iX1_favourite_1 (by decide) rfl <| a_const iX1_favourite_2 <| a_istore iX1_favourite_3 (by decide) rfl <| a_const iX1_favourite_4 <| a_istore iX1_favourite_5 (by decide) rfl <| ?_
  refine a_sub (L' := [some (rf g c), some (.int x1), some (.int (-1)), some (.int 0), some (.int 0), none]) (by exact ⟨rfl, ⟨rfl, ⟨rfl, ⟨rfl, ⟨rfl, trivial⟩⟩⟩⟩⟩) (w_X1_favourite_7 hC (fun v2_5 v3_5 v4_5 h => ?_) FU _ _ _ h)
  refine a_iload iX1_favourite_41 rfl <| ?_
  obtain rfl := Option.some.inj h
  exact a_iret iX1_favourite_42 rfl ⟨Nat.le_refl 0, Nat.le_refl 0⟩ ⟨rfl, rfl, rfl, rfl⟩
def lp_X1_mostMet_4 (c : Nat) (mi : Mi) (K : Int32 → Int32 → Option (Int32)) : Nat → Int32 → Int32 → Option (Int32)
  | 0, _, _ => none
  | n + 1, v1, v2 => if (mi c 5) ≤ v2 then (K v1 v2) else ((f_X1_favourite mi c v2).bind (fun r2 => (f_X1_voices mi c v2 r2).bind (fun r4 => lp_X1_mostMet_4 c mi K n (v1 + r4) (v2 + 1))))
def f_X1_mostMet (mi : Mi) (c : Nat) : Option (Int32) := lp_X1_mostMet_4 c mi (fun v1_6 v2_6 => some v1_6) FU 0 0
set_option maxRecDepth 20000 in
set_option maxHeartbeats 4000000 in
theorem w_X1_mostMet_4 {g : Gm} {V : Vw} {E : Ex} {c : Nat} {mi : Mi} {ml : Ml} (hC : LayC V c) {K : Int32 → Int32 → Option (Int32)} {r : Int32} (hK : ∀ (v1 : Int32) (v2 : Int32), K v1 v2 = some r → At g YX1_mostMet E (qm g YX1_mostMet (pI V r mi ml)) V (0, 0) 31 [some (rf g c), some (.int v1), some (.int v2)] [] mi ml) : ∀ (n : Nat) (v1 : Int32) (v2 : Int32), lp_X1_mostMet_4 c mi K n v1 v2 = some r → At g YX1_mostMet E (qm g YX1_mostMet (pI V r mi ml)) V (0, 0) 4 [some (rf g c), some (.int v1), some (.int v2)] [] mi ml := by
  intro n
  induction n with
  | zero => intro v1 v2 h; exact oz h
  | succ n ih =>
    intro v1 v2 h
    unfold lp_X1_mostMet_4 at h
    refine a_iload iX1_mostMet_4 rfl <| a_aload iX1_mostMet_5 rfl <| a_geti iX1_mostMet_6 hC.1 rfl <| ?_
    refine a_icmp_ge iX1_mostMet_9 (fun hc1 => ?_) (fun hc1 => ?_)
    · have h := ot hc1 h
      exact a_sub (L' := [some (rf g c), some (.int v1), some (.int v2)]) (by exact ⟨rfl, ⟨rfl, ⟨rfl, trivial⟩⟩⟩) (hK _ _ h)
    · have h := oe hc1 h
      refine a_iload iX1_mostMet_12 rfl <| a_aload iX1_mostMet_13 rfl <| a_iload iX1_mostMet_14 rfl <| a_aload iX1_mostMet_15 rfl <| a_iload iX1_mostMet_16 rfl <| ?_
      obtain ⟨r2, he3, h⟩ := ob h
      refine a_cVi iX1_mostMet_17 okX1_favourite inX1_favourite ⟨rfl, rfl⟩ hC.1 (c_X1_favourite hC he3) rfl rfl (Nat.le_of_ble_eq_true rfl) ⟨Nat.le_refl 0, Nat.le_refl 0⟩ <| ?_
      obtain ⟨r4, he5, h⟩ := ob h
      refine a_cVi iX1_mostMet_20 okX1_voices inX1_voices ⟨rfl, rfl⟩ hC.1 (c_X1_voices hC he5) rfl rfl (Nat.le_of_ble_eq_true rfl) ⟨Nat.le_refl 0, Nat.le_refl 0⟩ <| a_iadd iX1_mostMet_23 <| a_istore iX1_mostMet_24 (by decide) rfl <| a_iinc iX1_mostMet_25 rfl (by decide) rfl <| a_goto iX1_mostMet_28 <| ?_
      exact a_sub (L' := [some (rf g c), some (.int (v1 + r4)), some (.int (v2 + 1))]) (by exact ⟨rfl, ⟨rfl, ⟨rfl, trivial⟩⟩⟩) (ih _ _ h)
set_option maxRecDepth 20000 in
set_option maxHeartbeats 4000000 in
theorem c_X1_mostMet {g : Gm} {V : Vw} {mi : Mi} {ml : Ml} {c : Nat} (hC : LayC V c) {r : Int32} (h : f_X1_mostMet mi c = some r) : DoI g YX1_mostMet V [rf g c] mi ml r mi ml := by
  unfold f_X1_mostMet at h
  refine does_of (L := [some (rf g c), none, none]) okX1_mostMet rfl (Nat.le_of_ble_eq_true rfl) rfl ?_
  show At g YX1_mostMet _ (qm g YX1_mostMet (pI V r mi ml)) V (0, 0) 0 _ [] mi ml
  refine a_const iX1_mostMet_0 <| a_istore iX1_mostMet_1 (by decide) rfl <| a_const iX1_mostMet_2 <| a_istore iX1_mostMet_3 (by decide) rfl <| ?_
  refine a_sub (L' := [some (rf g c), some (.int 0), some (.int 0)]) (by exact ⟨rfl, ⟨rfl, ⟨rfl, trivial⟩⟩⟩) (w_X1_mostMet_4 hC (fun v1_6 v2_6 h => ?_) FU _ _ h)
  refine a_iload iX1_mostMet_31 rfl <| ?_
  obtain rfl := Option.some.inj h
  exact a_iret iX1_mostMet_32 rfl ⟨Nat.le_refl 0, Nat.le_refl 0⟩ ⟨rfl, rfl, rfl, rfl⟩
def f_X1_areUnlike (mi : Mi) (c : Nat) (x1 x2 : Int32) : Option (Int32) := if inb x1 10 then if inb x2 10 then if (mi (c + 5) x1.toNatClampNeg) = (mi (c + 5) x2.toNatClampNeg) then (if inb x1 10 then if inb x2 10 then if (mi (c + 6) x1.toNatClampNeg) = (mi (c + 6) x2.toNatClampNeg) then (some 0) else (some 1) else none else none) else (some 0) else none else none
set_option maxRecDepth 20000 in
set_option maxHeartbeats 4000000 in
theorem c_X1_areUnlike {g : Gm} {V : Vw} {mi : Mi} {ml : Ml} {c : Nat} {x1 x2 : Int32} (hC : LayC V c) {r : Int32} (h : f_X1_areUnlike mi c x1 x2 = some r) : DoI g YX1_areUnlike V [rf g c, .int x1, .int x2] mi ml r mi ml := by
  unfold f_X1_areUnlike at h
  refine does_of (L := [some (rf g c), some (.int x1), some (.int x2)]) okX1_areUnlike rfl (Nat.le_of_ble_eq_true rfl) rfl ?_
  show At g YX1_areUnlike _ (qm g YX1_areUnlike (pI V r mi ml)) V (0, 0) 0 _ [] mi ml
  refine a_aload iX1_areUnlike_0 rfl <| a_getr iX1_areUnlike_1 hC.1 rfl hC.2.2.2.2.2.2.2.2.2.2.2.1 <| a_iload iX1_areUnlike_4 rfl <| ?_
  obtain ⟨hg1, h⟩ := og h
  refine a_iald iX1_areUnlike_5 hC.2.2.2.2.2.1 (inb_vp hg1) <| a_aload iX1_areUnlike_6 rfl <| a_getr iX1_areUnlike_7 hC.1 rfl hC.2.2.2.2.2.2.2.2.2.2.2.1 <| a_iload iX1_areUnlike_10 rfl <| ?_
  obtain ⟨hg2, h⟩ := og h
  refine a_iald iX1_areUnlike_11 hC.2.2.2.2.2.1 (inb_vp hg2) <| ?_
  refine a_icmp_ne iX1_areUnlike_12 (fun hc3 => ?_) (fun hc3 => ?_)
  · have h := oe hc3 h
    refine a_const iX1_areUnlike_34 <| ?_
    obtain rfl := Option.some.inj h
    exact a_zret iX1_areUnlike_35 rfl rfl ⟨Nat.le_refl 0, Nat.le_refl 0⟩ ⟨rfl, rfl, rfl, rfl⟩
  · have h := ot hc3 h
    refine a_aload iX1_areUnlike_15 rfl <| a_getr iX1_areUnlike_16 hC.1 rfl hC.2.2.2.2.2.2.2.2.2.2.2.2 <| a_iload iX1_areUnlike_19 rfl <| ?_
    obtain ⟨hg4, h⟩ := og h
    refine a_iald iX1_areUnlike_20 hC.2.2.2.2.2.2.1 (inb_vp hg4) <| a_aload iX1_areUnlike_21 rfl <| a_getr iX1_areUnlike_22 hC.1 rfl hC.2.2.2.2.2.2.2.2.2.2.2.2 <| a_iload iX1_areUnlike_25 rfl <| ?_
    obtain ⟨hg5, h⟩ := og h
    refine a_iald iX1_areUnlike_26 hC.2.2.2.2.2.2.1 (inb_vp hg5) <| ?_
    refine a_icmp_eq iX1_areUnlike_27 (fun hc6 => ?_) (fun hc6 => ?_)
    · have h := ot hc6 h
      refine a_const iX1_areUnlike_34 <| ?_
      obtain rfl := Option.some.inj h
      exact a_zret iX1_areUnlike_35 rfl rfl ⟨Nat.le_refl 0, Nat.le_refl 0⟩ ⟨rfl, rfl, rfl, rfl⟩
    · have h := oe hc6 h
      refine a_const iX1_areUnlike_30 <| a_goto iX1_areUnlike_31 <| ?_
      obtain rfl := Option.some.inj h
      exact a_zret iX1_areUnlike_35 rfl rfl ⟨Nat.le_refl 0, Nat.le_refl 0⟩ ⟨rfl, rfl, rfl, rfl⟩
def lp_X2_begin_17 (e : Nat) (c1 : Nat) (K : Int32 → Mi → Option (Mi)) : Nat → Int32 → Mi → Option (Mi)
  | 0, _, _ => none
  | n + 1, v2, mi => if 3 ≤ v2 then (K v2 mi) else (if inb v2 3 then if inb v2 3 then lp_X2_begin_17 e c1 K n (v2 + 1) (u2 (u2 mi (e + 1) v2.toNatClampNeg 0) (e + 2) v2.toNatClampNeg 0) else none else none)
def lp_X2_begin_44 (e : Nat) (c1 : Nat) (K : Int32 → Mi → Option (Mi)) : Nat → Int32 → Mi → Option (Mi)
  | 0, _, _ => none
  | n + 1, v2, mi => if 8 ≤ v2 then (K v2 mi) else (if (mi c1 5) ≤ v2 then (if inb v2 8 then lp_X2_begin_44 e c1 K n (v2 + 1) (u2 mi (e + 3) v2.toNatClampNeg 0) else none) else (if inb v2 8 then if inb v2 8 then lp_X2_begin_44 e c1 K n (v2 + 1) (u2 mi (e + 3) v2.toNatClampNeg (mi (c1 + 3) v2.toNatClampNeg)) else none else none))
def lp_X2_begin_82 (e : Nat) (c1 : Nat) (K : Int32 → Mi → Option (Mi)) : Nat → Int32 → Mi → Option (Mi)
  | 0, _, _ => none
  | n + 1, v2, mi => if 24 ≤ v2 then (K v2 mi) else (if inb v2 24 then lp_X2_begin_82 e c1 K n (v2 + 1) (u2 mi (e + 4) v2.toNatClampNeg (-1)) else none)
def f_X2_begin (mi : Mi) (e c1 : Nat) : Option (Mi) := lp_X2_begin_17 e c1 (fun v2_4 mi4 => lp_X2_begin_44 e c1 (fun v2_10 mi10 => lp_X2_begin_82 e c1 (fun v2_13 mi13 => some mi13) FU 0 mi10) FU 0 mi4) FU 0 (u2 (u2 (u2 mi e 0 0) e 1 0) e 2 0)
set_option maxRecDepth 20000 in
set_option maxHeartbeats 4000000 in
theorem w_X2_begin_17 {g : Gm} {V : Vw} {E : Ex} {e c1 : Nat} {ml : Ml} (hE : LayE V e) (hC1 : LayC V c1) {K : Int32 → Mi → Option (Mi)} {r : Mi} (hK : ∀ (v2 : Int32) (mi : Mi), K v2 mi = some r → At g YX2_begin E (qm g YX2_begin (pV V r ml)) V (0, 0) 42 [some (rf g e), some (rf g c1), some (.int v2)] [] mi ml) : ∀ (n : Nat) (v2 : Int32) (mi : Mi), lp_X2_begin_17 e c1 K n v2 mi = some r → At g YX2_begin E (qm g YX2_begin (pV V r ml)) V (0, 0) 17 [some (rf g e), some (rf g c1), some (.int v2)] [] mi ml := by
  intro n
  induction n with
  | zero => intro v2 mi h; exact oz h
  | succ n ih =>
    intro v2 mi h
    unfold lp_X2_begin_17 at h
    refine a_iload iX2_begin_17 rfl <| a_const iX2_begin_18 <| ?_
    refine a_icmp_ge iX2_begin_19 (fun hc1 => ?_) (fun hc1 => ?_)
    · have h := ot hc1 h
      exact a_sub (L' := [some (rf g e), some (rf g c1), some (.int v2)]) (by exact ⟨rfl, ⟨rfl, ⟨rfl, trivial⟩⟩⟩) (hK _ _ h)
    · have h := oe hc1 h
      refine a_aload iX2_begin_22 rfl <| a_getr iX2_begin_23 hE.1 rfl hE.2.2.2.2.2.2.1 <| a_iload iX2_begin_26 rfl <| a_const iX2_begin_27 <| ?_
      obtain ⟨hg2, h⟩ := og h
      refine a_iast iX2_begin_28 hE.2.1 (inb_vp hg2) <| a_aload iX2_begin_29 rfl <| a_getr iX2_begin_30 hE.1 rfl hE.2.2.2.2.2.2.2.1 <| a_iload iX2_begin_33 rfl <| a_const iX2_begin_34 <| ?_
      obtain ⟨hg3, h⟩ := og h
      refine a_iast iX2_begin_35 hE.2.2.1 (inb_vp hg3) <| a_iinc iX2_begin_36 rfl (by decide) rfl <| a_goto iX2_begin_39 <| ?_
      exact a_sub (L' := [some (rf g e), some (rf g c1), some (.int (v2 + 1))]) (by exact ⟨rfl, ⟨rfl, ⟨rfl, trivial⟩⟩⟩) (ih _ _ h)
set_option maxRecDepth 20000 in
set_option maxHeartbeats 4000000 in
theorem w_X2_begin_44 {g : Gm} {V : Vw} {E : Ex} {e c1 : Nat} {ml : Ml} (hE : LayE V e) (hC1 : LayC V c1) {K : Int32 → Mi → Option (Mi)} {r : Mi} (hK : ∀ (v2 : Int32) (mi : Mi), K v2 mi = some r → At g YX2_begin E (qm g YX2_begin (pV V r ml)) V (0, 0) 80 [some (rf g e), some (rf g c1), some (.int v2)] [] mi ml) : ∀ (n : Nat) (v2 : Int32) (mi : Mi), lp_X2_begin_44 e c1 K n v2 mi = some r → At g YX2_begin E (qm g YX2_begin (pV V r ml)) V (0, 0) 44 [some (rf g e), some (rf g c1), some (.int v2)] [] mi ml := by
  intro n
  induction n with
  | zero => intro v2 mi h; exact oz h
  | succ n ih =>
    intro v2 mi h
    unfold lp_X2_begin_44 at h
    refine a_iload iX2_begin_44 rfl <| a_const iX2_begin_45 <| ?_
    refine a_icmp_ge iX2_begin_47 (fun hc5 => ?_) (fun hc5 => ?_)
    · have h := ot hc5 h
      exact a_sub (L' := [some (rf g e), some (rf g c1), some (.int v2)]) (by exact ⟨rfl, ⟨rfl, ⟨rfl, trivial⟩⟩⟩) (hK _ _ h)
    · have h := oe hc5 h
      refine a_aload iX2_begin_50 rfl <| a_getr iX2_begin_51 hE.1 rfl hE.2.2.2.2.2.2.2.2.1 <| a_iload iX2_begin_54 rfl <| a_iload iX2_begin_55 rfl <| a_aload iX2_begin_56 rfl <| a_geti iX2_begin_57 hC1.1 rfl <| ?_
      refine a_icmp_ge iX2_begin_60 (fun hc6 => ?_) (fun hc6 => ?_)
      · have h := ot hc6 h
        refine a_const iX2_begin_72 <| ?_
        obtain ⟨hg7, h⟩ := og h
        refine a_iast iX2_begin_73 hE.2.2.2.1 (inb_vp hg7) <| a_iinc iX2_begin_74 rfl (by decide) rfl <| a_goto iX2_begin_77 <| ?_
        exact a_sub (L' := [some (rf g e), some (rf g c1), some (.int (v2 + 1))]) (by exact ⟨rfl, ⟨rfl, ⟨rfl, trivial⟩⟩⟩) (ih _ _ h)
      · have h := oe hc6 h
        refine a_aload iX2_begin_63 rfl <| a_getr iX2_begin_64 hC1.1 rfl hC1.2.2.2.2.2.2.2.2.2.1 <| a_iload iX2_begin_67 rfl <| ?_
        obtain ⟨hg8, h⟩ := og h
        refine a_iald iX2_begin_68 hC1.2.2.2.1 (inb_vp hg8) <| a_goto iX2_begin_69 <| ?_
        obtain ⟨hg9, h⟩ := og h
        refine a_iast iX2_begin_73 hE.2.2.2.1 (inb_vp hg9) <| a_iinc iX2_begin_74 rfl (by decide) rfl <| a_goto iX2_begin_77 <| ?_
        exact a_sub (L' := [some (rf g e), some (rf g c1), some (.int (v2 + 1))]) (by exact ⟨rfl, ⟨rfl, ⟨rfl, trivial⟩⟩⟩) (ih _ _ h)
set_option maxRecDepth 20000 in
set_option maxHeartbeats 4000000 in
theorem w_X2_begin_82 {g : Gm} {V : Vw} {E : Ex} {e c1 : Nat} {ml : Ml} (hE : LayE V e) (hC1 : LayC V c1) {K : Int32 → Mi → Option (Mi)} {r : Mi} (hK : ∀ (v2 : Int32) (mi : Mi), K v2 mi = some r → At g YX2_begin E (qm g YX2_begin (pV V r ml)) V (0, 0) 101 [some (rf g e), some (rf g c1), some (.int v2)] [] mi ml) : ∀ (n : Nat) (v2 : Int32) (mi : Mi), lp_X2_begin_82 e c1 K n v2 mi = some r → At g YX2_begin E (qm g YX2_begin (pV V r ml)) V (0, 0) 82 [some (rf g e), some (rf g c1), some (.int v2)] [] mi ml := by
  intro n
  induction n with
  | zero => intro v2 mi h; exact oz h
  | succ n ih =>
    intro v2 mi h
    unfold lp_X2_begin_82 at h
    refine a_iload iX2_begin_82 rfl <| a_const iX2_begin_83 <| ?_
    refine a_icmp_ge iX2_begin_85 (fun hc11 => ?_) (fun hc11 => ?_)
    · have h := ot hc11 h
      exact a_sub (L' := [some (rf g e), some (rf g c1), some (.int v2)]) (by exact ⟨rfl, ⟨rfl, ⟨rfl, trivial⟩⟩⟩) (hK _ _ h)
    · have h := oe hc11 h
      refine a_aload iX2_begin_88 rfl <| a_getr iX2_begin_89 hE.1 rfl hE.2.2.2.2.2.2.2.2.2.1 <| a_iload iX2_begin_92 rfl <| a_const iX2_begin_93 <| ?_
      obtain ⟨hg12, h⟩ := og h
      refine a_iast iX2_begin_94 hE.2.2.2.2.1 (inb_vp hg12) <| a_iinc iX2_begin_95 rfl (by decide) rfl <| a_goto iX2_begin_98 <| ?_
      exact a_sub (L' := [some (rf g e), some (rf g c1), some (.int (v2 + 1))]) (by exact ⟨rfl, ⟨rfl, ⟨rfl, trivial⟩⟩⟩) (ih _ _ h)
set_option maxRecDepth 20000 in
set_option maxHeartbeats 4000000 in
theorem c_X2_begin {g : Gm} {V : Vw} {mi : Mi} {ml : Ml} {e c1 : Nat} (hE : LayE V e) (hC1 : LayC V c1) {r : Mi} (h : f_X2_begin mi e c1 = some r) : DoV g YX2_begin V [rf g e, rf g c1] mi ml r ml := by
  unfold f_X2_begin at h
  refine does_of (L := [some (rf g e), some (rf g c1), none]) okX2_begin rfl (Nat.le_of_ble_eq_true rfl) rfl ?_
  show At g YX2_begin _ (qm g YX2_begin (pV V r ml)) V (0, 0) 0 _ [] mi ml
  refine a_aload iX2_begin_0 rfl <| a_const iX2_begin_1 <| a_puti iX2_begin_2 hE.1 rfl rfl rfl <| a_aload iX2_begin_5 rfl <| a_const iX2_begin_6 <| a_puti iX2_begin_7 hE.1 rfl rfl rfl <| a_aload iX2_begin_10 rfl <| a_const iX2_begin_11 <| ?_
  refine a_puti iX2_begin_12 hE.1 rfl rfl rfl <| a_const iX2_begin_15 <| a_istore iX2_begin_16 (by decide) rfl <| ?_
  refine a_sub (L' := [some (rf g e), some (rf g c1), some (.int 0)]) (by exact ⟨rfl, ⟨rfl, ⟨rfl, trivial⟩⟩⟩) (w_X2_begin_17 hE hC1 (fun v2_4 mi4 h => ?_) FU _ _ h)
  refine a_const iX2_begin_42 <| a_istore iX2_begin_43 (by decide) rfl <| ?_
  refine a_sub (L' := [some (rf g e), some (rf g c1), some (.int 0)]) (by exact ⟨rfl, ⟨rfl, ⟨rfl, trivial⟩⟩⟩) (w_X2_begin_44 hE hC1 (fun v2_10 mi10 h => ?_) FU _ _ h)
  refine a_const iX2_begin_80 <| a_istore iX2_begin_81 (by decide) rfl <| ?_
  refine a_sub (L' := [some (rf g e), some (rf g c1), some (.int 0)]) (by exact ⟨rfl, ⟨rfl, ⟨rfl, trivial⟩⟩⟩) (w_X2_begin_82 hE hC1 (fun v2_13 mi13 h => ?_) FU _ _ h)
  obtain rfl := Option.some.inj h
  exact a_vret iX2_begin_101 rfl ⟨Nat.le_refl 0, Nat.le_refl 0⟩ ⟨rfl, rfl, rfl, rfl⟩
def f_X2_copyOf (mi : Mi) (e e1 : Nat) : Option (Mi) := nx (u2 (u2 (u2 mi e 0 (mi e1 0)) e 1 ((u2 mi e 0 (mi e1 0)) e1 1)) e 2 ((u2 (u2 mi e 0 (mi e1 0)) e 1 ((u2 mi e 0 (mi e1 0)) e1 1)) e1 2)) (fun mi2 => nx (ur mi2 (e + 1) (va_cpy (mi2 (e1 + 1)) (mi2 (e + 1)) (0 : Int32).toNatClampNeg (0 : Int32).toNatClampNeg (3 : Int32).toNatClampNeg)) (fun mi4 => nx (ur mi4 (e + 2) (va_cpy (mi4 (e1 + 2)) (mi4 (e + 2)) (0 : Int32).toNatClampNeg (0 : Int32).toNatClampNeg (3 : Int32).toNatClampNeg)) (fun mi6 => nx (ur mi6 (e + 3) (va_cpy (mi6 (e1 + 3)) (mi6 (e + 3)) (0 : Int32).toNatClampNeg (0 : Int32).toNatClampNeg (8 : Int32).toNatClampNeg)) (fun mi8 => nx (ur mi8 (e + 4) (va_cpy (mi8 (e1 + 4)) (mi8 (e + 4)) (0 : Int32).toNatClampNeg (0 : Int32).toNatClampNeg (24 : Int32).toNatClampNeg)) (fun mi10 => nx (ur mi10 (e + 5) (va_cpy (mi10 (e1 + 5)) (mi10 (e + 5)) (0 : Int32).toNatClampNeg (0 : Int32).toNatClampNeg (80 : Int32).toNatClampNeg)) (fun mi12 => some mi12))))))
set_option maxRecDepth 20000 in
set_option maxHeartbeats 4000000 in
theorem c_X2_copyOf {g : Gm} {V : Vw} {mi : Mi} {ml : Ml} {e e1 : Nat} (hE : LayE V e) (hE1 : LayE V e1) (hF : V.2.2.2 = false) {r : Mi} (h : f_X2_copyOf mi e e1 = some r) : DoV g YX2_copyOf V [rf g e, rf g e1] mi ml r ml := by
  unfold f_X2_copyOf at h
  refine does_of (L := [some (rf g e), some (rf g e1)]) okX2_copyOf rfl (Nat.le_of_ble_eq_true rfl) rfl ?_
  show At g YX2_copyOf _ (qm g YX2_copyOf (pV V r ml)) V (0, 0) 0 _ [] mi ml
  refine a_aload iX2_copyOf_0 rfl <| a_aload iX2_copyOf_1 rfl <| a_geti iX2_copyOf_2 hE1.1 rfl <| a_puti iX2_copyOf_5 hE.1 rfl rfl rfl <| a_aload iX2_copyOf_8 rfl <| a_aload iX2_copyOf_9 rfl <| a_geti iX2_copyOf_10 hE1.1 rfl <| a_puti iX2_copyOf_13 hE.1 rfl rfl rfl <| ?_
  refine a_aload iX2_copyOf_16 rfl <| a_aload iX2_copyOf_17 rfl <| a_geti iX2_copyOf_18 hE1.1 rfl <| a_puti iX2_copyOf_21 hE.1 rfl rfl rfl <| ?_
  obtain ⟨mi2, hm1, h⟩ := onx h
  refine a_mem hm1 <| a_aload iX2_copyOf_24 rfl <| a_getr iX2_copyOf_25 hE1.1 rfl hE1.2.2.2.2.2.2.1 <| a_const iX2_copyOf_28 <| a_aload iX2_copyOf_29 rfl <| a_getr iX2_copyOf_30 hE.1 rfl hE.2.2.2.2.2.2.1 <| a_const iX2_copyOf_33 <| a_const iX2_copyOf_34 <| ?_
  refine a_copy iX2_copyOf_35 hF hE1.2.1 hE.2.1 (by decide) (by decide) (by decide) (by decide) (by decide) ⟨by decide, Nat.le_of_ble_eq_true rfl⟩ <| ?_
  obtain ⟨mi4, hm3, h⟩ := onx h
  refine a_mem hm3 <| a_aload iX2_copyOf_38 rfl <| a_getr iX2_copyOf_39 hE1.1 rfl hE1.2.2.2.2.2.2.2.1 <| a_const iX2_copyOf_42 <| a_aload iX2_copyOf_43 rfl <| a_getr iX2_copyOf_44 hE.1 rfl hE.2.2.2.2.2.2.2.1 <| a_const iX2_copyOf_47 <| a_const iX2_copyOf_48 <| ?_
  refine a_copy iX2_copyOf_49 hF hE1.2.2.1 hE.2.2.1 (by decide) (by decide) (by decide) (by decide) (by decide) ⟨by decide, Nat.le_of_ble_eq_true rfl⟩ <| ?_
  obtain ⟨mi6, hm5, h⟩ := onx h
  refine a_mem hm5 <| a_aload iX2_copyOf_52 rfl <| a_getr iX2_copyOf_53 hE1.1 rfl hE1.2.2.2.2.2.2.2.2.1 <| a_const iX2_copyOf_56 <| a_aload iX2_copyOf_57 rfl <| a_getr iX2_copyOf_58 hE.1 rfl hE.2.2.2.2.2.2.2.2.1 <| a_const iX2_copyOf_61 <| a_const iX2_copyOf_62 <| ?_
  refine a_copy iX2_copyOf_64 hF hE1.2.2.2.1 hE.2.2.2.1 (by decide) (by decide) (by decide) (by decide) (by decide) ⟨by decide, Nat.le_of_ble_eq_true rfl⟩ <| ?_
  obtain ⟨mi8, hm7, h⟩ := onx h
  refine a_mem hm7 <| a_aload iX2_copyOf_67 rfl <| a_getr iX2_copyOf_68 hE1.1 rfl hE1.2.2.2.2.2.2.2.2.2.1 <| a_const iX2_copyOf_71 <| a_aload iX2_copyOf_72 rfl <| a_getr iX2_copyOf_73 hE.1 rfl hE.2.2.2.2.2.2.2.2.2.1 <| a_const iX2_copyOf_76 <| a_const iX2_copyOf_77 <| ?_
  refine a_copy iX2_copyOf_79 hF hE1.2.2.2.2.1 hE.2.2.2.2.1 (by decide) (by decide) (by decide) (by decide) (by decide) ⟨by decide, Nat.le_of_ble_eq_true rfl⟩ <| ?_
  obtain ⟨mi10, hm9, h⟩ := onx h
  refine a_mem hm9 <| a_aload iX2_copyOf_82 rfl <| a_getr iX2_copyOf_83 hE1.1 rfl hE1.2.2.2.2.2.2.2.2.2.2 <| a_const iX2_copyOf_86 <| a_aload iX2_copyOf_87 rfl <| a_getr iX2_copyOf_88 hE.1 rfl hE.2.2.2.2.2.2.2.2.2.2 <| a_const iX2_copyOf_91 <| a_const iX2_copyOf_92 <| ?_
  refine a_copy iX2_copyOf_94 hF hE1.2.2.2.2.2.1 hE.2.2.2.2.2.1 (by decide) (by decide) (by decide) (by decide) (by decide) ⟨by decide, Nat.le_of_ble_eq_true rfl⟩ <| ?_
  obtain ⟨mi12, hm11, h⟩ := onx h
  refine a_mem hm11 <| ?_
  obtain rfl := Option.some.inj h
  exact a_vret iX2_copyOf_97 rfl ⟨Nat.le_refl 0, Nat.le_refl 0⟩ ⟨rfl, rfl, rfl, rfl⟩
def f_X2_eclipseEnd (mi : Mi) (e : Nat) : Option (Int32) := some ((mi e 0) + (mi e 1))
set_option maxRecDepth 20000 in
set_option maxHeartbeats 4000000 in
theorem c_X2_eclipseEnd {g : Gm} {V : Vw} {mi : Mi} {ml : Ml} {e : Nat} (hE : LayE V e) {r : Int32} (h : f_X2_eclipseEnd mi e = some r) : DoI g YX2_eclipseEnd V [rf g e] mi ml r mi ml := by
  unfold f_X2_eclipseEnd at h
  refine does_of (L := [some (rf g e)]) okX2_eclipseEnd rfl (Nat.le_of_ble_eq_true rfl) rfl ?_
  show At g YX2_eclipseEnd _ (qm g YX2_eclipseEnd (pI V r mi ml)) V (0, 0) 0 _ [] mi ml
  refine a_aload iX2_eclipseEnd_0 rfl <| a_geti iX2_eclipseEnd_1 hE.1 rfl <| a_aload iX2_eclipseEnd_4 rfl <| a_geti iX2_eclipseEnd_5 hE.1 rfl <| a_iadd iX2_eclipseEnd_8 <| ?_
  obtain rfl := Option.some.inj h
  exact a_iret iX2_eclipseEnd_9 rfl ⟨Nat.le_refl 0, Nat.le_refl 0⟩ ⟨rfl, rfl, rfl, rfl⟩
def f_X2_holderIn (mi : Mi) (e c1 : Nat) (x2 : Int32) : Option (Int32) := if (mi c1 0) = 0 then (some (-1)) else (if (mi e 1) ≤ x2 then ((f_X1_holderByLight mi c1 ((mi e 0) + x2)).bind (fun r3 => some r3)) else (some 2))
set_option maxRecDepth 20000 in
set_option maxHeartbeats 4000000 in
theorem c_X2_holderIn {g : Gm} {V : Vw} {mi : Mi} {ml : Ml} {e c1 : Nat} {x2 : Int32} (hE : LayE V e) (hC1 : LayC V c1) {r : Int32} (h : f_X2_holderIn mi e c1 x2 = some r) : DoI g YX2_holderIn V [rf g e, rf g c1, .int x2] mi ml r mi ml := by
  unfold f_X2_holderIn at h
  refine does_of (L := [some (rf g e), some (rf g c1), some (.int x2)]) okX2_holderIn rfl (Nat.le_of_ble_eq_true rfl) rfl ?_
  show At g YX2_holderIn _ (qm g YX2_holderIn (pI V r mi ml)) V (0, 0) 0 _ [] mi ml
  refine a_aload iX2_holderIn_0 rfl <| a_geti iX2_holderIn_1 hC1.1 rfl <| ?_
  refine a_if_ne iX2_holderIn_4 (fun hc1 => ?_) (fun hc1 => ?_)
  · have h := oe hc1 h
    refine a_iload iX2_holderIn_9 rfl <| a_aload iX2_holderIn_10 rfl <| a_geti iX2_holderIn_11 hE.1 rfl <| ?_
    refine a_icmp_ge iX2_holderIn_14 (fun hc2 => ?_) (fun hc2 => ?_)
    · have h := ot hc2 h
      refine a_aload iX2_holderIn_21 rfl <| a_aload iX2_holderIn_22 rfl <| a_geti iX2_holderIn_23 hE.1 rfl <| a_iload iX2_holderIn_26 rfl <| a_iadd iX2_holderIn_27 <| ?_
      obtain ⟨r3, he4, h⟩ := ob h
      refine a_cVi iX2_holderIn_28 okX1_holderByLight inX1_holderByLight ⟨rfl, rfl⟩ hC1.1 (c_X1_holderByLight hC1 he4) rfl rfl (Nat.le_of_ble_eq_true rfl) ⟨Nat.le_refl 0, Nat.le_refl 0⟩ <| ?_
      obtain rfl := Option.some.inj h
      exact a_iret iX2_holderIn_31 rfl ⟨Nat.le_refl 0, Nat.le_refl 0⟩ ⟨rfl, rfl, rfl, rfl⟩
    · have h := oe hc2 h
      refine a_const iX2_holderIn_17 <| a_goto iX2_holderIn_18 <| ?_
      obtain rfl := Option.some.inj h
      exact a_iret iX2_holderIn_31 rfl ⟨Nat.le_refl 0, Nat.le_refl 0⟩ ⟨rfl, rfl, rfl, rfl⟩
  · have h := ot hc1 h
    refine a_const iX2_holderIn_7 <| ?_
    obtain rfl := Option.some.inj h
    exact a_iret iX2_holderIn_8 rfl ⟨Nat.le_refl 0, Nat.le_refl 0⟩ ⟨rfl, rfl, rfl, rfl⟩
def f_X7_isHeir (x0 : Int32) : Option (Int32) := if x0 < 0 then (some 0) else (if 3 ≤ x0 then (some 0) else (some 1))
set_option maxRecDepth 20000 in
set_option maxHeartbeats 4000000 in
theorem c_X7_isHeir {g : Gm} {V : Vw} {mi : Mi} {ml : Ml} {x0 : Int32}  {r : Int32} (h : f_X7_isHeir x0 = some r) : DoI g YX7_isHeir V [.int x0] mi ml r mi ml := by
  unfold f_X7_isHeir at h
  refine does_of (L := [some (.int x0)]) okX7_isHeir rfl (Nat.le_of_ble_eq_true rfl) rfl ?_
  show At g YX7_isHeir _ (qm g YX7_isHeir (pI V r mi ml)) V (0, 0) 0 _ [] mi ml
  refine a_iload iX7_isHeir_0 rfl <| ?_
  refine a_if_lt iX7_isHeir_1 (fun hc1 => ?_) (fun hc1 => ?_)
  · have h := ot hc1 h
    refine a_const iX7_isHeir_13 <| ?_
    obtain rfl := Option.some.inj h
    exact a_zret iX7_isHeir_14 rfl rfl ⟨Nat.le_refl 0, Nat.le_refl 0⟩ ⟨rfl, rfl, rfl, rfl⟩
  · have h := oe hc1 h
    refine a_iload iX7_isHeir_4 rfl <| a_const iX7_isHeir_5 <| ?_
    refine a_icmp_ge iX7_isHeir_6 (fun hc2 => ?_) (fun hc2 => ?_)
    · have h := ot hc2 h
      refine a_const iX7_isHeir_13 <| ?_
      obtain rfl := Option.some.inj h
      exact a_zret iX7_isHeir_14 rfl rfl ⟨Nat.le_refl 0, Nat.le_refl 0⟩ ⟨rfl, rfl, rfl, rfl⟩
    · have h := oe hc2 h
      refine a_const iX7_isHeir_9 <| a_goto iX7_isHeir_10 <| ?_
      obtain rfl := Option.some.inj h
      exact a_zret iX7_isHeir_14 rfl rfl ⟨Nat.le_refl 0, Nat.le_refl 0⟩ ⟨rfl, rfl, rfl, rfl⟩
def f_X2_isMet (mi : Mi) (e c1 : Nat) (x2 : Int32) : Option (Int32) := if inb x2 10 then if inb (mi (c1 + 5) x2.toNatClampNeg) 8 then if inb x2 10 then if (mi (e + 3) (mi (c1 + 5) x2.toNatClampNeg).toNatClampNeg) = (mi (c1 + 6) x2.toNatClampNeg) then (some 1) else (some 0) else none else none else none
set_option maxRecDepth 20000 in
set_option maxHeartbeats 4000000 in
theorem c_X2_isMet {g : Gm} {V : Vw} {mi : Mi} {ml : Ml} {e c1 : Nat} {x2 : Int32} (hE : LayE V e) (hC1 : LayC V c1) {r : Int32} (h : f_X2_isMet mi e c1 x2 = some r) : DoI g YX2_isMet V [rf g e, rf g c1, .int x2] mi ml r mi ml := by
  unfold f_X2_isMet at h
  refine does_of (L := [some (rf g e), some (rf g c1), some (.int x2)]) okX2_isMet rfl (Nat.le_of_ble_eq_true rfl) rfl ?_
  show At g YX2_isMet _ (qm g YX2_isMet (pI V r mi ml)) V (0, 0) 0 _ [] mi ml
  refine a_aload iX2_isMet_0 rfl <| a_getr iX2_isMet_1 hE.1 rfl hE.2.2.2.2.2.2.2.2.1 <| a_aload iX2_isMet_4 rfl <| a_getr iX2_isMet_5 hC1.1 rfl hC1.2.2.2.2.2.2.2.2.2.2.2.1 <| a_iload iX2_isMet_8 rfl <| ?_
  obtain ⟨hg1, h⟩ := og h
  refine a_iald iX2_isMet_9 hC1.2.2.2.2.2.1 (inb_vp hg1) <| ?_
  obtain ⟨hg2, h⟩ := og h
  refine a_iald iX2_isMet_10 hE.2.2.2.1 (inb_vp hg2) <| a_aload iX2_isMet_11 rfl <| a_getr iX2_isMet_12 hC1.1 rfl hC1.2.2.2.2.2.2.2.2.2.2.2.2 <| a_iload iX2_isMet_15 rfl <| ?_
  obtain ⟨hg3, h⟩ := og h
  refine a_iald iX2_isMet_16 hC1.2.2.2.2.2.2.1 (inb_vp hg3) <| ?_
  refine a_icmp_ne iX2_isMet_17 (fun hc4 => ?_) (fun hc4 => ?_)
  · have h := oe hc4 h
    refine a_const iX2_isMet_24 <| ?_
    obtain rfl := Option.some.inj h
    exact a_zret iX2_isMet_25 rfl rfl ⟨Nat.le_refl 0, Nat.le_refl 0⟩ ⟨rfl, rfl, rfl, rfl⟩
  · have h := ot hc4 h
    refine a_const iX2_isMet_20 <| a_goto iX2_isMet_21 <| ?_
    obtain rfl := Option.some.inj h
    exact a_zret iX2_isMet_25 rfl rfl ⟨Nat.le_refl 0, Nat.le_refl 0⟩ ⟨rfl, rfl, rfl, rfl⟩
def lp_X2_unmetWants_5 (e : Nat) (c1 : Nat) (mi : Mi) (v2 : Int32) (K : Int32 → Int32 → Option (Int32)) : Nat → Int32 → Int32 → Option (Int32)
  | 0, _, _ => none
  | n + 1, v3, v4 => if (mi c1 7) ≤ v4 then (K v3 v4) else (if inb v4 10 then if (mi (c1 + 4) v4.toNatClampNeg) = v2 then ((f_X2_isMet mi e c1 v4).bind (fun r4 => if r4 = 0 then (lp_X2_unmetWants_5 e c1 mi v2 K n (v3 + 1) (v4 + 1)) else (lp_X2_unmetWants_5 e c1 mi v2 K n v3 (v4 + 1)))) else (lp_X2_unmetWants_5 e c1 mi v2 K n v3 (v4 + 1)) else none)
def f_X2_unmetWants (mi : Mi) (e c1 : Nat) (x2 : Int32) : Option (Int32) := lp_X2_unmetWants_5 e c1 mi x2 (fun v3_7 v4_7 => some v3_7) FU 0 0
set_option maxRecDepth 20000 in
set_option maxHeartbeats 4000000 in
theorem w_X2_unmetWants_5 {g : Gm} {V : Vw} {E : Ex} {e c1 : Nat} {mi : Mi} {ml : Ml} {v2 : Int32} (hE : LayE V e) (hC1 : LayC V c1) {K : Int32 → Int32 → Option (Int32)} {r : Int32} (hK : ∀ (v3 : Int32) (v4 : Int32), K v3 v4 = some r → At g YX2_unmetWants E (qm g YX2_unmetWants (pI V r mi ml)) V (0, 0) 44 [some (rf g e), some (rf g c1), some (.int v2), some (.int v3), some (.int v4)] [] mi ml) : ∀ (n : Nat) (v3 : Int32) (v4 : Int32), lp_X2_unmetWants_5 e c1 mi v2 K n v3 v4 = some r → At g YX2_unmetWants E (qm g YX2_unmetWants (pI V r mi ml)) V (0, 0) 5 [some (rf g e), some (rf g c1), some (.int v2), some (.int v3), some (.int v4)] [] mi ml := by
  intro n
  induction n with
  | zero => intro v3 v4 h; exact oz h
  | succ n ih =>
    intro v3 v4 h
    unfold lp_X2_unmetWants_5 at h
    refine a_iload iX2_unmetWants_5 rfl <| a_aload iX2_unmetWants_7 rfl <| a_geti iX2_unmetWants_8 hC1.1 rfl <| ?_
    refine a_icmp_ge iX2_unmetWants_11 (fun hc1 => ?_) (fun hc1 => ?_)
    · have h := ot hc1 h
      exact a_sub (L' := [some (rf g e), some (rf g c1), some (.int v2), some (.int v3), some (.int v4)]) (by exact ⟨rfl, ⟨rfl, ⟨rfl, ⟨rfl, ⟨rfl, trivial⟩⟩⟩⟩⟩) (hK _ _ h)
    · have h := oe hc1 h
      refine a_aload iX2_unmetWants_14 rfl <| a_getr iX2_unmetWants_15 hC1.1 rfl hC1.2.2.2.2.2.2.2.2.2.2.1 <| a_iload iX2_unmetWants_18 rfl <| ?_
      obtain ⟨hg2, h⟩ := og h
      refine a_iald iX2_unmetWants_20 hC1.2.2.2.2.1 (inb_vp hg2) <| a_iload iX2_unmetWants_21 rfl <| ?_
      refine a_icmp_ne iX2_unmetWants_22 (fun hc3 => ?_) (fun hc3 => ?_)
      · have h := oe hc3 h
        refine a_iinc iX2_unmetWants_38 rfl (by decide) rfl <| a_goto iX2_unmetWants_41 <| ?_
        exact a_sub (L' := [some (rf g e), some (rf g c1), some (.int v2), some (.int v3), some (.int (v4 + 1))]) (by exact ⟨rfl, ⟨rfl, ⟨rfl, ⟨rfl, ⟨rfl, trivial⟩⟩⟩⟩⟩) (ih _ _ h)
      · have h := ot hc3 h
        refine a_aload iX2_unmetWants_25 rfl <| a_aload iX2_unmetWants_26 rfl <| a_iload iX2_unmetWants_27 rfl <| ?_
        obtain ⟨r4, he5, h⟩ := ob h
        refine a_cVi iX2_unmetWants_29 okX2_isMet inX2_isMet ⟨rfl, rfl⟩ hE.1 (c_X2_isMet hE hC1 he5) rfl rfl (Nat.le_of_ble_eq_true rfl) ⟨Nat.le_refl 0, Nat.le_refl 0⟩ <| ?_
        refine a_if_ne iX2_unmetWants_32 (fun hc6 => ?_) (fun hc6 => ?_)
        · have h := oe hc6 h
          refine a_iinc iX2_unmetWants_38 rfl (by decide) rfl <| a_goto iX2_unmetWants_41 <| ?_
          exact a_sub (L' := [some (rf g e), some (rf g c1), some (.int v2), some (.int v3), some (.int (v4 + 1))]) (by exact ⟨rfl, ⟨rfl, ⟨rfl, ⟨rfl, ⟨rfl, trivial⟩⟩⟩⟩⟩) (ih _ _ h)
        · have h := ot hc6 h
          refine a_iinc iX2_unmetWants_35 rfl (by decide) rfl <| a_iinc iX2_unmetWants_38 rfl (by decide) rfl <| a_goto iX2_unmetWants_41 <| ?_
          exact a_sub (L' := [some (rf g e), some (rf g c1), some (.int v2), some (.int (v3 + 1)), some (.int (v4 + 1))]) (by exact ⟨rfl, ⟨rfl, ⟨rfl, ⟨rfl, ⟨rfl, trivial⟩⟩⟩⟩⟩) (ih _ _ h)
set_option maxRecDepth 20000 in
set_option maxHeartbeats 4000000 in
theorem c_X2_unmetWants {g : Gm} {V : Vw} {mi : Mi} {ml : Ml} {e c1 : Nat} {x2 : Int32} (hE : LayE V e) (hC1 : LayC V c1) {r : Int32} (h : f_X2_unmetWants mi e c1 x2 = some r) : DoI g YX2_unmetWants V [rf g e, rf g c1, .int x2] mi ml r mi ml := by
  unfold f_X2_unmetWants at h
  refine does_of (L := [some (rf g e), some (rf g c1), some (.int x2), none, none]) okX2_unmetWants rfl (Nat.le_of_ble_eq_true rfl) rfl ?_
  show At g YX2_unmetWants _ (qm g YX2_unmetWants (pI V r mi ml)) V (0, 0) 0 _ [] mi ml
  refine a_const iX2_unmetWants_0 <| a_istore iX2_unmetWants_1 (by decide) rfl <| a_const iX2_unmetWants_2 <| a_istore iX2_unmetWants_3 (by decide) rfl <| ?_
  refine a_sub (L' := [some (rf g e), some (rf g c1), some (.int x2), some (.int 0), some (.int 0)]) (by exact ⟨rfl, ⟨rfl, ⟨rfl, ⟨rfl, ⟨rfl, trivial⟩⟩⟩⟩⟩) (w_X2_unmetWants_5 hE hC1 (fun v3_7 v4_7 h => ?_) FU _ _ h)
  refine a_iload iX2_unmetWants_44 rfl <| ?_
  obtain rfl := Option.some.inj h
  exact a_iret iX2_unmetWants_45 rfl ⟨Nat.le_refl 0, Nat.le_refl 0⟩ ⟨rfl, rfl, rfl, rfl⟩
def lp_X2_passHour_63 (e : Nat) (c1 : Nat) (v2 : Int32) (K : Int32 → Mi → Option (Mi)) : Nat → Int32 → Mi → Option (Mi)
  | 0, _, _ => none
  | n + 1, v3, mi => if (mi c1 5) ≤ v3 then (K v3 mi) else (if inb v3 8 then if inb ((v2 * 8) + v3) 24 then if inb v3 8 then if inb v3 8 then (f_X1_behindHour ((u2 mi (e + 4) ((v2 * 8) + v3).toNatClampNeg (mi (e + 3) v3.toNatClampNeg)) (c1 + 2) v3.toNatClampNeg) ((u2 mi (e + 4) ((v2 * 8) + v3).toNatClampNeg (mi (e + 3) v3.toNatClampNeg)) (e + 3) v3.toNatClampNeg) ((u2 mi (e + 4) ((v2 * 8) + v3).toNatClampNeg (mi (e + 3) v3.toNatClampNeg)) e 0) v2).bind (fun r21 => if inb v3 8 then lp_X2_passHour_63 e c1 v2 K n (v3 + 1) (u2 (u2 mi (e + 4) ((v2 * 8) + v3).toNatClampNeg (mi (e + 3) v3.toNatClampNeg)) (e + 3) v3.toNatClampNeg r21) else none) else none else none else none else none)
def f_X2_passHour (mi : Mi) (e c1 : Nat) : Option (Mi) := (f_X2_holderIn mi e c1 0).bind (fun r1 => (f_X7_isHeir r1).bind (fun r3 => if r3 = 0 then (some mi) else (if inb r1 3 then if inb r1 3 then nx (u2 mi (e + 1) r1.toNatClampNeg (if ((mi (e + 1) r1.toNatClampNeg) + (mi c1 3)) < (9999999) then ((mi (e + 1) r1.toNatClampNeg) + (mi c1 3)) else (9999999))) (fun mi9 => if inb r1 3 then (f_X2_unmetWants mi9 e c1 r1).bind (fun r11 => if inb r1 3 then nx (u2 mi9 (e + 2) r1.toNatClampNeg (if ((mi9 (e + 2) r1.toNatClampNeg) + r11) < (9999999) then ((mi9 (e + 2) r1.toNatClampNeg) + r11) else (9999999))) (fun mi15 => lp_X2_passHour_63 e c1 r1 (fun v3_24 mi24 => if (mi24 e 1) ≤ 0 then (some (u2 mi24 e 0 ((mi24 e 0) + 1))) else (some (u2 (u2 mi24 e 1 ((mi24 e 1) - 1)) e 0 (((u2 mi24 e 1 ((mi24 e 1) - 1)) e 0) + 1)))) FU 0 mi15) else none) else none) else none else none)))
set_option maxRecDepth 20000 in
set_option maxHeartbeats 4000000 in
theorem w_X2_passHour_63 {g : Gm} {V : Vw} {E : Ex} {e c1 : Nat} {ml : Ml} {v2 : Int32} (hE : LayE V e) (hC1 : LayC V c1) {K : Int32 → Mi → Option (Mi)} {r : Mi} (hK : ∀ (v3 : Int32) (mi : Mi), K v3 mi = some r → At g YX2_passHour E (qm g YX2_passHour (pV V r ml)) V (0, 0) 120 [some (rf g e), some (rf g c1), some (.int v2), some (.int v3)] [] mi ml) : ∀ (n : Nat) (v3 : Int32) (mi : Mi), lp_X2_passHour_63 e c1 v2 K n v3 mi = some r → At g YX2_passHour E (qm g YX2_passHour (pV V r ml)) V (0, 0) 63 [some (rf g e), some (rf g c1), some (.int v2), some (.int v3)] [] mi ml := by
  intro n
  induction n with
  | zero => intro v3 mi h; exact oz h
  | succ n ih =>
    intro v3 mi h
    unfold lp_X2_passHour_63 at h
    refine a_iload iX2_passHour_63 rfl <| a_aload iX2_passHour_64 rfl <| a_geti iX2_passHour_65 hC1.1 rfl <| ?_
    refine a_icmp_ge iX2_passHour_68 (fun hc16 => ?_) (fun hc16 => ?_)
    · have h := ot hc16 h
      exact a_sub (L' := [some (rf g e), some (rf g c1), some (.int v2), some (.int v3)]) (by exact ⟨rfl, ⟨rfl, ⟨rfl, ⟨rfl, trivial⟩⟩⟩⟩) (hK _ _ h)
    · have h := oe hc16 h
      refine a_aload iX2_passHour_71 rfl <| a_getr iX2_passHour_72 hE.1 rfl hE.2.2.2.2.2.2.2.2.2.1 <| a_iload iX2_passHour_75 rfl <| a_const iX2_passHour_76 <| a_imul iX2_passHour_78 <| a_iload iX2_passHour_79 rfl <| a_iadd iX2_passHour_80 <| a_aload iX2_passHour_81 rfl <| ?_
      refine a_getr iX2_passHour_82 hE.1 rfl hE.2.2.2.2.2.2.2.2.1 <| a_iload iX2_passHour_85 rfl <| ?_
      obtain ⟨hg17, h⟩ := og h
      refine a_iald iX2_passHour_86 hE.2.2.2.1 (inb_vp hg17) <| ?_
      obtain ⟨hg18, h⟩ := og h
      refine a_iast iX2_passHour_87 hE.2.2.2.2.1 (inb_vp hg18) <| a_aload iX2_passHour_88 rfl <| a_getr iX2_passHour_89 hE.1 rfl hE.2.2.2.2.2.2.2.2.1 <| a_iload iX2_passHour_92 rfl <| a_aload iX2_passHour_93 rfl <| a_getr iX2_passHour_94 hC1.1 rfl hC1.2.2.2.2.2.2.2.2.1 <| a_iload iX2_passHour_97 rfl <| ?_
      obtain ⟨hg19, h⟩ := og h
      refine a_iald iX2_passHour_98 hC1.2.2.1 (inb_vp hg19) <| a_aload iX2_passHour_99 rfl <| a_getr iX2_passHour_100 hE.1 rfl hE.2.2.2.2.2.2.2.2.1 <| a_iload iX2_passHour_103 rfl <| ?_
      obtain ⟨hg20, h⟩ := og h
      refine a_iald iX2_passHour_104 hE.2.2.2.1 (inb_vp hg20) <| a_aload iX2_passHour_105 rfl <| a_geti iX2_passHour_106 hE.1 rfl <| a_iload iX2_passHour_109 rfl <| ?_
      obtain ⟨r21, he22, h⟩ := ob h
      refine a_cSi iX2_passHour_110 okX1_behindHour stX1_behindHour ⟨rfl, rfl⟩ (c_X1_behindHour he22) rfl rfl (Nat.le_of_ble_eq_true rfl) ⟨Nat.le_refl 0, Nat.le_refl 0⟩ <| ?_
      obtain ⟨hg23, h⟩ := og h
      refine a_iast iX2_passHour_113 hE.2.2.2.1 (inb_vp hg23) <| a_iinc iX2_passHour_114 rfl (by decide) rfl <| a_goto iX2_passHour_117 <| ?_
      exact a_sub (L' := [some (rf g e), some (rf g c1), some (.int v2), some (.int (v3 + 1))]) (by exact ⟨rfl, ⟨rfl, ⟨rfl, ⟨rfl, trivial⟩⟩⟩⟩) (ih _ _ h)
set_option maxRecDepth 20000 in
set_option maxHeartbeats 4000000 in
theorem c_X2_passHour {g : Gm} {V : Vw} {mi : Mi} {ml : Ml} {e c1 : Nat} (hE : LayE V e) (hC1 : LayC V c1) {r : Mi} (h : f_X2_passHour mi e c1 = some r) : DoV g YX2_passHour V [rf g e, rf g c1] mi ml r ml := by
  unfold f_X2_passHour at h
  refine does_of (L := [some (rf g e), some (rf g c1), none, none]) okX2_passHour rfl (Nat.le_of_ble_eq_true rfl) rfl ?_
  show At g YX2_passHour _ (qm g YX2_passHour (pV V r ml)) V (0, 0) 0 _ [] mi ml
  refine a_aload iX2_passHour_0 rfl <| a_aload iX2_passHour_1 rfl <| a_const iX2_passHour_2 <| ?_
  obtain ⟨r1, he2, h⟩ := ob h
  refine a_cVi iX2_passHour_3 okX2_holderIn inX2_holderIn ⟨rfl, rfl⟩ hE.1 (c_X2_holderIn hE hC1 he2) rfl rfl (Nat.le_of_ble_eq_true rfl) ⟨Nat.le_refl 0, Nat.le_refl 0⟩ <| a_istore iX2_passHour_6 (by decide) rfl <| a_iload iX2_passHour_7 rfl <| ?_
  obtain ⟨r3, he4, h⟩ := ob h
  refine a_cSi iX2_passHour_8 okX7_isHeir stX7_isHeir ⟨rfl, rfl⟩ (c_X7_isHeir he4) rfl rfl (Nat.le_of_ble_eq_true rfl) ⟨Nat.le_refl 0, Nat.le_refl 0⟩ <| ?_
  refine a_if_ne iX2_passHour_11 (fun hc5 => ?_) (fun hc5 => ?_)
  · have h := oe hc5 h
    refine a_aload iX2_passHour_15 rfl <| a_getr iX2_passHour_16 hE.1 rfl hE.2.2.2.2.2.2.1 <| a_iload iX2_passHour_19 rfl <| a_const iX2_passHour_20 <| a_aload iX2_passHour_22 rfl <| a_getr iX2_passHour_23 hE.1 rfl hE.2.2.2.2.2.2.1 <| a_iload iX2_passHour_26 rfl <| ?_
    obtain ⟨hg6, h⟩ := og h
    refine a_iald iX2_passHour_27 hE.2.1 (inb_vp hg6) <| a_aload iX2_passHour_28 rfl <| a_geti iX2_passHour_29 hC1.1 rfl <| a_iadd iX2_passHour_32 <| a_min iX2_passHour_33 ⟨by decide, Nat.le_of_ble_eq_true rfl⟩ ⟨Nat.le_refl 0, Nat.le_refl 0⟩ <| ?_
    obtain ⟨hg7, h⟩ := og h
    refine a_iast iX2_passHour_36 hE.2.1 (inb_vp hg7) <| ?_
    obtain ⟨mi9, hm8, h⟩ := onx h
    refine a_mem hm8 <| a_aload iX2_passHour_37 rfl <| a_getr iX2_passHour_38 hE.1 rfl hE.2.2.2.2.2.2.2.1 <| a_iload iX2_passHour_41 rfl <| a_const iX2_passHour_42 <| a_aload iX2_passHour_44 rfl <| a_getr iX2_passHour_45 hE.1 rfl hE.2.2.2.2.2.2.2.1 <| a_iload iX2_passHour_48 rfl <| ?_
    obtain ⟨hg10, h⟩ := og h
    refine a_iald iX2_passHour_49 hE.2.2.1 (inb_vp hg10) <| a_aload iX2_passHour_50 rfl <| a_aload iX2_passHour_51 rfl <| a_iload iX2_passHour_52 rfl <| ?_
    obtain ⟨r11, he12, h⟩ := ob h
    refine a_cVi iX2_passHour_53 okX2_unmetWants inX2_unmetWants ⟨rfl, rfl⟩ hE.1 (c_X2_unmetWants hE hC1 he12) rfl rfl (Nat.le_of_ble_eq_true rfl) ⟨Nat.le_refl 0, Nat.le_refl 0⟩ <| a_iadd iX2_passHour_56 <| a_min iX2_passHour_57 ⟨by decide, Nat.le_of_ble_eq_true rfl⟩ ⟨Nat.le_refl 0, Nat.le_refl 0⟩ <| ?_
    obtain ⟨hg13, h⟩ := og h
    refine a_iast iX2_passHour_60 hE.2.2.1 (inb_vp hg13) <| ?_
    obtain ⟨mi15, hm14, h⟩ := onx h
    refine a_mem hm14 <| a_const iX2_passHour_61 <| a_istore iX2_passHour_62 (by decide) rfl <| ?_
    refine a_sub (L' := [some (rf g e), some (rf g c1), some (.int r1), some (.int 0)]) (by exact ⟨rfl, ⟨rfl, ⟨rfl, ⟨rfl, trivial⟩⟩⟩⟩) (w_X2_passHour_63 hE hC1 (fun v3_24 mi24 h => ?_) FU _ _ h)
    refine a_aload iX2_passHour_120 rfl <| a_geti iX2_passHour_121 hE.1 rfl <| ?_
    refine a_if_le iX2_passHour_124 (fun hc25 => ?_) (fun hc25 => ?_)
    · have h := ot hc25 h
      refine a_aload iX2_passHour_137 rfl <| a_dup iX2_passHour_138 rfl <| a_geti iX2_passHour_139 hE.1 rfl <| a_const iX2_passHour_142 <| a_iadd iX2_passHour_143 <| a_puti iX2_passHour_144 hE.1 rfl rfl rfl <| ?_
      obtain rfl := Option.some.inj h
      exact a_vret iX2_passHour_147 rfl ⟨Nat.le_refl 0, Nat.le_refl 0⟩ ⟨rfl, rfl, rfl, rfl⟩
    · have h := oe hc25 h
      refine a_aload iX2_passHour_127 rfl <| a_dup iX2_passHour_128 rfl <| a_geti iX2_passHour_129 hE.1 rfl <| a_const iX2_passHour_132 <| a_isub iX2_passHour_133 <| a_puti iX2_passHour_134 hE.1 rfl rfl rfl <| a_aload iX2_passHour_137 rfl <| a_dup iX2_passHour_138 rfl <| ?_
      refine a_geti iX2_passHour_139 hE.1 rfl <| a_const iX2_passHour_142 <| a_iadd iX2_passHour_143 <| a_puti iX2_passHour_144 hE.1 rfl rfl rfl <| ?_
      obtain rfl := Option.some.inj h
      exact a_vret iX2_passHour_147 rfl ⟨Nat.le_refl 0, Nat.le_refl 0⟩ ⟨rfl, rfl, rfl, rfl⟩
  · have h := ot hc5 h
    obtain rfl := Option.some.inj h
    exact a_vret iX2_passHour_14 rfl ⟨Nat.le_refl 0, Nat.le_refl 0⟩ ⟨rfl, rfl, rfl, rfl⟩
def f_X2_setThing (mi : Mi) (e c1 : Nat) (x2 x3 : Int32) : Option (Mi) := if inb x2 8 then nx (ur (u2 mi (e + 3) x2.toNatClampNeg x3) (e + 5) (va_cpy ((u2 mi (e + 3) x2.toNatClampNeg x3) (e + 5)) ((u2 mi (e + 3) x2.toNatClampNeg x3) (e + 5)) (0 : Int32).toNatClampNeg (4 : Int32).toNatClampNeg (76 : Int32).toNatClampNeg)) (fun mi3 => if inb 0 80 then (f_X2_holderIn (u2 mi3 (e + 5) (0 : Int32).toNatClampNeg (mi3 e 0)) e c1 0).bind (fun r5 => if inb 1 80 then if inb 2 80 then nx (u2 (u2 (u2 mi3 (e + 5) (0 : Int32).toNatClampNeg (mi3 e 0)) (e + 5) (1 : Int32).toNatClampNeg r5) (e + 5) (2 : Int32).toNatClampNeg x2) (fun mi10 => if inb 3 80 then nx (u2 (u2 mi10 (e + 5) (3 : Int32).toNatClampNeg x3) e 2 (if (((u2 mi10 (e + 5) (3 : Int32).toNatClampNeg x3) e 2) + 1) < 20 then (((u2 mi10 (e + 5) (3 : Int32).toNatClampNeg x3) e 2) + 1) else 20)) (fun mi13 => some mi13) else none) else none else none) else none) else none
set_option maxRecDepth 20000 in
set_option maxHeartbeats 4000000 in
theorem c_X2_setThing {g : Gm} {V : Vw} {mi : Mi} {ml : Ml} {e c1 : Nat} {x2 x3 : Int32} (hE : LayE V e) (hC1 : LayC V c1) (hF : V.2.2.2 = false) {r : Mi} (h : f_X2_setThing mi e c1 x2 x3 = some r) : DoV g YX2_setThing V [rf g e, rf g c1, .int x2, .int x3] mi ml r ml := by
  unfold f_X2_setThing at h
  refine does_of (L := [some (rf g e), some (rf g c1), some (.int x2), some (.int x3)]) okX2_setThing rfl (Nat.le_of_ble_eq_true rfl) rfl ?_
  show At g YX2_setThing _ (qm g YX2_setThing (pV V r ml)) V (0, 0) 0 _ [] mi ml
  refine a_aload iX2_setThing_0 rfl <| a_getr iX2_setThing_1 hE.1 rfl hE.2.2.2.2.2.2.2.2.1 <| a_iload iX2_setThing_4 rfl <| a_iload iX2_setThing_5 rfl <| ?_
  obtain ⟨hg1, h⟩ := og h
  refine a_iast iX2_setThing_6 hE.2.2.2.1 (inb_vp hg1) <| a_aload iX2_setThing_7 rfl <| a_getr iX2_setThing_8 hE.1 rfl hE.2.2.2.2.2.2.2.2.2.2 <| a_const iX2_setThing_11 <| a_aload iX2_setThing_12 rfl <| a_getr iX2_setThing_13 hE.1 rfl hE.2.2.2.2.2.2.2.2.2.2 <| a_const iX2_setThing_16 <| a_const iX2_setThing_17 <| ?_
  refine a_copy iX2_setThing_19 hF hE.2.2.2.2.2.1 hE.2.2.2.2.2.1 (by decide) (by decide) (by decide) (by decide) (by decide) ⟨by decide, Nat.le_of_ble_eq_true rfl⟩ <| ?_
  obtain ⟨mi3, hm2, h⟩ := onx h
  refine a_mem hm2 <| a_aload iX2_setThing_22 rfl <| a_getr iX2_setThing_23 hE.1 rfl hE.2.2.2.2.2.2.2.2.2.2 <| a_const iX2_setThing_26 <| a_aload iX2_setThing_27 rfl <| a_geti iX2_setThing_28 hE.1 rfl <| ?_
  obtain ⟨hg4, h⟩ := og h
  refine a_iast iX2_setThing_31 hE.2.2.2.2.2.1 (inb_vp hg4) <| a_aload iX2_setThing_32 rfl <| a_getr iX2_setThing_33 hE.1 rfl hE.2.2.2.2.2.2.2.2.2.2 <| a_const iX2_setThing_36 <| a_aload iX2_setThing_37 rfl <| a_aload iX2_setThing_38 rfl <| a_const iX2_setThing_39 <| ?_
  obtain ⟨r5, he6, h⟩ := ob h
  refine a_cVi iX2_setThing_40 okX2_holderIn inX2_holderIn ⟨rfl, rfl⟩ hE.1 (c_X2_holderIn hE hC1 he6) rfl rfl (Nat.le_of_ble_eq_true rfl) ⟨Nat.le_refl 0, Nat.le_refl 0⟩ <| ?_
  obtain ⟨hg7, h⟩ := og h
  refine a_iast iX2_setThing_43 hE.2.2.2.2.2.1 (inb_vp hg7) <| a_aload iX2_setThing_44 rfl <| a_getr iX2_setThing_45 hE.1 rfl hE.2.2.2.2.2.2.2.2.2.2 <| a_const iX2_setThing_48 <| a_iload iX2_setThing_49 rfl <| ?_
  obtain ⟨hg8, h⟩ := og h
  refine a_iast iX2_setThing_50 hE.2.2.2.2.2.1 (inb_vp hg8) <| ?_
  obtain ⟨mi10, hm9, h⟩ := onx h
  refine a_mem hm9 <| a_aload iX2_setThing_51 rfl <| a_getr iX2_setThing_52 hE.1 rfl hE.2.2.2.2.2.2.2.2.2.2 <| a_const iX2_setThing_55 <| a_iload iX2_setThing_56 rfl <| ?_
  obtain ⟨hg11, h⟩ := og h
  refine a_iast iX2_setThing_57 hE.2.2.2.2.2.1 (inb_vp hg11) <| a_aload iX2_setThing_58 rfl <| a_const iX2_setThing_59 <| a_aload iX2_setThing_61 rfl <| a_geti iX2_setThing_62 hE.1 rfl <| a_const iX2_setThing_65 <| a_iadd iX2_setThing_66 <| a_min iX2_setThing_67 ⟨by decide, Nat.le_of_ble_eq_true rfl⟩ ⟨Nat.le_refl 0, Nat.le_refl 0⟩ <| ?_
  refine a_puti iX2_setThing_70 hE.1 rfl rfl rfl <| ?_
  obtain ⟨mi13, hm12, h⟩ := onx h
  refine a_mem hm12 <| ?_
  obtain rfl := Option.some.inj h
  exact a_vret iX2_setThing_73 rfl ⟨Nat.le_refl 0, Nat.le_refl 0⟩ ⟨rfl, rfl, rfl, rfl⟩
def lp_X2_metWants_4 (e : Nat) (c1 : Nat) (mi : Mi) (K : Int32 → Int32 → Option (Int32)) : Nat → Int32 → Int32 → Option (Int32)
  | 0, _, _ => none
  | n + 1, v2, v3 => if (mi c1 7) ≤ v3 then (K v2 v3) else ((f_X2_isMet mi e c1 v3).bind (fun r2 => if r2 = 0 then (lp_X2_metWants_4 e c1 mi K n v2 (v3 + 1)) else (lp_X2_metWants_4 e c1 mi K n (v2 ||| (1 <<< (v3 &&& 31))) (v3 + 1))))
def f_X2_metWants (mi : Mi) (e c1 : Nat) : Option (Int32) := lp_X2_metWants_4 e c1 mi (fun v2_5 v3_5 => some v2_5) FU 0 0
set_option maxRecDepth 20000 in
set_option maxHeartbeats 4000000 in
theorem w_X2_metWants_4 {g : Gm} {V : Vw} {E : Ex} {e c1 : Nat} {mi : Mi} {ml : Ml} (hE : LayE V e) (hC1 : LayC V c1) {K : Int32 → Int32 → Option (Int32)} {r : Int32} (hK : ∀ (v2 : Int32) (v3 : Int32), K v2 v3 = some r → At g YX2_metWants E (qm g YX2_metWants (pI V r mi ml)) V (0, 0) 33 [some (rf g e), some (rf g c1), some (.int v2), some (.int v3)] [] mi ml) : ∀ (n : Nat) (v2 : Int32) (v3 : Int32), lp_X2_metWants_4 e c1 mi K n v2 v3 = some r → At g YX2_metWants E (qm g YX2_metWants (pI V r mi ml)) V (0, 0) 4 [some (rf g e), some (rf g c1), some (.int v2), some (.int v3)] [] mi ml := by
  intro n
  induction n with
  | zero => intro v2 v3 h; exact oz h
  | succ n ih =>
    intro v2 v3 h
    unfold lp_X2_metWants_4 at h
    refine a_iload iX2_metWants_4 rfl <| a_aload iX2_metWants_5 rfl <| a_geti iX2_metWants_6 hC1.1 rfl <| ?_
    refine a_icmp_ge iX2_metWants_9 (fun hc1 => ?_) (fun hc1 => ?_)
    · have h := ot hc1 h
      exact a_sub (L' := [some (rf g e), some (rf g c1), some (.int v2), some (.int v3)]) (by exact ⟨rfl, ⟨rfl, ⟨rfl, ⟨rfl, trivial⟩⟩⟩⟩) (hK _ _ h)
    · have h := oe hc1 h
      refine a_aload iX2_metWants_12 rfl <| a_aload iX2_metWants_13 rfl <| a_iload iX2_metWants_14 rfl <| ?_
      obtain ⟨r2, he3, h⟩ := ob h
      refine a_cVi iX2_metWants_15 okX2_isMet inX2_isMet ⟨rfl, rfl⟩ hE.1 (c_X2_isMet hE hC1 he3) rfl rfl (Nat.le_of_ble_eq_true rfl) ⟨Nat.le_refl 0, Nat.le_refl 0⟩ <| ?_
      refine a_if_eq iX2_metWants_18 (fun hc4 => ?_) (fun hc4 => ?_)
      · have h := ot hc4 h
        refine a_iinc iX2_metWants_27 rfl (by decide) rfl <| a_goto iX2_metWants_30 <| ?_
        exact a_sub (L' := [some (rf g e), some (rf g c1), some (.int v2), some (.int (v3 + 1))]) (by exact ⟨rfl, ⟨rfl, ⟨rfl, ⟨rfl, trivial⟩⟩⟩⟩) (ih _ _ h)
      · have h := oe hc4 h
        refine a_iload iX2_metWants_21 rfl <| a_const iX2_metWants_22 <| a_iload iX2_metWants_23 rfl <| a_ishl iX2_metWants_24 <| a_ior iX2_metWants_25 <| a_istore iX2_metWants_26 (by decide) rfl <| a_iinc iX2_metWants_27 rfl (by decide) rfl <| a_goto iX2_metWants_30 <| ?_
        exact a_sub (L' := [some (rf g e), some (rf g c1), some (.int (v2 ||| (1 <<< (v3 &&& 31)))), some (.int (v3 + 1))]) (by exact ⟨rfl, ⟨rfl, ⟨rfl, ⟨rfl, trivial⟩⟩⟩⟩) (ih _ _ h)
set_option maxRecDepth 20000 in
set_option maxHeartbeats 4000000 in
theorem c_X2_metWants {g : Gm} {V : Vw} {mi : Mi} {ml : Ml} {e c1 : Nat} (hE : LayE V e) (hC1 : LayC V c1) {r : Int32} (h : f_X2_metWants mi e c1 = some r) : DoI g YX2_metWants V [rf g e, rf g c1] mi ml r mi ml := by
  unfold f_X2_metWants at h
  refine does_of (L := [some (rf g e), some (rf g c1), none, none]) okX2_metWants rfl (Nat.le_of_ble_eq_true rfl) rfl ?_
  show At g YX2_metWants _ (qm g YX2_metWants (pI V r mi ml)) V (0, 0) 0 _ [] mi ml
  refine a_const iX2_metWants_0 <| a_istore iX2_metWants_1 (by decide) rfl <| a_const iX2_metWants_2 <| a_istore iX2_metWants_3 (by decide) rfl <| ?_
  refine a_sub (L' := [some (rf g e), some (rf g c1), some (.int 0), some (.int 0)]) (by exact ⟨rfl, ⟨rfl, ⟨rfl, ⟨rfl, trivial⟩⟩⟩⟩) (w_X2_metWants_4 hE hC1 (fun v2_5 v3_5 h => ?_) FU _ _ h)
  refine a_iload iX2_metWants_33 rfl <| ?_
  obtain rfl := Option.some.inj h
  exact a_iret iX2_metWants_34 rfl ⟨Nat.le_refl 0, Nat.le_refl 0⟩ ⟨rfl, rfl, rfl, rfl⟩
def lp_X2_wrongAbout_5 (e : Nat) (c1 : Nat) (mi : Mi) (v2 : Int32) (K : Int32 → Int32 → Option (Int32)) : Nat → Int32 → Int32 → Option (Int32)
  | 0, _, _ => none
  | n + 1, v3, v4 => if (mi c1 5) ≤ v4 then (K v3 v4) else (if inb ((v2 * 8) + v4) 24 then if inb v4 8 then if (mi (e + 4) ((v2 * 8) + v4).toNatClampNeg) = (mi (e + 3) v4.toNatClampNeg) then (lp_X2_wrongAbout_5 e c1 mi v2 K n v3 (v4 + 1)) else (lp_X2_wrongAbout_5 e c1 mi v2 K n (v3 ||| (1 <<< (v4 &&& 31))) (v4 + 1)) else none else none)
def f_X2_wrongAbout (mi : Mi) (e c1 : Nat) (x2 : Int32) : Option (Int32) := lp_X2_wrongAbout_5 e c1 mi x2 (fun v3_5 v4_5 => some v3_5) FU 0 0
set_option maxRecDepth 20000 in
set_option maxHeartbeats 4000000 in
theorem w_X2_wrongAbout_5 {g : Gm} {V : Vw} {E : Ex} {e c1 : Nat} {mi : Mi} {ml : Ml} {v2 : Int32} (hE : LayE V e) (hC1 : LayC V c1) {K : Int32 → Int32 → Option (Int32)} {r : Int32} (hK : ∀ (v3 : Int32) (v4 : Int32), K v3 v4 = some r → At g YX2_wrongAbout E (qm g YX2_wrongAbout (pI V r mi ml)) V (0, 0) 49 [some (rf g e), some (rf g c1), some (.int v2), some (.int v3), some (.int v4)] [] mi ml) : ∀ (n : Nat) (v3 : Int32) (v4 : Int32), lp_X2_wrongAbout_5 e c1 mi v2 K n v3 v4 = some r → At g YX2_wrongAbout E (qm g YX2_wrongAbout (pI V r mi ml)) V (0, 0) 5 [some (rf g e), some (rf g c1), some (.int v2), some (.int v3), some (.int v4)] [] mi ml := by
  intro n
  induction n with
  | zero => intro v3 v4 h; exact oz h
  | succ n ih =>
    intro v3 v4 h
    unfold lp_X2_wrongAbout_5 at h
    refine a_iload iX2_wrongAbout_5 rfl <| a_aload iX2_wrongAbout_7 rfl <| a_geti iX2_wrongAbout_8 hC1.1 rfl <| ?_
    refine a_icmp_ge iX2_wrongAbout_11 (fun hc1 => ?_) (fun hc1 => ?_)
    · have h := ot hc1 h
      exact a_sub (L' := [some (rf g e), some (rf g c1), some (.int v2), some (.int v3), some (.int v4)]) (by exact ⟨rfl, ⟨rfl, ⟨rfl, ⟨rfl, ⟨rfl, trivial⟩⟩⟩⟩⟩) (hK _ _ h)
    · have h := oe hc1 h
      refine a_aload iX2_wrongAbout_14 rfl <| a_getr iX2_wrongAbout_15 hE.1 rfl hE.2.2.2.2.2.2.2.2.2.1 <| a_iload iX2_wrongAbout_18 rfl <| a_const iX2_wrongAbout_19 <| a_imul iX2_wrongAbout_21 <| a_iload iX2_wrongAbout_22 rfl <| a_iadd iX2_wrongAbout_24 <| ?_
      obtain ⟨hg2, h⟩ := og h
      refine a_iald iX2_wrongAbout_25 hE.2.2.2.2.1 (inb_vp hg2) <| a_aload iX2_wrongAbout_26 rfl <| a_getr iX2_wrongAbout_27 hE.1 rfl hE.2.2.2.2.2.2.2.2.1 <| a_iload iX2_wrongAbout_30 rfl <| ?_
      obtain ⟨hg3, h⟩ := og h
      refine a_iald iX2_wrongAbout_32 hE.2.2.2.1 (inb_vp hg3) <| ?_
      refine a_icmp_eq iX2_wrongAbout_33 (fun hc4 => ?_) (fun hc4 => ?_)
      · have h := ot hc4 h
        refine a_iinc iX2_wrongAbout_43 rfl (by decide) rfl <| a_goto iX2_wrongAbout_46 <| ?_
        exact a_sub (L' := [some (rf g e), some (rf g c1), some (.int v2), some (.int v3), some (.int (v4 + 1))]) (by exact ⟨rfl, ⟨rfl, ⟨rfl, ⟨rfl, ⟨rfl, trivial⟩⟩⟩⟩⟩) (ih _ _ h)
      · have h := oe hc4 h
        refine a_iload iX2_wrongAbout_36 rfl <| a_const iX2_wrongAbout_37 <| a_iload iX2_wrongAbout_38 rfl <| a_ishl iX2_wrongAbout_40 <| a_ior iX2_wrongAbout_41 <| a_istore iX2_wrongAbout_42 (by decide) rfl <| a_iinc iX2_wrongAbout_43 rfl (by decide) rfl <| a_goto iX2_wrongAbout_46 <| ?_
        exact a_sub (L' := [some (rf g e), some (rf g c1), some (.int v2), some (.int (v3 ||| (1 <<< (v4 &&& 31)))), some (.int (v4 + 1))]) (by exact ⟨rfl, ⟨rfl, ⟨rfl, ⟨rfl, ⟨rfl, trivial⟩⟩⟩⟩⟩) (ih _ _ h)
set_option maxRecDepth 20000 in
set_option maxHeartbeats 4000000 in
theorem c_X2_wrongAbout {g : Gm} {V : Vw} {mi : Mi} {ml : Ml} {e c1 : Nat} {x2 : Int32} (hE : LayE V e) (hC1 : LayC V c1) {r : Int32} (h : f_X2_wrongAbout mi e c1 x2 = some r) : DoI g YX2_wrongAbout V [rf g e, rf g c1, .int x2] mi ml r mi ml := by
  unfold f_X2_wrongAbout at h
  refine does_of (L := [some (rf g e), some (rf g c1), some (.int x2), none, none]) okX2_wrongAbout rfl (Nat.le_of_ble_eq_true rfl) rfl ?_
  show At g YX2_wrongAbout _ (qm g YX2_wrongAbout (pI V r mi ml)) V (0, 0) 0 _ [] mi ml
  refine a_const iX2_wrongAbout_0 <| a_istore iX2_wrongAbout_1 (by decide) rfl <| a_const iX2_wrongAbout_2 <| a_istore iX2_wrongAbout_3 (by decide) rfl <| ?_
  refine a_sub (L' := [some (rf g e), some (rf g c1), some (.int x2), some (.int 0), some (.int 0)]) (by exact ⟨rfl, ⟨rfl, ⟨rfl, ⟨rfl, ⟨rfl, trivial⟩⟩⟩⟩⟩) (w_X2_wrongAbout_5 hE hC1 (fun v3_5 v4_5 h => ?_) FU _ _ h)
  refine a_iload iX2_wrongAbout_49 rfl <| ?_
  obtain rfl := Option.some.inj h
  exact a_iret iX2_wrongAbout_50 rfl ⟨Nat.le_refl 0, Nat.le_refl 0⟩ ⟨rfl, rfl, rfl, rfl⟩
def f_J6_bitCount_0f7a4 (x0 : Int32) : Option (Int32) := some ((((((((x0 - (((x0.toUInt32 >>> ((1 : Int32).toUInt32 &&& Int32.toUInt32 31)).toInt32) &&& (1431655765))) &&& (858993459)) + ((((x0 - (((x0.toUInt32 >>> ((1 : Int32).toUInt32 &&& Int32.toUInt32 31)).toInt32) &&& (1431655765))).toUInt32 >>> ((2 : Int32).toUInt32 &&& Int32.toUInt32 31)).toInt32) &&& (858993459))) + (((((x0 - (((x0.toUInt32 >>> ((1 : Int32).toUInt32 &&& Int32.toUInt32 31)).toInt32) &&& (1431655765))) &&& (858993459)) + ((((x0 - (((x0.toUInt32 >>> ((1 : Int32).toUInt32 &&& Int32.toUInt32 31)).toInt32) &&& (1431655765))).toUInt32 >>> ((2 : Int32).toUInt32 &&& Int32.toUInt32 31)).toInt32) &&& (858993459))).toUInt32 >>> ((4 : Int32).toUInt32 &&& Int32.toUInt32 31)).toInt32)) &&& (252645135)) + (((((((x0 - (((x0.toUInt32 >>> ((1 : Int32).toUInt32 &&& Int32.toUInt32 31)).toInt32) &&& (1431655765))) &&& (858993459)) + ((((x0 - (((x0.toUInt32 >>> ((1 : Int32).toUInt32 &&& Int32.toUInt32 31)).toInt32) &&& (1431655765))).toUInt32 >>> ((2 : Int32).toUInt32 &&& Int32.toUInt32 31)).toInt32) &&& (858993459))) + (((((x0 - (((x0.toUInt32 >>> ((1 : Int32).toUInt32 &&& Int32.toUInt32 31)).toInt32) &&& (1431655765))) &&& (858993459)) + ((((x0 - (((x0.toUInt32 >>> ((1 : Int32).toUInt32 &&& Int32.toUInt32 31)).toInt32) &&& (1431655765))).toUInt32 >>> ((2 : Int32).toUInt32 &&& Int32.toUInt32 31)).toInt32) &&& (858993459))).toUInt32 >>> ((4 : Int32).toUInt32 &&& Int32.toUInt32 31)).toInt32)) &&& (252645135)).toUInt32 >>> ((8 : Int32).toUInt32 &&& Int32.toUInt32 31)).toInt32)) + ((((((((x0 - (((x0.toUInt32 >>> ((1 : Int32).toUInt32 &&& Int32.toUInt32 31)).toInt32) &&& (1431655765))) &&& (858993459)) + ((((x0 - (((x0.toUInt32 >>> ((1 : Int32).toUInt32 &&& Int32.toUInt32 31)).toInt32) &&& (1431655765))).toUInt32 >>> ((2 : Int32).toUInt32 &&& Int32.toUInt32 31)).toInt32) &&& (858993459))) + (((((x0 - (((x0.toUInt32 >>> ((1 : Int32).toUInt32 &&& Int32.toUInt32 31)).toInt32) &&& (1431655765))) &&& (858993459)) + ((((x0 - (((x0.toUInt32 >>> ((1 : Int32).toUInt32 &&& Int32.toUInt32 31)).toInt32) &&& (1431655765))).toUInt32 >>> ((2 : Int32).toUInt32 &&& Int32.toUInt32 31)).toInt32) &&& (858993459))).toUInt32 >>> ((4 : Int32).toUInt32 &&& Int32.toUInt32 31)).toInt32)) &&& (252645135)) + (((((((x0 - (((x0.toUInt32 >>> ((1 : Int32).toUInt32 &&& Int32.toUInt32 31)).toInt32) &&& (1431655765))) &&& (858993459)) + ((((x0 - (((x0.toUInt32 >>> ((1 : Int32).toUInt32 &&& Int32.toUInt32 31)).toInt32) &&& (1431655765))).toUInt32 >>> ((2 : Int32).toUInt32 &&& Int32.toUInt32 31)).toInt32) &&& (858993459))) + (((((x0 - (((x0.toUInt32 >>> ((1 : Int32).toUInt32 &&& Int32.toUInt32 31)).toInt32) &&& (1431655765))) &&& (858993459)) + ((((x0 - (((x0.toUInt32 >>> ((1 : Int32).toUInt32 &&& Int32.toUInt32 31)).toInt32) &&& (1431655765))).toUInt32 >>> ((2 : Int32).toUInt32 &&& Int32.toUInt32 31)).toInt32) &&& (858993459))).toUInt32 >>> ((4 : Int32).toUInt32 &&& Int32.toUInt32 31)).toInt32)) &&& (252645135)).toUInt32 >>> ((8 : Int32).toUInt32 &&& Int32.toUInt32 31)).toInt32)).toUInt32 >>> ((16 : Int32).toUInt32 &&& Int32.toUInt32 31)).toInt32)) &&& 63)
set_option maxRecDepth 20000 in
set_option maxHeartbeats 4000000 in
theorem c_J6_bitCount_0f7a4 {g : Gm} {V : Vw} {mi : Mi} {ml : Ml} {x0 : Int32}  {r : Int32} (h : f_J6_bitCount_0f7a4 x0 = some r) : DoI g YJ6_bitCount_0f7a4 V [.int x0] mi ml r mi ml := by
  unfold f_J6_bitCount_0f7a4 at h
  refine does_of (L := [some (.int x0)]) okJ6_bitCount_0f7a4 rfl (Nat.le_of_ble_eq_true rfl) rfl ?_
  show At g YJ6_bitCount_0f7a4 _ (qm g YJ6_bitCount_0f7a4 (pI V r mi ml)) V (0, 0) 0 _ [] mi ml
  refine a_iload iJ6_bitCount_0f7a4_0 rfl <| a_iload iJ6_bitCount_0f7a4_1 rfl <| a_const iJ6_bitCount_0f7a4_2 <| a_iushr iJ6_bitCount_0f7a4_3 <| a_const iJ6_bitCount_0f7a4_4 <| a_iand iJ6_bitCount_0f7a4_7 <| a_isub iJ6_bitCount_0f7a4_8 <| a_istore iJ6_bitCount_0f7a4_9 (by decide) rfl <| ?_
  refine a_iload iJ6_bitCount_0f7a4_10 rfl <| a_const iJ6_bitCount_0f7a4_11 <| a_iand iJ6_bitCount_0f7a4_14 <| a_iload iJ6_bitCount_0f7a4_15 rfl <| a_const iJ6_bitCount_0f7a4_16 <| a_iushr iJ6_bitCount_0f7a4_17 <| a_const iJ6_bitCount_0f7a4_18 <| a_iand iJ6_bitCount_0f7a4_21 <| ?_
  refine a_iadd iJ6_bitCount_0f7a4_22 <| a_istore iJ6_bitCount_0f7a4_23 (by decide) rfl <| a_iload iJ6_bitCount_0f7a4_24 rfl <| a_iload iJ6_bitCount_0f7a4_25 rfl <| a_const iJ6_bitCount_0f7a4_26 <| a_iushr iJ6_bitCount_0f7a4_27 <| a_iadd iJ6_bitCount_0f7a4_28 <| a_const iJ6_bitCount_0f7a4_29 <| ?_
  refine a_iand iJ6_bitCount_0f7a4_32 <| a_istore iJ6_bitCount_0f7a4_33 (by decide) rfl <| a_iload iJ6_bitCount_0f7a4_34 rfl <| a_iload iJ6_bitCount_0f7a4_35 rfl <| a_const iJ6_bitCount_0f7a4_36 <| a_iushr iJ6_bitCount_0f7a4_38 <| a_iadd iJ6_bitCount_0f7a4_39 <| a_istore iJ6_bitCount_0f7a4_40 (by decide) rfl <| ?_
  refine a_iload iJ6_bitCount_0f7a4_41 rfl <| a_iload iJ6_bitCount_0f7a4_42 rfl <| a_const iJ6_bitCount_0f7a4_43 <| a_iushr iJ6_bitCount_0f7a4_45 <| a_iadd iJ6_bitCount_0f7a4_46 <| a_istore iJ6_bitCount_0f7a4_47 (by decide) rfl <| a_iload iJ6_bitCount_0f7a4_48 rfl <| a_const iJ6_bitCount_0f7a4_49 <| ?_
  refine a_iand iJ6_bitCount_0f7a4_51 <| ?_
  obtain rfl := Option.some.inj h
  exact a_iret iJ6_bitCount_0f7a4_52 rfl ⟨Nat.le_refl 0, Nat.le_refl 0⟩ ⟨rfl, rfl, rfl, rfl⟩
def lp_X2_notesNeeded_12 (e : Nat) (c1 : Nat) (mi : Mi) (v2 : Int32) (K : Int32 → Int32 → Option (Int32)) : Nat → Int32 → Int32 → Option (Int32)
  | 0, _, _ => none
  | n + 1, v3, v4 => if 3 ≤ v4 then (K v3 v4) else (if v4 = v2 then (lp_X2_notesNeeded_12 e c1 mi v2 K n v3 (v4 + 1)) else ((f_X2_wrongAbout mi e c1 v4).bind (fun r5 => (f_J6_bitCount_0f7a4 r5).bind (fun r7 => lp_X2_notesNeeded_12 e c1 mi v2 K n (v3 + r7) (v4 + 1)))))
def f_X2_notesNeeded (mi : Mi) (e c1 : Nat) : Option (Int32) := (f_X2_holderIn mi e c1 0).bind (fun r1 => lp_X2_notesNeeded_12 e c1 mi r1 (fun v3_9 v4_9 => some v3_9) FU 0 0)
set_option maxRecDepth 20000 in
set_option maxHeartbeats 4000000 in
theorem w_X2_notesNeeded_12 {g : Gm} {V : Vw} {E : Ex} {e c1 : Nat} {mi : Mi} {ml : Ml} {v2 : Int32} (hE : LayE V e) (hC1 : LayC V c1) {K : Int32 → Int32 → Option (Int32)} {r : Int32} (hK : ∀ (v3 : Int32) (v4 : Int32), K v3 v4 = some r → At g YX2_notesNeeded E (qm g YX2_notesNeeded (pI V r mi ml)) V (0, 0) 43 [some (rf g e), some (rf g c1), some (.int v2), some (.int v3), some (.int v4)] [] mi ml) : ∀ (n : Nat) (v3 : Int32) (v4 : Int32), lp_X2_notesNeeded_12 e c1 mi v2 K n v3 v4 = some r → At g YX2_notesNeeded E (qm g YX2_notesNeeded (pI V r mi ml)) V (0, 0) 12 [some (rf g e), some (rf g c1), some (.int v2), some (.int v3), some (.int v4)] [] mi ml := by
  intro n
  induction n with
  | zero => intro v3 v4 h; exact oz h
  | succ n ih =>
    intro v3 v4 h
    unfold lp_X2_notesNeeded_12 at h
    refine a_iload iX2_notesNeeded_12 rfl <| a_const iX2_notesNeeded_14 <| ?_
    refine a_icmp_ge iX2_notesNeeded_15 (fun hc3 => ?_) (fun hc3 => ?_)
    · have h := ot hc3 h
      exact a_sub (L' := [some (rf g e), some (rf g c1), some (.int v2), some (.int v3), some (.int v4)]) (by exact ⟨rfl, ⟨rfl, ⟨rfl, ⟨rfl, ⟨rfl, trivial⟩⟩⟩⟩⟩) (hK _ _ h)
    · have h := oe hc3 h
      refine a_iload iX2_notesNeeded_18 rfl <| a_iload iX2_notesNeeded_20 rfl <| ?_
      refine a_icmp_eq iX2_notesNeeded_21 (fun hc4 => ?_) (fun hc4 => ?_)
      · have h := ot hc4 h
        refine a_iinc iX2_notesNeeded_37 rfl (by decide) rfl <| a_goto iX2_notesNeeded_40 <| ?_
        exact a_sub (L' := [some (rf g e), some (rf g c1), some (.int v2), some (.int v3), some (.int (v4 + 1))]) (by exact ⟨rfl, ⟨rfl, ⟨rfl, ⟨rfl, ⟨rfl, trivial⟩⟩⟩⟩⟩) (ih _ _ h)
      · have h := oe hc4 h
        refine a_iload iX2_notesNeeded_24 rfl <| a_aload iX2_notesNeeded_25 rfl <| a_aload iX2_notesNeeded_26 rfl <| a_iload iX2_notesNeeded_27 rfl <| ?_
        obtain ⟨r5, he6, h⟩ := ob h
        refine a_cVi iX2_notesNeeded_29 okX2_wrongAbout inX2_wrongAbout ⟨rfl, rfl⟩ hE.1 (c_X2_wrongAbout hE hC1 he6) rfl rfl (Nat.le_of_ble_eq_true rfl) ⟨Nat.le_refl 0, Nat.le_refl 0⟩ <| ?_
        obtain ⟨r7, he8, h⟩ := ob h
        refine a_cSi iX2_notesNeeded_32 okJ6_bitCount_0f7a4 stJ6_bitCount_0f7a4 ⟨rfl, rfl⟩ (c_J6_bitCount_0f7a4 he8) rfl rfl (Nat.le_of_ble_eq_true rfl) ⟨Nat.le_refl 0, Nat.le_refl 0⟩ <| a_iadd iX2_notesNeeded_35 <| a_istore iX2_notesNeeded_36 (by decide) rfl <| a_iinc iX2_notesNeeded_37 rfl (by decide) rfl <| a_goto iX2_notesNeeded_40 <| ?_
        exact a_sub (L' := [some (rf g e), some (rf g c1), some (.int v2), some (.int (v3 + r7)), some (.int (v4 + 1))]) (by exact ⟨rfl, ⟨rfl, ⟨rfl, ⟨rfl, ⟨rfl, trivial⟩⟩⟩⟩⟩) (ih _ _ h)
set_option maxRecDepth 20000 in
set_option maxHeartbeats 4000000 in
theorem c_X2_notesNeeded {g : Gm} {V : Vw} {mi : Mi} {ml : Ml} {e c1 : Nat} (hE : LayE V e) (hC1 : LayC V c1) {r : Int32} (h : f_X2_notesNeeded mi e c1 = some r) : DoI g YX2_notesNeeded V [rf g e, rf g c1] mi ml r mi ml := by
  unfold f_X2_notesNeeded at h
  refine does_of (L := [some (rf g e), some (rf g c1), none, none, none]) okX2_notesNeeded rfl (Nat.le_of_ble_eq_true rfl) rfl ?_
  show At g YX2_notesNeeded _ (qm g YX2_notesNeeded (pI V r mi ml)) V (0, 0) 0 _ [] mi ml
  refine a_aload iX2_notesNeeded_0 rfl <| a_aload iX2_notesNeeded_1 rfl <| a_const iX2_notesNeeded_2 <| ?_
  obtain ⟨r1, he2, h⟩ := ob h
  refine a_cVi iX2_notesNeeded_3 okX2_holderIn inX2_holderIn ⟨rfl, rfl⟩ hE.1 (c_X2_holderIn hE hC1 he2) rfl rfl (Nat.le_of_ble_eq_true rfl) ⟨Nat.le_refl 0, Nat.le_refl 0⟩ <| a_istore iX2_notesNeeded_6 (by decide) rfl <| a_const iX2_notesNeeded_7 <| a_istore iX2_notesNeeded_8 (by decide) rfl <| a_const iX2_notesNeeded_9 <| a_istore iX2_notesNeeded_10 (by decide) rfl <| ?_
  refine a_sub (L' := [some (rf g e), some (rf g c1), some (.int r1), some (.int 0), some (.int 0)]) (by exact ⟨rfl, ⟨rfl, ⟨rfl, ⟨rfl, ⟨rfl, trivial⟩⟩⟩⟩⟩) (w_X2_notesNeeded_12 hE hC1 (fun v3_9 v4_9 h => ?_) FU _ _ h)
  refine a_iload iX2_notesNeeded_43 rfl <| ?_
  obtain rfl := Option.some.inj h
  exact a_iret iX2_notesNeeded_44 rfl ⟨Nat.le_refl 0, Nat.le_refl 0⟩ ⟨rfl, rfl, rfl, rfl⟩
def f_X2_envy (mi : Mi) (e : Nat) : Option (Int32) := if inb 0 3 then if inb 1 3 then if inb 2 3 then if inb 0 3 then if inb 1 3 then if inb 2 3 then some ((if (mi (e + 1) (0 : Int32).toNatClampNeg) < (if (mi (e + 1) (1 : Int32).toNatClampNeg) < (mi (e + 1) (2 : Int32).toNatClampNeg) then (mi (e + 1) (2 : Int32).toNatClampNeg) else (mi (e + 1) (1 : Int32).toNatClampNeg)) then (if (mi (e + 1) (1 : Int32).toNatClampNeg) < (mi (e + 1) (2 : Int32).toNatClampNeg) then (mi (e + 1) (2 : Int32).toNatClampNeg) else (mi (e + 1) (1 : Int32).toNatClampNeg)) else (mi (e + 1) (0 : Int32).toNatClampNeg)) - (if (if (mi (e + 1) (2 : Int32).toNatClampNeg) < (mi (e + 1) (1 : Int32).toNatClampNeg) then (mi (e + 1) (2 : Int32).toNatClampNeg) else (mi (e + 1) (1 : Int32).toNatClampNeg)) < (mi (e + 1) (0 : Int32).toNatClampNeg) then (if (mi (e + 1) (2 : Int32).toNatClampNeg) < (mi (e + 1) (1 : Int32).toNatClampNeg) then (mi (e + 1) (2 : Int32).toNatClampNeg) else (mi (e + 1) (1 : Int32).toNatClampNeg)) else (mi (e + 1) (0 : Int32).toNatClampNeg))) else none else none else none else none else none else none
set_option maxRecDepth 20000 in
set_option maxHeartbeats 4000000 in
theorem c_X2_envy {g : Gm} {V : Vw} {mi : Mi} {ml : Ml} {e : Nat} (hE : LayE V e) {r : Int32} (h : f_X2_envy mi e = some r) : DoI g YX2_envy V [rf g e] mi ml r mi ml := by
  unfold f_X2_envy at h
  refine does_of (L := [some (rf g e), none, none]) okX2_envy rfl (Nat.le_of_ble_eq_true rfl) rfl ?_
  show At g YX2_envy _ (qm g YX2_envy (pI V r mi ml)) V (0, 0) 0 _ [] mi ml
  refine a_aload iX2_envy_0 rfl <| a_getr iX2_envy_1 hE.1 rfl hE.2.2.2.2.2.2.1 <| a_const iX2_envy_4 <| ?_
  obtain ⟨hg1, h⟩ := og h
  refine a_iald iX2_envy_5 hE.2.1 (inb_vp hg1) <| a_aload iX2_envy_6 rfl <| a_getr iX2_envy_7 hE.1 rfl hE.2.2.2.2.2.2.1 <| a_const iX2_envy_10 <| ?_
  obtain ⟨hg2, h⟩ := og h
  refine a_iald iX2_envy_11 hE.2.1 (inb_vp hg2) <| a_aload iX2_envy_12 rfl <| a_getr iX2_envy_13 hE.1 rfl hE.2.2.2.2.2.2.1 <| a_const iX2_envy_16 <| ?_
  obtain ⟨hg3, h⟩ := og h
  refine a_iald iX2_envy_17 hE.2.1 (inb_vp hg3) <| a_max iX2_envy_18 ⟨by decide, Nat.le_of_ble_eq_true rfl⟩ ⟨Nat.le_refl 0, Nat.le_refl 0⟩ <| a_max iX2_envy_21 ⟨by decide, Nat.le_of_ble_eq_true rfl⟩ ⟨Nat.le_refl 0, Nat.le_refl 0⟩ <| a_istore iX2_envy_24 (by decide) rfl <| a_aload iX2_envy_25 rfl <| a_getr iX2_envy_26 hE.1 rfl hE.2.2.2.2.2.2.1 <| a_const iX2_envy_29 <| ?_
  obtain ⟨hg4, h⟩ := og h
  refine a_iald iX2_envy_30 hE.2.1 (inb_vp hg4) <| a_aload iX2_envy_31 rfl <| a_getr iX2_envy_32 hE.1 rfl hE.2.2.2.2.2.2.1 <| a_const iX2_envy_35 <| ?_
  obtain ⟨hg5, h⟩ := og h
  refine a_iald iX2_envy_36 hE.2.1 (inb_vp hg5) <| a_aload iX2_envy_37 rfl <| a_getr iX2_envy_38 hE.1 rfl hE.2.2.2.2.2.2.1 <| a_const iX2_envy_41 <| ?_
  obtain ⟨hg6, h⟩ := og h
  refine a_iald iX2_envy_42 hE.2.1 (inb_vp hg6) <| a_min iX2_envy_43 ⟨by decide, Nat.le_of_ble_eq_true rfl⟩ ⟨Nat.le_refl 0, Nat.le_refl 0⟩ <| a_min iX2_envy_46 ⟨by decide, Nat.le_of_ble_eq_true rfl⟩ ⟨Nat.le_refl 0, Nat.le_refl 0⟩ <| a_istore iX2_envy_49 (by decide) rfl <| a_iload iX2_envy_50 rfl <| a_iload iX2_envy_51 rfl <| a_isub iX2_envy_52 <| ?_
  obtain rfl := Option.some.inj h
  exact a_iret iX2_envy_53 rfl ⟨Nat.le_refl 0, Nat.le_refl 0⟩ ⟨rfl, rfl, rfl, rfl⟩
def f_X3_add (mi : Mi) (x1 x2 x3 : Int32) : Option (Mi) := if 6 ≤ (mi 199 4) then (some mi) else (if inb (mi 199 4) 6 then if inb ((u2 mi 200 (mi 199 4).toNatClampNeg x1) 199 4) 6 then nx (u2 (u2 mi 200 (mi 199 4).toNatClampNeg x1) 201 ((u2 mi 200 (mi 199 4).toNatClampNeg x1) 199 4).toNatClampNeg x2) (fun mi5 => if inb (mi5 199 4) 6 then if x3 = 0 ∨ x3 = 1 then some (u2 (u2 mi5 202 (mi5 199 4).toNatClampNeg x3) 199 4 (((u2 mi5 202 (mi5 199 4).toNatClampNeg x3) 199 4) + 1)) else none else none) else none else none)
set_option maxRecDepth 20000 in
set_option maxHeartbeats 4000000 in
theorem c_X3_add {g : Gm} {V : Vw} {mi : Mi} {ml : Ml} {ld dr : Nat} {x1 x2 x3 : Int32} (hV : LayT V ld dr) {r : Mi} (h : f_X3_add mi x1 x2 x3 = some r) : DoV g YX3_add V [rf g 199, .int x1, .int x2, .int x3] mi ml r ml := by
  unfold f_X3_add at h
  refine does_of (L := [some (rf g 199), some (.int x1), some (.int x2), some (.int x3)]) okX3_add rfl (Nat.le_of_ble_eq_true rfl) rfl ?_
  show At g YX3_add _ (qm g YX3_add (pV V r ml)) V (0, 0) 0 _ [] mi ml
  refine a_aload iX3_add_0 rfl <| a_geti iX3_add_1 (lt_s199 hV) rfl <| a_const iX3_add_4 <| ?_
  refine a_icmp_ge iX3_add_6 (fun hc1 => ?_) (fun hc1 => ?_)
  · have h := ot hc1 h
    obtain rfl := Option.some.inj h
    exact a_vret iX3_add_49 rfl ⟨Nat.le_refl 0, Nat.le_refl 0⟩ ⟨rfl, rfl, rfl, rfl⟩
  · have h := oe hc1 h
    refine a_aload iX3_add_9 rfl <| a_getr iX3_add_10 (lt_s199 hV) rfl (lt_r199_0 hV) <| a_aload iX3_add_13 rfl <| a_geti iX3_add_14 (lt_s199 hV) rfl <| a_iload iX3_add_17 rfl <| ?_
    obtain ⟨hg2, h⟩ := og h
    refine a_iast iX3_add_18 (lt_s200 hV) (inb_vp hg2) <| a_aload iX3_add_19 rfl <| a_getr iX3_add_20 (lt_s199 hV) rfl (lt_r199_1 hV) <| a_aload iX3_add_23 rfl <| a_geti iX3_add_24 (lt_s199 hV) rfl <| a_iload iX3_add_27 rfl <| ?_
    obtain ⟨hg3, h⟩ := og h
    refine a_iast iX3_add_28 (lt_s201 hV) (inb_vp hg3) <| ?_
    obtain ⟨mi5, hm4, h⟩ := onx h
    refine a_mem hm4 <| a_aload iX3_add_29 rfl <| a_getr iX3_add_30 (lt_s199 hV) rfl (lt_r199_2 hV) <| a_aload iX3_add_33 rfl <| a_geti iX3_add_34 (lt_s199 hV) rfl <| a_iload iX3_add_37 rfl <| ?_
    obtain ⟨hg6, h⟩ := og h
    obtain ⟨hz7, h⟩ := og h
    refine a_zast iX3_add_38 (lt_s202 hV) (inb_vp hg6) (nb01 hz7) <| a_aload iX3_add_39 rfl <| a_dup iX3_add_40 rfl <| a_geti iX3_add_41 (lt_s199 hV) rfl <| a_const iX3_add_44 <| a_iadd iX3_add_45 <| a_puti iX3_add_46 (lt_s199 hV) rfl rfl rfl <| ?_
    obtain rfl := Option.some.inj h
    exact a_vret iX3_add_49 rfl ⟨Nat.le_refl 0, Nat.le_refl 0⟩ ⟨rfl, rfl, rfl, rfl⟩
def f_X3_seen (mi : Mi) (e1 : Nat) (x1 x2 x3 : Int32) : Option (Int32) := if x1 = x2 then (some x3) else (if inb x1 8 then some (mi (e1 + 3) x1.toNatClampNeg) else none)
set_option maxRecDepth 20000 in
set_option maxHeartbeats 4000000 in
theorem c_X3_seen {g : Gm} {V : Vw} {mi : Mi} {ml : Ml} {e1 : Nat} {x1 x2 x3 : Int32} (hE1 : LayE V e1) {r : Int32} (h : f_X3_seen mi e1 x1 x2 x3 = some r) : DoI g YX3_seen V [rf g e1, .int x1, .int x2, .int x3] mi ml r mi ml := by
  unfold f_X3_seen at h
  refine does_of (L := [some (rf g e1), some (.int x1), some (.int x2), some (.int x3)]) okX3_seen rfl (Nat.le_of_ble_eq_true rfl) rfl ?_
  show At g YX3_seen _ (qm g YX3_seen (pI V r mi ml)) V (0, 0) 0 _ [] mi ml
  refine a_iload iX3_seen_0 rfl <| a_iload iX3_seen_1 rfl <| ?_
  refine a_icmp_ne iX3_seen_2 (fun hc1 => ?_) (fun hc1 => ?_)
  · have h := oe hc1 h
    refine a_aload iX3_seen_9 rfl <| a_getr iX3_seen_10 hE1.1 rfl hE1.2.2.2.2.2.2.2.2.1 <| a_iload iX3_seen_13 rfl <| ?_
    obtain ⟨hg2, h⟩ := og h
    refine a_iald iX3_seen_14 hE1.2.2.2.1 (inb_vp hg2) <| ?_
    obtain rfl := Option.some.inj h
    exact a_iret iX3_seen_15 rfl ⟨Nat.le_refl 0, Nat.le_refl 0⟩ ⟨rfl, rfl, rfl, rfl⟩
  · have h := ot hc1 h
    refine a_iload iX3_seen_5 rfl <| a_goto iX3_seen_6 <| ?_
    obtain rfl := Option.some.inj h
    exact a_iret iX3_seen_15 rfl ⟨Nat.le_refl 0, Nat.le_refl 0⟩ ⟨rfl, rfl, rfl, rfl⟩
def lp_X3_fit_3 (e1 : Nat) (mi : Mi) (v2 : Int32) (v3 : Int32) (K : Int32 → Option (Int32)) : Nat → Int32 → Option (Int32)
  | 0, _ => none
  | n + 1, v4 => if (mi 199 4) ≤ v4 then (K v4) else (if inb v4 6 then (f_X3_seen mi e1 (mi 200 v4.toNatClampNeg) v2 v3).bind (fun r3 => if inb v4 6 then if r3 = (mi 201 v4.toNatClampNeg) then (if inb v4 6 then if 1 = (mi 202 v4.toNatClampNeg) then (lp_X3_fit_3 e1 mi v2 v3 K n (v4 + 1)) else (some 0) else none) else (if inb v4 6 then if 0 = (mi 202 v4.toNatClampNeg) then (lp_X3_fit_3 e1 mi v2 v3 K n (v4 + 1)) else (some 0) else none) else none) else none)
def f_X3_fit (mi : Mi) (e1 : Nat) (x2 x3 : Int32) : Option (Int32) := lp_X3_fit_3 e1 mi x2 x3 (fun v4_11 => some 1) FU 0
set_option maxRecDepth 20000 in
set_option maxHeartbeats 4000000 in
theorem w_X3_fit_3 {g : Gm} {V : Vw} {E : Ex} {e1 ld dr : Nat} {mi : Mi} {ml : Ml} {v2 v3 : Int32} (hV : LayT V ld dr) (hE1 : LayE V e1) {K : Int32 → Option (Int32)} {r : Int32} (hK : ∀ (v4 : Int32), K v4 = some r → At g YX3_fit E (qm g YX3_fit (pI V r mi ml)) V (0, 0) 62 [some (rf g 199), some (rf g e1), some (.int v2), some (.int v3), some (.int v4), none] [] mi ml) : ∀ (n : Nat) (v4 : Int32), lp_X3_fit_3 e1 mi v2 v3 K n v4 = some r → At g YX3_fit E (qm g YX3_fit (pI V r mi ml)) V (0, 0) 3 [some (rf g 199), some (rf g e1), some (.int v2), some (.int v3), some (.int v4), none] [] mi ml := by
  intro n
  induction n with
  | zero => intro v4 h; exact oz h
  | succ n ih =>
    intro v4 h
    unfold lp_X3_fit_3 at h
    refine a_iload iX3_fit_3 rfl <| a_aload iX3_fit_5 rfl <| a_geti iX3_fit_6 (lt_s199 hV) rfl <| ?_
    refine a_icmp_ge iX3_fit_9 (fun hc1 => ?_) (fun hc1 => ?_)
    · have h := ot hc1 h
      exact a_sub (L' := [some (rf g 199), some (rf g e1), some (.int v2), some (.int v3), some (.int v4), none]) (by exact ⟨rfl, ⟨rfl, ⟨rfl, ⟨rfl, ⟨rfl, trivial⟩⟩⟩⟩⟩) (hK _ h)
    · have h := oe hc1 h
      refine a_aload iX3_fit_12 rfl <| a_aload iX3_fit_13 rfl <| a_getr iX3_fit_14 (lt_s199 hV) rfl (lt_r199_0 hV) <| a_iload iX3_fit_17 rfl <| ?_
      obtain ⟨hg2, h⟩ := og h
      refine a_iald iX3_fit_19 (lt_s200 hV) (inb_vp hg2) <| a_iload iX3_fit_20 rfl <| a_iload iX3_fit_21 rfl <| ?_
      obtain ⟨r3, he4, h⟩ := ob h
      refine a_cSi iX3_fit_22 okX3_seen stX3_seen ⟨rfl, rfl⟩ (c_X3_seen hE1 he4) rfl rfl (Nat.le_of_ble_eq_true rfl) ⟨Nat.le_refl 0, Nat.le_refl 0⟩ <| a_aload iX3_fit_25 rfl <| a_getr iX3_fit_26 (lt_s199 hV) rfl (lt_r199_1 hV) <| a_iload iX3_fit_29 rfl <| ?_
      obtain ⟨hg5, h⟩ := og h
      refine a_iald iX3_fit_31 (lt_s201 hV) (inb_vp hg5) <| ?_
      refine a_icmp_ne iX3_fit_32 (fun hc6 => ?_) (fun hc6 => ?_)
      · have h := oe hc6 h
        refine a_const iX3_fit_39 <| a_istore iX3_fit_40 (by decide) rfl <| a_iload iX3_fit_42 rfl <| a_aload iX3_fit_44 rfl <| a_getr iX3_fit_45 (lt_s199 hV) rfl (lt_r199_2 hV) <| a_iload iX3_fit_48 rfl <| ?_
        obtain ⟨hg7, h⟩ := og h
        refine a_zald iX3_fit_50 (lt_s202 hV) (inb_vp hg7) <| ?_
        refine a_icmp_eq iX3_fit_51 (fun hc8 => ?_) (fun hc8 => ?_)
        · have h := ot hc8 h
          refine a_iinc iX3_fit_56 rfl (by decide) rfl <| a_goto iX3_fit_59 <| ?_
          exact a_sub (L' := [some (rf g 199), some (rf g e1), some (.int v2), some (.int v3), some (.int (v4 + 1)), none]) (by exact ⟨rfl, ⟨rfl, ⟨rfl, ⟨rfl, ⟨rfl, trivial⟩⟩⟩⟩⟩) (ih _ h)
        · have h := oe hc8 h
          refine a_const iX3_fit_54 <| ?_
          obtain rfl := Option.some.inj h
          exact a_zret iX3_fit_55 rfl rfl ⟨Nat.le_refl 0, Nat.le_refl 0⟩ ⟨rfl, rfl, rfl, rfl⟩
      · have h := ot hc6 h
        refine a_const iX3_fit_35 <| a_goto iX3_fit_36 <| a_istore iX3_fit_40 (by decide) rfl <| a_iload iX3_fit_42 rfl <| a_aload iX3_fit_44 rfl <| a_getr iX3_fit_45 (lt_s199 hV) rfl (lt_r199_2 hV) <| a_iload iX3_fit_48 rfl <| ?_
        obtain ⟨hg9, h⟩ := og h
        refine a_zald iX3_fit_50 (lt_s202 hV) (inb_vp hg9) <| ?_
        refine a_icmp_eq iX3_fit_51 (fun hc10 => ?_) (fun hc10 => ?_)
        · have h := ot hc10 h
          refine a_iinc iX3_fit_56 rfl (by decide) rfl <| a_goto iX3_fit_59 <| ?_
          exact a_sub (L' := [some (rf g 199), some (rf g e1), some (.int v2), some (.int v3), some (.int (v4 + 1)), none]) (by exact ⟨rfl, ⟨rfl, ⟨rfl, ⟨rfl, ⟨rfl, trivial⟩⟩⟩⟩⟩) (ih _ h)
        · have h := oe hc10 h
          refine a_const iX3_fit_54 <| ?_
          obtain rfl := Option.some.inj h
          exact a_zret iX3_fit_55 rfl rfl ⟨Nat.le_refl 0, Nat.le_refl 0⟩ ⟨rfl, rfl, rfl, rfl⟩
set_option maxRecDepth 20000 in
set_option maxHeartbeats 4000000 in
theorem c_X3_fit {g : Gm} {V : Vw} {mi : Mi} {ml : Ml} {e1 ld dr : Nat} {x2 x3 : Int32} (hV : LayT V ld dr) (hE1 : LayE V e1) {r : Int32} (h : f_X3_fit mi e1 x2 x3 = some r) : DoI g YX3_fit V [rf g 199, rf g e1, .int x2, .int x3] mi ml r mi ml := by
  unfold f_X3_fit at h
  refine does_of (L := [some (rf g 199), some (rf g e1), some (.int x2), some (.int x3), none, none]) okX3_fit rfl (Nat.le_of_ble_eq_true rfl) rfl ?_
  show At g YX3_fit _ (qm g YX3_fit (pI V r mi ml)) V (0, 0) 0 _ [] mi ml
  refine a_const iX3_fit_0 <| a_istore iX3_fit_1 (by decide) rfl <| ?_
  refine a_sub (L' := [some (rf g 199), some (rf g e1), some (.int x2), some (.int x3), some (.int 0), none]) (by exact ⟨rfl, ⟨rfl, ⟨rfl, ⟨rfl, ⟨rfl, trivial⟩⟩⟩⟩⟩) (w_X3_fit_3 hV hE1 (fun v4_11 h => ?_) FU _ h)
  refine a_const iX3_fit_62 <| ?_
  obtain rfl := Option.some.inj h
  exact a_zret iX3_fit_63 rfl rfl ⟨Nat.le_refl 0, Nat.le_refl 0⟩ ⟨rfl, rfl, rfl, rfl⟩
def lp_X3_fitCount_5 (c1 : Nat) (e1 : Nat) (mi : Mi) (K : Int32 → Int32 → Option (Int32)) : Nat → Int32 → Int32 → Option (Int32)
  | 0, _, _ => none
  | n + 1, v3, v4 => if ((mi c1 5) * 10) ≤ v4 then (K v3 v4) else ((f_X3_fit mi e1 (v4 / 10) (v4 - v4 / 10 * 10)).bind (fun r2 => if r2 = 0 then (lp_X3_fitCount_5 c1 e1 mi K n v3 (v4 + 1)) else (lp_X3_fitCount_5 c1 e1 mi K n (v3 + 1) (v4 + 1))))
def f_X3_fitCount (mi : Mi) (c1 e1 : Nat) : Option (Int32) := lp_X3_fitCount_5 c1 e1 mi (fun v3_5 v4_5 => some v3_5) FU 0 0
set_option maxRecDepth 20000 in
set_option maxHeartbeats 4000000 in
theorem w_X3_fitCount_5 {g : Gm} {V : Vw} {E : Ex} {c1 e1 ld dr : Nat} {mi : Mi} {ml : Ml} (hV : LayT V ld dr) (hC1 : LayC V c1) (hE1 : LayE V e1) {K : Int32 → Int32 → Option (Int32)} {r : Int32} (hK : ∀ (v3 : Int32) (v4 : Int32), K v3 v4 = some r → At g YX3_fitCount E (qm g YX3_fitCount (pI V r mi ml)) V (0, 0) 44 [some (rf g 199), some (rf g c1), some (rf g e1), some (.int v3), some (.int v4)] [] mi ml) : ∀ (n : Nat) (v3 : Int32) (v4 : Int32), lp_X3_fitCount_5 c1 e1 mi K n v3 v4 = some r → At g YX3_fitCount E (qm g YX3_fitCount (pI V r mi ml)) V (0, 0) 5 [some (rf g 199), some (rf g c1), some (rf g e1), some (.int v3), some (.int v4)] [] mi ml := by
  intro n
  induction n with
  | zero => intro v3 v4 h; exact oz h
  | succ n ih =>
    intro v3 v4 h
    unfold lp_X3_fitCount_5 at h
    refine a_iload iX3_fitCount_5 rfl <| a_aload iX3_fitCount_7 rfl <| a_geti iX3_fitCount_8 hC1.1 rfl <| a_const iX3_fitCount_11 <| a_imul iX3_fitCount_13 <| ?_
    refine a_icmp_ge iX3_fitCount_14 (fun hc1 => ?_) (fun hc1 => ?_)
    · have h := ot hc1 h
      exact a_sub (L' := [some (rf g 199), some (rf g c1), some (rf g e1), some (.int v3), some (.int v4)]) (by exact ⟨rfl, ⟨rfl, ⟨rfl, ⟨rfl, ⟨rfl, trivial⟩⟩⟩⟩⟩) (hK _ _ h)
    · have h := oe hc1 h
      refine a_aload iX3_fitCount_17 rfl <| a_aload iX3_fitCount_18 rfl <| a_iload iX3_fitCount_19 rfl <| a_const iX3_fitCount_21 <| a_idiv iX3_fitCount_23 (by decide) <| a_iload iX3_fitCount_24 rfl <| a_const iX3_fitCount_26 <| a_irem iX3_fitCount_28 (by decide) <| ?_
      obtain ⟨r2, he3, h⟩ := ob h
      refine a_cVi iX3_fitCount_29 okX3_fit inX3_fit ⟨rfl, rfl⟩ (lt_s199 hV) (c_X3_fit hV hE1 he3) rfl rfl (Nat.le_of_ble_eq_true rfl) ⟨Nat.le_refl 0, Nat.le_refl 0⟩ <| ?_
      refine a_if_eq iX3_fitCount_32 (fun hc4 => ?_) (fun hc4 => ?_)
      · have h := ot hc4 h
        refine a_iinc iX3_fitCount_38 rfl (by decide) rfl <| a_goto iX3_fitCount_41 <| ?_
        exact a_sub (L' := [some (rf g 199), some (rf g c1), some (rf g e1), some (.int v3), some (.int (v4 + 1))]) (by exact ⟨rfl, ⟨rfl, ⟨rfl, ⟨rfl, ⟨rfl, trivial⟩⟩⟩⟩⟩) (ih _ _ h)
      · have h := oe hc4 h
        refine a_iinc iX3_fitCount_35 rfl (by decide) rfl <| a_iinc iX3_fitCount_38 rfl (by decide) rfl <| a_goto iX3_fitCount_41 <| ?_
        exact a_sub (L' := [some (rf g 199), some (rf g c1), some (rf g e1), some (.int (v3 + 1)), some (.int (v4 + 1))]) (by exact ⟨rfl, ⟨rfl, ⟨rfl, ⟨rfl, ⟨rfl, trivial⟩⟩⟩⟩⟩) (ih _ _ h)
set_option maxRecDepth 20000 in
set_option maxHeartbeats 4000000 in
theorem c_X3_fitCount {g : Gm} {V : Vw} {mi : Mi} {ml : Ml} {c1 e1 ld dr : Nat} (hV : LayT V ld dr) (hC1 : LayC V c1) (hE1 : LayE V e1) {r : Int32} (h : f_X3_fitCount mi c1 e1 = some r) : DoI g YX3_fitCount V [rf g 199, rf g c1, rf g e1] mi ml r mi ml := by
  unfold f_X3_fitCount at h
  refine does_of (L := [some (rf g 199), some (rf g c1), some (rf g e1), none, none]) okX3_fitCount rfl (Nat.le_of_ble_eq_true rfl) rfl ?_
  show At g YX3_fitCount _ (qm g YX3_fitCount (pI V r mi ml)) V (0, 0) 0 _ [] mi ml
  refine a_const iX3_fitCount_0 <| a_istore iX3_fitCount_1 (by decide) rfl <| a_const iX3_fitCount_2 <| a_istore iX3_fitCount_3 (by decide) rfl <| ?_
  refine a_sub (L' := [some (rf g 199), some (rf g c1), some (rf g e1), some (.int 0), some (.int 0)]) (by exact ⟨rfl, ⟨rfl, ⟨rfl, ⟨rfl, ⟨rfl, trivial⟩⟩⟩⟩⟩) (w_X3_fitCount_5 hV hC1 hE1 (fun v3_5 v4_5 h => ?_) FU _ _ h)
  refine a_iload iX3_fitCount_44 rfl <| ?_
  obtain rfl := Option.some.inj h
  exact a_iret iX3_fitCount_45 rfl ⟨Nat.le_refl 0, Nat.le_refl 0⟩ ⟨rfl, rfl, rfl, rfl⟩
def lp_X3_leastFit_2 (c1 : Nat) (e1 : Nat) (mi : Mi) (K : Int32 → Option (Int32)) : Nat → Int32 → Option (Int32)
  | 0, _ => none
  | n + 1, v3 => if ((mi c1 5) * 10) ≤ v3 then (K v3) else ((f_X3_fit mi e1 (v3 / 10) (v3 - v3 / 10 * 10)).bind (fun r2 => if r2 = 0 then (lp_X3_leastFit_2 c1 e1 mi K n (v3 + 1)) else (some v3)))
def f_X3_leastFit (mi : Mi) (c1 e1 : Nat) : Option (Int32) := lp_X3_leastFit_2 c1 e1 mi (fun v3_5 => some (-1)) FU 0
set_option maxRecDepth 20000 in
set_option maxHeartbeats 4000000 in
theorem w_X3_leastFit_2 {g : Gm} {V : Vw} {E : Ex} {c1 e1 ld dr : Nat} {mi : Mi} {ml : Ml} (hV : LayT V ld dr) (hC1 : LayC V c1) (hE1 : LayE V e1) {K : Int32 → Option (Int32)} {r : Int32} (hK : ∀ (v3 : Int32), K v3 = some r → At g YX3_leastFit E (qm g YX3_leastFit (pI V r mi ml)) V (0, 0) 37 [some (rf g 199), some (rf g c1), some (rf g e1), some (.int v3)] [] mi ml) : ∀ (n : Nat) (v3 : Int32), lp_X3_leastFit_2 c1 e1 mi K n v3 = some r → At g YX3_leastFit E (qm g YX3_leastFit (pI V r mi ml)) V (0, 0) 2 [some (rf g 199), some (rf g c1), some (rf g e1), some (.int v3)] [] mi ml := by
  intro n
  induction n with
  | zero => intro v3 h; exact oz h
  | succ n ih =>
    intro v3 h
    unfold lp_X3_leastFit_2 at h
    refine a_iload iX3_leastFit_2 rfl <| a_aload iX3_leastFit_3 rfl <| a_geti iX3_leastFit_4 hC1.1 rfl <| a_const iX3_leastFit_7 <| a_imul iX3_leastFit_9 <| ?_
    refine a_icmp_ge iX3_leastFit_10 (fun hc1 => ?_) (fun hc1 => ?_)
    · have h := ot hc1 h
      exact a_sub (L' := [some (rf g 199), some (rf g c1), some (rf g e1), some (.int v3)]) (by exact ⟨rfl, ⟨rfl, ⟨rfl, ⟨rfl, trivial⟩⟩⟩⟩) (hK _ h)
    · have h := oe hc1 h
      refine a_aload iX3_leastFit_13 rfl <| a_aload iX3_leastFit_14 rfl <| a_iload iX3_leastFit_15 rfl <| a_const iX3_leastFit_16 <| a_idiv iX3_leastFit_18 (by decide) <| a_iload iX3_leastFit_19 rfl <| a_const iX3_leastFit_20 <| a_irem iX3_leastFit_22 (by decide) <| ?_
      obtain ⟨r2, he3, h⟩ := ob h
      refine a_cVi iX3_leastFit_23 okX3_fit inX3_fit ⟨rfl, rfl⟩ (lt_s199 hV) (c_X3_fit hV hE1 he3) rfl rfl (Nat.le_of_ble_eq_true rfl) ⟨Nat.le_refl 0, Nat.le_refl 0⟩ <| ?_
      refine a_if_eq iX3_leastFit_26 (fun hc4 => ?_) (fun hc4 => ?_)
      · have h := ot hc4 h
        refine a_iinc iX3_leastFit_31 rfl (by decide) rfl <| a_goto iX3_leastFit_34 <| ?_
        exact a_sub (L' := [some (rf g 199), some (rf g c1), some (rf g e1), some (.int (v3 + 1))]) (by exact ⟨rfl, ⟨rfl, ⟨rfl, ⟨rfl, trivial⟩⟩⟩⟩) (ih _ h)
      · have h := oe hc4 h
        refine a_iload iX3_leastFit_29 rfl <| ?_
        obtain rfl := Option.some.inj h
        exact a_iret iX3_leastFit_30 rfl ⟨Nat.le_refl 0, Nat.le_refl 0⟩ ⟨rfl, rfl, rfl, rfl⟩
set_option maxRecDepth 20000 in
set_option maxHeartbeats 4000000 in
theorem c_X3_leastFit {g : Gm} {V : Vw} {mi : Mi} {ml : Ml} {c1 e1 ld dr : Nat} (hV : LayT V ld dr) (hC1 : LayC V c1) (hE1 : LayE V e1) {r : Int32} (h : f_X3_leastFit mi c1 e1 = some r) : DoI g YX3_leastFit V [rf g 199, rf g c1, rf g e1] mi ml r mi ml := by
  unfold f_X3_leastFit at h
  refine does_of (L := [some (rf g 199), some (rf g c1), some (rf g e1), none]) okX3_leastFit rfl (Nat.le_of_ble_eq_true rfl) rfl ?_
  show At g YX3_leastFit _ (qm g YX3_leastFit (pI V r mi ml)) V (0, 0) 0 _ [] mi ml
  refine a_const iX3_leastFit_0 <| a_istore iX3_leastFit_1 (by decide) rfl <| ?_
  refine a_sub (L' := [some (rf g 199), some (rf g c1), some (rf g e1), some (.int 0)]) (by exact ⟨rfl, ⟨rfl, ⟨rfl, ⟨rfl, trivial⟩⟩⟩⟩) (w_X3_leastFit_2 hV hC1 hE1 (fun v3_5 h => ?_) FU _ h)
  refine a_const iX3_leastFit_37 <| ?_
  obtain rfl := Option.some.inj h
  exact a_iret iX3_leastFit_38 rfl ⟨Nat.le_refl 0, Nat.le_refl 0⟩ ⟨rfl, rfl, rfl, rfl⟩
def f_X7_isValue (x0 : Int32) : Option (Int32) := if x0 < 0 then (some 0) else (if 10 ≤ x0 then (some 0) else (some 1))
set_option maxRecDepth 20000 in
set_option maxHeartbeats 4000000 in
theorem c_X7_isValue {g : Gm} {V : Vw} {mi : Mi} {ml : Ml} {x0 : Int32}  {r : Int32} (h : f_X7_isValue x0 = some r) : DoI g YX7_isValue V [.int x0] mi ml r mi ml := by
  unfold f_X7_isValue at h
  refine does_of (L := [some (.int x0)]) okX7_isValue rfl (Nat.le_of_ble_eq_true rfl) rfl ?_
  show At g YX7_isValue _ (qm g YX7_isValue (pI V r mi ml)) V (0, 0) 0 _ [] mi ml
  refine a_iload iX7_isValue_0 rfl <| ?_
  refine a_if_lt iX7_isValue_1 (fun hc1 => ?_) (fun hc1 => ?_)
  · have h := ot hc1 h
    refine a_const iX7_isValue_14 <| ?_
    obtain rfl := Option.some.inj h
    exact a_zret iX7_isValue_15 rfl rfl ⟨Nat.le_refl 0, Nat.le_refl 0⟩ ⟨rfl, rfl, rfl, rfl⟩
  · have h := oe hc1 h
    refine a_iload iX7_isValue_4 rfl <| a_const iX7_isValue_5 <| ?_
    refine a_icmp_ge iX7_isValue_7 (fun hc2 => ?_) (fun hc2 => ?_)
    · have h := ot hc2 h
      refine a_const iX7_isValue_14 <| ?_
      obtain rfl := Option.some.inj h
      exact a_zret iX7_isValue_15 rfl rfl ⟨Nat.le_refl 0, Nat.le_refl 0⟩ ⟨rfl, rfl, rfl, rfl⟩
    · have h := oe hc2 h
      refine a_const iX7_isValue_10 <| a_goto iX7_isValue_11 <| ?_
      obtain rfl := Option.some.inj h
      exact a_zret iX7_isValue_15 rfl rfl ⟨Nat.le_refl 0, Nat.le_refl 0⟩ ⟨rfl, rfl, rfl, rfl⟩
def lp_X3_greatestPart_3 (c1 : Nat) (e1 : Nat) (v3 : Int32) (K : Int32 → Mi → Option (Int32 × Mi)) : Nat → Int32 → Mi → Option (Int32 × Mi)
  | 0, _, _ => none
  | n + 1, v4, mi => if 10 ≤ v4 then (K v4 mi) else (if inb v4 10 then lp_X3_greatestPart_3 c1 e1 v3 K n (v4 + 1) (u2 mi 203 v4.toNatClampNeg 0) else none)
def lp_X3_greatestPart_30 (c1 : Nat) (e1 : Nat) (v3 : Int32) (K : Int32 → Int32 → Mi → Option (Int32 × Mi)) : Nat → Int32 → Int32 → Mi → Option (Int32 × Mi)
  | 0, _, _, _ => none
  | n + 1, v4, v5, mi => if ((mi c1 5) * 10) ≤ v5 then (K v4 v5 mi) else ((f_X3_seen mi e1 v3 (v5 / 10) (v5 - v5 / 10 * 10)).bind (fun r5 => (f_X7_isValue r5).bind (fun r7 => if r7 = 0 then (lp_X3_greatestPart_30 c1 e1 v3 K n v4 (v5 + 1) mi) else ((f_X3_fit mi e1 (v5 / 10) (v5 - v5 / 10 * 10)).bind (fun r10 => if r10 = 0 then (lp_X3_greatestPart_30 c1 e1 v3 K n v4 (v5 + 1) mi) else (if inb r5 10 then if inb r5 10 then if inb r5 10 then lp_X3_greatestPart_30 c1 e1 v3 K n (if v4 < ((u2 mi 203 r5.toNatClampNeg ((mi 203 r5.toNatClampNeg) + 1)) 203 r5.toNatClampNeg) then ((u2 mi 203 r5.toNatClampNeg ((mi 203 r5.toNatClampNeg) + 1)) 203 r5.toNatClampNeg) else v4) (v5 + 1) (u2 mi 203 r5.toNatClampNeg ((mi 203 r5.toNatClampNeg) + 1)) else none else none else none))))))
def f_X3_greatestPart (mi : Mi) (c1 e1 : Nat) (x3 : Int32) : Option (Int32 × Mi) := lp_X3_greatestPart_3 c1 e1 x3 (fun v4_3 mi3 => lp_X3_greatestPart_30 c1 e1 x3 (fun v4_16 v5_16 mi16 => some (v4_16, mi16)) FU 0 0 mi3) FU 0 mi
set_option maxRecDepth 20000 in
set_option maxHeartbeats 4000000 in
theorem w_X3_greatestPart_3 {g : Gm} {V : Vw} {E : Ex} {c1 e1 ld dr : Nat} {ml : Ml} {v3 : Int32} (hV : LayT V ld dr) (hC1 : LayC V c1) (hE1 : LayE V e1) {K : Int32 → Mi → Option (Int32 × Mi)} {r : Int32 × Mi} (hK : ∀ (v4 : Int32) (mi : Mi), K v4 mi = some r → At g YX3_greatestPart E (qm g YX3_greatestPart (pI V (r.1) (r.2) ml)) V (0, 0) 24 [some (rf g 199), some (rf g c1), some (rf g e1), some (.int v3), some (.int v4), none, none, none, none] [] mi ml) : ∀ (n : Nat) (v4 : Int32) (mi : Mi), lp_X3_greatestPart_3 c1 e1 v3 K n v4 mi = some r → At g YX3_greatestPart E (qm g YX3_greatestPart (pI V (r.1) (r.2) ml)) V (0, 0) 3 [some (rf g 199), some (rf g c1), some (rf g e1), some (.int v3), some (.int v4), none, none, none, none] [] mi ml := by
  intro n
  induction n with
  | zero => intro v4 mi h; exact oz h
  | succ n ih =>
    intro v4 mi h
    unfold lp_X3_greatestPart_3 at h
    refine a_iload iX3_greatestPart_3 rfl <| a_const iX3_greatestPart_5 <| ?_
    refine a_icmp_ge iX3_greatestPart_7 (fun hc1 => ?_) (fun hc1 => ?_)
    · have h := ot hc1 h
      exact a_sub (L' := [some (rf g 199), some (rf g c1), some (rf g e1), some (.int v3), some (.int v4), none, none, none, none]) (by exact ⟨rfl, ⟨rfl, ⟨rfl, ⟨rfl, ⟨rfl, trivial⟩⟩⟩⟩⟩) (hK _ _ h)
    · have h := oe hc1 h
      refine a_aload iX3_greatestPart_10 rfl <| a_getr iX3_greatestPart_11 (lt_s199 hV) rfl (lt_r199_3 hV) <| a_iload iX3_greatestPart_14 rfl <| a_const iX3_greatestPart_16 <| ?_
      obtain ⟨hg2, h⟩ := og h
      refine a_iast iX3_greatestPart_17 (lt_s203 hV) (inb_vp hg2) <| a_iinc iX3_greatestPart_18 rfl (by decide) rfl <| a_goto iX3_greatestPart_21 <| ?_
      exact a_sub (L' := [some (rf g 199), some (rf g c1), some (rf g e1), some (.int v3), some (.int (v4 + 1)), none, none, none, none]) (by exact ⟨rfl, ⟨rfl, ⟨rfl, ⟨rfl, ⟨rfl, trivial⟩⟩⟩⟩⟩) (ih _ _ h)
set_option maxRecDepth 20000 in
set_option maxHeartbeats 4000000 in
theorem w_X3_greatestPart_30 {g : Gm} {V : Vw} {E : Ex} {c1 e1 ld dr : Nat} {ml : Ml} {v3 : Int32} (hV : LayT V ld dr) (hC1 : LayC V c1) (hE1 : LayE V e1) {K : Int32 → Int32 → Mi → Option (Int32 × Mi)} {r : Int32 × Mi} (hK : ∀ (v4 : Int32) (v5 : Int32) (mi : Mi), K v4 v5 mi = some r → At g YX3_greatestPart E (qm g YX3_greatestPart (pI V (r.1) (r.2) ml)) V (0, 0) 118 [some (rf g 199), some (rf g c1), some (rf g e1), some (.int v3), some (.int v4), some (.int v5), none, none, none] [] mi ml) : ∀ (n : Nat) (v4 : Int32) (v5 : Int32) (mi : Mi), lp_X3_greatestPart_30 c1 e1 v3 K n v4 v5 mi = some r → At g YX3_greatestPart E (qm g YX3_greatestPart (pI V (r.1) (r.2) ml)) V (0, 0) 30 [some (rf g 199), some (rf g c1), some (rf g e1), some (.int v3), some (.int v4), some (.int v5), none, none, none] [] mi ml := by
  intro n
  induction n with
  | zero => intro v4 v5 mi h; exact oz h
  | succ n ih =>
    intro v4 v5 mi h
    unfold lp_X3_greatestPart_30 at h
    refine a_iload iX3_greatestPart_30 rfl <| a_aload iX3_greatestPart_32 rfl <| a_geti iX3_greatestPart_33 hC1.1 rfl <| a_const iX3_greatestPart_36 <| a_imul iX3_greatestPart_38 <| ?_
    refine a_icmp_ge iX3_greatestPart_39 (fun hc4 => ?_) (fun hc4 => ?_)
    · have h := ot hc4 h
      exact a_sub (L' := [some (rf g 199), some (rf g c1), some (rf g e1), some (.int v3), some (.int v4), some (.int v5), none, none, none]) (by exact ⟨rfl, ⟨rfl, ⟨rfl, ⟨rfl, ⟨rfl, ⟨rfl, trivial⟩⟩⟩⟩⟩⟩) (hK _ _ _ h)
    · have h := oe hc4 h
      refine a_iload iX3_greatestPart_42 rfl <| a_const iX3_greatestPart_44 <| a_idiv iX3_greatestPart_46 (by decide) <| a_istore iX3_greatestPart_47 (by decide) rfl <| a_iload iX3_greatestPart_49 rfl <| a_const iX3_greatestPart_51 <| a_irem iX3_greatestPart_53 (by decide) <| a_istore iX3_greatestPart_54 (by decide) rfl <| ?_
      refine a_aload iX3_greatestPart_56 rfl <| a_iload iX3_greatestPart_57 rfl <| a_iload iX3_greatestPart_58 rfl <| a_iload iX3_greatestPart_60 rfl <| ?_
      obtain ⟨r5, he6, h⟩ := ob h
      refine a_cSi iX3_greatestPart_62 okX3_seen stX3_seen ⟨rfl, rfl⟩ (c_X3_seen hE1 he6) rfl rfl (Nat.le_of_ble_eq_true rfl) ⟨Nat.le_refl 0, Nat.le_refl 0⟩ <| a_istore iX3_greatestPart_65 (by decide) rfl <| a_iload iX3_greatestPart_67 rfl <| ?_
      obtain ⟨r7, he8, h⟩ := ob h
      refine a_cSi iX3_greatestPart_69 okX7_isValue stX7_isValue ⟨rfl, rfl⟩ (c_X7_isValue he8) rfl rfl (Nat.le_of_ble_eq_true rfl) ⟨Nat.le_refl 0, Nat.le_refl 0⟩ <| ?_
      refine a_if_eq iX3_greatestPart_72 (fun hc9 => ?_) (fun hc9 => ?_)
      · have h := ot hc9 h
        refine a_iinc iX3_greatestPart_112 rfl (by decide) rfl <| a_goto iX3_greatestPart_115 <| ?_
        exact a_sub (L' := [some (rf g 199), some (rf g c1), some (rf g e1), some (.int v3), some (.int v4), some (.int (v5 + 1)), none, none, none]) (by exact ⟨rfl, ⟨rfl, ⟨rfl, ⟨rfl, ⟨rfl, ⟨rfl, trivial⟩⟩⟩⟩⟩⟩) (ih _ _ _ h)
      · have h := oe hc9 h
        refine a_aload iX3_greatestPart_75 rfl <| a_aload iX3_greatestPart_76 rfl <| a_iload iX3_greatestPart_77 rfl <| a_iload iX3_greatestPart_79 rfl <| ?_
        obtain ⟨r10, he11, h⟩ := ob h
        refine a_cVi iX3_greatestPart_81 okX3_fit inX3_fit ⟨rfl, rfl⟩ (lt_s199 hV) (c_X3_fit hV hE1 he11) rfl rfl (Nat.le_of_ble_eq_true rfl) ⟨Nat.le_refl 0, Nat.le_refl 0⟩ <| ?_
        refine a_if_eq iX3_greatestPart_84 (fun hc12 => ?_) (fun hc12 => ?_)
        · have h := ot hc12 h
          refine a_iinc iX3_greatestPart_112 rfl (by decide) rfl <| a_goto iX3_greatestPart_115 <| ?_
          exact a_sub (L' := [some (rf g 199), some (rf g c1), some (rf g e1), some (.int v3), some (.int v4), some (.int (v5 + 1)), none, none, none]) (by exact ⟨rfl, ⟨rfl, ⟨rfl, ⟨rfl, ⟨rfl, ⟨rfl, trivial⟩⟩⟩⟩⟩⟩) (ih _ _ _ h)
        · have h := oe hc12 h
          refine a_aload iX3_greatestPart_87 rfl <| a_getr iX3_greatestPart_88 (lt_s199 hV) rfl (lt_r199_3 hV) <| a_iload iX3_greatestPart_91 rfl <| a_dup2 iX3_greatestPart_93 rfl rfl <| ?_
          obtain ⟨hg13, h⟩ := og h
          refine a_iald iX3_greatestPart_94 (lt_s203 hV) (inb_vp hg13) <| a_const iX3_greatestPart_95 <| a_iadd iX3_greatestPart_96 <| ?_
          obtain ⟨hg14, h⟩ := og h
          refine a_iast iX3_greatestPart_97 (lt_s203 hV) (inb_vp hg14) <| a_iload iX3_greatestPart_98 rfl <| a_aload iX3_greatestPart_100 rfl <| a_getr iX3_greatestPart_101 (lt_s199 hV) rfl (lt_r199_3 hV) <| a_iload iX3_greatestPart_104 rfl <| ?_
          obtain ⟨hg15, h⟩ := og h
          refine a_iald iX3_greatestPart_106 (lt_s203 hV) (inb_vp hg15) <| a_max iX3_greatestPart_107 ⟨by decide, Nat.le_of_ble_eq_true rfl⟩ ⟨Nat.le_refl 0, Nat.le_refl 0⟩ <| a_istore iX3_greatestPart_110 (by decide) rfl <| a_iinc iX3_greatestPart_112 rfl (by decide) rfl <| a_goto iX3_greatestPart_115 <| ?_
          exact a_sub (L' := [some (rf g 199), some (rf g c1), some (rf g e1), some (.int v3), some (.int (if v4 < ((u2 mi 203 r5.toNatClampNeg ((mi 203 r5.toNatClampNeg) + 1)) 203 r5.toNatClampNeg) then ((u2 mi 203 r5.toNatClampNeg ((mi 203 r5.toNatClampNeg) + 1)) 203 r5.toNatClampNeg) else v4)), some (.int (v5 + 1)), none, none, none]) (by exact ⟨rfl, ⟨rfl, ⟨rfl, ⟨rfl, ⟨rfl, ⟨rfl, trivial⟩⟩⟩⟩⟩⟩) (ih _ _ _ h)
set_option maxRecDepth 20000 in
set_option maxHeartbeats 4000000 in
theorem c_X3_greatestPart {g : Gm} {V : Vw} {mi : Mi} {ml : Ml} {c1 e1 ld dr : Nat} {x3 : Int32} (hV : LayT V ld dr) (hC1 : LayC V c1) (hE1 : LayE V e1) {r : Int32 × Mi} (h : f_X3_greatestPart mi c1 e1 x3 = some r) : DoI g YX3_greatestPart V [rf g 199, rf g c1, rf g e1, .int x3] mi ml (r.1) (r.2) ml := by
  unfold f_X3_greatestPart at h
  refine does_of (L := [some (rf g 199), some (rf g c1), some (rf g e1), some (.int x3), none, none, none, none, none]) okX3_greatestPart rfl (Nat.le_of_ble_eq_true rfl) rfl ?_
  show At g YX3_greatestPart _ (qm g YX3_greatestPart (pI V (r.1) (r.2) ml)) V (0, 0) 0 _ [] mi ml
  refine a_const iX3_greatestPart_0 <| a_istore iX3_greatestPart_1 (by decide) rfl <| ?_
  refine a_sub (L' := [some (rf g 199), some (rf g c1), some (rf g e1), some (.int x3), some (.int 0), none, none, none, none]) (by exact ⟨rfl, ⟨rfl, ⟨rfl, ⟨rfl, ⟨rfl, trivial⟩⟩⟩⟩⟩) (w_X3_greatestPart_3 hV hC1 hE1 (fun v4_3 mi3 h => ?_) FU _ _ h)
  refine a_const iX3_greatestPart_24 <| a_istore iX3_greatestPart_25 (by decide) rfl <| a_const iX3_greatestPart_27 <| a_istore iX3_greatestPart_28 (by decide) rfl <| ?_
  refine a_sub (L' := [some (rf g 199), some (rf g c1), some (rf g e1), some (.int x3), some (.int 0), some (.int 0), none, none, none]) (by exact ⟨rfl, ⟨rfl, ⟨rfl, ⟨rfl, ⟨rfl, ⟨rfl, trivial⟩⟩⟩⟩⟩⟩) (w_X3_greatestPart_30 hV hC1 hE1 (fun v4_16 v5_16 mi16 h => ?_) FU _ _ _ h)
  refine a_iload iX3_greatestPart_118 rfl <| ?_
  obtain rfl := Option.some.inj h
  exact a_iret iX3_greatestPart_120 rfl ⟨Nat.le_refl 0, Nat.le_refl 0⟩ ⟨rfl, rfl, rfl, rfl⟩
def f_X7_isWithin (x0 x1 x2 : Int32) : Option (Int32) := if x0 < x1 then (some 0) else (if x2 < x0 then (some 0) else (some 1))
set_option maxRecDepth 20000 in
set_option maxHeartbeats 4000000 in
theorem c_X7_isWithin {g : Gm} {V : Vw} {mi : Mi} {ml : Ml} {x0 x1 x2 : Int32}  {r : Int32} (h : f_X7_isWithin x0 x1 x2 = some r) : DoI g YX7_isWithin V [.int x0, .int x1, .int x2] mi ml r mi ml := by
  unfold f_X7_isWithin at h
  refine does_of (L := [some (.int x0), some (.int x1), some (.int x2)]) okX7_isWithin rfl (Nat.le_of_ble_eq_true rfl) rfl ?_
  show At g YX7_isWithin _ (qm g YX7_isWithin (pI V r mi ml)) V (0, 0) 0 _ [] mi ml
  refine a_iload iX7_isWithin_0 rfl <| a_iload iX7_isWithin_1 rfl <| ?_
  refine a_icmp_lt iX7_isWithin_2 (fun hc1 => ?_) (fun hc1 => ?_)
  · have h := ot hc1 h
    refine a_const iX7_isWithin_14 <| ?_
    obtain rfl := Option.some.inj h
    exact a_zret iX7_isWithin_15 rfl rfl ⟨Nat.le_refl 0, Nat.le_refl 0⟩ ⟨rfl, rfl, rfl, rfl⟩
  · have h := oe hc1 h
    refine a_iload iX7_isWithin_5 rfl <| a_iload iX7_isWithin_6 rfl <| ?_
    refine a_icmp_gt iX7_isWithin_7 (fun hc2 => ?_) (fun hc2 => ?_)
    · have h := ot hc2 h
      refine a_const iX7_isWithin_14 <| ?_
      obtain rfl := Option.some.inj h
      exact a_zret iX7_isWithin_15 rfl rfl ⟨Nat.le_refl 0, Nat.le_refl 0⟩ ⟨rfl, rfl, rfl, rfl⟩
    · have h := oe hc2 h
      refine a_const iX7_isWithin_10 <| a_goto iX7_isWithin_11 <| ?_
      obtain rfl := Option.some.inj h
      exact a_zret iX7_isWithin_15 rfl rfl ⟨Nat.le_refl 0, Nat.le_refl 0⟩ ⟨rfl, rfl, rfl, rfl⟩
def f_X6_letterAt (mi : Mi) (x1 : Int32) : Option (Int32) := if x1 < 0 then (some (-1)) else (if (mi 1 1) ≤ x1 then (some (-1)) else (if inb x1 240 then some (mi 2 x1.toNatClampNeg) else none))
set_option maxRecDepth 20000 in
set_option maxHeartbeats 4000000 in
theorem c_X6_letterAt {g : Gm} {V : Vw} {mi : Mi} {ml : Ml} {ld dr : Nat} {x1 : Int32} (hV : LayT V ld dr) {r : Int32} (h : f_X6_letterAt mi x1 = some r) : DoI g YX6_letterAt V [rf g 1, .int x1] mi ml r mi ml := by
  unfold f_X6_letterAt at h
  refine does_of (L := [some (rf g 1), some (.int x1)]) okX6_letterAt rfl (Nat.le_of_ble_eq_true rfl) rfl ?_
  show At g YX6_letterAt _ (qm g YX6_letterAt (pI V r mi ml)) V (0, 0) 0 _ [] mi ml
  refine a_iload iX6_letterAt_0 rfl <| ?_
  refine a_if_lt iX6_letterAt_1 (fun hc1 => ?_) (fun hc1 => ?_)
  · have h := ot hc1 h
    refine a_const iX6_letterAt_21 <| ?_
    obtain rfl := Option.some.inj h
    exact a_iret iX6_letterAt_22 rfl ⟨Nat.le_refl 0, Nat.le_refl 0⟩ ⟨rfl, rfl, rfl, rfl⟩
  · have h := oe hc1 h
    refine a_iload iX6_letterAt_4 rfl <| a_aload iX6_letterAt_5 rfl <| a_geti iX6_letterAt_6 (lt_s1 hV) rfl <| ?_
    refine a_icmp_ge iX6_letterAt_9 (fun hc2 => ?_) (fun hc2 => ?_)
    · have h := ot hc2 h
      refine a_const iX6_letterAt_21 <| ?_
      obtain rfl := Option.some.inj h
      exact a_iret iX6_letterAt_22 rfl ⟨Nat.le_refl 0, Nat.le_refl 0⟩ ⟨rfl, rfl, rfl, rfl⟩
    · have h := oe hc2 h
      refine a_aload iX6_letterAt_12 rfl <| a_getr iX6_letterAt_13 (lt_s1 hV) rfl (lt_r1_0 hV) <| a_iload iX6_letterAt_16 rfl <| ?_
      obtain ⟨hg3, h⟩ := og h
      refine a_iald iX6_letterAt_17 (lt_s2 hV) (inb_vp hg3) <| a_goto iX6_letterAt_18 <| ?_
      obtain rfl := Option.some.inj h
      exact a_iret iX6_letterAt_22 rfl ⟨Nat.le_refl 0, Nat.le_refl 0⟩ ⟨rfl, rfl, rfl, rfl⟩
def f_X6_add (mi : Mi) (x1 : Int32) : Option (Mi) := if 240 ≤ (mi 1 1) then (some mi) else (if inb (mi 1 1) 240 then some (u2 (u2 mi 2 (mi 1 1).toNatClampNeg x1) 1 1 (((u2 mi 2 (mi 1 1).toNatClampNeg x1) 1 1) + 1)) else none)
set_option maxRecDepth 20000 in
set_option maxHeartbeats 4000000 in
theorem c_X6_add {g : Gm} {V : Vw} {mi : Mi} {ml : Ml} {ld dr : Nat} {x1 : Int32} (hV : LayT V ld dr) {r : Mi} (h : f_X6_add mi x1 = some r) : DoV g YX6_add V [rf g 1, .int x1] mi ml r ml := by
  unfold f_X6_add at h
  refine does_of (L := [some (rf g 1), some (.int x1)]) okX6_add rfl (Nat.le_of_ble_eq_true rfl) rfl ?_
  show At g YX6_add _ (qm g YX6_add (pV V r ml)) V (0, 0) 0 _ [] mi ml
  refine a_aload iX6_add_0 rfl <| a_geti iX6_add_1 (lt_s1 hV) rfl <| a_const iX6_add_4 <| ?_
  refine a_icmp_ge iX6_add_7 (fun hc1 => ?_) (fun hc1 => ?_)
  · have h := ot hc1 h
    obtain rfl := Option.some.inj h
    exact a_vret iX6_add_30 rfl ⟨Nat.le_refl 0, Nat.le_refl 0⟩ ⟨rfl, rfl, rfl, rfl⟩
  · have h := oe hc1 h
    refine a_aload iX6_add_10 rfl <| a_getr iX6_add_11 (lt_s1 hV) rfl (lt_r1_0 hV) <| a_aload iX6_add_14 rfl <| a_geti iX6_add_15 (lt_s1 hV) rfl <| a_iload iX6_add_18 rfl <| ?_
    obtain ⟨hg2, h⟩ := og h
    refine a_iast iX6_add_19 (lt_s2 hV) (inb_vp hg2) <| a_aload iX6_add_20 rfl <| a_dup iX6_add_21 rfl <| a_geti iX6_add_22 (lt_s1 hV) rfl <| a_const iX6_add_25 <| a_iadd iX6_add_26 <| a_puti iX6_add_27 (lt_s1 hV) rfl rfl rfl <| ?_
    obtain rfl := Option.some.inj h
    exact a_vret iX6_add_30 rfl ⟨Nat.le_refl 0, Nat.le_refl 0⟩ ⟨rfl, rfl, rfl, rfl⟩
def f_X7_isImage (x0 : Int32) : Option (Int32) := if x0 < 0 then (some 0) else (if 2 ≤ x0 then (some 0) else (some 1))
set_option maxRecDepth 20000 in
set_option maxHeartbeats 4000000 in
theorem c_X7_isImage {g : Gm} {V : Vw} {mi : Mi} {ml : Ml} {x0 : Int32}  {r : Int32} (h : f_X7_isImage x0 = some r) : DoI g YX7_isImage V [.int x0] mi ml r mi ml := by
  unfold f_X7_isImage at h
  refine does_of (L := [some (.int x0)]) okX7_isImage rfl (Nat.le_of_ble_eq_true rfl) rfl ?_
  show At g YX7_isImage _ (qm g YX7_isImage (pI V r mi ml)) V (0, 0) 0 _ [] mi ml
  refine a_iload iX7_isImage_0 rfl <| ?_
  refine a_if_lt iX7_isImage_1 (fun hc1 => ?_) (fun hc1 => ?_)
  · have h := ot hc1 h
    refine a_const iX7_isImage_13 <| ?_
    obtain rfl := Option.some.inj h
    exact a_zret iX7_isImage_14 rfl rfl ⟨Nat.le_refl 0, Nat.le_refl 0⟩ ⟨rfl, rfl, rfl, rfl⟩
  · have h := oe hc1 h
    refine a_iload iX7_isImage_4 rfl <| a_const iX7_isImage_5 <| ?_
    refine a_icmp_ge iX7_isImage_6 (fun hc2 => ?_) (fun hc2 => ?_)
    · have h := ot hc2 h
      refine a_const iX7_isImage_13 <| ?_
      obtain rfl := Option.some.inj h
      exact a_zret iX7_isImage_14 rfl rfl ⟨Nat.le_refl 0, Nat.le_refl 0⟩ ⟨rfl, rfl, rfl, rfl⟩
    · have h := oe hc2 h
      refine a_const iX7_isImage_9 <| a_goto iX7_isImage_10 <| ?_
      obtain rfl := Option.some.inj h
      exact a_zret iX7_isImage_14 rfl rfl ⟨Nat.le_refl 0, Nat.le_refl 0⟩ ⟨rfl, rfl, rfl, rfl⟩
