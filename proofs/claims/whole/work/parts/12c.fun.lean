/-! 12c.fun.lean.txt: functions of the code and their rows, laid by program -/
def f_X7_feed (mi : Mi) (x1 : Int32) : Option (Int32 × Mi) := if x1 < 0 then (some ((-1000000002), mi)) else (if x1 ≤ 255 then (if (mi 1 1) < 240 then ((f_X6_add mi x1).bind (fun mi4 => some (mi4 1 1, mi4))) else (some ((-1000000004), mi))) else (some ((-1000000002), mi)))
set_option maxRecDepth 20000 in
set_option maxHeartbeats 4000000 in
theorem c_X7_feed {g : Gm} {V : Vw} {mi : Mi} {ml : Ml} {ld dr : Nat} {x1 : Int32} (hV : LayT V ld dr) {r : Int32 × Mi} (h : f_X7_feed mi x1 = some r) : DoI g YX7_feed V [rf g 0, .int x1] mi ml (r.1) (r.2) ml := by
  unfold f_X7_feed at h
  refine does_of (L := [some (rf g 0), some (.int x1)]) okX7_feed rfl (Nat.le_of_ble_eq_true rfl) rfl ?_
  show At g YX7_feed _ (qm g YX7_feed (pI V (r.1) (r.2) ml)) V (0, 0) 0 _ [] mi ml
  refine a_iload iX7_feed_0 rfl <| ?_
  refine a_if_lt iX7_feed_1 (fun hc1 => ?_) (fun hc1 => ?_)
  · have h := ot hc1 h
    refine a_const iX7_feed_11 <| ?_
    obtain rfl := Option.some.inj h
    exact a_iret iX7_feed_13 rfl ⟨Nat.le_refl 0, Nat.le_refl 0⟩ ⟨rfl, rfl, rfl, rfl⟩
  · have h := oe hc1 h
    refine a_iload iX7_feed_4 rfl <| a_const iX7_feed_5 <| ?_
    refine a_icmp_le iX7_feed_8 (fun hc2 => ?_) (fun hc2 => ?_)
    · have h := ot hc2 h
      refine a_aload iX7_feed_14 rfl <| a_getr iX7_feed_15 (lt_s0 hV) rfl (lt_r0_0 hV) <| a_geti iX7_feed_18 (lt_s1 hV) rfl <| a_const iX7_feed_21 <| ?_
      refine a_icmp_lt iX7_feed_24 (fun hc3 => ?_) (fun hc3 => ?_)
      · have h := ot hc3 h
        refine a_aload iX7_feed_30 rfl <| a_getr iX7_feed_31 (lt_s0 hV) rfl (lt_r0_0 hV) <| a_iload iX7_feed_34 rfl <| ?_
        obtain ⟨mi4, he5, h⟩ := ob h
        refine a_cVv iX7_feed_35 okX6_add inX6_add ⟨rfl, rfl⟩ (lt_s1 hV) (c_X6_add hV he5) rfl rfl (Nat.le_of_ble_eq_true rfl) ⟨Nat.le_refl 0, Nat.le_refl 0⟩ <| a_aload iX7_feed_38 rfl <| a_getr iX7_feed_39 (lt_s0 hV) rfl (lt_r0_0 hV) <| a_geti iX7_feed_42 (lt_s1 hV) rfl <| ?_
        obtain rfl := Option.some.inj h
        exact a_iret iX7_feed_45 rfl ⟨Nat.le_refl 0, Nat.le_refl 0⟩ ⟨rfl, rfl, rfl, rfl⟩
      · have h := oe hc3 h
        refine a_const iX7_feed_27 <| ?_
        obtain rfl := Option.some.inj h
        exact a_iret iX7_feed_29 rfl ⟨Nat.le_refl 0, Nat.le_refl 0⟩ ⟨rfl, rfl, rfl, rfl⟩
    · have h := oe hc2 h
      refine a_const iX7_feed_11 <| ?_
      obtain rfl := Option.some.inj h
      exact a_iret iX7_feed_13 rfl ⟨Nat.le_refl 0, Nat.le_refl 0⟩ ⟨rfl, rfl, rfl, rfl⟩
def lp_X7_startAnew_20 (ld : Nat) (K : Int32 → Mi → Option (Mi)) : Nat → Int32 → Mi → Option (Mi)
  | 0, _, _ => none
  | n + 1, v1, mi => if 2 ≤ v1 then (K v1 mi) else (if inb v1 2 then lp_X7_startAnew_20 ld K n (v1 + 1) (u2 mi 209 v1.toNatClampNeg 0) else none)
def f_X7_startAnew (mi : Mi) (ld : Nat) : Option (Mi) := (f_X2_begin mi 11 ld).bind (fun mi1 => (f_X4_forget mi1).bind (fun mi3 => lp_X7_startAnew_20 ld (fun v1_7 mi7 => some (u2 (u2 mi7 199 4 0) 204 2 0)) FU 0 mi3))
set_option maxRecDepth 20000 in
set_option maxHeartbeats 4000000 in
theorem w_X7_startAnew_20 {g : Gm} {V : Vw} {E : Ex} {ld dr : Nat} {ml : Ml} (hV : LayT V ld dr) {K : Int32 → Mi → Option (Mi)} {r : Mi} (hK : ∀ (v1 : Int32) (mi : Mi), K v1 mi = some r → At g YX7_startAnew E (qm g YX7_startAnew (pV V r ml)) V (0, 0) 38 [some (rf g 0), some (.int v1)] [] mi ml) : ∀ (n : Nat) (v1 : Int32) (mi : Mi), lp_X7_startAnew_20 ld K n v1 mi = some r → At g YX7_startAnew E (qm g YX7_startAnew (pV V r ml)) V (0, 0) 20 [some (rf g 0), some (.int v1)] [] mi ml := by
  intro n
  induction n with
  | zero => intro v1 mi h; exact oz h
  | succ n ih =>
    intro v1 mi h
    unfold lp_X7_startAnew_20 at h
    refine a_iload iX7_startAnew_20 rfl <| a_const iX7_startAnew_21 <| ?_
    refine a_icmp_ge iX7_startAnew_22 (fun hc5 => ?_) (fun hc5 => ?_)
    · have h := ot hc5 h
      exact a_sub (L' := [some (rf g 0), some (.int v1)]) (by exact ⟨rfl, ⟨rfl, trivial⟩⟩) (hK _ _ h)
    · have h := oe hc5 h
      refine a_aload iX7_startAnew_25 rfl <| a_getr iX7_startAnew_26 (lt_s0 hV) rfl (lt_r0_8 hV) <| a_iload iX7_startAnew_29 rfl <| a_const iX7_startAnew_30 <| ?_
      obtain ⟨hg6, h⟩ := og h
      refine a_zast iX7_startAnew_31 (lt_s209 hV) (inb_vp hg6) rfl <| a_iinc iX7_startAnew_32 rfl (by decide) rfl <| a_goto iX7_startAnew_35 <| ?_
      exact a_sub (L' := [some (rf g 0), some (.int (v1 + 1))]) (by exact ⟨rfl, ⟨rfl, trivial⟩⟩) (ih _ _ h)
set_option maxRecDepth 20000 in
set_option maxHeartbeats 4000000 in
theorem c_X7_startAnew {g : Gm} {V : Vw} {mi : Mi} {ml : Ml} {ld dr : Nat} (hV : LayT V ld dr) {r : Mi} (h : f_X7_startAnew mi ld = some r) : DoV g YX7_startAnew V [rf g 0] mi ml r ml := by
  unfold f_X7_startAnew at h
  refine does_of (L := [some (rf g 0), none]) okX7_startAnew rfl (Nat.le_of_ble_eq_true rfl) rfl ?_
  show At g YX7_startAnew _ (qm g YX7_startAnew (pV V r ml)) V (0, 0) 0 _ [] mi ml
  refine a_aload iX7_startAnew_0 rfl <| a_getr iX7_startAnew_1 (lt_s0 hV) rfl (lt_r0_2 hV) <| a_aload iX7_startAnew_4 rfl <| a_getr iX7_startAnew_5 (lt_s0 hV) rfl (lt_r0_9 hV) <| ?_
  obtain ⟨mi1, he2, h⟩ := ob h
  refine a_cVv iX7_startAnew_8 okX2_begin inX2_begin ⟨rfl, rfl⟩ (lt_e11 hV).1 (c_X2_begin (lt_e11 hV) (lt_ld hV) he2) rfl rfl (Nat.le_of_ble_eq_true rfl) ⟨Nat.le_refl 0, Nat.le_refl 0⟩ <| a_aload iX7_startAnew_11 rfl <| a_getr iX7_startAnew_12 (lt_s0 hV) rfl (lt_r0_3 hV) <| ?_
  obtain ⟨mi3, he4, h⟩ := ob h
  refine a_cVv iX7_startAnew_15 okX4_forget inX4_forget ⟨rfl, rfl⟩ (lt_s17 hV) (c_X4_forget hV he4) rfl rfl (Nat.le_of_ble_eq_true rfl) ⟨Nat.le_refl 0, Nat.le_refl 0⟩ <| a_const iX7_startAnew_18 <| a_istore iX7_startAnew_19 (by decide) rfl <| ?_
  refine a_sub (L' := [some (rf g 0), some (.int 0)]) (by exact ⟨rfl, ⟨rfl, trivial⟩⟩) (w_X7_startAnew_20 hV (fun v1_7 mi7 h => ?_) FU _ _ h)
  refine a_aload iX7_startAnew_38 rfl <| a_getr iX7_startAnew_39 (lt_s0 hV) rfl (lt_r0_4 hV) <| a_const iX7_startAnew_42 <| a_puti iX7_startAnew_43 (lt_s199 hV) rfl rfl rfl <| a_aload iX7_startAnew_46 rfl <| a_getr iX7_startAnew_47 (lt_s0 hV) rfl (lt_r0_5 hV) <| a_const iX7_startAnew_50 <| a_puti iX7_startAnew_51 (lt_s204 hV) rfl rfl rfl <| ?_
  obtain rfl := Option.some.inj h
  exact a_vret iX7_startAnew_54 rfl ⟨Nat.le_refl 0, Nat.le_refl 0⟩ ⟨rfl, rfl, rfl, rfl⟩
def f_X7_fault (mi : Mi) : Option (Int32) := some (mi 0 10)
set_option maxRecDepth 20000 in
set_option maxHeartbeats 4000000 in
theorem c_X7_fault {g : Gm} {V : Vw} {mi : Mi} {ml : Ml} {ld dr : Nat} (hV : LayT V ld dr) {r : Int32} (h : f_X7_fault mi = some r) : DoI g YX7_fault V [rf g 0] mi ml r mi ml := by
  unfold f_X7_fault at h
  refine does_of (L := [some (rf g 0)]) okX7_fault rfl (Nat.le_of_ble_eq_true rfl) rfl ?_
  show At g YX7_fault _ (qm g YX7_fault (pI V r mi ml)) V (0, 0) 0 _ [] mi ml
  refine a_aload iX7_fault_0 rfl <| a_geti iX7_fault_1 (lt_s0 hV) rfl <| ?_
  obtain rfl := Option.some.inj h
  exact a_iret iX7_fault_4 rfl ⟨Nat.le_refl 0, Nat.le_refl 0⟩ ⟨rfl, rfl, rfl, rfl⟩
def f_X7_told (mi : Mi) (ld : Nat) (x1 : Int32) : Option (Int32) := if x1 = 0 then (if (mi ld 0) = 0 then (some 0) else (some 1)) else (if x1 = 1 then (some (mi ld 5)) else (if x1 = 2 then (some (mi ld 6)) else (if x1 = 3 then (some (mi ld 7)) else (if x1 = 4 then (some (mi ld 4)) else (if x1 = 5 then (some (mi 1 1)) else (if x1 = 6 then (some (mi 11 0)) else (if x1 = 7 then (some (mi 11 1)) else (if x1 = 8 then ((f_X2_holderIn mi 11 ld 0).bind (fun r11 => some r11)) else (if x1 = 9 then ((f_X2_metWants mi 11 ld).bind (fun r14 => some r14)) else (if x1 = 10 then ((f_X2_notesNeeded mi 11 ld).bind (fun r17 => some r17)) else (if x1 = 11 then ((f_X2_envy mi 11).bind (fun r20 => some r20)) else (if x1 = 12 then (some (mi 11 2)) else (if x1 = 13 then (some (mi 199 4)) else (if x1 = 14 then (some (mi 204 2)) else (if x1 = 15 then (some (mi 17 2)) else (some (-1000000002)))))))))))))))))
set_option maxRecDepth 20000 in
set_option maxHeartbeats 4000000 in
theorem c_X7_told {g : Gm} {V : Vw} {mi : Mi} {ml : Ml} {ld dr : Nat} {x1 : Int32} (hV : LayT V ld dr) {r : Int32} (h : f_X7_told mi ld x1 = some r) : DoI g YX7_told V [rf g 0, .int x1] mi ml r mi ml := by
  unfold f_X7_told at h
  refine does_of (L := [some (rf g 0), some (.int x1)]) okX7_told rfl (Nat.le_of_ble_eq_true rfl) rfl ?_
  show At g YX7_told _ (qm g YX7_told (pI V r mi ml)) V (0, 0) 0 _ [] mi ml
  refine a_iload iX7_told_0 rfl <| ?_
  by_cases hc1 : x1 = 0
  · have h := ot hc1 h
    refine a_tbv (tgt := 80) iX7_told_1 hc1 (by decide) ?_
    refine a_aload iX7_told_80 rfl <| a_getr iX7_told_81 (lt_s0 hV) rfl (lt_r0_9 hV) <| a_geti iX7_told_84 (lt_ld hV).1 rfl <| ?_
    refine a_if_eq iX7_told_87 (fun hc2 => ?_) (fun hc2 => ?_)
    · have h := ot hc2 h
      refine a_const iX7_told_94 <| ?_
      obtain rfl := Option.some.inj h
      exact a_iret iX7_told_95 rfl ⟨Nat.le_refl 0, Nat.le_refl 0⟩ ⟨rfl, rfl, rfl, rfl⟩
    · have h := oe hc2 h
      refine a_const iX7_told_90 <| a_goto iX7_told_91 <| ?_
      obtain rfl := Option.some.inj h
      exact a_iret iX7_told_95 rfl ⟨Nat.le_refl 0, Nat.le_refl 0⟩ ⟨rfl, rfl, rfl, rfl⟩
  · have h := oe hc1 h
    by_cases hc3 : x1 = 1
    · have h := ot hc3 h
      refine a_tbv (tgt := 96) iX7_told_1 hc3 (by decide) ?_
      refine a_aload iX7_told_96 rfl <| a_getr iX7_told_97 (lt_s0 hV) rfl (lt_r0_9 hV) <| a_geti iX7_told_100 (lt_ld hV).1 rfl <| ?_
      obtain rfl := Option.some.inj h
      exact a_iret iX7_told_103 rfl ⟨Nat.le_refl 0, Nat.le_refl 0⟩ ⟨rfl, rfl, rfl, rfl⟩
    · have h := oe hc3 h
      by_cases hc4 : x1 = 2
      · have h := ot hc4 h
        refine a_tbv (tgt := 104) iX7_told_1 hc4 (by decide) ?_
        refine a_aload iX7_told_104 rfl <| a_getr iX7_told_105 (lt_s0 hV) rfl (lt_r0_9 hV) <| a_geti iX7_told_108 (lt_ld hV).1 rfl <| ?_
        obtain rfl := Option.some.inj h
        exact a_iret iX7_told_111 rfl ⟨Nat.le_refl 0, Nat.le_refl 0⟩ ⟨rfl, rfl, rfl, rfl⟩
      · have h := oe hc4 h
        by_cases hc5 : x1 = 3
        · have h := ot hc5 h
          refine a_tbv (tgt := 112) iX7_told_1 hc5 (by decide) ?_
          refine a_aload iX7_told_112 rfl <| a_getr iX7_told_113 (lt_s0 hV) rfl (lt_r0_9 hV) <| a_geti iX7_told_116 (lt_ld hV).1 rfl <| ?_
          obtain rfl := Option.some.inj h
          exact a_iret iX7_told_119 rfl ⟨Nat.le_refl 0, Nat.le_refl 0⟩ ⟨rfl, rfl, rfl, rfl⟩
        · have h := oe hc5 h
          by_cases hc6 : x1 = 4
          · have h := ot hc6 h
            refine a_tbv (tgt := 120) iX7_told_1 hc6 (by decide) ?_
            refine a_aload iX7_told_120 rfl <| a_getr iX7_told_121 (lt_s0 hV) rfl (lt_r0_9 hV) <| a_geti iX7_told_124 (lt_ld hV).1 rfl <| ?_
            obtain rfl := Option.some.inj h
            exact a_iret iX7_told_127 rfl ⟨Nat.le_refl 0, Nat.le_refl 0⟩ ⟨rfl, rfl, rfl, rfl⟩
          · have h := oe hc6 h
            by_cases hc7 : x1 = 5
            · have h := ot hc7 h
              refine a_tbv (tgt := 128) iX7_told_1 hc7 (by decide) ?_
              refine a_aload iX7_told_128 rfl <| a_getr iX7_told_129 (lt_s0 hV) rfl (lt_r0_0 hV) <| a_geti iX7_told_132 (lt_s1 hV) rfl <| ?_
              obtain rfl := Option.some.inj h
              exact a_iret iX7_told_135 rfl ⟨Nat.le_refl 0, Nat.le_refl 0⟩ ⟨rfl, rfl, rfl, rfl⟩
            · have h := oe hc7 h
              by_cases hc8 : x1 = 6
              · have h := ot hc8 h
                refine a_tbv (tgt := 136) iX7_told_1 hc8 (by decide) ?_
                refine a_aload iX7_told_136 rfl <| a_getr iX7_told_137 (lt_s0 hV) rfl (lt_r0_2 hV) <| a_geti iX7_told_140 (lt_e11 hV).1 rfl <| ?_
                obtain rfl := Option.some.inj h
                exact a_iret iX7_told_143 rfl ⟨Nat.le_refl 0, Nat.le_refl 0⟩ ⟨rfl, rfl, rfl, rfl⟩
              · have h := oe hc8 h
                by_cases hc9 : x1 = 7
                · have h := ot hc9 h
                  refine a_tbv (tgt := 144) iX7_told_1 hc9 (by decide) ?_
                  refine a_aload iX7_told_144 rfl <| a_getr iX7_told_145 (lt_s0 hV) rfl (lt_r0_2 hV) <| a_geti iX7_told_148 (lt_e11 hV).1 rfl <| ?_
                  obtain rfl := Option.some.inj h
                  exact a_iret iX7_told_151 rfl ⟨Nat.le_refl 0, Nat.le_refl 0⟩ ⟨rfl, rfl, rfl, rfl⟩
                · have h := oe hc9 h
                  by_cases hc10 : x1 = 8
                  · have h := ot hc10 h
                    refine a_tbv (tgt := 152) iX7_told_1 hc10 (by decide) ?_
                    refine a_aload iX7_told_152 rfl <| a_getr iX7_told_153 (lt_s0 hV) rfl (lt_r0_2 hV) <| a_aload iX7_told_156 rfl <| a_getr iX7_told_157 (lt_s0 hV) rfl (lt_r0_9 hV) <| a_const iX7_told_160 <| ?_
                    obtain ⟨r11, he12, h⟩ := ob h
                    refine a_cVi iX7_told_161 okX2_holderIn inX2_holderIn ⟨rfl, rfl⟩ (lt_e11 hV).1 (c_X2_holderIn (lt_e11 hV) (lt_ld hV) he12) rfl rfl (Nat.le_of_ble_eq_true rfl) ⟨Nat.le_refl 0, Nat.le_refl 0⟩ <| ?_
                    obtain rfl := Option.some.inj h
                    exact a_iret iX7_told_164 rfl ⟨Nat.le_refl 0, Nat.le_refl 0⟩ ⟨rfl, rfl, rfl, rfl⟩
                  · have h := oe hc10 h
                    by_cases hc13 : x1 = 9
                    · have h := ot hc13 h
                      refine a_tbv (tgt := 165) iX7_told_1 hc13 (by decide) ?_
                      refine a_aload iX7_told_165 rfl <| a_getr iX7_told_166 (lt_s0 hV) rfl (lt_r0_2 hV) <| a_aload iX7_told_169 rfl <| a_getr iX7_told_170 (lt_s0 hV) rfl (lt_r0_9 hV) <| ?_
                      obtain ⟨r14, he15, h⟩ := ob h
                      refine a_cVi iX7_told_173 okX2_metWants inX2_metWants ⟨rfl, rfl⟩ (lt_e11 hV).1 (c_X2_metWants (lt_e11 hV) (lt_ld hV) he15) rfl rfl (Nat.le_of_ble_eq_true rfl) ⟨Nat.le_refl 0, Nat.le_refl 0⟩ <| ?_
                      obtain rfl := Option.some.inj h
                      exact a_iret iX7_told_176 rfl ⟨Nat.le_refl 0, Nat.le_refl 0⟩ ⟨rfl, rfl, rfl, rfl⟩
                    · have h := oe hc13 h
                      by_cases hc16 : x1 = 10
                      · have h := ot hc16 h
                        refine a_tbv (tgt := 177) iX7_told_1 hc16 (by decide) ?_
                        refine a_aload iX7_told_177 rfl <| a_getr iX7_told_178 (lt_s0 hV) rfl (lt_r0_2 hV) <| a_aload iX7_told_181 rfl <| a_getr iX7_told_182 (lt_s0 hV) rfl (lt_r0_9 hV) <| ?_
                        obtain ⟨r17, he18, h⟩ := ob h
                        refine a_cVi iX7_told_185 okX2_notesNeeded inX2_notesNeeded ⟨rfl, rfl⟩ (lt_e11 hV).1 (c_X2_notesNeeded (lt_e11 hV) (lt_ld hV) he18) rfl rfl (Nat.le_of_ble_eq_true rfl) ⟨Nat.le_refl 0, Nat.le_refl 0⟩ <| ?_
                        obtain rfl := Option.some.inj h
                        exact a_iret iX7_told_188 rfl ⟨Nat.le_refl 0, Nat.le_refl 0⟩ ⟨rfl, rfl, rfl, rfl⟩
                      · have h := oe hc16 h
                        by_cases hc19 : x1 = 11
                        · have h := ot hc19 h
                          refine a_tbv (tgt := 189) iX7_told_1 hc19 (by decide) ?_
                          refine a_aload iX7_told_189 rfl <| a_getr iX7_told_190 (lt_s0 hV) rfl (lt_r0_2 hV) <| ?_
                          obtain ⟨r20, he21, h⟩ := ob h
                          refine a_cVi iX7_told_193 okX2_envy inX2_envy ⟨rfl, rfl⟩ (lt_e11 hV).1 (c_X2_envy (lt_e11 hV) he21) rfl rfl (Nat.le_of_ble_eq_true rfl) ⟨Nat.le_refl 0, Nat.le_refl 0⟩ <| ?_
                          obtain rfl := Option.some.inj h
                          exact a_iret iX7_told_196 rfl ⟨Nat.le_refl 0, Nat.le_refl 0⟩ ⟨rfl, rfl, rfl, rfl⟩
                        · have h := oe hc19 h
                          by_cases hc22 : x1 = 12
                          · have h := ot hc22 h
                            refine a_tbv (tgt := 197) iX7_told_1 hc22 (by decide) ?_
                            refine a_aload iX7_told_197 rfl <| a_getr iX7_told_198 (lt_s0 hV) rfl (lt_r0_2 hV) <| a_geti iX7_told_201 (lt_e11 hV).1 rfl <| ?_
                            obtain rfl := Option.some.inj h
                            exact a_iret iX7_told_204 rfl ⟨Nat.le_refl 0, Nat.le_refl 0⟩ ⟨rfl, rfl, rfl, rfl⟩
                          · have h := oe hc22 h
                            by_cases hc23 : x1 = 13
                            · have h := ot hc23 h
                              refine a_tbv (tgt := 205) iX7_told_1 hc23 (by decide) ?_
                              refine a_aload iX7_told_205 rfl <| a_getr iX7_told_206 (lt_s0 hV) rfl (lt_r0_4 hV) <| a_geti iX7_told_209 (lt_s199 hV) rfl <| ?_
                              obtain rfl := Option.some.inj h
                              exact a_iret iX7_told_212 rfl ⟨Nat.le_refl 0, Nat.le_refl 0⟩ ⟨rfl, rfl, rfl, rfl⟩
                            · have h := oe hc23 h
                              by_cases hc24 : x1 = 14
                              · have h := ot hc24 h
                                refine a_tbv (tgt := 213) iX7_told_1 hc24 (by decide) ?_
                                refine a_aload iX7_told_213 rfl <| a_getr iX7_told_214 (lt_s0 hV) rfl (lt_r0_5 hV) <| a_geti iX7_told_217 (lt_s204 hV) rfl <| ?_
                                obtain rfl := Option.some.inj h
                                exact a_iret iX7_told_220 rfl ⟨Nat.le_refl 0, Nat.le_refl 0⟩ ⟨rfl, rfl, rfl, rfl⟩
                              · have h := oe hc24 h
                                by_cases hc25 : x1 = 15
                                · have h := ot hc25 h
                                  refine a_tbv (tgt := 221) iX7_told_1 hc25 (by decide) ?_
                                  refine a_aload iX7_told_221 rfl <| a_getr iX7_told_222 (lt_s0 hV) rfl (lt_r0_3 hV) <| a_geti iX7_told_225 (lt_s17 hV) rfl <| ?_
                                  obtain rfl := Option.some.inj h
                                  exact a_iret iX7_told_228 rfl ⟨Nat.le_refl 0, Nat.le_refl 0⟩ ⟨rfl, rfl, rfl, rfl⟩
                                · have h := oe hc25 h
                                  refine a_tbd (n := 16) iX7_told_1 (by decide) ⟨⟨⟨⟨⟨⟨⟨⟨⟨⟨⟨⟨⟨⟨⟨⟨trivial, hc1⟩, hc3⟩, hc4⟩, hc5⟩, hc6⟩, hc7⟩, hc8⟩, hc9⟩, hc10⟩, hc13⟩, hc16⟩, hc19⟩, hc22⟩, hc23⟩, hc24⟩, hc25⟩ ?_
                                  refine a_const iX7_told_229 <| ?_
                                  obtain rfl := Option.some.inj h
                                  exact a_iret iX7_told_231 rfl ⟨Nat.le_refl 0, Nat.le_refl 0⟩ ⟨rfl, rfl, rfl, rfl⟩
def f_X7_heir (mi : Mi) (ld : Nat) (x1 x2 : Int32) : Option (Int32) := (f_X7_isHeir x1).bind (fun r1 => if r1 = 0 then (some (-1000000001)) else (if x2 = 0 then (if inb x1 3 then some (mi (11 + 1) x1.toNatClampNeg) else none) else (if x2 = 1 then (if inb x1 3 then some (mi (11 + 2) x1.toNatClampNeg) else none) else (if x2 = 2 then ((f_X1_wantsOf mi ld x1).bind (fun r9 => some r9)) else (if x2 = 3 then ((f_X2_wrongAbout mi 11 ld x1).bind (fun r12 => some r12)) else (some (-1000000002)))))))
set_option maxRecDepth 20000 in
set_option maxHeartbeats 4000000 in
theorem c_X7_heir {g : Gm} {V : Vw} {mi : Mi} {ml : Ml} {ld dr : Nat} {x1 x2 : Int32} (hV : LayT V ld dr) {r : Int32} (h : f_X7_heir mi ld x1 x2 = some r) : DoI g YX7_heir V [rf g 0, .int x1, .int x2] mi ml r mi ml := by
  unfold f_X7_heir at h
  refine does_of (L := [some (rf g 0), some (.int x1), some (.int x2)]) okX7_heir rfl (Nat.le_of_ble_eq_true rfl) rfl ?_
  show At g YX7_heir _ (qm g YX7_heir (pI V r mi ml)) V (0, 0) 0 _ [] mi ml
  refine a_iload iX7_heir_0 rfl <| ?_
  obtain ⟨r1, he2, h⟩ := ob h
  refine a_cSi iX7_heir_1 okX7_isHeir stX7_isHeir ⟨rfl, rfl⟩ (c_X7_isHeir he2) rfl rfl (Nat.le_of_ble_eq_true rfl) ⟨Nat.le_refl 0, Nat.le_refl 0⟩ <| ?_
  refine a_if_ne iX7_heir_4 (fun hc3 => ?_) (fun hc3 => ?_)
  · have h := oe hc3 h
    refine a_iload iX7_heir_10 rfl <| ?_
    by_cases hc4 : x2 = 0
    · have h := ot hc4 h
      refine a_tbv (tgt := 40) iX7_heir_11 hc4 (by decide) ?_
      refine a_aload iX7_heir_40 rfl <| a_getr iX7_heir_41 (lt_s0 hV) rfl (lt_r0_2 hV) <| a_getr iX7_heir_44 (lt_e11 hV).1 rfl (lt_e11 hV).2.2.2.2.2.2.1 <| a_iload iX7_heir_47 rfl <| ?_
      obtain ⟨hg5, h⟩ := og h
      refine a_iald iX7_heir_48 (lt_e11 hV).2.1 (inb_vp hg5) <| ?_
      obtain rfl := Option.some.inj h
      exact a_iret iX7_heir_49 rfl ⟨Nat.le_refl 0, Nat.le_refl 0⟩ ⟨rfl, rfl, rfl, rfl⟩
    · have h := oe hc4 h
      by_cases hc6 : x2 = 1
      · have h := ot hc6 h
        refine a_tbv (tgt := 50) iX7_heir_11 hc6 (by decide) ?_
        refine a_aload iX7_heir_50 rfl <| a_getr iX7_heir_51 (lt_s0 hV) rfl (lt_r0_2 hV) <| a_getr iX7_heir_54 (lt_e11 hV).1 rfl (lt_e11 hV).2.2.2.2.2.2.2.1 <| a_iload iX7_heir_57 rfl <| ?_
        obtain ⟨hg7, h⟩ := og h
        refine a_iald iX7_heir_58 (lt_e11 hV).2.2.1 (inb_vp hg7) <| ?_
        obtain rfl := Option.some.inj h
        exact a_iret iX7_heir_59 rfl ⟨Nat.le_refl 0, Nat.le_refl 0⟩ ⟨rfl, rfl, rfl, rfl⟩
      · have h := oe hc6 h
        by_cases hc8 : x2 = 2
        · have h := ot hc8 h
          refine a_tbv (tgt := 60) iX7_heir_11 hc8 (by decide) ?_
          refine a_aload iX7_heir_60 rfl <| a_getr iX7_heir_61 (lt_s0 hV) rfl (lt_r0_9 hV) <| a_iload iX7_heir_64 rfl <| ?_
          obtain ⟨r9, he10, h⟩ := ob h
          refine a_cVi iX7_heir_65 okX1_wantsOf inX1_wantsOf ⟨rfl, rfl⟩ (lt_ld hV).1 (c_X1_wantsOf (lt_ld hV) he10) rfl rfl (Nat.le_of_ble_eq_true rfl) ⟨Nat.le_refl 0, Nat.le_refl 0⟩ <| ?_
          obtain rfl := Option.some.inj h
          exact a_iret iX7_heir_68 rfl ⟨Nat.le_refl 0, Nat.le_refl 0⟩ ⟨rfl, rfl, rfl, rfl⟩
        · have h := oe hc8 h
          by_cases hc11 : x2 = 3
          · have h := ot hc11 h
            refine a_tbv (tgt := 69) iX7_heir_11 hc11 (by decide) ?_
            refine a_aload iX7_heir_69 rfl <| a_getr iX7_heir_70 (lt_s0 hV) rfl (lt_r0_2 hV) <| a_aload iX7_heir_73 rfl <| a_getr iX7_heir_74 (lt_s0 hV) rfl (lt_r0_9 hV) <| a_iload iX7_heir_77 rfl <| ?_
            obtain ⟨r12, he13, h⟩ := ob h
            refine a_cVi iX7_heir_78 okX2_wrongAbout inX2_wrongAbout ⟨rfl, rfl⟩ (lt_e11 hV).1 (c_X2_wrongAbout (lt_e11 hV) (lt_ld hV) he13) rfl rfl (Nat.le_of_ble_eq_true rfl) ⟨Nat.le_refl 0, Nat.le_refl 0⟩ <| ?_
            obtain rfl := Option.some.inj h
            exact a_iret iX7_heir_81 rfl ⟨Nat.le_refl 0, Nat.le_refl 0⟩ ⟨rfl, rfl, rfl, rfl⟩
          · have h := oe hc11 h
            refine a_tbd (n := 4) iX7_heir_11 (by decide) ⟨⟨⟨⟨trivial, hc4⟩, hc6⟩, hc8⟩, hc11⟩ ?_
            refine a_const iX7_heir_82 <| ?_
            obtain rfl := Option.some.inj h
            exact a_iret iX7_heir_84 rfl ⟨Nat.le_refl 0, Nat.le_refl 0⟩ ⟨rfl, rfl, rfl, rfl⟩
  · have h := ot hc3 h
    refine a_const iX7_heir_7 <| ?_
    obtain rfl := Option.some.inj h
    exact a_iret iX7_heir_9 rfl ⟨Nat.le_refl 0, Nat.le_refl 0⟩ ⟨rfl, rfl, rfl, rfl⟩
def f_X7_isThing (mi : Mi) (ld : Nat) (x1 : Int32) : Option (Int32) := if x1 < 0 then (some 0) else (if (mi ld 5) ≤ x1 then (some 0) else (some 1))
set_option maxRecDepth 20000 in
set_option maxHeartbeats 4000000 in
theorem c_X7_isThing {g : Gm} {V : Vw} {mi : Mi} {ml : Ml} {ld dr : Nat} {x1 : Int32} (hV : LayT V ld dr) {r : Int32} (h : f_X7_isThing mi ld x1 = some r) : DoI g YX7_isThing V [rf g 0, .int x1] mi ml r mi ml := by
  unfold f_X7_isThing at h
  refine does_of (L := [some (rf g 0), some (.int x1)]) okX7_isThing rfl (Nat.le_of_ble_eq_true rfl) rfl ?_
  show At g YX7_isThing _ (qm g YX7_isThing (pI V r mi ml)) V (0, 0) 0 _ [] mi ml
  refine a_iload iX7_isThing_0 rfl <| ?_
  refine a_if_lt iX7_isThing_1 (fun hc1 => ?_) (fun hc1 => ?_)
  · have h := ot hc1 h
    refine a_const iX7_isThing_19 <| ?_
    obtain rfl := Option.some.inj h
    exact a_zret iX7_isThing_20 rfl rfl ⟨Nat.le_refl 0, Nat.le_refl 0⟩ ⟨rfl, rfl, rfl, rfl⟩
  · have h := oe hc1 h
    refine a_iload iX7_isThing_4 rfl <| a_aload iX7_isThing_5 rfl <| a_getr iX7_isThing_6 (lt_s0 hV) rfl (lt_r0_9 hV) <| a_geti iX7_isThing_9 (lt_ld hV).1 rfl <| ?_
    refine a_icmp_ge iX7_isThing_12 (fun hc2 => ?_) (fun hc2 => ?_)
    · have h := ot hc2 h
      refine a_const iX7_isThing_19 <| ?_
      obtain rfl := Option.some.inj h
      exact a_zret iX7_isThing_20 rfl rfl ⟨Nat.le_refl 0, Nat.le_refl 0⟩ ⟨rfl, rfl, rfl, rfl⟩
    · have h := oe hc2 h
      refine a_const iX7_isThing_15 <| a_goto iX7_isThing_16 <| ?_
      obtain rfl := Option.some.inj h
      exact a_zret iX7_isThing_20 rfl rfl ⟨Nat.le_refl 0, Nat.le_refl 0⟩ ⟨rfl, rfl, rfl, rfl⟩
def f_X7_thing (mi : Mi) (ld : Nat) (x1 x2 : Int32) : Option (Int32) := (f_X7_isThing mi ld x1).bind (fun r1 => if r1 = 0 then (some (-1000000001)) else (if x2 = 0 then (if inb x1 8 then some (mi (ld + 2) x1.toNatClampNeg) else none) else (if x2 = 1 then (if inb x1 8 then some (mi (11 + 3) x1.toNatClampNeg) else none) else (some (-1000000002)))))
set_option maxRecDepth 20000 in
set_option maxHeartbeats 4000000 in
theorem c_X7_thing {g : Gm} {V : Vw} {mi : Mi} {ml : Ml} {ld dr : Nat} {x1 x2 : Int32} (hV : LayT V ld dr) {r : Int32} (h : f_X7_thing mi ld x1 x2 = some r) : DoI g YX7_thing V [rf g 0, .int x1, .int x2] mi ml r mi ml := by
  unfold f_X7_thing at h
  refine does_of (L := [some (rf g 0), some (.int x1), some (.int x2)]) okX7_thing rfl (Nat.le_of_ble_eq_true rfl) rfl ?_
  show At g YX7_thing _ (qm g YX7_thing (pI V r mi ml)) V (0, 0) 0 _ [] mi ml
  refine a_aload iX7_thing_0 rfl <| a_iload iX7_thing_1 rfl <| ?_
  obtain ⟨r1, he2, h⟩ := ob h
  refine a_cVi iX7_thing_2 okX7_isThing inX7_isThing ⟨rfl, rfl⟩ (lt_s0 hV) (c_X7_isThing hV he2) rfl rfl (Nat.le_of_ble_eq_true rfl) ⟨Nat.le_refl 0, Nat.le_refl 0⟩ <| ?_
  refine a_if_ne iX7_thing_5 (fun hc3 => ?_) (fun hc3 => ?_)
  · have h := oe hc3 h
    refine a_iload iX7_thing_11 rfl <| ?_
    by_cases hc4 : x2 = 0
    · have h := ot hc4 h
      refine a_lwv (tgt := 40) iX7_thing_12 hc4 (by decide) ?_
      refine a_aload iX7_thing_40 rfl <| a_getr iX7_thing_41 (lt_s0 hV) rfl (lt_r0_9 hV) <| a_getr iX7_thing_44 (lt_ld hV).1 rfl (lt_ld hV).2.2.2.2.2.2.2.2.1 <| a_iload iX7_thing_47 rfl <| ?_
      obtain ⟨hg5, h⟩ := og h
      refine a_iald iX7_thing_48 (lt_ld hV).2.2.1 (inb_vp hg5) <| ?_
      obtain rfl := Option.some.inj h
      exact a_iret iX7_thing_49 rfl ⟨Nat.le_refl 0, Nat.le_refl 0⟩ ⟨rfl, rfl, rfl, rfl⟩
    · have h := oe hc4 h
      by_cases hc6 : x2 = 1
      · have h := ot hc6 h
        refine a_lwv (tgt := 50) iX7_thing_12 hc6 (by decide) ?_
        refine a_aload iX7_thing_50 rfl <| a_getr iX7_thing_51 (lt_s0 hV) rfl (lt_r0_2 hV) <| a_getr iX7_thing_54 (lt_e11 hV).1 rfl (lt_e11 hV).2.2.2.2.2.2.2.2.1 <| a_iload iX7_thing_57 rfl <| ?_
        obtain ⟨hg7, h⟩ := og h
        refine a_iald iX7_thing_58 (lt_e11 hV).2.2.2.1 (inb_vp hg7) <| ?_
        obtain rfl := Option.some.inj h
        exact a_iret iX7_thing_59 rfl ⟨Nat.le_refl 0, Nat.le_refl 0⟩ ⟨rfl, rfl, rfl, rfl⟩
      · have h := oe hc6 h
        refine a_lwd iX7_thing_12 (lw_all ⟨lw_ne (k := 0) hc4 (by decide), lw_ne (k := 1) hc6 (by decide), trivial⟩) ?_
        refine a_const iX7_thing_60 <| ?_
        obtain rfl := Option.some.inj h
        exact a_iret iX7_thing_62 rfl ⟨Nat.le_refl 0, Nat.le_refl 0⟩ ⟨rfl, rfl, rfl, rfl⟩
  · have h := ot hc3 h
    refine a_const iX7_thing_8 <| ?_
    obtain rfl := Option.some.inj h
    exact a_iret iX7_thing_10 rfl ⟨Nat.le_refl 0, Nat.le_refl 0⟩ ⟨rfl, rfl, rfl, rfl⟩
def f_X7_want (mi : Mi) (ld : Nat) (x1 x2 : Int32) : Option (Int32) := if x1 < 0 then (some (-1000000001)) else (if x1 < (mi ld 7) then (if x2 = 0 then (if inb x1 10 then some (mi (ld + 4) x1.toNatClampNeg) else none) else (if x2 = 1 then (if inb x1 10 then some (mi (ld + 5) x1.toNatClampNeg) else none) else (if x2 = 2 then (if inb x1 10 then some (mi (ld + 6) x1.toNatClampNeg) else none) else (some (-1000000002))))) else (some (-1000000001)))
set_option maxRecDepth 20000 in
set_option maxHeartbeats 4000000 in
theorem c_X7_want {g : Gm} {V : Vw} {mi : Mi} {ml : Ml} {ld dr : Nat} {x1 x2 : Int32} (hV : LayT V ld dr) {r : Int32} (h : f_X7_want mi ld x1 x2 = some r) : DoI g YX7_want V [rf g 0, .int x1, .int x2] mi ml r mi ml := by
  unfold f_X7_want at h
  refine does_of (L := [some (rf g 0), some (.int x1), some (.int x2)]) okX7_want rfl (Nat.le_of_ble_eq_true rfl) rfl ?_
  show At g YX7_want _ (qm g YX7_want (pI V r mi ml)) V (0, 0) 0 _ [] mi ml
  refine a_iload iX7_want_0 rfl <| ?_
  refine a_if_lt iX7_want_1 (fun hc1 => ?_) (fun hc1 => ?_)
  · have h := ot hc1 h
    refine a_const iX7_want_15 <| ?_
    obtain rfl := Option.some.inj h
    exact a_iret iX7_want_17 rfl ⟨Nat.le_refl 0, Nat.le_refl 0⟩ ⟨rfl, rfl, rfl, rfl⟩
  · have h := oe hc1 h
    refine a_iload iX7_want_4 rfl <| a_aload iX7_want_5 rfl <| a_getr iX7_want_6 (lt_s0 hV) rfl (lt_r0_9 hV) <| a_geti iX7_want_9 (lt_ld hV).1 rfl <| ?_
    refine a_icmp_lt iX7_want_12 (fun hc2 => ?_) (fun hc2 => ?_)
    · have h := ot hc2 h
      refine a_iload iX7_want_18 rfl <| ?_
      by_cases hc3 : x2 = 0
      · have h := ot hc3 h
        refine a_tbv (tgt := 44) iX7_want_19 hc3 (by decide) ?_
        refine a_aload iX7_want_44 rfl <| a_getr iX7_want_45 (lt_s0 hV) rfl (lt_r0_9 hV) <| a_getr iX7_want_48 (lt_ld hV).1 rfl (lt_ld hV).2.2.2.2.2.2.2.2.2.2.1 <| a_iload iX7_want_51 rfl <| ?_
        obtain ⟨hg4, h⟩ := og h
        refine a_iald iX7_want_52 (lt_ld hV).2.2.2.2.1 (inb_vp hg4) <| ?_
        obtain rfl := Option.some.inj h
        exact a_iret iX7_want_53 rfl ⟨Nat.le_refl 0, Nat.le_refl 0⟩ ⟨rfl, rfl, rfl, rfl⟩
      · have h := oe hc3 h
        by_cases hc5 : x2 = 1
        · have h := ot hc5 h
          refine a_tbv (tgt := 54) iX7_want_19 hc5 (by decide) ?_
          refine a_aload iX7_want_54 rfl <| a_getr iX7_want_55 (lt_s0 hV) rfl (lt_r0_9 hV) <| a_getr iX7_want_58 (lt_ld hV).1 rfl (lt_ld hV).2.2.2.2.2.2.2.2.2.2.2.1 <| a_iload iX7_want_61 rfl <| ?_
          obtain ⟨hg6, h⟩ := og h
          refine a_iald iX7_want_62 (lt_ld hV).2.2.2.2.2.1 (inb_vp hg6) <| ?_
          obtain rfl := Option.some.inj h
          exact a_iret iX7_want_63 rfl ⟨Nat.le_refl 0, Nat.le_refl 0⟩ ⟨rfl, rfl, rfl, rfl⟩
        · have h := oe hc5 h
          by_cases hc7 : x2 = 2
          · have h := ot hc7 h
            refine a_tbv (tgt := 64) iX7_want_19 hc7 (by decide) ?_
            refine a_aload iX7_want_64 rfl <| a_getr iX7_want_65 (lt_s0 hV) rfl (lt_r0_9 hV) <| a_getr iX7_want_68 (lt_ld hV).1 rfl (lt_ld hV).2.2.2.2.2.2.2.2.2.2.2.2 <| a_iload iX7_want_71 rfl <| ?_
            obtain ⟨hg8, h⟩ := og h
            refine a_iald iX7_want_72 (lt_ld hV).2.2.2.2.2.2.1 (inb_vp hg8) <| ?_
            obtain rfl := Option.some.inj h
            exact a_iret iX7_want_73 rfl ⟨Nat.le_refl 0, Nat.le_refl 0⟩ ⟨rfl, rfl, rfl, rfl⟩
          · have h := oe hc7 h
            refine a_tbd (n := 3) iX7_want_19 (by decide) ⟨⟨⟨trivial, hc3⟩, hc5⟩, hc7⟩ ?_
            refine a_const iX7_want_74 <| ?_
            obtain rfl := Option.some.inj h
            exact a_iret iX7_want_76 rfl ⟨Nat.le_refl 0, Nat.le_refl 0⟩ ⟨rfl, rfl, rfl, rfl⟩
    · have h := oe hc2 h
      refine a_const iX7_want_15 <| ?_
      obtain rfl := Option.some.inj h
      exact a_iret iX7_want_17 rfl ⟨Nat.le_refl 0, Nat.le_refl 0⟩ ⟨rfl, rfl, rfl, rfl⟩
def f_X7_known (mi : Mi) (ld : Nat) (x1 x2 : Int32) : Option (Int32) := (f_X7_isHeir x1).bind (fun r1 => if r1 = 0 then (some (-1000000001)) else ((f_X7_isThing mi ld x2).bind (fun r4 => if r4 = 0 then (some (-1000000001)) else (if inb ((x1 * 8) + x2) 24 then some (mi (11 + 4) ((x1 * 8) + x2).toNatClampNeg) else none))))
set_option maxRecDepth 20000 in
set_option maxHeartbeats 4000000 in
theorem c_X7_known {g : Gm} {V : Vw} {mi : Mi} {ml : Ml} {ld dr : Nat} {x1 x2 : Int32} (hV : LayT V ld dr) {r : Int32} (h : f_X7_known mi ld x1 x2 = some r) : DoI g YX7_known V [rf g 0, .int x1, .int x2] mi ml r mi ml := by
  unfold f_X7_known at h
  refine does_of (L := [some (rf g 0), some (.int x1), some (.int x2)]) okX7_known rfl (Nat.le_of_ble_eq_true rfl) rfl ?_
  show At g YX7_known _ (qm g YX7_known (pI V r mi ml)) V (0, 0) 0 _ [] mi ml
  refine a_iload iX7_known_0 rfl <| ?_
  obtain ⟨r1, he2, h⟩ := ob h
  refine a_cSi iX7_known_1 okX7_isHeir stX7_isHeir ⟨rfl, rfl⟩ (c_X7_isHeir he2) rfl rfl (Nat.le_of_ble_eq_true rfl) ⟨Nat.le_refl 0, Nat.le_refl 0⟩ <| ?_
  refine a_if_eq iX7_known_4 (fun hc3 => ?_) (fun hc3 => ?_)
  · have h := ot hc3 h
    refine a_const iX7_known_15 <| ?_
    obtain rfl := Option.some.inj h
    exact a_iret iX7_known_17 rfl ⟨Nat.le_refl 0, Nat.le_refl 0⟩ ⟨rfl, rfl, rfl, rfl⟩
  · have h := oe hc3 h
    refine a_aload iX7_known_7 rfl <| a_iload iX7_known_8 rfl <| ?_
    obtain ⟨r4, he5, h⟩ := ob h
    refine a_cVi iX7_known_9 okX7_isThing inX7_isThing ⟨rfl, rfl⟩ (lt_s0 hV) (c_X7_isThing hV he5) rfl rfl (Nat.le_of_ble_eq_true rfl) ⟨Nat.le_refl 0, Nat.le_refl 0⟩ <| ?_
    refine a_if_ne iX7_known_12 (fun hc6 => ?_) (fun hc6 => ?_)
    · have h := oe hc6 h
      refine a_aload iX7_known_18 rfl <| a_getr iX7_known_19 (lt_s0 hV) rfl (lt_r0_2 hV) <| a_getr iX7_known_22 (lt_e11 hV).1 rfl (lt_e11 hV).2.2.2.2.2.2.2.2.2.1 <| a_iload iX7_known_25 rfl <| a_const iX7_known_26 <| a_imul iX7_known_28 <| a_iload iX7_known_29 rfl <| a_iadd iX7_known_30 <| ?_
      obtain ⟨hg7, h⟩ := og h
      refine a_iald iX7_known_31 (lt_e11 hV).2.2.2.2.1 (inb_vp hg7) <| ?_
      obtain rfl := Option.some.inj h
      exact a_iret iX7_known_32 rfl ⟨Nat.le_refl 0, Nat.le_refl 0⟩ ⟨rfl, rfl, rfl, rfl⟩
    · have h := ot hc6 h
      refine a_const iX7_known_15 <| ?_
      obtain rfl := Option.some.inj h
      exact a_iret iX7_known_17 rfl ⟨Nat.le_refl 0, Nat.le_refl 0⟩ ⟨rfl, rfl, rfl, rfl⟩
def f_X7_logged (mi : Mi) (x1 x2 : Int32) : Option (Int32) := (f_X7_isWithin x2 0 3).bind (fun r1 => if r1 = 0 then (some (-1000000002)) else (if x1 < 0 then (some (-1)) else (if x1 < (mi 11 2) then (if inb ((x1 * 4) + x2) 80 then some (mi (11 + 5) ((x1 * 4) + x2).toNatClampNeg) else none) else (some (-1)))))
set_option maxRecDepth 20000 in
set_option maxHeartbeats 4000000 in
theorem c_X7_logged {g : Gm} {V : Vw} {mi : Mi} {ml : Ml} {ld dr : Nat} {x1 x2 : Int32} (hV : LayT V ld dr) {r : Int32} (h : f_X7_logged mi x1 x2 = some r) : DoI g YX7_logged V [rf g 0, .int x1, .int x2] mi ml r mi ml := by
  unfold f_X7_logged at h
  refine does_of (L := [some (rf g 0), some (.int x1), some (.int x2)]) okX7_logged rfl (Nat.le_of_ble_eq_true rfl) rfl ?_
  show At g YX7_logged _ (qm g YX7_logged (pI V r mi ml)) V (0, 0) 0 _ [] mi ml
  refine a_iload iX7_logged_0 rfl <| a_const iX7_logged_1 <| a_const iX7_logged_2 <| ?_
  obtain ⟨r1, he2, h⟩ := ob h
  refine a_cSi iX7_logged_3 okX7_isWithin stX7_isWithin ⟨rfl, rfl⟩ (c_X7_isWithin he2) rfl rfl (Nat.le_of_ble_eq_true rfl) ⟨Nat.le_refl 0, Nat.le_refl 0⟩ <| ?_
  refine a_if_ne iX7_logged_6 (fun hc3 => ?_) (fun hc3 => ?_)
  · have h := oe hc3 h
    refine a_iload iX7_logged_12 rfl <| ?_
    refine a_if_lt iX7_logged_13 (fun hc4 => ?_) (fun hc4 => ?_)
    · have h := ot hc4 h
      refine a_const iX7_logged_27 <| ?_
      obtain rfl := Option.some.inj h
      exact a_iret iX7_logged_28 rfl ⟨Nat.le_refl 0, Nat.le_refl 0⟩ ⟨rfl, rfl, rfl, rfl⟩
    · have h := oe hc4 h
      refine a_iload iX7_logged_16 rfl <| a_aload iX7_logged_17 rfl <| a_getr iX7_logged_18 (lt_s0 hV) rfl (lt_r0_2 hV) <| a_geti iX7_logged_21 (lt_e11 hV).1 rfl <| ?_
      refine a_icmp_lt iX7_logged_24 (fun hc5 => ?_) (fun hc5 => ?_)
      · have h := ot hc5 h
        refine a_aload iX7_logged_29 rfl <| a_getr iX7_logged_30 (lt_s0 hV) rfl (lt_r0_2 hV) <| a_getr iX7_logged_33 (lt_e11 hV).1 rfl (lt_e11 hV).2.2.2.2.2.2.2.2.2.2 <| a_iload iX7_logged_36 rfl <| a_const iX7_logged_37 <| a_imul iX7_logged_38 <| a_iload iX7_logged_39 rfl <| a_iadd iX7_logged_40 <| ?_
        obtain ⟨hg6, h⟩ := og h
        refine a_iald iX7_logged_41 (lt_e11 hV).2.2.2.2.2.1 (inb_vp hg6) <| ?_
        obtain rfl := Option.some.inj h
        exact a_iret iX7_logged_42 rfl ⟨Nat.le_refl 0, Nat.le_refl 0⟩ ⟨rfl, rfl, rfl, rfl⟩
      · have h := oe hc5 h
        refine a_const iX7_logged_27 <| ?_
        obtain rfl := Option.some.inj h
        exact a_iret iX7_logged_28 rfl ⟨Nat.le_refl 0, Nat.le_refl 0⟩ ⟨rfl, rfl, rfl, rfl⟩
  · have h := ot hc3 h
    refine a_const iX7_logged_9 <| ?_
    obtain rfl := Option.some.inj h
    exact a_iret iX7_logged_11 rfl ⟨Nat.le_refl 0, Nat.le_refl 0⟩ ⟨rfl, rfl, rfl, rfl⟩
def f_X7_refusalOfHours (mi : Mi) (ld : Nat) (x1 : Int32) : Option (Int32) := (f_X7_isWithin x1 1 30).bind (fun r1 => if r1 = 0 then (some (-1000000002)) else (if (mi ld 0) = 0 then (some (-1000000003)) else (if (mi 11 0) ≤ (90000) then (some (-1)) else (some (-1000000004)))))
set_option maxRecDepth 20000 in
set_option maxHeartbeats 4000000 in
theorem c_X7_refusalOfHours {g : Gm} {V : Vw} {mi : Mi} {ml : Ml} {ld dr : Nat} {x1 : Int32} (hV : LayT V ld dr) {r : Int32} (h : f_X7_refusalOfHours mi ld x1 = some r) : DoI g YX7_refusalOfHours V [rf g 0, .int x1] mi ml r mi ml := by
  unfold f_X7_refusalOfHours at h
  refine does_of (L := [some (rf g 0), some (.int x1)]) okX7_refusalOfHours rfl (Nat.le_of_ble_eq_true rfl) rfl ?_
  show At g YX7_refusalOfHours _ (qm g YX7_refusalOfHours (pI V r mi ml)) V (0, 0) 0 _ [] mi ml
  refine a_iload iX7_refusalOfHours_0 rfl <| a_const iX7_refusalOfHours_1 <| a_const iX7_refusalOfHours_2 <| ?_
  obtain ⟨r1, he2, h⟩ := ob h
  refine a_cSi iX7_refusalOfHours_4 okX7_isWithin stX7_isWithin ⟨rfl, rfl⟩ (c_X7_isWithin he2) rfl rfl (Nat.le_of_ble_eq_true rfl) ⟨Nat.le_refl 0, Nat.le_refl 0⟩ <| ?_
  refine a_if_ne iX7_refusalOfHours_7 (fun hc3 => ?_) (fun hc3 => ?_)
  · have h := oe hc3 h
    refine a_aload iX7_refusalOfHours_13 rfl <| a_getr iX7_refusalOfHours_14 (lt_s0 hV) rfl (lt_r0_9 hV) <| a_geti iX7_refusalOfHours_17 (lt_ld hV).1 rfl <| ?_
    refine a_if_ne iX7_refusalOfHours_20 (fun hc4 => ?_) (fun hc4 => ?_)
    · have h := oe hc4 h
      refine a_aload iX7_refusalOfHours_26 rfl <| a_getr iX7_refusalOfHours_27 (lt_s0 hV) rfl (lt_r0_2 hV) <| a_geti iX7_refusalOfHours_30 (lt_e11 hV).1 rfl <| a_const iX7_refusalOfHours_33 <| ?_
      refine a_icmp_le iX7_refusalOfHours_35 (fun hc5 => ?_) (fun hc5 => ?_)
      · have h := ot hc5 h
        refine a_const iX7_refusalOfHours_43 <| ?_
        obtain rfl := Option.some.inj h
        exact a_iret iX7_refusalOfHours_44 rfl ⟨Nat.le_refl 0, Nat.le_refl 0⟩ ⟨rfl, rfl, rfl, rfl⟩
      · have h := oe hc5 h
        refine a_const iX7_refusalOfHours_38 <| a_goto iX7_refusalOfHours_40 <| ?_
        obtain rfl := Option.some.inj h
        exact a_iret iX7_refusalOfHours_44 rfl ⟨Nat.le_refl 0, Nat.le_refl 0⟩ ⟨rfl, rfl, rfl, rfl⟩
    · have h := ot hc4 h
      refine a_const iX7_refusalOfHours_23 <| ?_
      obtain rfl := Option.some.inj h
      exact a_iret iX7_refusalOfHours_25 rfl ⟨Nat.le_refl 0, Nat.le_refl 0⟩ ⟨rfl, rfl, rfl, rfl⟩
  · have h := ot hc3 h
    refine a_const iX7_refusalOfHours_10 <| ?_
    obtain rfl := Option.some.inj h
    exact a_iret iX7_refusalOfHours_12 rfl ⟨Nat.le_refl 0, Nat.le_refl 0⟩ ⟨rfl, rfl, rfl, rfl⟩
def lp_X7_hour_15 (ld : Nat) (v1 : Int32) (v2 : Int32) (K : Int32 → Mi → Option (Int32 × Mi)) : Nat → Int32 → Mi → Option (Int32 × Mi)
  | 0, _, _ => none
  | n + 1, v3, mi => if v1 ≤ v3 then (K v3 mi) else ((f_X4_remember mi 11).bind (fun mi5 => (f_X2_passHour mi5 11 ld).bind (fun mi7 => lp_X7_hour_15 ld v1 v2 K n (v3 + 1) mi7)))
def f_X7_hour (mi : Mi) (ld : Nat) (x1 : Int32) : Option (Int32 × Mi) := (f_X7_refusalOfHours mi ld x1).bind (fun r1 => if r1 = (-1) then (lp_X7_hour_15 ld x1 r1 (fun v3_9 mi9 => some (mi9 11 0, mi9)) FU 0 mi) else (some (r1, mi)))
set_option maxRecDepth 20000 in
set_option maxHeartbeats 4000000 in
theorem w_X7_hour_15 {g : Gm} {V : Vw} {E : Ex} {ld dr : Nat} {ml : Ml} {v1 v2 : Int32} (hV : LayT V ld dr) {K : Int32 → Mi → Option (Int32 × Mi)} {r : Int32 × Mi} (hK : ∀ (v3 : Int32) (mi : Mi), K v3 mi = some r → At g YX7_hour E (qm g YX7_hour (pI V (r.1) (r.2) ml)) V (0, 0) 48 [some (rf g 0), some (.int v1), some (.int v2), some (.int v3)] [] mi ml) : ∀ (n : Nat) (v3 : Int32) (mi : Mi), lp_X7_hour_15 ld v1 v2 K n v3 mi = some r → At g YX7_hour E (qm g YX7_hour (pI V (r.1) (r.2) ml)) V (0, 0) 15 [some (rf g 0), some (.int v1), some (.int v2), some (.int v3)] [] mi ml := by
  intro n
  induction n with
  | zero => intro v3 mi h; exact oz h
  | succ n ih =>
    intro v3 mi h
    unfold lp_X7_hour_15 at h
    refine a_iload iX7_hour_15 rfl <| a_iload iX7_hour_16 rfl <| ?_
    refine a_icmp_ge iX7_hour_17 (fun hc4 => ?_) (fun hc4 => ?_)
    · have h := ot hc4 h
      exact a_sub (L' := [some (rf g 0), some (.int v1), some (.int v2), some (.int v3)]) (by exact ⟨rfl, ⟨rfl, ⟨rfl, ⟨rfl, trivial⟩⟩⟩⟩) (hK _ _ h)
    · have h := oe hc4 h
      refine a_aload iX7_hour_20 rfl <| a_getr iX7_hour_21 (lt_s0 hV) rfl (lt_r0_3 hV) <| a_aload iX7_hour_24 rfl <| a_getr iX7_hour_25 (lt_s0 hV) rfl (lt_r0_2 hV) <| ?_
      obtain ⟨mi5, he6, h⟩ := ob h
      refine a_cVv iX7_hour_28 okX4_remember inX4_remember ⟨rfl, rfl⟩ (lt_s17 hV) (c_X4_remember hV (lt_e11 hV) he6) rfl rfl (Nat.le_of_ble_eq_true rfl) ⟨Nat.le_refl 0, Nat.le_refl 0⟩ <| a_aload iX7_hour_31 rfl <| a_getr iX7_hour_32 (lt_s0 hV) rfl (lt_r0_2 hV) <| a_aload iX7_hour_35 rfl <| a_getr iX7_hour_36 (lt_s0 hV) rfl (lt_r0_9 hV) <| ?_
      obtain ⟨mi7, he8, h⟩ := ob h
      refine a_cVv iX7_hour_39 okX2_passHour inX2_passHour ⟨rfl, rfl⟩ (lt_e11 hV).1 (c_X2_passHour (lt_e11 hV) (lt_ld hV) he8) rfl rfl (Nat.le_of_ble_eq_true rfl) ⟨Nat.le_refl 0, Nat.le_refl 0⟩ <| a_iinc iX7_hour_42 rfl (by decide) rfl <| a_goto iX7_hour_45 <| ?_
      exact a_sub (L' := [some (rf g 0), some (.int v1), some (.int v2), some (.int (v3 + 1))]) (by exact ⟨rfl, ⟨rfl, ⟨rfl, ⟨rfl, trivial⟩⟩⟩⟩) (ih _ _ h)
set_option maxRecDepth 20000 in
set_option maxHeartbeats 4000000 in
theorem c_X7_hour {g : Gm} {V : Vw} {mi : Mi} {ml : Ml} {ld dr : Nat} {x1 : Int32} (hV : LayT V ld dr) {r : Int32 × Mi} (h : f_X7_hour mi ld x1 = some r) : DoI g YX7_hour V [rf g 0, .int x1] mi ml (r.1) (r.2) ml := by
  unfold f_X7_hour at h
  refine does_of (L := [some (rf g 0), some (.int x1), none, none]) okX7_hour rfl (Nat.le_of_ble_eq_true rfl) rfl ?_
  show At g YX7_hour _ (qm g YX7_hour (pI V (r.1) (r.2) ml)) V (0, 0) 0 _ [] mi ml
  refine a_aload iX7_hour_0 rfl <| a_iload iX7_hour_1 rfl <| ?_
  obtain ⟨r1, he2, h⟩ := ob h
  refine a_cVi iX7_hour_2 okX7_refusalOfHours inX7_refusalOfHours ⟨rfl, rfl⟩ (lt_s0 hV) (c_X7_refusalOfHours hV he2) rfl rfl (Nat.le_of_ble_eq_true rfl) ⟨Nat.le_refl 0, Nat.le_refl 0⟩ <| a_istore iX7_hour_5 (by decide) rfl <| a_iload iX7_hour_6 rfl <| a_const iX7_hour_7 <| ?_
  refine a_icmp_eq iX7_hour_8 (fun hc3 => ?_) (fun hc3 => ?_)
  · have h := ot hc3 h
    refine a_const iX7_hour_13 <| a_istore iX7_hour_14 (by decide) rfl <| ?_
    refine a_sub (L' := [some (rf g 0), some (.int x1), some (.int r1), some (.int 0)]) (by exact ⟨rfl, ⟨rfl, ⟨rfl, ⟨rfl, trivial⟩⟩⟩⟩) (w_X7_hour_15 hV (fun v3_9 mi9 h => ?_) FU _ _ h)
    refine a_aload iX7_hour_48 rfl <| a_getr iX7_hour_49 (lt_s0 hV) rfl (lt_r0_2 hV) <| a_geti iX7_hour_52 (lt_e11 hV).1 rfl <| ?_
    obtain rfl := Option.some.inj h
    exact a_iret iX7_hour_55 rfl ⟨Nat.le_refl 0, Nat.le_refl 0⟩ ⟨rfl, rfl, rfl, rfl⟩
  · have h := oe hc3 h
    refine a_iload iX7_hour_11 rfl <| ?_
    obtain rfl := Option.some.inj h
    exact a_iret iX7_hour_12 rfl ⟨Nat.le_refl 0, Nat.le_refl 0⟩ ⟨rfl, rfl, rfl, rfl⟩
def f_X7_put (mi : Mi) (ld : Nat) (x1 x2 : Int32) : Option (Int32 × Mi) := (f_X7_isThing mi ld x1).bind (fun r1 => if r1 = 0 then (some ((-1000000001), mi)) else ((f_X7_isValue x2).bind (fun r4 => if r4 = 0 then (some ((-1000000002), mi)) else ((f_X4_remember mi 11).bind (fun mi7 => (f_X2_setThing mi7 11 ld x1 x2).bind (fun mi9 => (f_X2_holderIn mi9 11 ld 0).bind (fun r11 => some (r11, mi9))))))))
set_option maxRecDepth 20000 in
set_option maxHeartbeats 4000000 in
theorem c_X7_put {g : Gm} {V : Vw} {mi : Mi} {ml : Ml} {ld dr : Nat} {x1 x2 : Int32} (hV : LayT V ld dr) {r : Int32 × Mi} (h : f_X7_put mi ld x1 x2 = some r) : DoI g YX7_put V [rf g 0, .int x1, .int x2] mi ml (r.1) (r.2) ml := by
  unfold f_X7_put at h
  refine does_of (L := [some (rf g 0), some (.int x1), some (.int x2)]) okX7_put rfl (Nat.le_of_ble_eq_true rfl) rfl ?_
  show At g YX7_put _ (qm g YX7_put (pI V (r.1) (r.2) ml)) V (0, 0) 0 _ [] mi ml
  refine a_aload iX7_put_0 rfl <| a_iload iX7_put_1 rfl <| ?_
  obtain ⟨r1, he2, h⟩ := ob h
  refine a_cVi iX7_put_2 okX7_isThing inX7_isThing ⟨rfl, rfl⟩ (lt_s0 hV) (c_X7_isThing hV he2) rfl rfl (Nat.le_of_ble_eq_true rfl) ⟨Nat.le_refl 0, Nat.le_refl 0⟩ <| ?_
  refine a_if_ne iX7_put_5 (fun hc3 => ?_) (fun hc3 => ?_)
  · have h := oe hc3 h
    refine a_iload iX7_put_11 rfl <| ?_
    obtain ⟨r4, he5, h⟩ := ob h
    refine a_cSi iX7_put_12 okX7_isValue stX7_isValue ⟨rfl, rfl⟩ (c_X7_isValue he5) rfl rfl (Nat.le_of_ble_eq_true rfl) ⟨Nat.le_refl 0, Nat.le_refl 0⟩ <| ?_
    refine a_if_ne iX7_put_15 (fun hc6 => ?_) (fun hc6 => ?_)
    · have h := oe hc6 h
      refine a_aload iX7_put_21 rfl <| a_getr iX7_put_22 (lt_s0 hV) rfl (lt_r0_3 hV) <| a_aload iX7_put_25 rfl <| a_getr iX7_put_26 (lt_s0 hV) rfl (lt_r0_2 hV) <| ?_
      obtain ⟨mi7, he8, h⟩ := ob h
      refine a_cVv iX7_put_29 okX4_remember inX4_remember ⟨rfl, rfl⟩ (lt_s17 hV) (c_X4_remember hV (lt_e11 hV) he8) rfl rfl (Nat.le_of_ble_eq_true rfl) ⟨Nat.le_refl 0, Nat.le_refl 0⟩ <| a_aload iX7_put_32 rfl <| a_getr iX7_put_33 (lt_s0 hV) rfl (lt_r0_2 hV) <| a_aload iX7_put_36 rfl <| a_getr iX7_put_37 (lt_s0 hV) rfl (lt_r0_9 hV) <| a_iload iX7_put_40 rfl <| a_iload iX7_put_41 rfl <| ?_
      obtain ⟨mi9, he10, h⟩ := ob h
      refine a_cVv iX7_put_42 okX2_setThing inX2_setThing ⟨rfl, rfl⟩ (lt_e11 hV).1 (c_X2_setThing (lt_e11 hV) (lt_ld hV) (lt_fl hV) he10) rfl rfl (Nat.le_of_ble_eq_true rfl) ⟨Nat.le_refl 0, Nat.le_refl 0⟩ <| a_aload iX7_put_45 rfl <| a_getr iX7_put_46 (lt_s0 hV) rfl (lt_r0_2 hV) <| a_aload iX7_put_49 rfl <| a_getr iX7_put_50 (lt_s0 hV) rfl (lt_r0_9 hV) <| a_const iX7_put_53 <| ?_
      obtain ⟨r11, he12, h⟩ := ob h
      refine a_cVi iX7_put_54 okX2_holderIn inX2_holderIn ⟨rfl, rfl⟩ (lt_e11 hV).1 (c_X2_holderIn (lt_e11 hV) (lt_ld hV) he12) rfl rfl (Nat.le_of_ble_eq_true rfl) ⟨Nat.le_refl 0, Nat.le_refl 0⟩ <| ?_
      obtain rfl := Option.some.inj h
      exact a_iret iX7_put_57 rfl ⟨Nat.le_refl 0, Nat.le_refl 0⟩ ⟨rfl, rfl, rfl, rfl⟩
    · have h := ot hc6 h
      refine a_const iX7_put_18 <| ?_
      obtain rfl := Option.some.inj h
      exact a_iret iX7_put_20 rfl ⟨Nat.le_refl 0, Nat.le_refl 0⟩ ⟨rfl, rfl, rfl, rfl⟩
  · have h := ot hc3 h
    refine a_const iX7_put_8 <| ?_
    obtain rfl := Option.some.inj h
    exact a_iret iX7_put_10 rfl ⟨Nat.le_refl 0, Nat.le_refl 0⟩ ⟨rfl, rfl, rfl, rfl⟩
def f_X7_note (mi : Mi) (ld : Nat) (x1 x2 : Int32) : Option (Int32 × Mi) := (f_X7_isHeir x1).bind (fun r1 => if r1 = 0 then (some ((-1000000001), mi)) else ((f_X7_isThing mi ld x2).bind (fun r4 => if r4 = 0 then (some ((-1000000001), mi)) else ((f_X2_holderIn mi 11 ld 0).bind (fun r7 => if r7 = x1 then (some ((-1000000003), mi)) else ((f_X4_remember mi 11).bind (fun mi10 => if inb x2 8 then if inb ((x1 * 8) + x2) 24 then if inb x2 8 then some ((u2 mi10 (11 + 4) ((x1 * 8) + x2).toNatClampNeg (mi10 (11 + 3) x2.toNatClampNeg)) (11 + 3) x2.toNatClampNeg, u2 mi10 (11 + 4) ((x1 * 8) + x2).toNatClampNeg (mi10 (11 + 3) x2.toNatClampNeg)) else none else none else none)))))))
set_option maxRecDepth 20000 in
set_option maxHeartbeats 4000000 in
theorem c_X7_note {g : Gm} {V : Vw} {mi : Mi} {ml : Ml} {ld dr : Nat} {x1 x2 : Int32} (hV : LayT V ld dr) {r : Int32 × Mi} (h : f_X7_note mi ld x1 x2 = some r) : DoI g YX7_note V [rf g 0, .int x1, .int x2] mi ml (r.1) (r.2) ml := by
  unfold f_X7_note at h
  refine does_of (L := [some (rf g 0), some (.int x1), some (.int x2)]) okX7_note rfl (Nat.le_of_ble_eq_true rfl) rfl ?_
  show At g YX7_note _ (qm g YX7_note (pI V (r.1) (r.2) ml)) V (0, 0) 0 _ [] mi ml
  refine a_iload iX7_note_0 rfl <| ?_
  obtain ⟨r1, he2, h⟩ := ob h
  refine a_cSi iX7_note_1 okX7_isHeir stX7_isHeir ⟨rfl, rfl⟩ (c_X7_isHeir he2) rfl rfl (Nat.le_of_ble_eq_true rfl) ⟨Nat.le_refl 0, Nat.le_refl 0⟩ <| ?_
  refine a_if_eq iX7_note_4 (fun hc3 => ?_) (fun hc3 => ?_)
  · have h := ot hc3 h
    refine a_const iX7_note_15 <| ?_
    obtain rfl := Option.some.inj h
    exact a_iret iX7_note_17 rfl ⟨Nat.le_refl 0, Nat.le_refl 0⟩ ⟨rfl, rfl, rfl, rfl⟩
  · have h := oe hc3 h
    refine a_aload iX7_note_7 rfl <| a_iload iX7_note_8 rfl <| ?_
    obtain ⟨r4, he5, h⟩ := ob h
    refine a_cVi iX7_note_9 okX7_isThing inX7_isThing ⟨rfl, rfl⟩ (lt_s0 hV) (c_X7_isThing hV he5) rfl rfl (Nat.le_of_ble_eq_true rfl) ⟨Nat.le_refl 0, Nat.le_refl 0⟩ <| ?_
    refine a_if_ne iX7_note_12 (fun hc6 => ?_) (fun hc6 => ?_)
    · have h := oe hc6 h
      refine a_aload iX7_note_18 rfl <| a_getr iX7_note_19 (lt_s0 hV) rfl (lt_r0_2 hV) <| a_aload iX7_note_22 rfl <| a_getr iX7_note_23 (lt_s0 hV) rfl (lt_r0_9 hV) <| a_const iX7_note_26 <| ?_
      obtain ⟨r7, he8, h⟩ := ob h
      refine a_cVi iX7_note_27 okX2_holderIn inX2_holderIn ⟨rfl, rfl⟩ (lt_e11 hV).1 (c_X2_holderIn (lt_e11 hV) (lt_ld hV) he8) rfl rfl (Nat.le_of_ble_eq_true rfl) ⟨Nat.le_refl 0, Nat.le_refl 0⟩ <| a_iload iX7_note_30 rfl <| ?_
      refine a_icmp_ne iX7_note_31 (fun hc9 => ?_) (fun hc9 => ?_)
      · have h := oe hc9 h
        refine a_aload iX7_note_37 rfl <| a_getr iX7_note_38 (lt_s0 hV) rfl (lt_r0_3 hV) <| a_aload iX7_note_41 rfl <| a_getr iX7_note_42 (lt_s0 hV) rfl (lt_r0_2 hV) <| ?_
        obtain ⟨mi10, he11, h⟩ := ob h
        refine a_cVv iX7_note_45 okX4_remember inX4_remember ⟨rfl, rfl⟩ (lt_s17 hV) (c_X4_remember hV (lt_e11 hV) he11) rfl rfl (Nat.le_of_ble_eq_true rfl) ⟨Nat.le_refl 0, Nat.le_refl 0⟩ <| a_aload iX7_note_48 rfl <| a_getr iX7_note_49 (lt_s0 hV) rfl (lt_r0_2 hV) <| a_getr iX7_note_52 (lt_e11 hV).1 rfl (lt_e11 hV).2.2.2.2.2.2.2.2.2.1 <| a_iload iX7_note_55 rfl <| a_const iX7_note_56 <| a_imul iX7_note_58 <| a_iload iX7_note_59 rfl <| ?_
        refine a_iadd iX7_note_60 <| a_aload iX7_note_61 rfl <| a_getr iX7_note_62 (lt_s0 hV) rfl (lt_r0_2 hV) <| a_getr iX7_note_65 (lt_e11 hV).1 rfl (lt_e11 hV).2.2.2.2.2.2.2.2.1 <| a_iload iX7_note_68 rfl <| ?_
        obtain ⟨hg12, h⟩ := og h
        refine a_iald iX7_note_69 (lt_e11 hV).2.2.2.1 (inb_vp hg12) <| ?_
        obtain ⟨hg13, h⟩ := og h
        refine a_iast iX7_note_70 (lt_e11 hV).2.2.2.2.1 (inb_vp hg13) <| a_aload iX7_note_71 rfl <| a_getr iX7_note_72 (lt_s0 hV) rfl (lt_r0_2 hV) <| a_getr iX7_note_75 (lt_e11 hV).1 rfl (lt_e11 hV).2.2.2.2.2.2.2.2.1 <| a_iload iX7_note_78 rfl <| ?_
        obtain ⟨hg14, h⟩ := og h
        refine a_iald iX7_note_79 (lt_e11 hV).2.2.2.1 (inb_vp hg14) <| ?_
        obtain rfl := Option.some.inj h
        exact a_iret iX7_note_80 rfl ⟨Nat.le_refl 0, Nat.le_refl 0⟩ ⟨rfl, rfl, rfl, rfl⟩
      · have h := ot hc9 h
        refine a_const iX7_note_34 <| ?_
        obtain rfl := Option.some.inj h
        exact a_iret iX7_note_36 rfl ⟨Nat.le_refl 0, Nat.le_refl 0⟩ ⟨rfl, rfl, rfl, rfl⟩
    · have h := ot hc6 h
      refine a_const iX7_note_15 <| ?_
      obtain rfl := Option.some.inj h
      exact a_iret iX7_note_17 rfl ⟨Nat.le_refl 0, Nat.le_refl 0⟩ ⟨rfl, rfl, rfl, rfl⟩
def f_X7_eclipse (mi : Mi) (ld : Nat) (x1 : Int32) : Option (Int32 × Mi) := (f_X7_isWithin x1 0 24).bind (fun r1 => if r1 = 0 then (some ((-1000000002), mi)) else (if (mi ld 0) = 0 then (some ((-1000000003), mi)) else ((f_X4_remember mi 11).bind (fun mi5 => some (mi5 11 1, u2 mi5 11 1 x1)))))
set_option maxRecDepth 20000 in
set_option maxHeartbeats 4000000 in
theorem c_X7_eclipse {g : Gm} {V : Vw} {mi : Mi} {ml : Ml} {ld dr : Nat} {x1 : Int32} (hV : LayT V ld dr) {r : Int32 × Mi} (h : f_X7_eclipse mi ld x1 = some r) : DoI g YX7_eclipse V [rf g 0, .int x1] mi ml (r.1) (r.2) ml := by
  unfold f_X7_eclipse at h
  refine does_of (L := [some (rf g 0), some (.int x1), none]) okX7_eclipse rfl (Nat.le_of_ble_eq_true rfl) rfl ?_
  show At g YX7_eclipse _ (qm g YX7_eclipse (pI V (r.1) (r.2) ml)) V (0, 0) 0 _ [] mi ml
  refine a_iload iX7_eclipse_0 rfl <| a_const iX7_eclipse_1 <| a_const iX7_eclipse_2 <| ?_
  obtain ⟨r1, he2, h⟩ := ob h
  refine a_cSi iX7_eclipse_4 okX7_isWithin stX7_isWithin ⟨rfl, rfl⟩ (c_X7_isWithin he2) rfl rfl (Nat.le_of_ble_eq_true rfl) ⟨Nat.le_refl 0, Nat.le_refl 0⟩ <| ?_
  refine a_if_ne iX7_eclipse_7 (fun hc3 => ?_) (fun hc3 => ?_)
  · have h := oe hc3 h
    refine a_aload iX7_eclipse_13 rfl <| a_getr iX7_eclipse_14 (lt_s0 hV) rfl (lt_r0_9 hV) <| a_geti iX7_eclipse_17 (lt_ld hV).1 rfl <| ?_
    refine a_if_ne iX7_eclipse_20 (fun hc4 => ?_) (fun hc4 => ?_)
    · have h := oe hc4 h
      refine a_aload iX7_eclipse_26 rfl <| a_getr iX7_eclipse_27 (lt_s0 hV) rfl (lt_r0_3 hV) <| a_aload iX7_eclipse_30 rfl <| a_getr iX7_eclipse_31 (lt_s0 hV) rfl (lt_r0_2 hV) <| ?_
      obtain ⟨mi5, he6, h⟩ := ob h
      refine a_cVv iX7_eclipse_34 okX4_remember inX4_remember ⟨rfl, rfl⟩ (lt_s17 hV) (c_X4_remember hV (lt_e11 hV) he6) rfl rfl (Nat.le_of_ble_eq_true rfl) ⟨Nat.le_refl 0, Nat.le_refl 0⟩ <| a_aload iX7_eclipse_37 rfl <| a_getr iX7_eclipse_38 (lt_s0 hV) rfl (lt_r0_2 hV) <| a_geti iX7_eclipse_41 (lt_e11 hV).1 rfl <| a_istore iX7_eclipse_44 (by decide) rfl <| a_aload iX7_eclipse_45 rfl <| a_getr iX7_eclipse_46 (lt_s0 hV) rfl (lt_r0_2 hV) <| a_iload iX7_eclipse_49 rfl <| ?_
      refine a_puti iX7_eclipse_50 (lt_e11 hV).1 rfl rfl rfl <| a_iload iX7_eclipse_53 rfl <| ?_
      obtain rfl := Option.some.inj h
      exact a_iret iX7_eclipse_54 rfl ⟨Nat.le_refl 0, Nat.le_refl 0⟩ ⟨rfl, rfl, rfl, rfl⟩
    · have h := ot hc4 h
      refine a_const iX7_eclipse_23 <| ?_
      obtain rfl := Option.some.inj h
      exact a_iret iX7_eclipse_25 rfl ⟨Nat.le_refl 0, Nat.le_refl 0⟩ ⟨rfl, rfl, rfl, rfl⟩
  · have h := ot hc3 h
    refine a_const iX7_eclipse_10 <| ?_
    obtain rfl := Option.some.inj h
    exact a_iret iX7_eclipse_12 rfl ⟨Nat.le_refl 0, Nat.le_refl 0⟩ ⟨rfl, rfl, rfl, rfl⟩
def f_X7_draw (mi : Mi) (x1 : Int32) : Option (Int32 × Mi) := if x1 ≤ 0 then (some (0, u2 mi 0 11 ((((((mi 0 11).toInt64) * (1103515245)) + (12345)) &&& (2147483647)).toInt32))) else (if ¬ x1 = 0 then some ((((u2 mi 0 11 ((((((mi 0 11).toInt64) * (1103515245)) + (12345)) &&& (2147483647)).toInt32)) 0 11) / (65536)) - (((u2 mi 0 11 ((((((mi 0 11).toInt64) * (1103515245)) + (12345)) &&& (2147483647)).toInt32)) 0 11) / (65536)) / x1 * x1, u2 mi 0 11 ((((((mi 0 11).toInt64) * (1103515245)) + (12345)) &&& (2147483647)).toInt32)) else none)
set_option maxRecDepth 20000 in
set_option maxHeartbeats 4000000 in
theorem c_X7_draw {g : Gm} {V : Vw} {mi : Mi} {ml : Ml} {ld dr : Nat} {x1 : Int32} (hV : LayT V ld dr) {r : Int32 × Mi} (h : f_X7_draw mi x1 = some r) : DoI g YX7_draw V [rf g 0, .int x1] mi ml (r.1) (r.2) ml := by
  unfold f_X7_draw at h
  refine does_of (L := [some (rf g 0), some (.int x1), none, none]) okX7_draw rfl (Nat.le_of_ble_eq_true rfl) rfl ?_
  show At g YX7_draw _ (qm g YX7_draw (pI V (r.1) (r.2) ml)) V (0, 0) 0 _ [] mi ml
  refine a_aload iX7_draw_0 rfl <| a_geti iX7_draw_1 (lt_s0 hV) rfl <| a_i2l iX7_draw_4 <| a_lconst iX7_draw_5 <| a_lmul iX7_draw_8 <| a_lconst iX7_draw_9 <| a_ladd iX7_draw_12 <| a_lstore iX7_draw_13 (by decide) rfl <| ?_
  refine a_aload iX7_draw_14 rfl <| a_lload iX7_draw_15 rfl <| a_lconst iX7_draw_16 <| a_land iX7_draw_19 <| a_l2i iX7_draw_20 <| a_puti iX7_draw_21 (lt_s0 hV) rfl rfl rfl <| a_iload iX7_draw_24 rfl <| ?_
  refine a_if_le iX7_draw_25 (fun hc1 => ?_) (fun hc1 => ?_)
  · have h := ot hc1 h
    refine a_const iX7_draw_40 <| ?_
    obtain rfl := Option.some.inj h
    exact a_iret iX7_draw_41 rfl ⟨Nat.le_refl 0, Nat.le_refl 0⟩ ⟨rfl, rfl, rfl, rfl⟩
  · have h := oe hc1 h
    refine a_aload iX7_draw_28 rfl <| a_geti iX7_draw_29 (lt_s0 hV) rfl <| a_const iX7_draw_32 <| a_idiv iX7_draw_34 (by decide) <| a_iload iX7_draw_35 rfl <| ?_
    obtain ⟨hg2, h⟩ := og h
    refine a_irem iX7_draw_36 hg2 <| a_goto iX7_draw_37 <| ?_
    obtain rfl := Option.some.inj h
    exact a_iret iX7_draw_41 rfl ⟨Nat.le_refl 0, Nat.le_refl 0⟩ ⟨rfl, rfl, rfl, rfl⟩
def f_X7_meetChance (mi : Mi) (ld : Nat) : Option (Mi) := (f_X7_draw mi 8).bind (fun q4 => if q4.1 = 0 then (if (q4.2 ld 5) ≤ 0 then (if q4.1 = 1 then ((f_X7_draw q4.2 4).bind (fun q16 => some (u2 q16.2 11 1 q16.1))) else (some q4.2)) else ((f_X7_draw q4.2 (q4.2 ld 5)).bind (fun q20 => (f_X7_draw q20.2 10).bind (fun q24 => (f_X2_setThing q24.2 11 ld q20.1 q24.1).bind (fun mi25 => some mi25))))) else (if q4.1 = 1 then ((f_X7_draw q4.2 4).bind (fun q10 => some (u2 q10.2 11 1 q10.1))) else (some q4.2)))
set_option maxRecDepth 20000 in
set_option maxHeartbeats 4000000 in
theorem c_X7_meetChance {g : Gm} {V : Vw} {mi : Mi} {ml : Ml} {ld dr : Nat} (hV : LayT V ld dr) {r : Mi} (h : f_X7_meetChance mi ld = some r) : DoV g YX7_meetChance V [rf g 0] mi ml r ml := by
  unfold f_X7_meetChance at h
  refine does_of (L := [some (rf g 0), none, none, none]) okX7_meetChance rfl (Nat.le_of_ble_eq_true rfl) rfl ?_
  show At g YX7_meetChance _ (qm g YX7_meetChance (pV V r ml)) V (0, 0) 0 _ [] mi ml
  refine a_aload iX7_meetChance_0 rfl <| a_const iX7_meetChance_1 <| ?_
  obtain ⟨⟨r1, mi2⟩, he3, h⟩ := ob h
  refine a_cVi iX7_meetChance_3 okX7_draw inX7_draw ⟨rfl, rfl⟩ (lt_s0 hV) (c_X7_draw hV he3) rfl rfl (Nat.le_of_ble_eq_true rfl) ⟨Nat.le_refl 0, Nat.le_refl 0⟩ <| a_istore iX7_meetChance_6 (by decide) rfl <| a_iload iX7_meetChance_7 rfl <| ?_
  refine a_if_ne iX7_meetChance_8 (fun hc5 => ?_) (fun hc5 => ?_)
  · have h := oe hc5 h
    refine a_iload iX7_meetChance_56 rfl <| a_const iX7_meetChance_57 <| ?_
    refine a_icmp_ne iX7_meetChance_58 (fun hc6 => ?_) (fun hc6 => ?_)
    · have h := oe hc6 h
      obtain rfl := Option.some.inj h
      exact a_vret iX7_meetChance_73 rfl ⟨Nat.le_refl 0, Nat.le_refl 0⟩ ⟨rfl, rfl, rfl, rfl⟩
    · have h := ot hc6 h
      refine a_aload iX7_meetChance_61 rfl <| a_getr iX7_meetChance_62 (lt_s0 hV) rfl (lt_r0_2 hV) <| a_aload iX7_meetChance_65 rfl <| a_const iX7_meetChance_66 <| ?_
      obtain ⟨⟨r7, mi8⟩, he9, h⟩ := ob h
      refine a_cVi iX7_meetChance_67 okX7_draw inX7_draw ⟨rfl, rfl⟩ (lt_s0 hV) (c_X7_draw hV he9) rfl rfl (Nat.le_of_ble_eq_true rfl) ⟨Nat.le_refl 0, Nat.le_refl 0⟩ <| a_puti iX7_meetChance_70 (lt_e11 hV).1 rfl rfl rfl <| ?_
      obtain rfl := Option.some.inj h
      exact a_vret iX7_meetChance_73 rfl ⟨Nat.le_refl 0, Nat.le_refl 0⟩ ⟨rfl, rfl, rfl, rfl⟩
  · have h := ot hc5 h
    refine a_aload iX7_meetChance_11 rfl <| a_getr iX7_meetChance_12 (lt_s0 hV) rfl (lt_r0_9 hV) <| a_geti iX7_meetChance_15 (lt_ld hV).1 rfl <| ?_
    refine a_if_le iX7_meetChance_18 (fun hc11 => ?_) (fun hc11 => ?_)
    · have h := ot hc11 h
      refine a_iload iX7_meetChance_56 rfl <| a_const iX7_meetChance_57 <| ?_
      refine a_icmp_ne iX7_meetChance_58 (fun hc12 => ?_) (fun hc12 => ?_)
      · have h := oe hc12 h
        obtain rfl := Option.some.inj h
        exact a_vret iX7_meetChance_73 rfl ⟨Nat.le_refl 0, Nat.le_refl 0⟩ ⟨rfl, rfl, rfl, rfl⟩
      · have h := ot hc12 h
        refine a_aload iX7_meetChance_61 rfl <| a_getr iX7_meetChance_62 (lt_s0 hV) rfl (lt_r0_2 hV) <| a_aload iX7_meetChance_65 rfl <| a_const iX7_meetChance_66 <| ?_
        obtain ⟨⟨r13, mi14⟩, he15, h⟩ := ob h
        refine a_cVi iX7_meetChance_67 okX7_draw inX7_draw ⟨rfl, rfl⟩ (lt_s0 hV) (c_X7_draw hV he15) rfl rfl (Nat.le_of_ble_eq_true rfl) ⟨Nat.le_refl 0, Nat.le_refl 0⟩ <| a_puti iX7_meetChance_70 (lt_e11 hV).1 rfl rfl rfl <| ?_
        obtain rfl := Option.some.inj h
        exact a_vret iX7_meetChance_73 rfl ⟨Nat.le_refl 0, Nat.le_refl 0⟩ ⟨rfl, rfl, rfl, rfl⟩
    · have h := oe hc11 h
      refine a_aload iX7_meetChance_21 rfl <| a_aload iX7_meetChance_22 rfl <| a_getr iX7_meetChance_23 (lt_s0 hV) rfl (lt_r0_9 hV) <| a_geti iX7_meetChance_26 (lt_ld hV).1 rfl <| ?_
      obtain ⟨⟨r17, mi18⟩, he19, h⟩ := ob h
      refine a_cVi iX7_meetChance_29 okX7_draw inX7_draw ⟨rfl, rfl⟩ (lt_s0 hV) (c_X7_draw hV he19) rfl rfl (Nat.le_of_ble_eq_true rfl) ⟨Nat.le_refl 0, Nat.le_refl 0⟩ <| a_istore iX7_meetChance_32 (by decide) rfl <| a_aload iX7_meetChance_33 rfl <| a_const iX7_meetChance_34 <| ?_
      obtain ⟨⟨r21, mi22⟩, he23, h⟩ := ob h
      refine a_cVi iX7_meetChance_36 okX7_draw inX7_draw ⟨rfl, rfl⟩ (lt_s0 hV) (c_X7_draw hV he23) rfl rfl (Nat.le_of_ble_eq_true rfl) ⟨Nat.le_refl 0, Nat.le_refl 0⟩ <| a_istore iX7_meetChance_39 (by decide) rfl <| a_aload iX7_meetChance_40 rfl <| a_getr iX7_meetChance_41 (lt_s0 hV) rfl (lt_r0_2 hV) <| a_aload iX7_meetChance_44 rfl <| a_getr iX7_meetChance_45 (lt_s0 hV) rfl (lt_r0_9 hV) <| a_iload iX7_meetChance_48 rfl <| a_iload iX7_meetChance_49 rfl <| ?_
      obtain ⟨mi25, he26, h⟩ := ob h
      refine a_cVv iX7_meetChance_50 okX2_setThing inX2_setThing ⟨rfl, rfl⟩ (lt_e11 hV).1 (c_X2_setThing (lt_e11 hV) (lt_ld hV) (lt_fl hV) he26) rfl rfl (Nat.le_of_ble_eq_true rfl) ⟨Nat.le_refl 0, Nat.le_refl 0⟩ <| a_goto iX7_meetChance_53 <| ?_
      obtain rfl := Option.some.inj h
      exact a_vret iX7_meetChance_73 rfl ⟨Nat.le_refl 0, Nat.le_refl 0⟩ ⟨rfl, rfl, rfl, rfl⟩
def lp_X7_drift_15 (ld : Nat) (v1 : Int32) (v2 : Int32) (K : Int32 → Mi → Option (Int32 × Mi)) : Nat → Int32 → Mi → Option (Int32 × Mi)
  | 0, _, _ => none
  | n + 1, v3, mi => if v1 ≤ v3 then (K v3 mi) else ((f_X4_remember mi 11).bind (fun mi5 => (f_X7_meetChance mi5 ld).bind (fun mi7 => (f_X2_passHour mi7 11 ld).bind (fun mi9 => lp_X7_drift_15 ld v1 v2 K n (v3 + 1) mi9))))
def f_X7_drift (mi : Mi) (ld : Nat) (x1 : Int32) : Option (Int32 × Mi) := (f_X7_refusalOfHours mi ld x1).bind (fun r1 => if r1 = (-1) then (lp_X7_drift_15 ld x1 r1 (fun v3_11 mi11 => some (mi11 11 0, mi11)) FU 0 mi) else (some (r1, mi)))
set_option maxRecDepth 20000 in
set_option maxHeartbeats 4000000 in
theorem w_X7_drift_15 {g : Gm} {V : Vw} {E : Ex} {ld dr : Nat} {ml : Ml} {v1 v2 : Int32} (hV : LayT V ld dr) {K : Int32 → Mi → Option (Int32 × Mi)} {r : Int32 × Mi} (hK : ∀ (v3 : Int32) (mi : Mi), K v3 mi = some r → At g YX7_drift E (qm g YX7_drift (pI V (r.1) (r.2) ml)) V (0, 0) 52 [some (rf g 0), some (.int v1), some (.int v2), some (.int v3)] [] mi ml) : ∀ (n : Nat) (v3 : Int32) (mi : Mi), lp_X7_drift_15 ld v1 v2 K n v3 mi = some r → At g YX7_drift E (qm g YX7_drift (pI V (r.1) (r.2) ml)) V (0, 0) 15 [some (rf g 0), some (.int v1), some (.int v2), some (.int v3)] [] mi ml := by
  intro n
  induction n with
  | zero => intro v3 mi h; exact oz h
  | succ n ih =>
    intro v3 mi h
    unfold lp_X7_drift_15 at h
    refine a_iload iX7_drift_15 rfl <| a_iload iX7_drift_16 rfl <| ?_
    refine a_icmp_ge iX7_drift_17 (fun hc4 => ?_) (fun hc4 => ?_)
    · have h := ot hc4 h
      exact a_sub (L' := [some (rf g 0), some (.int v1), some (.int v2), some (.int v3)]) (by exact ⟨rfl, ⟨rfl, ⟨rfl, ⟨rfl, trivial⟩⟩⟩⟩) (hK _ _ h)
    · have h := oe hc4 h
      refine a_aload iX7_drift_20 rfl <| a_getr iX7_drift_21 (lt_s0 hV) rfl (lt_r0_3 hV) <| a_aload iX7_drift_24 rfl <| a_getr iX7_drift_25 (lt_s0 hV) rfl (lt_r0_2 hV) <| ?_
      obtain ⟨mi5, he6, h⟩ := ob h
      refine a_cVv iX7_drift_28 okX4_remember inX4_remember ⟨rfl, rfl⟩ (lt_s17 hV) (c_X4_remember hV (lt_e11 hV) he6) rfl rfl (Nat.le_of_ble_eq_true rfl) ⟨Nat.le_refl 0, Nat.le_refl 0⟩ <| a_aload iX7_drift_31 rfl <| ?_
      obtain ⟨mi7, he8, h⟩ := ob h
      refine a_cVv iX7_drift_32 okX7_meetChance inX7_meetChance ⟨rfl, rfl⟩ (lt_s0 hV) (c_X7_meetChance hV he8) rfl rfl (Nat.le_of_ble_eq_true rfl) ⟨Nat.le_refl 0, Nat.le_refl 0⟩ <| a_aload iX7_drift_35 rfl <| a_getr iX7_drift_36 (lt_s0 hV) rfl (lt_r0_2 hV) <| a_aload iX7_drift_39 rfl <| a_getr iX7_drift_40 (lt_s0 hV) rfl (lt_r0_9 hV) <| ?_
      obtain ⟨mi9, he10, h⟩ := ob h
      refine a_cVv iX7_drift_43 okX2_passHour inX2_passHour ⟨rfl, rfl⟩ (lt_e11 hV).1 (c_X2_passHour (lt_e11 hV) (lt_ld hV) he10) rfl rfl (Nat.le_of_ble_eq_true rfl) ⟨Nat.le_refl 0, Nat.le_refl 0⟩ <| a_iinc iX7_drift_46 rfl (by decide) rfl <| a_goto iX7_drift_49 <| ?_
      exact a_sub (L' := [some (rf g 0), some (.int v1), some (.int v2), some (.int (v3 + 1))]) (by exact ⟨rfl, ⟨rfl, ⟨rfl, ⟨rfl, trivial⟩⟩⟩⟩) (ih _ _ h)
set_option maxRecDepth 20000 in
set_option maxHeartbeats 4000000 in
theorem c_X7_drift {g : Gm} {V : Vw} {mi : Mi} {ml : Ml} {ld dr : Nat} {x1 : Int32} (hV : LayT V ld dr) {r : Int32 × Mi} (h : f_X7_drift mi ld x1 = some r) : DoI g YX7_drift V [rf g 0, .int x1] mi ml (r.1) (r.2) ml := by
  unfold f_X7_drift at h
  refine does_of (L := [some (rf g 0), some (.int x1), none, none]) okX7_drift rfl (Nat.le_of_ble_eq_true rfl) rfl ?_
  show At g YX7_drift _ (qm g YX7_drift (pI V (r.1) (r.2) ml)) V (0, 0) 0 _ [] mi ml
  refine a_aload iX7_drift_0 rfl <| a_iload iX7_drift_1 rfl <| ?_
  obtain ⟨r1, he2, h⟩ := ob h
  refine a_cVi iX7_drift_2 okX7_refusalOfHours inX7_refusalOfHours ⟨rfl, rfl⟩ (lt_s0 hV) (c_X7_refusalOfHours hV he2) rfl rfl (Nat.le_of_ble_eq_true rfl) ⟨Nat.le_refl 0, Nat.le_refl 0⟩ <| a_istore iX7_drift_5 (by decide) rfl <| a_iload iX7_drift_6 rfl <| a_const iX7_drift_7 <| ?_
  refine a_icmp_eq iX7_drift_8 (fun hc3 => ?_) (fun hc3 => ?_)
  · have h := ot hc3 h
    refine a_const iX7_drift_13 <| a_istore iX7_drift_14 (by decide) rfl <| ?_
    refine a_sub (L' := [some (rf g 0), some (.int x1), some (.int r1), some (.int 0)]) (by exact ⟨rfl, ⟨rfl, ⟨rfl, ⟨rfl, trivial⟩⟩⟩⟩) (w_X7_drift_15 hV (fun v3_11 mi11 h => ?_) FU _ _ h)
    refine a_aload iX7_drift_52 rfl <| a_getr iX7_drift_53 (lt_s0 hV) rfl (lt_r0_2 hV) <| a_geti iX7_drift_56 (lt_e11 hV).1 rfl <| ?_
    obtain rfl := Option.some.inj h
    exact a_iret iX7_drift_59 rfl ⟨Nat.le_refl 0, Nat.le_refl 0⟩ ⟨rfl, rfl, rfl, rfl⟩
  · have h := oe hc3 h
    refine a_iload iX7_drift_11 rfl <| ?_
    obtain rfl := Option.some.inj h
    exact a_iret iX7_drift_12 rfl ⟨Nat.le_refl 0, Nat.le_refl 0⟩ ⟨rfl, rfl, rfl, rfl⟩
def f_X7_undo (mi : Mi) (x1 : Int32) : Option (Int32 × Mi) := (f_X7_isWithin x1 1 30).bind (fun r1 => if r1 = 0 then (some ((-1000000002), mi)) else (if x1 ≤ (mi 17 2) then ((f_X4_bringBack mi 11 x1).bind (fun mi5 => some (mi5 11 0, mi5))) else (some ((-1000000003), mi))))
set_option maxRecDepth 20000 in
set_option maxHeartbeats 4000000 in
theorem c_X7_undo {g : Gm} {V : Vw} {mi : Mi} {ml : Ml} {ld dr : Nat} {x1 : Int32} (hV : LayT V ld dr) {r : Int32 × Mi} (h : f_X7_undo mi x1 = some r) : DoI g YX7_undo V [rf g 0, .int x1] mi ml (r.1) (r.2) ml := by
  unfold f_X7_undo at h
  refine does_of (L := [some (rf g 0), some (.int x1)]) okX7_undo rfl (Nat.le_of_ble_eq_true rfl) rfl ?_
  show At g YX7_undo _ (qm g YX7_undo (pI V (r.1) (r.2) ml)) V (0, 0) 0 _ [] mi ml
  refine a_iload iX7_undo_0 rfl <| a_const iX7_undo_1 <| a_const iX7_undo_2 <| ?_
  obtain ⟨r1, he2, h⟩ := ob h
  refine a_cSi iX7_undo_4 okX7_isWithin stX7_isWithin ⟨rfl, rfl⟩ (c_X7_isWithin he2) rfl rfl (Nat.le_of_ble_eq_true rfl) ⟨Nat.le_refl 0, Nat.le_refl 0⟩ <| ?_
  refine a_if_ne iX7_undo_7 (fun hc3 => ?_) (fun hc3 => ?_)
  · have h := oe hc3 h
    refine a_iload iX7_undo_13 rfl <| a_aload iX7_undo_14 rfl <| a_getr iX7_undo_15 (lt_s0 hV) rfl (lt_r0_3 hV) <| a_geti iX7_undo_18 (lt_s17 hV) rfl <| ?_
    refine a_icmp_le iX7_undo_21 (fun hc4 => ?_) (fun hc4 => ?_)
    · have h := ot hc4 h
      refine a_aload iX7_undo_27 rfl <| a_getr iX7_undo_28 (lt_s0 hV) rfl (lt_r0_3 hV) <| a_iload iX7_undo_31 rfl <| a_aload iX7_undo_32 rfl <| a_getr iX7_undo_33 (lt_s0 hV) rfl (lt_r0_2 hV) <| ?_
      obtain ⟨mi5, he6, h⟩ := ob h
      refine a_cVv iX7_undo_36 okX4_bringBack inX4_bringBack ⟨rfl, rfl⟩ (lt_s17 hV) (c_X4_bringBack hV (lt_e11 hV) he6) rfl rfl (Nat.le_of_ble_eq_true rfl) ⟨Nat.le_refl 0, Nat.le_refl 0⟩ <| a_aload iX7_undo_39 rfl <| a_getr iX7_undo_40 (lt_s0 hV) rfl (lt_r0_2 hV) <| a_geti iX7_undo_43 (lt_e11 hV).1 rfl <| ?_
      obtain rfl := Option.some.inj h
      exact a_iret iX7_undo_46 rfl ⟨Nat.le_refl 0, Nat.le_refl 0⟩ ⟨rfl, rfl, rfl, rfl⟩
    · have h := oe hc4 h
      refine a_const iX7_undo_24 <| ?_
      obtain rfl := Option.some.inj h
      exact a_iret iX7_undo_26 rfl ⟨Nat.le_refl 0, Nat.le_refl 0⟩ ⟨rfl, rfl, rfl, rfl⟩
  · have h := ot hc3 h
    refine a_const iX7_undo_10 <| ?_
    obtain rfl := Option.some.inj h
    exact a_iret iX7_undo_12 rfl ⟨Nat.le_refl 0, Nat.le_refl 0⟩ ⟨rfl, rfl, rfl, rfl⟩
def f_X7_whose (mi : Mi) (ld : Nat) (x1 : Int32) : Option (Int32) := (f_X7_isWithin x1 0 240).bind (fun r1 => if r1 = 0 then (some (-1000000002)) else (if (mi ld 0) = 0 then (some (-1000000003)) else ((f_X2_holderIn mi 11 ld x1).bind (fun r5 => some r5))))
set_option maxRecDepth 20000 in
set_option maxHeartbeats 4000000 in
theorem c_X7_whose {g : Gm} {V : Vw} {mi : Mi} {ml : Ml} {ld dr : Nat} {x1 : Int32} (hV : LayT V ld dr) {r : Int32} (h : f_X7_whose mi ld x1 = some r) : DoI g YX7_whose V [rf g 0, .int x1] mi ml r mi ml := by
  unfold f_X7_whose at h
  refine does_of (L := [some (rf g 0), some (.int x1)]) okX7_whose rfl (Nat.le_of_ble_eq_true rfl) rfl ?_
  show At g YX7_whose _ (qm g YX7_whose (pI V r mi ml)) V (0, 0) 0 _ [] mi ml
  refine a_iload iX7_whose_0 rfl <| a_const iX7_whose_1 <| a_const iX7_whose_2 <| ?_
  obtain ⟨r1, he2, h⟩ := ob h
  refine a_cSi iX7_whose_5 okX7_isWithin stX7_isWithin ⟨rfl, rfl⟩ (c_X7_isWithin he2) rfl rfl (Nat.le_of_ble_eq_true rfl) ⟨Nat.le_refl 0, Nat.le_refl 0⟩ <| ?_
  refine a_if_ne iX7_whose_8 (fun hc3 => ?_) (fun hc3 => ?_)
  · have h := oe hc3 h
    refine a_aload iX7_whose_14 rfl <| a_getr iX7_whose_15 (lt_s0 hV) rfl (lt_r0_9 hV) <| a_geti iX7_whose_18 (lt_ld hV).1 rfl <| ?_
    refine a_if_eq iX7_whose_21 (fun hc4 => ?_) (fun hc4 => ?_)
    · have h := ot hc4 h
      refine a_const iX7_whose_39 <| ?_
      obtain rfl := Option.some.inj h
      exact a_iret iX7_whose_41 rfl ⟨Nat.le_refl 0, Nat.le_refl 0⟩ ⟨rfl, rfl, rfl, rfl⟩
    · have h := oe hc4 h
      refine a_aload iX7_whose_24 rfl <| a_getr iX7_whose_25 (lt_s0 hV) rfl (lt_r0_2 hV) <| a_aload iX7_whose_28 rfl <| a_getr iX7_whose_29 (lt_s0 hV) rfl (lt_r0_9 hV) <| a_iload iX7_whose_32 rfl <| ?_
      obtain ⟨r5, he6, h⟩ := ob h
      refine a_cVi iX7_whose_33 okX2_holderIn inX2_holderIn ⟨rfl, rfl⟩ (lt_e11 hV).1 (c_X2_holderIn (lt_e11 hV) (lt_ld hV) he6) rfl rfl (Nat.le_of_ble_eq_true rfl) ⟨Nat.le_refl 0, Nat.le_refl 0⟩ <| a_goto iX7_whose_36 <| ?_
      obtain rfl := Option.some.inj h
      exact a_iret iX7_whose_41 rfl ⟨Nat.le_refl 0, Nat.le_refl 0⟩ ⟨rfl, rfl, rfl, rfl⟩
  · have h := ot hc3 h
    refine a_const iX7_whose_11 <| ?_
    obtain rfl := Option.some.inj h
    exact a_iret iX7_whose_13 rfl ⟨Nat.le_refl 0, Nat.le_refl 0⟩ ⟨rfl, rfl, rfl, rfl⟩
def lp_X7_gets_29 (ld : Nat) (mi : Mi) (v1 : Int32) (v2 : Int32) (K : Int32 → Int32 → Option (Int32)) : Nat → Int32 → Int32 → Option (Int32)
  | 0, _, _ => none
  | n + 1, v3, v4 => if v2 ≤ v4 then (K v3 v4) else ((f_X2_holderIn mi 11 ld v4).bind (fun r8 => if r8 = v1 then (lp_X7_gets_29 ld mi v1 v2 K n (v3 + (mi ld 3)) (v4 + 1)) else (lp_X7_gets_29 ld mi v1 v2 K n v3 (v4 + 1))))
def f_X7_gets (mi : Mi) (ld : Nat) (x1 x2 : Int32) : Option (Int32) := (f_X7_isHeir x1).bind (fun r1 => if r1 = 0 then (some (-1000000001)) else ((f_X7_isWithin x2 0 240).bind (fun r4 => if r4 = 0 then (some (-1000000002)) else (lp_X7_gets_29 ld mi x1 x2 (fun v3_11 v4_11 => some v3_11) FU 0 0))))
set_option maxRecDepth 20000 in
set_option maxHeartbeats 4000000 in
theorem w_X7_gets_29 {g : Gm} {V : Vw} {E : Ex} {ld dr : Nat} {mi : Mi} {ml : Ml} {v1 v2 : Int32} (hV : LayT V ld dr) {K : Int32 → Int32 → Option (Int32)} {r : Int32} (hK : ∀ (v3 : Int32) (v4 : Int32), K v3 v4 = some r → At g YX7_gets E (qm g YX7_gets (pI V r mi ml)) V (0, 0) 68 [some (rf g 0), some (.int v1), some (.int v2), some (.int v3), some (.int v4)] [] mi ml) : ∀ (n : Nat) (v3 : Int32) (v4 : Int32), lp_X7_gets_29 ld mi v1 v2 K n v3 v4 = some r → At g YX7_gets E (qm g YX7_gets (pI V r mi ml)) V (0, 0) 29 [some (rf g 0), some (.int v1), some (.int v2), some (.int v3), some (.int v4)] [] mi ml := by
  intro n
  induction n with
  | zero => intro v3 v4 h; exact oz h
  | succ n ih =>
    intro v3 v4 h
    unfold lp_X7_gets_29 at h
    refine a_iload iX7_gets_29 rfl <| a_iload iX7_gets_31 rfl <| ?_
    refine a_icmp_ge iX7_gets_32 (fun hc7 => ?_) (fun hc7 => ?_)
    · have h := ot hc7 h
      exact a_sub (L' := [some (rf g 0), some (.int v1), some (.int v2), some (.int v3), some (.int v4)]) (by exact ⟨rfl, ⟨rfl, ⟨rfl, ⟨rfl, ⟨rfl, trivial⟩⟩⟩⟩⟩) (hK _ _ h)
    · have h := oe hc7 h
      refine a_aload iX7_gets_35 rfl <| a_getr iX7_gets_36 (lt_s0 hV) rfl (lt_r0_2 hV) <| a_aload iX7_gets_39 rfl <| a_getr iX7_gets_40 (lt_s0 hV) rfl (lt_r0_9 hV) <| a_iload iX7_gets_43 rfl <| ?_
      obtain ⟨r8, he9, h⟩ := ob h
      refine a_cVi iX7_gets_45 okX2_holderIn inX2_holderIn ⟨rfl, rfl⟩ (lt_e11 hV).1 (c_X2_holderIn (lt_e11 hV) (lt_ld hV) he9) rfl rfl (Nat.le_of_ble_eq_true rfl) ⟨Nat.le_refl 0, Nat.le_refl 0⟩ <| a_iload iX7_gets_48 rfl <| ?_
      refine a_icmp_ne iX7_gets_49 (fun hc10 => ?_) (fun hc10 => ?_)
      · have h := oe hc10 h
        refine a_iinc iX7_gets_62 rfl (by decide) rfl <| a_goto iX7_gets_65 <| ?_
        exact a_sub (L' := [some (rf g 0), some (.int v1), some (.int v2), some (.int v3), some (.int (v4 + 1))]) (by exact ⟨rfl, ⟨rfl, ⟨rfl, ⟨rfl, ⟨rfl, trivial⟩⟩⟩⟩⟩) (ih _ _ h)
      · have h := ot hc10 h
        refine a_iload iX7_gets_52 rfl <| a_aload iX7_gets_53 rfl <| a_getr iX7_gets_54 (lt_s0 hV) rfl (lt_r0_9 hV) <| a_geti iX7_gets_57 (lt_ld hV).1 rfl <| a_iadd iX7_gets_60 <| a_istore iX7_gets_61 (by decide) rfl <| a_iinc iX7_gets_62 rfl (by decide) rfl <| a_goto iX7_gets_65 <| ?_
        exact a_sub (L' := [some (rf g 0), some (.int v1), some (.int v2), some (.int (v3 + (mi ld 3))), some (.int (v4 + 1))]) (by exact ⟨rfl, ⟨rfl, ⟨rfl, ⟨rfl, ⟨rfl, trivial⟩⟩⟩⟩⟩) (ih _ _ h)
set_option maxRecDepth 20000 in
set_option maxHeartbeats 4000000 in
theorem c_X7_gets {g : Gm} {V : Vw} {mi : Mi} {ml : Ml} {ld dr : Nat} {x1 x2 : Int32} (hV : LayT V ld dr) {r : Int32} (h : f_X7_gets mi ld x1 x2 = some r) : DoI g YX7_gets V [rf g 0, .int x1, .int x2] mi ml r mi ml := by
  unfold f_X7_gets at h
  refine does_of (L := [some (rf g 0), some (.int x1), some (.int x2), none, none]) okX7_gets rfl (Nat.le_of_ble_eq_true rfl) rfl ?_
  show At g YX7_gets _ (qm g YX7_gets (pI V r mi ml)) V (0, 0) 0 _ [] mi ml
  refine a_iload iX7_gets_0 rfl <| ?_
  obtain ⟨r1, he2, h⟩ := ob h
  refine a_cSi iX7_gets_1 okX7_isHeir stX7_isHeir ⟨rfl, rfl⟩ (c_X7_isHeir he2) rfl rfl (Nat.le_of_ble_eq_true rfl) ⟨Nat.le_refl 0, Nat.le_refl 0⟩ <| ?_
  refine a_if_ne iX7_gets_4 (fun hc3 => ?_) (fun hc3 => ?_)
  · have h := oe hc3 h
    refine a_iload iX7_gets_10 rfl <| a_const iX7_gets_11 <| a_const iX7_gets_12 <| ?_
    obtain ⟨r4, he5, h⟩ := ob h
    refine a_cSi iX7_gets_15 okX7_isWithin stX7_isWithin ⟨rfl, rfl⟩ (c_X7_isWithin he5) rfl rfl (Nat.le_of_ble_eq_true rfl) ⟨Nat.le_refl 0, Nat.le_refl 0⟩ <| ?_
    refine a_if_ne iX7_gets_18 (fun hc6 => ?_) (fun hc6 => ?_)
    · have h := oe hc6 h
      refine a_const iX7_gets_24 <| a_istore iX7_gets_25 (by decide) rfl <| a_const iX7_gets_26 <| a_istore iX7_gets_27 (by decide) rfl <| ?_
      refine a_sub (L' := [some (rf g 0), some (.int x1), some (.int x2), some (.int 0), some (.int 0)]) (by exact ⟨rfl, ⟨rfl, ⟨rfl, ⟨rfl, ⟨rfl, trivial⟩⟩⟩⟩⟩) (w_X7_gets_29 hV (fun v3_11 v4_11 h => ?_) FU _ _ h)
      refine a_iload iX7_gets_68 rfl <| ?_
      obtain rfl := Option.some.inj h
      exact a_iret iX7_gets_69 rfl ⟨Nat.le_refl 0, Nat.le_refl 0⟩ ⟨rfl, rfl, rfl, rfl⟩
    · have h := ot hc6 h
      refine a_const iX7_gets_21 <| ?_
      obtain rfl := Option.some.inj h
      exact a_iret iX7_gets_23 rfl ⟨Nat.le_refl 0, Nat.le_refl 0⟩ ⟨rfl, rfl, rfl, rfl⟩
  · have h := ot hc3 h
    refine a_const iX7_gets_7 <| ?_
    obtain rfl := Option.some.inj h
    exact a_iret iX7_gets_9 rfl ⟨Nat.le_refl 0, Nat.le_refl 0⟩ ⟨rfl, rfl, rfl, rfl⟩
def f_X7_willBe (mi : Mi) (ld : Nat) (x1 x2 : Int32) : Option (Int32) := (f_X7_isThing mi ld x1).bind (fun r1 => if r1 = 0 then (some (-1000000001)) else ((f_X7_isWithin x2 0 240).bind (fun r4 => if r4 = 0 then (some (-1000000002)) else (if inb x1 8 then if inb x1 8 then (f_X2_eclipseEnd mi 11).bind (fun r9 => (f_X1_valueAfter mi ld (mi (ld + 2) x1.toNatClampNeg) (mi (11 + 3) x1.toNatClampNeg) (mi 11 0) ((mi 11 0) + x2) r9).bind (fun r11 => some r11)) else none else none))))
set_option maxRecDepth 20000 in
set_option maxHeartbeats 4000000 in
theorem c_X7_willBe {g : Gm} {V : Vw} {mi : Mi} {ml : Ml} {ld dr : Nat} {x1 x2 : Int32} (hV : LayT V ld dr) {r : Int32} (h : f_X7_willBe mi ld x1 x2 = some r) : DoI g YX7_willBe V [rf g 0, .int x1, .int x2] mi ml r mi ml := by
  unfold f_X7_willBe at h
  refine does_of (L := [some (rf g 0), some (.int x1), some (.int x2)]) okX7_willBe rfl (Nat.le_of_ble_eq_true rfl) rfl ?_
  show At g YX7_willBe _ (qm g YX7_willBe (pI V r mi ml)) V (0, 0) 0 _ [] mi ml
  refine a_aload iX7_willBe_0 rfl <| a_iload iX7_willBe_1 rfl <| ?_
  obtain ⟨r1, he2, h⟩ := ob h
  refine a_cVi iX7_willBe_2 okX7_isThing inX7_isThing ⟨rfl, rfl⟩ (lt_s0 hV) (c_X7_isThing hV he2) rfl rfl (Nat.le_of_ble_eq_true rfl) ⟨Nat.le_refl 0, Nat.le_refl 0⟩ <| ?_
  refine a_if_ne iX7_willBe_5 (fun hc3 => ?_) (fun hc3 => ?_)
  · have h := oe hc3 h
    refine a_iload iX7_willBe_11 rfl <| a_const iX7_willBe_12 <| a_const iX7_willBe_13 <| ?_
    obtain ⟨r4, he5, h⟩ := ob h
    refine a_cSi iX7_willBe_16 okX7_isWithin stX7_isWithin ⟨rfl, rfl⟩ (c_X7_isWithin he5) rfl rfl (Nat.le_of_ble_eq_true rfl) ⟨Nat.le_refl 0, Nat.le_refl 0⟩ <| ?_
    refine a_if_ne iX7_willBe_19 (fun hc6 => ?_) (fun hc6 => ?_)
    · have h := oe hc6 h
      refine a_aload iX7_willBe_25 rfl <| a_getr iX7_willBe_26 (lt_s0 hV) rfl (lt_r0_9 hV) <| a_aload iX7_willBe_29 rfl <| a_getr iX7_willBe_30 (lt_s0 hV) rfl (lt_r0_9 hV) <| a_getr iX7_willBe_33 (lt_ld hV).1 rfl (lt_ld hV).2.2.2.2.2.2.2.2.1 <| a_iload iX7_willBe_36 rfl <| ?_
      obtain ⟨hg7, h⟩ := og h
      refine a_iald iX7_willBe_37 (lt_ld hV).2.2.1 (inb_vp hg7) <| a_aload iX7_willBe_38 rfl <| a_getr iX7_willBe_39 (lt_s0 hV) rfl (lt_r0_2 hV) <| a_getr iX7_willBe_42 (lt_e11 hV).1 rfl (lt_e11 hV).2.2.2.2.2.2.2.2.1 <| a_iload iX7_willBe_45 rfl <| ?_
      obtain ⟨hg8, h⟩ := og h
      refine a_iald iX7_willBe_46 (lt_e11 hV).2.2.2.1 (inb_vp hg8) <| a_aload iX7_willBe_47 rfl <| a_getr iX7_willBe_48 (lt_s0 hV) rfl (lt_r0_2 hV) <| a_geti iX7_willBe_51 (lt_e11 hV).1 rfl <| a_aload iX7_willBe_54 rfl <| a_getr iX7_willBe_55 (lt_s0 hV) rfl (lt_r0_2 hV) <| a_geti iX7_willBe_58 (lt_e11 hV).1 rfl <| a_iload iX7_willBe_61 rfl <| ?_
      refine a_iadd iX7_willBe_62 <| a_aload iX7_willBe_63 rfl <| a_getr iX7_willBe_64 (lt_s0 hV) rfl (lt_r0_2 hV) <| ?_
      obtain ⟨r9, he10, h⟩ := ob h
      refine a_cVi iX7_willBe_67 okX2_eclipseEnd inX2_eclipseEnd ⟨rfl, rfl⟩ (lt_e11 hV).1 (c_X2_eclipseEnd (lt_e11 hV) he10) rfl rfl (Nat.le_of_ble_eq_true rfl) ⟨Nat.le_refl 0, Nat.le_refl 0⟩ <| ?_
      obtain ⟨r11, he12, h⟩ := ob h
      refine a_cVi iX7_willBe_70 okX1_valueAfter inX1_valueAfter ⟨rfl, rfl⟩ (lt_ld hV).1 (c_X1_valueAfter (lt_ld hV) he12) rfl rfl (Nat.le_of_ble_eq_true rfl) ⟨Nat.le_refl 0, Nat.le_refl 0⟩ <| ?_
      obtain rfl := Option.some.inj h
      exact a_iret iX7_willBe_73 rfl ⟨Nat.le_refl 0, Nat.le_refl 0⟩ ⟨rfl, rfl, rfl, rfl⟩
    · have h := ot hc6 h
      refine a_const iX7_willBe_22 <| ?_
      obtain rfl := Option.some.inj h
      exact a_iret iX7_willBe_24 rfl ⟨Nat.le_refl 0, Nat.le_refl 0⟩ ⟨rfl, rfl, rfl, rfl⟩
  · have h := ot hc3 h
    refine a_const iX7_willBe_8 <| ?_
    obtain rfl := Option.some.inj h
    exact a_iret iX7_willBe_10 rfl ⟨Nat.le_refl 0, Nat.le_refl 0⟩ ⟨rfl, rfl, rfl, rfl⟩
def lp_X7_next_25 (ld : Nat) (mi : Mi) (v1 : Int32) (K : Int32 → Option (Int32)) : Nat → Int32 → Option (Int32)
  | 0, _ => none
  | n + 1, v2 => if 48 < v2 then (K v2) else ((f_X2_holderIn mi 11 ld v2).bind (fun r6 => if r6 = v1 then (some v2) else (lp_X7_next_25 ld mi v1 K n (v2 + 1))))
def f_X7_next (mi : Mi) (ld : Nat) (x1 : Int32) : Option (Int32) := (f_X7_isHeir x1).bind (fun r1 => if r1 = 0 then (some (-1000000001)) else (if (mi ld 0) = 0 then (some (-1000000003)) else (lp_X7_next_25 ld mi x1 (fun v2_9 => some (-1)) FU 0)))
set_option maxRecDepth 20000 in
set_option maxHeartbeats 4000000 in
theorem w_X7_next_25 {g : Gm} {V : Vw} {E : Ex} {ld dr : Nat} {mi : Mi} {ml : Ml} {v1 : Int32} (hV : LayT V ld dr) {K : Int32 → Option (Int32)} {r : Int32} (hK : ∀ (v2 : Int32), K v2 = some r → At g YX7_next E (qm g YX7_next (pI V r mi ml)) V (0, 0) 55 [some (rf g 0), some (.int v1), some (.int v2)] [] mi ml) : ∀ (n : Nat) (v2 : Int32), lp_X7_next_25 ld mi v1 K n v2 = some r → At g YX7_next E (qm g YX7_next (pI V r mi ml)) V (0, 0) 25 [some (rf g 0), some (.int v1), some (.int v2)] [] mi ml := by
  intro n
  induction n with
  | zero => intro v2 h; exact oz h
  | succ n ih =>
    intro v2 h
    unfold lp_X7_next_25 at h
    refine a_iload iX7_next_25 rfl <| a_const iX7_next_26 <| ?_
    refine a_icmp_gt iX7_next_28 (fun hc5 => ?_) (fun hc5 => ?_)
    · have h := ot hc5 h
      exact a_sub (L' := [some (rf g 0), some (.int v1), some (.int v2)]) (by exact ⟨rfl, ⟨rfl, ⟨rfl, trivial⟩⟩⟩) (hK _ h)
    · have h := oe hc5 h
      refine a_aload iX7_next_31 rfl <| a_getr iX7_next_32 (lt_s0 hV) rfl (lt_r0_2 hV) <| a_aload iX7_next_35 rfl <| a_getr iX7_next_36 (lt_s0 hV) rfl (lt_r0_9 hV) <| a_iload iX7_next_39 rfl <| ?_
      obtain ⟨r6, he7, h⟩ := ob h
      refine a_cVi iX7_next_40 okX2_holderIn inX2_holderIn ⟨rfl, rfl⟩ (lt_e11 hV).1 (c_X2_holderIn (lt_e11 hV) (lt_ld hV) he7) rfl rfl (Nat.le_of_ble_eq_true rfl) ⟨Nat.le_refl 0, Nat.le_refl 0⟩ <| a_iload iX7_next_43 rfl <| ?_
      refine a_icmp_ne iX7_next_44 (fun hc8 => ?_) (fun hc8 => ?_)
      · have h := oe hc8 h
        refine a_iinc iX7_next_49 rfl (by decide) rfl <| a_goto iX7_next_52 <| ?_
        exact a_sub (L' := [some (rf g 0), some (.int v1), some (.int (v2 + 1))]) (by exact ⟨rfl, ⟨rfl, ⟨rfl, trivial⟩⟩⟩) (ih _ h)
      · have h := ot hc8 h
        refine a_iload iX7_next_47 rfl <| ?_
        obtain rfl := Option.some.inj h
        exact a_iret iX7_next_48 rfl ⟨Nat.le_refl 0, Nat.le_refl 0⟩ ⟨rfl, rfl, rfl, rfl⟩
set_option maxRecDepth 20000 in
set_option maxHeartbeats 4000000 in
theorem c_X7_next {g : Gm} {V : Vw} {mi : Mi} {ml : Ml} {ld dr : Nat} {x1 : Int32} (hV : LayT V ld dr) {r : Int32} (h : f_X7_next mi ld x1 = some r) : DoI g YX7_next V [rf g 0, .int x1] mi ml r mi ml := by
  unfold f_X7_next at h
  refine does_of (L := [some (rf g 0), some (.int x1), none]) okX7_next rfl (Nat.le_of_ble_eq_true rfl) rfl ?_
  show At g YX7_next _ (qm g YX7_next (pI V r mi ml)) V (0, 0) 0 _ [] mi ml
  refine a_iload iX7_next_0 rfl <| ?_
  obtain ⟨r1, he2, h⟩ := ob h
  refine a_cSi iX7_next_1 okX7_isHeir stX7_isHeir ⟨rfl, rfl⟩ (c_X7_isHeir he2) rfl rfl (Nat.le_of_ble_eq_true rfl) ⟨Nat.le_refl 0, Nat.le_refl 0⟩ <| ?_
  refine a_if_ne iX7_next_4 (fun hc3 => ?_) (fun hc3 => ?_)
  · have h := oe hc3 h
    refine a_aload iX7_next_10 rfl <| a_getr iX7_next_11 (lt_s0 hV) rfl (lt_r0_9 hV) <| a_geti iX7_next_14 (lt_ld hV).1 rfl <| ?_
    refine a_if_ne iX7_next_17 (fun hc4 => ?_) (fun hc4 => ?_)
    · have h := oe hc4 h
      refine a_const iX7_next_23 <| a_istore iX7_next_24 (by decide) rfl <| ?_
      refine a_sub (L' := [some (rf g 0), some (.int x1), some (.int 0)]) (by exact ⟨rfl, ⟨rfl, ⟨rfl, trivial⟩⟩⟩) (w_X7_next_25 hV (fun v2_9 h => ?_) FU _ h)
      refine a_const iX7_next_55 <| ?_
      obtain rfl := Option.some.inj h
      exact a_iret iX7_next_56 rfl ⟨Nat.le_refl 0, Nat.le_refl 0⟩ ⟨rfl, rfl, rfl, rfl⟩
    · have h := ot hc4 h
      refine a_const iX7_next_20 <| ?_
      obtain rfl := Option.some.inj h
      exact a_iret iX7_next_22 rfl ⟨Nat.le_refl 0, Nat.le_refl 0⟩ ⟨rfl, rfl, rfl, rfl⟩
  · have h := ot hc3 h
    refine a_const iX7_next_7 <| ?_
    obtain rfl := Option.some.inj h
    exact a_iret iX7_next_9 rfl ⟨Nat.le_refl 0, Nat.le_refl 0⟩ ⟨rfl, rfl, rfl, rfl⟩
def lp_X7_startFor_3 (ld : Nat) (mi : Mi) (v1 : Int32) (v2 : Int32) (v3 : Int32) (v4 : Int32) (K : Int32 → Option (Int32)) : Nat → Int32 → Option (Int32)
  | 0, _ => none
  | n + 1, v5 => if 10 ≤ v5 then (K v5) else (if inb v1 8 then (f_X2_eclipseEnd mi 11).bind (fun r3 => (f_X1_valueAfter mi ld (mi (ld + 2) v1.toNatClampNeg) v5 ((mi 11 0) + v3) ((mi 11 0) + v4) r3).bind (fun r5 => if r5 = v2 then (some v5) else (lp_X7_startFor_3 ld mi v1 v2 v3 v4 K n (v5 + 1)))) else none)
def f_X7_startFor (mi : Mi) (ld : Nat) (x1 x2 x3 x4 : Int32) : Option (Int32) := lp_X7_startFor_3 ld mi x1 x2 x3 x4 (fun v5_8 => some (-1)) FU 0
set_option maxRecDepth 20000 in
set_option maxHeartbeats 4000000 in
theorem w_X7_startFor_3 {g : Gm} {V : Vw} {E : Ex} {ld dr : Nat} {mi : Mi} {ml : Ml} {v1 v2 v3 v4 : Int32} (hV : LayT V ld dr) {K : Int32 → Option (Int32)} {r : Int32} (hK : ∀ (v5 : Int32), K v5 = some r → At g YX7_startFor E (qm g YX7_startFor (pI V r mi ml)) V (0, 0) 71 [some (rf g 0), some (.int v1), some (.int v2), some (.int v3), some (.int v4), some (.int v5), none] [] mi ml) : ∀ (n : Nat) (v5 : Int32), lp_X7_startFor_3 ld mi v1 v2 v3 v4 K n v5 = some r → At g YX7_startFor E (qm g YX7_startFor (pI V r mi ml)) V (0, 0) 3 [some (rf g 0), some (.int v1), some (.int v2), some (.int v3), some (.int v4), some (.int v5), none] [] mi ml := by
  intro n
  induction n with
  | zero => intro v5 h; exact oz h
  | succ n ih =>
    intro v5 h
    unfold lp_X7_startFor_3 at h
    refine a_iload iX7_startFor_3 rfl <| a_const iX7_startFor_5 <| ?_
    refine a_icmp_ge iX7_startFor_7 (fun hc1 => ?_) (fun hc1 => ?_)
    · have h := ot hc1 h
      exact a_sub (L' := [some (rf g 0), some (.int v1), some (.int v2), some (.int v3), some (.int v4), some (.int v5), none]) (by exact ⟨rfl, ⟨rfl, ⟨rfl, ⟨rfl, ⟨rfl, ⟨rfl, trivial⟩⟩⟩⟩⟩⟩) (hK _ h)
    · have h := oe hc1 h
      refine a_aload iX7_startFor_10 rfl <| a_getr iX7_startFor_11 (lt_s0 hV) rfl (lt_r0_9 hV) <| a_aload iX7_startFor_14 rfl <| a_getr iX7_startFor_15 (lt_s0 hV) rfl (lt_r0_9 hV) <| a_getr iX7_startFor_18 (lt_ld hV).1 rfl (lt_ld hV).2.2.2.2.2.2.2.2.1 <| a_iload iX7_startFor_21 rfl <| ?_
      obtain ⟨hg2, h⟩ := og h
      refine a_iald iX7_startFor_22 (lt_ld hV).2.2.1 (inb_vp hg2) <| a_iload iX7_startFor_23 rfl <| a_aload iX7_startFor_25 rfl <| a_getr iX7_startFor_26 (lt_s0 hV) rfl (lt_r0_2 hV) <| a_geti iX7_startFor_29 (lt_e11 hV).1 rfl <| a_iload iX7_startFor_32 rfl <| a_iadd iX7_startFor_33 <| a_aload iX7_startFor_34 rfl <| ?_
      refine a_getr iX7_startFor_35 (lt_s0 hV) rfl (lt_r0_2 hV) <| a_geti iX7_startFor_38 (lt_e11 hV).1 rfl <| a_iload iX7_startFor_41 rfl <| a_iadd iX7_startFor_43 <| a_aload iX7_startFor_44 rfl <| a_getr iX7_startFor_45 (lt_s0 hV) rfl (lt_r0_2 hV) <| ?_
      obtain ⟨r3, he4, h⟩ := ob h
      refine a_cVi iX7_startFor_48 okX2_eclipseEnd inX2_eclipseEnd ⟨rfl, rfl⟩ (lt_e11 hV).1 (c_X2_eclipseEnd (lt_e11 hV) he4) rfl rfl (Nat.le_of_ble_eq_true rfl) ⟨Nat.le_refl 0, Nat.le_refl 0⟩ <| ?_
      obtain ⟨r5, he6, h⟩ := ob h
      refine a_cVi iX7_startFor_51 okX1_valueAfter inX1_valueAfter ⟨rfl, rfl⟩ (lt_ld hV).1 (c_X1_valueAfter (lt_ld hV) he6) rfl rfl (Nat.le_of_ble_eq_true rfl) ⟨Nat.le_refl 0, Nat.le_refl 0⟩ <| a_istore iX7_startFor_54 (by decide) rfl <| a_iload iX7_startFor_56 rfl <| a_iload iX7_startFor_58 rfl <| ?_
      refine a_icmp_ne iX7_startFor_59 (fun hc7 => ?_) (fun hc7 => ?_)
      · have h := oe hc7 h
        refine a_iinc iX7_startFor_65 rfl (by decide) rfl <| a_goto iX7_startFor_68 <| ?_
        exact a_sub (L' := [some (rf g 0), some (.int v1), some (.int v2), some (.int v3), some (.int v4), some (.int (v5 + 1)), none]) (by exact ⟨rfl, ⟨rfl, ⟨rfl, ⟨rfl, ⟨rfl, ⟨rfl, trivial⟩⟩⟩⟩⟩⟩) (ih _ h)
      · have h := ot hc7 h
        refine a_iload iX7_startFor_62 rfl <| ?_
        obtain rfl := Option.some.inj h
        exact a_iret iX7_startFor_64 rfl ⟨Nat.le_refl 0, Nat.le_refl 0⟩ ⟨rfl, rfl, rfl, rfl⟩
set_option maxRecDepth 20000 in
set_option maxHeartbeats 4000000 in
theorem c_X7_startFor {g : Gm} {V : Vw} {mi : Mi} {ml : Ml} {ld dr : Nat} {x1 x2 x3 x4 : Int32} (hV : LayT V ld dr) {r : Int32} (h : f_X7_startFor mi ld x1 x2 x3 x4 = some r) : DoI g YX7_startFor V [rf g 0, .int x1, .int x2, .int x3, .int x4] mi ml r mi ml := by
  unfold f_X7_startFor at h
  refine does_of (L := [some (rf g 0), some (.int x1), some (.int x2), some (.int x3), some (.int x4), none, none]) okX7_startFor rfl (Nat.le_of_ble_eq_true rfl) rfl ?_
  show At g YX7_startFor _ (qm g YX7_startFor (pI V r mi ml)) V (0, 0) 0 _ [] mi ml
  refine a_const iX7_startFor_0 <| a_istore iX7_startFor_1 (by decide) rfl <| ?_
  refine a_sub (L' := [some (rf g 0), some (.int x1), some (.int x2), some (.int x3), some (.int x4), some (.int 0), none]) (by exact ⟨rfl, ⟨rfl, ⟨rfl, ⟨rfl, ⟨rfl, ⟨rfl, trivial⟩⟩⟩⟩⟩⟩) (w_X7_startFor_3 hV (fun v5_8 h => ?_) FU _ h)
  refine a_const iX7_startFor_71 <| ?_
  obtain rfl := Option.some.inj h
  exact a_iret iX7_startFor_72 rfl ⟨Nat.le_refl 0, Nat.le_refl 0⟩ ⟨rfl, rfl, rfl, rfl⟩
def lp_X7_keepSo_61 (ld : Nat) (mi : Mi) (v1 : Int32) (v2 : Int32) (v3 : Int32) (v4 : Int32) (v5 : Int32) (K : Int32 → Int32 → Int32 → Option (Int32)) : Nat → Int32 → Int32 → Int32 → Option (Int32)
  | 0, _, _, _ => none
  | n + 1, v6, v7, v8 => if v8 < 0 then (K v6 v7 v8) else ((f_X2_holderIn mi 11 ld v8).bind (fun r17 => if r17 = v1 then ((f_X7_startFor mi ld v2 v3 v8 v4).bind (fun r20 => if r20 = (-1) then (lp_X7_keepSo_61 ld mi v1 v2 v3 v4 v5 K n v6 v7 (v8 + (-1))) else (lp_X7_keepSo_61 ld mi v1 v2 v3 v4 v5 K n v8 r20 (v8 + (-1))))) else (K v6 v7 v8)))
def f_X7_keepSo (mi : Mi) (ld : Nat) (x1 x2 x3 x4 x5 : Int32) : Option (Int32) := (f_X7_isHeir x1).bind (fun r1 => if r1 = 0 then (some (-1000000001)) else ((f_X7_isThing mi ld x2).bind (fun r4 => if r4 = 0 then (some (-1000000001)) else ((f_X7_isValue x3).bind (fun r7 => if r7 = 0 then (some (-1000000002)) else ((f_X7_isWithin x4 1 48).bind (fun r10 => if r10 = 0 then (some (-1000000002)) else ((f_X7_isWithin x5 0 1).bind (fun r13 => if r13 = 0 then (some (-1000000002)) else (lp_X7_keepSo_61 ld mi x1 x2 x3 x4 x5 (fun v6_23 v7_23 v8_23 => if x5 = 0 then (some v6_23) else (some v7_23)) FU (-1) (-1) (x4 - 1)))))))))))
set_option maxRecDepth 20000 in
set_option maxHeartbeats 4000000 in
theorem w_X7_keepSo_61 {g : Gm} {V : Vw} {E : Ex} {ld dr : Nat} {mi : Mi} {ml : Ml} {v1 v2 v3 v4 v5 : Int32} (hV : LayT V ld dr) {K : Int32 → Int32 → Int32 → Option (Int32)} {r : Int32} (hK : ∀ (v6 : Int32) (v7 : Int32) (v8 : Int32), K v6 v7 v8 = some r → At g YX7_keepSo E (qm g YX7_keepSo (pI V r mi ml)) V (0, 0) 115 [some (rf g 0), some (.int v1), some (.int v2), some (.int v3), some (.int v4), some (.int v5), some (.int v6), some (.int v7), some (.int v8), none] [] mi ml) : ∀ (n : Nat) (v6 : Int32) (v7 : Int32) (v8 : Int32), lp_X7_keepSo_61 ld mi v1 v2 v3 v4 v5 K n v6 v7 v8 = some r → At g YX7_keepSo E (qm g YX7_keepSo (pI V r mi ml)) V (0, 0) 61 [some (rf g 0), some (.int v1), some (.int v2), some (.int v3), some (.int v4), some (.int v5), some (.int v6), some (.int v7), some (.int v8), none] [] mi ml := by
  intro n
  induction n with
  | zero => intro v6 v7 v8 h; exact oz h
  | succ n ih =>
    intro v6 v7 v8 h
    unfold lp_X7_keepSo_61 at h
    refine a_iload iX7_keepSo_61 rfl <| ?_
    refine a_if_lt iX7_keepSo_63 (fun hc16 => ?_) (fun hc16 => ?_)
    · have h := ot hc16 h
      exact a_sub (L' := [some (rf g 0), some (.int v1), some (.int v2), some (.int v3), some (.int v4), some (.int v5), some (.int v6), some (.int v7), some (.int v8), none]) (by exact ⟨rfl, ⟨rfl, ⟨rfl, ⟨rfl, ⟨rfl, ⟨rfl, ⟨rfl, ⟨rfl, ⟨rfl, trivial⟩⟩⟩⟩⟩⟩⟩⟩⟩) (hK _ _ _ h)
    · have h := oe hc16 h
      refine a_aload iX7_keepSo_66 rfl <| a_getr iX7_keepSo_67 (lt_s0 hV) rfl (lt_r0_2 hV) <| a_aload iX7_keepSo_70 rfl <| a_getr iX7_keepSo_71 (lt_s0 hV) rfl (lt_r0_9 hV) <| a_iload iX7_keepSo_74 rfl <| ?_
      obtain ⟨r17, he18, h⟩ := ob h
      refine a_cVi iX7_keepSo_76 okX2_holderIn inX2_holderIn ⟨rfl, rfl⟩ (lt_e11 hV).1 (c_X2_holderIn (lt_e11 hV) (lt_ld hV) he18) rfl rfl (Nat.le_of_ble_eq_true rfl) ⟨Nat.le_refl 0, Nat.le_refl 0⟩ <| a_iload iX7_keepSo_79 rfl <| ?_
      refine a_icmp_ne iX7_keepSo_80 (fun hc19 => ?_) (fun hc19 => ?_)
      · have h := oe hc19 h
        exact a_sub (L' := [some (rf g 0), some (.int v1), some (.int v2), some (.int v3), some (.int v4), some (.int v5), some (.int v6), some (.int v7), some (.int v8), none]) (by exact ⟨rfl, ⟨rfl, ⟨rfl, ⟨rfl, ⟨rfl, ⟨rfl, ⟨rfl, ⟨rfl, ⟨rfl, trivial⟩⟩⟩⟩⟩⟩⟩⟩⟩) (hK _ _ _ h)
      · have h := ot hc19 h
        refine a_aload iX7_keepSo_83 rfl <| a_iload iX7_keepSo_84 rfl <| a_iload iX7_keepSo_85 rfl <| a_iload iX7_keepSo_86 rfl <| a_iload iX7_keepSo_88 rfl <| ?_
        obtain ⟨r20, he21, h⟩ := ob h
        refine a_cVi iX7_keepSo_90 okX7_startFor inX7_startFor ⟨rfl, rfl⟩ (lt_s0 hV) (c_X7_startFor hV he21) rfl rfl (Nat.le_of_ble_eq_true rfl) ⟨Nat.le_refl 0, Nat.le_refl 0⟩ <| a_istore iX7_keepSo_93 (by decide) rfl <| a_iload iX7_keepSo_95 rfl <| a_const iX7_keepSo_97 <| ?_
        refine a_icmp_eq iX7_keepSo_98 (fun hc22 => ?_) (fun hc22 => ?_)
        · have h := ot hc22 h
          refine a_iinc iX7_keepSo_109 rfl (by decide) rfl <| a_goto iX7_keepSo_112 <| ?_
          exact a_sub (L' := [some (rf g 0), some (.int v1), some (.int v2), some (.int v3), some (.int v4), some (.int v5), some (.int v6), some (.int v7), some (.int (v8 + (-1))), none]) (by exact ⟨rfl, ⟨rfl, ⟨rfl, ⟨rfl, ⟨rfl, ⟨rfl, ⟨rfl, ⟨rfl, ⟨rfl, trivial⟩⟩⟩⟩⟩⟩⟩⟩⟩) (ih _ _ _ h)
        · have h := oe hc22 h
          refine a_iload iX7_keepSo_101 rfl <| a_istore iX7_keepSo_103 (by decide) rfl <| a_iload iX7_keepSo_105 rfl <| a_istore iX7_keepSo_107 (by decide) rfl <| a_iinc iX7_keepSo_109 rfl (by decide) rfl <| a_goto iX7_keepSo_112 <| ?_
          exact a_sub (L' := [some (rf g 0), some (.int v1), some (.int v2), some (.int v3), some (.int v4), some (.int v5), some (.int v8), some (.int r20), some (.int (v8 + (-1))), none]) (by exact ⟨rfl, ⟨rfl, ⟨rfl, ⟨rfl, ⟨rfl, ⟨rfl, ⟨rfl, ⟨rfl, ⟨rfl, trivial⟩⟩⟩⟩⟩⟩⟩⟩⟩) (ih _ _ _ h)
set_option maxRecDepth 20000 in
set_option maxHeartbeats 4000000 in
theorem c_X7_keepSo {g : Gm} {V : Vw} {mi : Mi} {ml : Ml} {ld dr : Nat} {x1 x2 x3 x4 x5 : Int32} (hV : LayT V ld dr) {r : Int32} (h : f_X7_keepSo mi ld x1 x2 x3 x4 x5 = some r) : DoI g YX7_keepSo V [rf g 0, .int x1, .int x2, .int x3, .int x4, .int x5] mi ml r mi ml := by
  unfold f_X7_keepSo at h
  refine does_of (L := [some (rf g 0), some (.int x1), some (.int x2), some (.int x3), some (.int x4), some (.int x5), none, none, none, none]) okX7_keepSo rfl (Nat.le_of_ble_eq_true rfl) rfl ?_
  show At g YX7_keepSo _ (qm g YX7_keepSo (pI V r mi ml)) V (0, 0) 0 _ [] mi ml
  refine a_iload iX7_keepSo_0 rfl <| ?_
  obtain ⟨r1, he2, h⟩ := ob h
  refine a_cSi iX7_keepSo_1 okX7_isHeir stX7_isHeir ⟨rfl, rfl⟩ (c_X7_isHeir he2) rfl rfl (Nat.le_of_ble_eq_true rfl) ⟨Nat.le_refl 0, Nat.le_refl 0⟩ <| ?_
  refine a_if_eq iX7_keepSo_4 (fun hc3 => ?_) (fun hc3 => ?_)
  · have h := ot hc3 h
    refine a_const iX7_keepSo_15 <| ?_
    obtain rfl := Option.some.inj h
    exact a_iret iX7_keepSo_17 rfl ⟨Nat.le_refl 0, Nat.le_refl 0⟩ ⟨rfl, rfl, rfl, rfl⟩
  · have h := oe hc3 h
    refine a_aload iX7_keepSo_7 rfl <| a_iload iX7_keepSo_8 rfl <| ?_
    obtain ⟨r4, he5, h⟩ := ob h
    refine a_cVi iX7_keepSo_9 okX7_isThing inX7_isThing ⟨rfl, rfl⟩ (lt_s0 hV) (c_X7_isThing hV he5) rfl rfl (Nat.le_of_ble_eq_true rfl) ⟨Nat.le_refl 0, Nat.le_refl 0⟩ <| ?_
    refine a_if_ne iX7_keepSo_12 (fun hc6 => ?_) (fun hc6 => ?_)
    · have h := oe hc6 h
      refine a_iload iX7_keepSo_18 rfl <| ?_
      obtain ⟨r7, he8, h⟩ := ob h
      refine a_cSi iX7_keepSo_19 okX7_isValue stX7_isValue ⟨rfl, rfl⟩ (c_X7_isValue he8) rfl rfl (Nat.le_of_ble_eq_true rfl) ⟨Nat.le_refl 0, Nat.le_refl 0⟩ <| ?_
      refine a_if_eq iX7_keepSo_22 (fun hc9 => ?_) (fun hc9 => ?_)
      · have h := ot hc9 h
        refine a_const iX7_keepSo_46 <| ?_
        obtain rfl := Option.some.inj h
        exact a_iret iX7_keepSo_48 rfl ⟨Nat.le_refl 0, Nat.le_refl 0⟩ ⟨rfl, rfl, rfl, rfl⟩
      · have h := oe hc9 h
        refine a_iload iX7_keepSo_25 rfl <| a_const iX7_keepSo_27 <| a_const iX7_keepSo_28 <| ?_
        obtain ⟨r10, he11, h⟩ := ob h
        refine a_cSi iX7_keepSo_30 okX7_isWithin stX7_isWithin ⟨rfl, rfl⟩ (c_X7_isWithin he11) rfl rfl (Nat.le_of_ble_eq_true rfl) ⟨Nat.le_refl 0, Nat.le_refl 0⟩ <| ?_
        refine a_if_eq iX7_keepSo_33 (fun hc12 => ?_) (fun hc12 => ?_)
        · have h := ot hc12 h
          refine a_const iX7_keepSo_46 <| ?_
          obtain rfl := Option.some.inj h
          exact a_iret iX7_keepSo_48 rfl ⟨Nat.le_refl 0, Nat.le_refl 0⟩ ⟨rfl, rfl, rfl, rfl⟩
        · have h := oe hc12 h
          refine a_iload iX7_keepSo_36 rfl <| a_const iX7_keepSo_38 <| a_const iX7_keepSo_39 <| ?_
          obtain ⟨r13, he14, h⟩ := ob h
          refine a_cSi iX7_keepSo_40 okX7_isWithin stX7_isWithin ⟨rfl, rfl⟩ (c_X7_isWithin he14) rfl rfl (Nat.le_of_ble_eq_true rfl) ⟨Nat.le_refl 0, Nat.le_refl 0⟩ <| ?_
          refine a_if_ne iX7_keepSo_43 (fun hc15 => ?_) (fun hc15 => ?_)
          · have h := oe hc15 h
            refine a_const iX7_keepSo_49 <| a_istore iX7_keepSo_50 (by decide) rfl <| a_const iX7_keepSo_52 <| a_istore iX7_keepSo_53 (by decide) rfl <| a_iload iX7_keepSo_55 rfl <| a_const iX7_keepSo_57 <| a_isub iX7_keepSo_58 <| a_istore iX7_keepSo_59 (by decide) rfl <| ?_
            refine a_sub (L' := [some (rf g 0), some (.int x1), some (.int x2), some (.int x3), some (.int x4), some (.int x5), some (.int (-1)), some (.int (-1)), some (.int (x4 - 1)), none]) (by exact ⟨rfl, ⟨rfl, ⟨rfl, ⟨rfl, ⟨rfl, ⟨rfl, ⟨rfl, ⟨rfl, ⟨rfl, trivial⟩⟩⟩⟩⟩⟩⟩⟩⟩) (w_X7_keepSo_61 hV (fun v6_23 v7_23 v8_23 h => ?_) FU _ _ _ h)
            refine a_iload iX7_keepSo_115 rfl <| ?_
            refine a_if_ne iX7_keepSo_117 (fun hc24 => ?_) (fun hc24 => ?_)
            · have h := oe hc24 h
              refine a_iload iX7_keepSo_125 rfl <| ?_
              obtain rfl := Option.some.inj h
              exact a_iret iX7_keepSo_127 rfl ⟨Nat.le_refl 0, Nat.le_refl 0⟩ ⟨rfl, rfl, rfl, rfl⟩
            · have h := ot hc24 h
              refine a_iload iX7_keepSo_120 rfl <| a_goto iX7_keepSo_122 <| ?_
              obtain rfl := Option.some.inj h
              exact a_iret iX7_keepSo_127 rfl ⟨Nat.le_refl 0, Nat.le_refl 0⟩ ⟨rfl, rfl, rfl, rfl⟩
          · have h := ot hc15 h
            refine a_const iX7_keepSo_46 <| ?_
            obtain rfl := Option.some.inj h
            exact a_iret iX7_keepSo_48 rfl ⟨Nat.le_refl 0, Nat.le_refl 0⟩ ⟨rfl, rfl, rfl, rfl⟩
    · have h := ot hc6 h
      refine a_const iX7_keepSo_15 <| ?_
      obtain rfl := Option.some.inj h
      exact a_iret iX7_keepSo_17 rfl ⟨Nat.le_refl 0, Nat.le_refl 0⟩ ⟨rfl, rfl, rfl, rfl⟩
def f_X7_agreed (mi : Mi) (ld : Nat) (x1 : Int32) : Option (Int32) := if x1 = (-1) then ((f_X1_mostMet mi ld).bind (fun r7 => some r7)) else ((f_X7_isThing mi ld x1).bind (fun r2 => if r2 = 0 then (some (-1000000001)) else ((f_X1_favourite mi ld x1).bind (fun r5 => some r5))))
set_option maxRecDepth 20000 in
set_option maxHeartbeats 4000000 in
theorem c_X7_agreed {g : Gm} {V : Vw} {mi : Mi} {ml : Ml} {ld dr : Nat} {x1 : Int32} (hV : LayT V ld dr) {r : Int32} (h : f_X7_agreed mi ld x1 = some r) : DoI g YX7_agreed V [rf g 0, .int x1] mi ml r mi ml := by
  unfold f_X7_agreed at h
  refine does_of (L := [some (rf g 0), some (.int x1)]) okX7_agreed rfl (Nat.le_of_ble_eq_true rfl) rfl ?_
  show At g YX7_agreed _ (qm g YX7_agreed (pI V r mi ml)) V (0, 0) 0 _ [] mi ml
  refine a_iload iX7_agreed_0 rfl <| a_const iX7_agreed_1 <| ?_
  refine a_icmp_ne iX7_agreed_2 (fun hc1 => ?_) (fun hc1 => ?_)
  · have h := oe hc1 h
    refine a_aload iX7_agreed_13 rfl <| a_iload iX7_agreed_14 rfl <| ?_
    obtain ⟨r2, he3, h⟩ := ob h
    refine a_cVi iX7_agreed_15 okX7_isThing inX7_isThing ⟨rfl, rfl⟩ (lt_s0 hV) (c_X7_isThing hV he3) rfl rfl (Nat.le_of_ble_eq_true rfl) ⟨Nat.le_refl 0, Nat.le_refl 0⟩ <| ?_
    refine a_if_eq iX7_agreed_18 (fun hc4 => ?_) (fun hc4 => ?_)
    · have h := ot hc4 h
      refine a_const iX7_agreed_32 <| ?_
      obtain rfl := Option.some.inj h
      exact a_iret iX7_agreed_34 rfl ⟨Nat.le_refl 0, Nat.le_refl 0⟩ ⟨rfl, rfl, rfl, rfl⟩
    · have h := oe hc4 h
      refine a_aload iX7_agreed_21 rfl <| a_getr iX7_agreed_22 (lt_s0 hV) rfl (lt_r0_9 hV) <| a_iload iX7_agreed_25 rfl <| ?_
      obtain ⟨r5, he6, h⟩ := ob h
      refine a_cVi iX7_agreed_26 okX1_favourite inX1_favourite ⟨rfl, rfl⟩ (lt_ld hV).1 (c_X1_favourite (lt_ld hV) he6) rfl rfl (Nat.le_of_ble_eq_true rfl) ⟨Nat.le_refl 0, Nat.le_refl 0⟩ <| a_goto iX7_agreed_29 <| ?_
      obtain rfl := Option.some.inj h
      exact a_iret iX7_agreed_34 rfl ⟨Nat.le_refl 0, Nat.le_refl 0⟩ ⟨rfl, rfl, rfl, rfl⟩
  · have h := ot hc1 h
    refine a_aload iX7_agreed_5 rfl <| a_getr iX7_agreed_6 (lt_s0 hV) rfl (lt_r0_9 hV) <| ?_
    obtain ⟨r7, he8, h⟩ := ob h
    refine a_cVi iX7_agreed_9 okX1_mostMet inX1_mostMet ⟨rfl, rfl⟩ (lt_ld hV).1 (c_X1_mostMet (lt_ld hV) he8) rfl rfl (Nat.le_of_ble_eq_true rfl) ⟨Nat.le_refl 0, Nat.le_refl 0⟩ <| ?_
    obtain rfl := Option.some.inj h
    exact a_iret iX7_agreed_12 rfl ⟨Nat.le_refl 0, Nat.le_refl 0⟩ ⟨rfl, rfl, rfl, rfl⟩
def lp_X7_against_42 (ld : Nat) (mi : Mi) (v1 : Int32) (v2 : Int32) (v4 : Int32) (K : Int32 → Int32 → Option (Int32)) : Nat → Int32 → Int32 → Option (Int32)
  | 0, _, _ => none
  | n + 1, v3, v5 => if (mi ld 7) ≤ v5 then (K v3 v5) else (if inb v4 10 then if (mi (ld + 4) v4.toNatClampNeg) = v1 then (if inb v5 10 then if (mi (ld + 4) v5.toNatClampNeg) = v2 then ((f_X1_areUnlike mi ld v4 v5).bind (fun r14 => if r14 = 0 then (lp_X7_against_42 ld mi v1 v2 v4 K n v3 (v5 + 1)) else (lp_X7_against_42 ld mi v1 v2 v4 K n (v3 + 1) (v5 + 1)))) else (lp_X7_against_42 ld mi v1 v2 v4 K n v3 (v5 + 1)) else none) else (lp_X7_against_42 ld mi v1 v2 v4 K n v3 (v5 + 1)) else none)
def lp_X7_against_27 (ld : Nat) (mi : Mi) (v1 : Int32) (v2 : Int32) (K : Int32 → Int32 → Option (Int32)) : Nat → Int32 → Int32 → Option (Int32)
  | 0, _, _ => none
  | n + 1, v3, v4 => if (mi ld 7) ≤ v4 then (K v3 v4) else (lp_X7_against_42 ld mi v1 v2 v4 (fun v3_17 v5_17 => lp_X7_against_27 ld mi v1 v2 K n v3_17 (v4 + 1)) FU v3 0)
def f_X7_against (mi : Mi) (ld : Nat) (x1 x2 : Int32) : Option (Int32) := (f_X7_isHeir x1).bind (fun r1 => if r1 = 0 then (some (-1000000001)) else ((f_X7_isHeir x2).bind (fun r4 => if r4 = 0 then (some (-1000000001)) else (if x1 = x2 then (some (-1000000001)) else (lp_X7_against_27 ld mi x1 x2 (fun v3_18 v4_18 => some v3_18) FU 0 0)))))
set_option maxRecDepth 20000 in
set_option maxHeartbeats 4000000 in
theorem w_X7_against_42 {g : Gm} {V : Vw} {E : Ex} {ld dr : Nat} {mi : Mi} {ml : Ml} {v1 v2 v4 : Int32} (hV : LayT V ld dr) {K : Int32 → Int32 → Option (Int32)} {r : Int32} (hK : ∀ (v3 : Int32) (v5 : Int32), K v3 v5 = some r → At g YX7_against E (qm g YX7_against (pI V r mi ml)) V (0, 0) 105 [some (rf g 0), some (.int v1), some (.int v2), some (.int v3), some (.int v4), some (.int v5)] [] mi ml) : ∀ (n : Nat) (v3 : Int32) (v5 : Int32), lp_X7_against_42 ld mi v1 v2 v4 K n v3 v5 = some r → At g YX7_against E (qm g YX7_against (pI V r mi ml)) V (0, 0) 42 [some (rf g 0), some (.int v1), some (.int v2), some (.int v3), some (.int v4), some (.int v5)] [] mi ml := by
  intro n
  induction n with
  | zero => intro v3 v5 h; exact oz h
  | succ n ih =>
    intro v3 v5 h
    unfold lp_X7_against_42 at h
    refine a_iload iX7_against_42 rfl <| a_aload iX7_against_44 rfl <| a_getr iX7_against_45 (lt_s0 hV) rfl (lt_r0_9 hV) <| a_geti iX7_against_48 (lt_ld hV).1 rfl <| ?_
    refine a_icmp_ge iX7_against_51 (fun hc9 => ?_) (fun hc9 => ?_)
    · have h := ot hc9 h
      exact a_sub (L' := [some (rf g 0), some (.int v1), some (.int v2), some (.int v3), some (.int v4), some (.int v5)]) (by exact ⟨rfl, ⟨rfl, ⟨rfl, ⟨rfl, ⟨rfl, ⟨rfl, trivial⟩⟩⟩⟩⟩⟩) (hK _ _ h)
    · have h := oe hc9 h
      refine a_aload iX7_against_54 rfl <| a_getr iX7_against_55 (lt_s0 hV) rfl (lt_r0_9 hV) <| a_getr iX7_against_58 (lt_ld hV).1 rfl (lt_ld hV).2.2.2.2.2.2.2.2.2.2.1 <| a_iload iX7_against_61 rfl <| ?_
      obtain ⟨hg10, h⟩ := og h
      refine a_iald iX7_against_63 (lt_ld hV).2.2.2.2.1 (inb_vp hg10) <| a_iload iX7_against_64 rfl <| ?_
      refine a_icmp_ne iX7_against_65 (fun hc11 => ?_) (fun hc11 => ?_)
      · have h := oe hc11 h
        refine a_iinc iX7_against_99 rfl (by decide) rfl <| a_goto iX7_against_102 <| ?_
        exact a_sub (L' := [some (rf g 0), some (.int v1), some (.int v2), some (.int v3), some (.int v4), some (.int (v5 + 1))]) (by exact ⟨rfl, ⟨rfl, ⟨rfl, ⟨rfl, ⟨rfl, ⟨rfl, trivial⟩⟩⟩⟩⟩⟩) (ih _ _ h)
      · have h := ot hc11 h
        refine a_aload iX7_against_68 rfl <| a_getr iX7_against_69 (lt_s0 hV) rfl (lt_r0_9 hV) <| a_getr iX7_against_72 (lt_ld hV).1 rfl (lt_ld hV).2.2.2.2.2.2.2.2.2.2.1 <| a_iload iX7_against_75 rfl <| ?_
        obtain ⟨hg12, h⟩ := og h
        refine a_iald iX7_against_77 (lt_ld hV).2.2.2.2.1 (inb_vp hg12) <| a_iload iX7_against_78 rfl <| ?_
        refine a_icmp_ne iX7_against_79 (fun hc13 => ?_) (fun hc13 => ?_)
        · have h := oe hc13 h
          refine a_iinc iX7_against_99 rfl (by decide) rfl <| a_goto iX7_against_102 <| ?_
          exact a_sub (L' := [some (rf g 0), some (.int v1), some (.int v2), some (.int v3), some (.int v4), some (.int (v5 + 1))]) (by exact ⟨rfl, ⟨rfl, ⟨rfl, ⟨rfl, ⟨rfl, ⟨rfl, trivial⟩⟩⟩⟩⟩⟩) (ih _ _ h)
        · have h := ot hc13 h
          refine a_aload iX7_against_82 rfl <| a_getr iX7_against_83 (lt_s0 hV) rfl (lt_r0_9 hV) <| a_iload iX7_against_86 rfl <| a_iload iX7_against_88 rfl <| ?_
          obtain ⟨r14, he15, h⟩ := ob h
          refine a_cVi iX7_against_90 okX1_areUnlike inX1_areUnlike ⟨rfl, rfl⟩ (lt_ld hV).1 (c_X1_areUnlike (lt_ld hV) he15) rfl rfl (Nat.le_of_ble_eq_true rfl) ⟨Nat.le_refl 0, Nat.le_refl 0⟩ <| ?_
          refine a_if_eq iX7_against_93 (fun hc16 => ?_) (fun hc16 => ?_)
          · have h := ot hc16 h
            refine a_iinc iX7_against_99 rfl (by decide) rfl <| a_goto iX7_against_102 <| ?_
            exact a_sub (L' := [some (rf g 0), some (.int v1), some (.int v2), some (.int v3), some (.int v4), some (.int (v5 + 1))]) (by exact ⟨rfl, ⟨rfl, ⟨rfl, ⟨rfl, ⟨rfl, ⟨rfl, trivial⟩⟩⟩⟩⟩⟩) (ih _ _ h)
          · have h := oe hc16 h
            refine a_iinc iX7_against_96 rfl (by decide) rfl <| a_iinc iX7_against_99 rfl (by decide) rfl <| a_goto iX7_against_102 <| ?_
            exact a_sub (L' := [some (rf g 0), some (.int v1), some (.int v2), some (.int (v3 + 1)), some (.int v4), some (.int (v5 + 1))]) (by exact ⟨rfl, ⟨rfl, ⟨rfl, ⟨rfl, ⟨rfl, ⟨rfl, trivial⟩⟩⟩⟩⟩⟩) (ih _ _ h)
set_option maxRecDepth 20000 in
set_option maxHeartbeats 4000000 in
theorem w_X7_against_27 {g : Gm} {V : Vw} {E : Ex} {ld dr : Nat} {mi : Mi} {ml : Ml} {v1 v2 : Int32} (hV : LayT V ld dr) {K : Int32 → Int32 → Option (Int32)} {r : Int32} (hK : ∀ (v3 : Int32) (v4 : Int32), K v3 v4 = some r → At g YX7_against E (qm g YX7_against (pI V r mi ml)) V (0, 0) 111 [some (rf g 0), some (.int v1), some (.int v2), some (.int v3), some (.int v4), none] [] mi ml) : ∀ (n : Nat) (v3 : Int32) (v4 : Int32), lp_X7_against_27 ld mi v1 v2 K n v3 v4 = some r → At g YX7_against E (qm g YX7_against (pI V r mi ml)) V (0, 0) 27 [some (rf g 0), some (.int v1), some (.int v2), some (.int v3), some (.int v4), none] [] mi ml := by
  intro n
  induction n with
  | zero => intro v3 v4 h; exact oz h
  | succ n ih =>
    intro v3 v4 h
    unfold lp_X7_against_27 at h
    refine a_iload iX7_against_27 rfl <| a_aload iX7_against_29 rfl <| a_getr iX7_against_30 (lt_s0 hV) rfl (lt_r0_9 hV) <| a_geti iX7_against_33 (lt_ld hV).1 rfl <| ?_
    refine a_icmp_ge iX7_against_36 (fun hc8 => ?_) (fun hc8 => ?_)
    · have h := ot hc8 h
      exact a_sub (L' := [some (rf g 0), some (.int v1), some (.int v2), some (.int v3), some (.int v4), none]) (by exact ⟨rfl, ⟨rfl, ⟨rfl, ⟨rfl, ⟨rfl, trivial⟩⟩⟩⟩⟩) (hK _ _ h)
    · have h := oe hc8 h
      refine a_const iX7_against_39 <| a_istore iX7_against_40 (by decide) rfl <| ?_
      refine a_sub (L' := [some (rf g 0), some (.int v1), some (.int v2), some (.int v3), some (.int v4), some (.int 0)]) (by exact ⟨rfl, ⟨rfl, ⟨rfl, ⟨rfl, ⟨rfl, ⟨rfl, trivial⟩⟩⟩⟩⟩⟩) (w_X7_against_42 hV (fun v3_17 v5_17 h => ?_) FU _ _ h)
      refine a_iinc iX7_against_105 rfl (by decide) rfl <| a_goto iX7_against_108 <| ?_
      exact a_sub (L' := [some (rf g 0), some (.int v1), some (.int v2), some (.int v3_17), some (.int (v4 + 1)), none]) (by exact ⟨rfl, ⟨rfl, ⟨rfl, ⟨rfl, ⟨rfl, trivial⟩⟩⟩⟩⟩) (ih _ _ h)
set_option maxRecDepth 20000 in
set_option maxHeartbeats 4000000 in
theorem c_X7_against {g : Gm} {V : Vw} {mi : Mi} {ml : Ml} {ld dr : Nat} {x1 x2 : Int32} (hV : LayT V ld dr) {r : Int32} (h : f_X7_against mi ld x1 x2 = some r) : DoI g YX7_against V [rf g 0, .int x1, .int x2] mi ml r mi ml := by
  unfold f_X7_against at h
  refine does_of (L := [some (rf g 0), some (.int x1), some (.int x2), none, none, none]) okX7_against rfl (Nat.le_of_ble_eq_true rfl) rfl ?_
  show At g YX7_against _ (qm g YX7_against (pI V r mi ml)) V (0, 0) 0 _ [] mi ml
  refine a_iload iX7_against_0 rfl <| ?_
  obtain ⟨r1, he2, h⟩ := ob h
  refine a_cSi iX7_against_1 okX7_isHeir stX7_isHeir ⟨rfl, rfl⟩ (c_X7_isHeir he2) rfl rfl (Nat.le_of_ble_eq_true rfl) ⟨Nat.le_refl 0, Nat.le_refl 0⟩ <| ?_
  refine a_if_eq iX7_against_4 (fun hc3 => ?_) (fun hc3 => ?_)
  · have h := ot hc3 h
    refine a_const iX7_against_19 <| ?_
    obtain rfl := Option.some.inj h
    exact a_iret iX7_against_21 rfl ⟨Nat.le_refl 0, Nat.le_refl 0⟩ ⟨rfl, rfl, rfl, rfl⟩
  · have h := oe hc3 h
    refine a_iload iX7_against_7 rfl <| ?_
    obtain ⟨r4, he5, h⟩ := ob h
    refine a_cSi iX7_against_8 okX7_isHeir stX7_isHeir ⟨rfl, rfl⟩ (c_X7_isHeir he5) rfl rfl (Nat.le_of_ble_eq_true rfl) ⟨Nat.le_refl 0, Nat.le_refl 0⟩ <| ?_
    refine a_if_eq iX7_against_11 (fun hc6 => ?_) (fun hc6 => ?_)
    · have h := ot hc6 h
      refine a_const iX7_against_19 <| ?_
      obtain rfl := Option.some.inj h
      exact a_iret iX7_against_21 rfl ⟨Nat.le_refl 0, Nat.le_refl 0⟩ ⟨rfl, rfl, rfl, rfl⟩
    · have h := oe hc6 h
      refine a_iload iX7_against_14 rfl <| a_iload iX7_against_15 rfl <| ?_
      refine a_icmp_ne iX7_against_16 (fun hc7 => ?_) (fun hc7 => ?_)
      · have h := oe hc7 h
        refine a_const iX7_against_22 <| a_istore iX7_against_23 (by decide) rfl <| a_const iX7_against_24 <| a_istore iX7_against_25 (by decide) rfl <| ?_
        refine a_sub (L' := [some (rf g 0), some (.int x1), some (.int x2), some (.int 0), some (.int 0), none]) (by exact ⟨rfl, ⟨rfl, ⟨rfl, ⟨rfl, ⟨rfl, trivial⟩⟩⟩⟩⟩) (w_X7_against_27 hV (fun v3_18 v4_18 h => ?_) FU _ _ h)
        refine a_iload iX7_against_111 rfl <| ?_
        obtain rfl := Option.some.inj h
        exact a_iret iX7_against_112 rfl ⟨Nat.le_refl 0, Nat.le_refl 0⟩ ⟨rfl, rfl, rfl, rfl⟩
      · have h := ot hc7 h
        refine a_const iX7_against_19 <| ?_
        obtain rfl := Option.some.inj h
        exact a_iret iX7_against_21 rfl ⟨Nat.le_refl 0, Nat.le_refl 0⟩ ⟨rfl, rfl, rfl, rfl⟩
def lp_X7_movers_104 (ld : Nat) (mi : Mi) (v1 : Int32) (v2 : Int32) (v3 : Int32) (v4 : Int32) (K : Int32 → Int32 → Option (Int32)) : Nat → Int32 → Int32 → Option (Int32)
  | 0, _, _ => none
  | n + 1, v5, v6 => if (mi 11 0) ≤ v6 then (K v5 v6) else ((f_X1_holderByLight mi ld v6).bind (fun r17 => lp_X7_movers_104 ld mi v1 v2 v3 v4 K n (v5 ||| (1 <<< (r17 &&& 31))) (v6 + 1)))
def f_X7_movers (mi : Mi) (ld : Nat) (x1 x2 x3 : Int32) : Option (Int32) := (f_X7_isThing mi ld x1).bind (fun r1 => if r1 = 0 then (some (-1000000001)) else ((f_X7_isValue x2).bind (fun r4 => if r4 = 0 then (some (-1000000002)) else ((f_X7_isWithin x3 0 48).bind (fun r7 => if r7 = 0 then (some (-1000000002)) else (if x3 ≤ (mi 11 0) then (if inb x1 8 then (f_X1_valueAfter mi ld (mi (ld + 2) x1.toNatClampNeg) x2 ((mi 11 0) - x3) (mi 11 0) 0).bind (fun r12 => if inb x1 8 then if r12 = (mi (11 + 3) x1.toNatClampNeg) then (some 0) else (lp_X7_movers_104 ld mi x1 x2 x3 ((mi 11 0) - x3) (fun v5_19 v6_19 => some v5_19) FU 0 ((mi 11 0) - x3)) else none) else none) else (some (-1000000003))))))))
set_option maxRecDepth 20000 in
set_option maxHeartbeats 4000000 in
theorem w_X7_movers_104 {g : Gm} {V : Vw} {E : Ex} {ld dr : Nat} {mi : Mi} {ml : Ml} {v1 v2 v3 v4 : Int32} (hV : LayT V ld dr) {K : Int32 → Int32 → Option (Int32)} {r : Int32} (hK : ∀ (v5 : Int32) (v6 : Int32), K v5 v6 = some r → At g YX7_movers E (qm g YX7_movers (pI V r mi ml)) V (0, 0) 138 [some (rf g 0), some (.int v1), some (.int v2), some (.int v3), some (.int v4), some (.int v5), some (.int v6)] [] mi ml) : ∀ (n : Nat) (v5 : Int32) (v6 : Int32), lp_X7_movers_104 ld mi v1 v2 v3 v4 K n v5 v6 = some r → At g YX7_movers E (qm g YX7_movers (pI V r mi ml)) V (0, 0) 104 [some (rf g 0), some (.int v1), some (.int v2), some (.int v3), some (.int v4), some (.int v5), some (.int v6)] [] mi ml := by
  intro n
  induction n with
  | zero => intro v5 v6 h; exact oz h
  | succ n ih =>
    intro v5 v6 h
    unfold lp_X7_movers_104 at h
    refine a_iload iX7_movers_104 rfl <| a_aload iX7_movers_106 rfl <| a_getr iX7_movers_107 (lt_s0 hV) rfl (lt_r0_2 hV) <| a_geti iX7_movers_110 (lt_e11 hV).1 rfl <| ?_
    refine a_icmp_ge iX7_movers_113 (fun hc16 => ?_) (fun hc16 => ?_)
    · have h := ot hc16 h
      exact a_sub (L' := [some (rf g 0), some (.int v1), some (.int v2), some (.int v3), some (.int v4), some (.int v5), some (.int v6)]) (by exact ⟨rfl, ⟨rfl, ⟨rfl, ⟨rfl, ⟨rfl, ⟨rfl, ⟨rfl, trivial⟩⟩⟩⟩⟩⟩⟩) (hK _ _ h)
    · have h := oe hc16 h
      refine a_iload iX7_movers_116 rfl <| a_const iX7_movers_118 <| a_aload iX7_movers_119 rfl <| a_getr iX7_movers_120 (lt_s0 hV) rfl (lt_r0_9 hV) <| a_iload iX7_movers_123 rfl <| ?_
      obtain ⟨r17, he18, h⟩ := ob h
      refine a_cVi iX7_movers_125 okX1_holderByLight inX1_holderByLight ⟨rfl, rfl⟩ (lt_ld hV).1 (c_X1_holderByLight (lt_ld hV) he18) rfl rfl (Nat.le_of_ble_eq_true rfl) ⟨Nat.le_refl 0, Nat.le_refl 0⟩ <| a_ishl iX7_movers_128 <| a_ior iX7_movers_129 <| a_istore iX7_movers_130 (by decide) rfl <| a_iinc iX7_movers_132 rfl (by decide) rfl <| a_goto iX7_movers_135 <| ?_
      exact a_sub (L' := [some (rf g 0), some (.int v1), some (.int v2), some (.int v3), some (.int v4), some (.int (v5 ||| (1 <<< (r17 &&& 31)))), some (.int (v6 + 1))]) (by exact ⟨rfl, ⟨rfl, ⟨rfl, ⟨rfl, ⟨rfl, ⟨rfl, ⟨rfl, trivial⟩⟩⟩⟩⟩⟩⟩) (ih _ _ h)
set_option maxRecDepth 20000 in
set_option maxHeartbeats 4000000 in
theorem c_X7_movers {g : Gm} {V : Vw} {mi : Mi} {ml : Ml} {ld dr : Nat} {x1 x2 x3 : Int32} (hV : LayT V ld dr) {r : Int32} (h : f_X7_movers mi ld x1 x2 x3 = some r) : DoI g YX7_movers V [rf g 0, .int x1, .int x2, .int x3] mi ml r mi ml := by
  unfold f_X7_movers at h
  refine does_of (L := [some (rf g 0), some (.int x1), some (.int x2), some (.int x3), none, none, none]) okX7_movers rfl (Nat.le_of_ble_eq_true rfl) rfl ?_
  show At g YX7_movers _ (qm g YX7_movers (pI V r mi ml)) V (0, 0) 0 _ [] mi ml
  refine a_aload iX7_movers_0 rfl <| a_iload iX7_movers_1 rfl <| ?_
  obtain ⟨r1, he2, h⟩ := ob h
  refine a_cVi iX7_movers_2 okX7_isThing inX7_isThing ⟨rfl, rfl⟩ (lt_s0 hV) (c_X7_isThing hV he2) rfl rfl (Nat.le_of_ble_eq_true rfl) ⟨Nat.le_refl 0, Nat.le_refl 0⟩ <| ?_
  refine a_if_ne iX7_movers_5 (fun hc3 => ?_) (fun hc3 => ?_)
  · have h := oe hc3 h
    refine a_iload iX7_movers_11 rfl <| ?_
    obtain ⟨r4, he5, h⟩ := ob h
    refine a_cSi iX7_movers_12 okX7_isValue stX7_isValue ⟨rfl, rfl⟩ (c_X7_isValue he5) rfl rfl (Nat.le_of_ble_eq_true rfl) ⟨Nat.le_refl 0, Nat.le_refl 0⟩ <| ?_
    refine a_if_eq iX7_movers_15 (fun hc6 => ?_) (fun hc6 => ?_)
    · have h := ot hc6 h
      refine a_const iX7_movers_28 <| ?_
      obtain rfl := Option.some.inj h
      exact a_iret iX7_movers_30 rfl ⟨Nat.le_refl 0, Nat.le_refl 0⟩ ⟨rfl, rfl, rfl, rfl⟩
    · have h := oe hc6 h
      refine a_iload iX7_movers_18 rfl <| a_const iX7_movers_19 <| a_const iX7_movers_20 <| ?_
      obtain ⟨r7, he8, h⟩ := ob h
      refine a_cSi iX7_movers_22 okX7_isWithin stX7_isWithin ⟨rfl, rfl⟩ (c_X7_isWithin he8) rfl rfl (Nat.le_of_ble_eq_true rfl) ⟨Nat.le_refl 0, Nat.le_refl 0⟩ <| ?_
      refine a_if_ne iX7_movers_25 (fun hc9 => ?_) (fun hc9 => ?_)
      · have h := oe hc9 h
        refine a_iload iX7_movers_31 rfl <| a_aload iX7_movers_32 rfl <| a_getr iX7_movers_33 (lt_s0 hV) rfl (lt_r0_2 hV) <| a_geti iX7_movers_36 (lt_e11 hV).1 rfl <| ?_
        refine a_icmp_le iX7_movers_39 (fun hc10 => ?_) (fun hc10 => ?_)
        · have h := ot hc10 h
          refine a_aload iX7_movers_45 rfl <| a_getr iX7_movers_46 (lt_s0 hV) rfl (lt_r0_2 hV) <| a_geti iX7_movers_49 (lt_e11 hV).1 rfl <| a_iload iX7_movers_52 rfl <| a_isub iX7_movers_53 <| a_istore iX7_movers_54 (by decide) rfl <| a_aload iX7_movers_56 rfl <| a_getr iX7_movers_57 (lt_s0 hV) rfl (lt_r0_9 hV) <| ?_
          refine a_aload iX7_movers_60 rfl <| a_getr iX7_movers_61 (lt_s0 hV) rfl (lt_r0_9 hV) <| a_getr iX7_movers_64 (lt_ld hV).1 rfl (lt_ld hV).2.2.2.2.2.2.2.2.1 <| a_iload iX7_movers_67 rfl <| ?_
          obtain ⟨hg11, h⟩ := og h
          refine a_iald iX7_movers_68 (lt_ld hV).2.2.1 (inb_vp hg11) <| a_iload iX7_movers_69 rfl <| a_iload iX7_movers_70 rfl <| a_aload iX7_movers_72 rfl <| a_getr iX7_movers_73 (lt_s0 hV) rfl (lt_r0_2 hV) <| a_geti iX7_movers_76 (lt_e11 hV).1 rfl <| a_const iX7_movers_79 <| ?_
          obtain ⟨r12, he13, h⟩ := ob h
          refine a_cVi iX7_movers_80 okX1_valueAfter inX1_valueAfter ⟨rfl, rfl⟩ (lt_ld hV).1 (c_X1_valueAfter (lt_ld hV) he13) rfl rfl (Nat.le_of_ble_eq_true rfl) ⟨Nat.le_refl 0, Nat.le_refl 0⟩ <| a_aload iX7_movers_83 rfl <| a_getr iX7_movers_84 (lt_s0 hV) rfl (lt_r0_2 hV) <| a_getr iX7_movers_87 (lt_e11 hV).1 rfl (lt_e11 hV).2.2.2.2.2.2.2.2.1 <| a_iload iX7_movers_90 rfl <| ?_
          obtain ⟨hg14, h⟩ := og h
          refine a_iald iX7_movers_91 (lt_e11 hV).2.2.2.1 (inb_vp hg14) <| ?_
          refine a_icmp_ne iX7_movers_92 (fun hc15 => ?_) (fun hc15 => ?_)
          · have h := oe hc15 h
            refine a_const iX7_movers_97 <| a_istore iX7_movers_98 (by decide) rfl <| a_iload iX7_movers_100 rfl <| a_istore iX7_movers_102 (by decide) rfl <| ?_
            refine a_sub (L' := [some (rf g 0), some (.int x1), some (.int x2), some (.int x3), some (.int ((mi 11 0) - x3)), some (.int 0), some (.int ((mi 11 0) - x3))]) (by exact ⟨rfl, ⟨rfl, ⟨rfl, ⟨rfl, ⟨rfl, ⟨rfl, ⟨rfl, trivial⟩⟩⟩⟩⟩⟩⟩) (w_X7_movers_104 hV (fun v5_19 v6_19 h => ?_) FU _ _ h)
            refine a_iload iX7_movers_138 rfl <| ?_
            obtain rfl := Option.some.inj h
            exact a_iret iX7_movers_140 rfl ⟨Nat.le_refl 0, Nat.le_refl 0⟩ ⟨rfl, rfl, rfl, rfl⟩
          · have h := ot hc15 h
            refine a_const iX7_movers_95 <| ?_
            obtain rfl := Option.some.inj h
            exact a_iret iX7_movers_96 rfl ⟨Nat.le_refl 0, Nat.le_refl 0⟩ ⟨rfl, rfl, rfl, rfl⟩
        · have h := oe hc10 h
          refine a_const iX7_movers_42 <| ?_
          obtain rfl := Option.some.inj h
          exact a_iret iX7_movers_44 rfl ⟨Nat.le_refl 0, Nat.le_refl 0⟩ ⟨rfl, rfl, rfl, rfl⟩
      · have h := ot hc9 h
        refine a_const iX7_movers_28 <| ?_
        obtain rfl := Option.some.inj h
        exact a_iret iX7_movers_30 rfl ⟨Nat.le_refl 0, Nat.le_refl 0⟩ ⟨rfl, rfl, rfl, rfl⟩
  · have h := ot hc3 h
    refine a_const iX7_movers_8 <| ?_
    obtain rfl := Option.some.inj h
    exact a_iret iX7_movers_10 rfl ⟨Nat.le_refl 0, Nat.le_refl 0⟩ ⟨rfl, rfl, rfl, rfl⟩
def f_X7_poorest (mi : Mi) (ld : Nat) (x1 : Int32) : Option (Int32) := (f_X7_isWithin x1 0 1).bind (fun r1 => if r1 = 0 then (some (-1000000002)) else (if (mi ld 0) = 0 then (some (-1000000003)) else ((f_X1_darkPoorest mi ld).bind (fun r5 => if x1 = 0 then (some r5) else ((f_X1_darkHours mi ld r5).bind (fun r8 => some r8))))))
set_option maxRecDepth 20000 in
set_option maxHeartbeats 4000000 in
theorem c_X7_poorest {g : Gm} {V : Vw} {mi : Mi} {ml : Ml} {ld dr : Nat} {x1 : Int32} (hV : LayT V ld dr) {r : Int32} (h : f_X7_poorest mi ld x1 = some r) : DoI g YX7_poorest V [rf g 0, .int x1] mi ml r mi ml := by
  unfold f_X7_poorest at h
  refine does_of (L := [some (rf g 0), some (.int x1), none]) okX7_poorest rfl (Nat.le_of_ble_eq_true rfl) rfl ?_
  show At g YX7_poorest _ (qm g YX7_poorest (pI V r mi ml)) V (0, 0) 0 _ [] mi ml
  refine a_iload iX7_poorest_0 rfl <| a_const iX7_poorest_1 <| a_const iX7_poorest_2 <| ?_
  obtain ⟨r1, he2, h⟩ := ob h
  refine a_cSi iX7_poorest_3 okX7_isWithin stX7_isWithin ⟨rfl, rfl⟩ (c_X7_isWithin he2) rfl rfl (Nat.le_of_ble_eq_true rfl) ⟨Nat.le_refl 0, Nat.le_refl 0⟩ <| ?_
  refine a_if_ne iX7_poorest_6 (fun hc3 => ?_) (fun hc3 => ?_)
  · have h := oe hc3 h
    refine a_aload iX7_poorest_12 rfl <| a_getr iX7_poorest_13 (lt_s0 hV) rfl (lt_r0_9 hV) <| a_geti iX7_poorest_16 (lt_ld hV).1 rfl <| ?_
    refine a_if_ne iX7_poorest_19 (fun hc4 => ?_) (fun hc4 => ?_)
    · have h := oe hc4 h
      refine a_aload iX7_poorest_25 rfl <| a_getr iX7_poorest_26 (lt_s0 hV) rfl (lt_r0_9 hV) <| ?_
      obtain ⟨r5, he6, h⟩ := ob h
      refine a_cVi iX7_poorest_29 okX1_darkPoorest inX1_darkPoorest ⟨rfl, rfl⟩ (lt_ld hV).1 (c_X1_darkPoorest (lt_ld hV) he6) rfl rfl (Nat.le_of_ble_eq_true rfl) ⟨Nat.le_refl 0, Nat.le_refl 0⟩ <| a_istore iX7_poorest_32 (by decide) rfl <| a_iload iX7_poorest_33 rfl <| ?_
      refine a_if_ne iX7_poorest_34 (fun hc7 => ?_) (fun hc7 => ?_)
      · have h := oe hc7 h
        refine a_aload iX7_poorest_41 rfl <| a_getr iX7_poorest_42 (lt_s0 hV) rfl (lt_r0_9 hV) <| a_iload iX7_poorest_45 rfl <| ?_
        obtain ⟨r8, he9, h⟩ := ob h
        refine a_cVi iX7_poorest_46 okX1_darkHours inX1_darkHours ⟨rfl, rfl⟩ (lt_ld hV).1 (c_X1_darkHours (lt_ld hV) he9) rfl rfl (Nat.le_of_ble_eq_true rfl) ⟨Nat.le_refl 0, Nat.le_refl 0⟩ <| ?_
        obtain rfl := Option.some.inj h
        exact a_iret iX7_poorest_49 rfl ⟨Nat.le_refl 0, Nat.le_refl 0⟩ ⟨rfl, rfl, rfl, rfl⟩
      · have h := ot hc7 h
        refine a_iload iX7_poorest_37 rfl <| a_goto iX7_poorest_38 <| ?_
        obtain rfl := Option.some.inj h
        exact a_iret iX7_poorest_49 rfl ⟨Nat.le_refl 0, Nat.le_refl 0⟩ ⟨rfl, rfl, rfl, rfl⟩
    · have h := ot hc4 h
      refine a_const iX7_poorest_22 <| ?_
      obtain rfl := Option.some.inj h
      exact a_iret iX7_poorest_24 rfl ⟨Nat.le_refl 0, Nat.le_refl 0⟩ ⟨rfl, rfl, rfl, rfl⟩
  · have h := ot hc3 h
    refine a_const iX7_poorest_9 <| ?_
    obtain rfl := Option.some.inj h
    exact a_iret iX7_poorest_11 rfl ⟨Nat.le_refl 0, Nat.le_refl 0⟩ ⟨rfl, rfl, rfl, rfl⟩
def f_X7_light (mi : Mi) (ld : Nat) (x1 : Int32) : Option (Int32) := (f_X7_isWithin x1 0 1).bind (fun r1 => if r1 = 0 then (some (-1000000002)) else (if (mi ld 0) = 0 then (some (-1000000003)) else (if x1 = 0 then ((f_X1_lightFrom mi ld ((mi 11 0) / 24)).bind (fun r8 => some r8)) else ((f_X1_lightTo mi ld ((mi 11 0) / 24)).bind (fun r6 => some r6)))))
set_option maxRecDepth 20000 in
set_option maxHeartbeats 4000000 in
theorem c_X7_light {g : Gm} {V : Vw} {mi : Mi} {ml : Ml} {ld dr : Nat} {x1 : Int32} (hV : LayT V ld dr) {r : Int32} (h : f_X7_light mi ld x1 = some r) : DoI g YX7_light V [rf g 0, .int x1] mi ml r mi ml := by
  unfold f_X7_light at h
  refine does_of (L := [some (rf g 0), some (.int x1), none]) okX7_light rfl (Nat.le_of_ble_eq_true rfl) rfl ?_
  show At g YX7_light _ (qm g YX7_light (pI V r mi ml)) V (0, 0) 0 _ [] mi ml
  refine a_iload iX7_light_0 rfl <| a_const iX7_light_1 <| a_const iX7_light_2 <| ?_
  obtain ⟨r1, he2, h⟩ := ob h
  refine a_cSi iX7_light_3 okX7_isWithin stX7_isWithin ⟨rfl, rfl⟩ (c_X7_isWithin he2) rfl rfl (Nat.le_of_ble_eq_true rfl) ⟨Nat.le_refl 0, Nat.le_refl 0⟩ <| ?_
  refine a_if_ne iX7_light_6 (fun hc3 => ?_) (fun hc3 => ?_)
  · have h := oe hc3 h
    refine a_aload iX7_light_12 rfl <| a_getr iX7_light_13 (lt_s0 hV) rfl (lt_r0_9 hV) <| a_geti iX7_light_16 (lt_ld hV).1 rfl <| ?_
    refine a_if_ne iX7_light_19 (fun hc4 => ?_) (fun hc4 => ?_)
    · have h := oe hc4 h
      refine a_aload iX7_light_25 rfl <| a_getr iX7_light_26 (lt_s0 hV) rfl (lt_r0_2 hV) <| a_geti iX7_light_29 (lt_e11 hV).1 rfl <| a_const iX7_light_32 <| a_idiv iX7_light_34 (by decide) <| a_istore iX7_light_35 (by decide) rfl <| a_iload iX7_light_36 rfl <| ?_
      refine a_if_ne iX7_light_37 (fun hc5 => ?_) (fun hc5 => ?_)
      · have h := oe hc5 h
        refine a_aload iX7_light_51 rfl <| a_getr iX7_light_52 (lt_s0 hV) rfl (lt_r0_9 hV) <| a_iload iX7_light_55 rfl <| ?_
        obtain ⟨r6, he7, h⟩ := ob h
        refine a_cVi iX7_light_56 okX1_lightTo inX1_lightTo ⟨rfl, rfl⟩ (lt_ld hV).1 (c_X1_lightTo (lt_ld hV) he7) rfl rfl (Nat.le_of_ble_eq_true rfl) ⟨Nat.le_refl 0, Nat.le_refl 0⟩ <| ?_
        obtain rfl := Option.some.inj h
        exact a_iret iX7_light_59 rfl ⟨Nat.le_refl 0, Nat.le_refl 0⟩ ⟨rfl, rfl, rfl, rfl⟩
      · have h := ot hc5 h
        refine a_aload iX7_light_40 rfl <| a_getr iX7_light_41 (lt_s0 hV) rfl (lt_r0_9 hV) <| a_iload iX7_light_44 rfl <| ?_
        obtain ⟨r8, he9, h⟩ := ob h
        refine a_cVi iX7_light_45 okX1_lightFrom inX1_lightFrom ⟨rfl, rfl⟩ (lt_ld hV).1 (c_X1_lightFrom (lt_ld hV) he9) rfl rfl (Nat.le_of_ble_eq_true rfl) ⟨Nat.le_refl 0, Nat.le_refl 0⟩ <| a_goto iX7_light_48 <| ?_
        obtain rfl := Option.some.inj h
        exact a_iret iX7_light_59 rfl ⟨Nat.le_refl 0, Nat.le_refl 0⟩ ⟨rfl, rfl, rfl, rfl⟩
    · have h := ot hc4 h
      refine a_const iX7_light_22 <| ?_
      obtain rfl := Option.some.inj h
      exact a_iret iX7_light_24 rfl ⟨Nat.le_refl 0, Nat.le_refl 0⟩ ⟨rfl, rfl, rfl, rfl⟩
  · have h := ot hc3 h
    refine a_const iX7_light_9 <| ?_
    obtain rfl := Option.some.inj h
    exact a_iret iX7_light_11 rfl ⟨Nat.le_refl 0, Nat.le_refl 0⟩ ⟨rfl, rfl, rfl, rfl⟩
def lp_X7_child_57 (ld : Nat) (mi : Mi) (v1 : Int32) (v2 : Int32) (v3 : Int32) (K : Int32 → Int32 → Option (Int32)) : Nat → Int32 → Int32 → Option (Int32)
  | 0, _, _ => none
  | n + 1, v4, v5 => if v2 < v5 then (K v4 v5) else ((f_X1_holderByLight mi ld (v3 + (((v1 + v5) + 24) - ((v1 + v5) + 24) / 24 * 24))).bind (fun r9 => lp_X7_child_57 ld mi v1 v2 v3 K n (v4 ||| (1 <<< (r9 &&& 31))) (v5 + 1)))
def f_X7_child (mi : Mi) (ld : Nat) (x1 x2 : Int32) : Option (Int32) := (f_X7_isWithin x1 0 23).bind (fun r1 => if r1 = 0 then (some (-1000000002)) else ((f_X7_isWithin x2 0 11).bind (fun r4 => if r4 = 0 then (some (-1000000002)) else (if (mi ld 0) = 0 then (some (-1000000003)) else (lp_X7_child_57 ld mi x1 x2 (((mi 11 0) / 24) * 24) (fun v4_11 v5_11 => some v4_11) FU 0 (-x2))))))
set_option maxRecDepth 20000 in
set_option maxHeartbeats 4000000 in
theorem w_X7_child_57 {g : Gm} {V : Vw} {E : Ex} {ld dr : Nat} {mi : Mi} {ml : Ml} {v1 v2 v3 : Int32} (hV : LayT V ld dr) {K : Int32 → Int32 → Option (Int32)} {r : Int32} (hK : ∀ (v4 : Int32) (v5 : Int32), K v4 v5 = some r → At g YX7_child E (qm g YX7_child (pI V r mi ml)) V (0, 0) 95 [some (rf g 0), some (.int v1), some (.int v2), some (.int v3), some (.int v4), some (.int v5)] [] mi ml) : ∀ (n : Nat) (v4 : Int32) (v5 : Int32), lp_X7_child_57 ld mi v1 v2 v3 K n v4 v5 = some r → At g YX7_child E (qm g YX7_child (pI V r mi ml)) V (0, 0) 57 [some (rf g 0), some (.int v1), some (.int v2), some (.int v3), some (.int v4), some (.int v5)] [] mi ml := by
  intro n
  induction n with
  | zero => intro v4 v5 h; exact oz h
  | succ n ih =>
    intro v4 v5 h
    unfold lp_X7_child_57 at h
    refine a_iload iX7_child_57 rfl <| a_iload iX7_child_59 rfl <| ?_
    refine a_icmp_gt iX7_child_60 (fun hc8 => ?_) (fun hc8 => ?_)
    · have h := ot hc8 h
      exact a_sub (L' := [some (rf g 0), some (.int v1), some (.int v2), some (.int v3), some (.int v4), some (.int v5)]) (by exact ⟨rfl, ⟨rfl, ⟨rfl, ⟨rfl, ⟨rfl, ⟨rfl, trivial⟩⟩⟩⟩⟩⟩) (hK _ _ h)
    · have h := oe hc8 h
      refine a_iload iX7_child_63 rfl <| a_const iX7_child_65 <| a_aload iX7_child_66 rfl <| a_getr iX7_child_67 (lt_s0 hV) rfl (lt_r0_9 hV) <| a_iload iX7_child_70 rfl <| a_iload iX7_child_71 rfl <| a_iload iX7_child_72 rfl <| a_iadd iX7_child_74 <| ?_
      refine a_const iX7_child_75 <| a_iadd iX7_child_77 <| a_const iX7_child_78 <| a_irem iX7_child_80 (by decide) <| a_iadd iX7_child_81 <| ?_
      obtain ⟨r9, he10, h⟩ := ob h
      refine a_cVi iX7_child_82 okX1_holderByLight inX1_holderByLight ⟨rfl, rfl⟩ (lt_ld hV).1 (c_X1_holderByLight (lt_ld hV) he10) rfl rfl (Nat.le_of_ble_eq_true rfl) ⟨Nat.le_refl 0, Nat.le_refl 0⟩ <| a_ishl iX7_child_85 <| a_ior iX7_child_86 <| a_istore iX7_child_87 (by decide) rfl <| a_iinc iX7_child_89 rfl (by decide) rfl <| a_goto iX7_child_92 <| ?_
      exact a_sub (L' := [some (rf g 0), some (.int v1), some (.int v2), some (.int v3), some (.int (v4 ||| (1 <<< (r9 &&& 31)))), some (.int (v5 + 1))]) (by exact ⟨rfl, ⟨rfl, ⟨rfl, ⟨rfl, ⟨rfl, ⟨rfl, trivial⟩⟩⟩⟩⟩⟩) (ih _ _ h)
set_option maxRecDepth 20000 in
set_option maxHeartbeats 4000000 in
theorem c_X7_child {g : Gm} {V : Vw} {mi : Mi} {ml : Ml} {ld dr : Nat} {x1 x2 : Int32} (hV : LayT V ld dr) {r : Int32} (h : f_X7_child mi ld x1 x2 = some r) : DoI g YX7_child V [rf g 0, .int x1, .int x2] mi ml r mi ml := by
  unfold f_X7_child at h
  refine does_of (L := [some (rf g 0), some (.int x1), some (.int x2), none, none, none]) okX7_child rfl (Nat.le_of_ble_eq_true rfl) rfl ?_
  show At g YX7_child _ (qm g YX7_child (pI V r mi ml)) V (0, 0) 0 _ [] mi ml
  refine a_iload iX7_child_0 rfl <| a_const iX7_child_1 <| a_const iX7_child_2 <| ?_
  obtain ⟨r1, he2, h⟩ := ob h
  refine a_cSi iX7_child_4 okX7_isWithin stX7_isWithin ⟨rfl, rfl⟩ (c_X7_isWithin he2) rfl rfl (Nat.le_of_ble_eq_true rfl) ⟨Nat.le_refl 0, Nat.le_refl 0⟩ <| ?_
  refine a_if_eq iX7_child_7 (fun hc3 => ?_) (fun hc3 => ?_)
  · have h := ot hc3 h
    refine a_const iX7_child_20 <| ?_
    obtain rfl := Option.some.inj h
    exact a_iret iX7_child_22 rfl ⟨Nat.le_refl 0, Nat.le_refl 0⟩ ⟨rfl, rfl, rfl, rfl⟩
  · have h := oe hc3 h
    refine a_iload iX7_child_10 rfl <| a_const iX7_child_11 <| a_const iX7_child_12 <| ?_
    obtain ⟨r4, he5, h⟩ := ob h
    refine a_cSi iX7_child_14 okX7_isWithin stX7_isWithin ⟨rfl, rfl⟩ (c_X7_isWithin he5) rfl rfl (Nat.le_of_ble_eq_true rfl) ⟨Nat.le_refl 0, Nat.le_refl 0⟩ <| ?_
    refine a_if_ne iX7_child_17 (fun hc6 => ?_) (fun hc6 => ?_)
    · have h := oe hc6 h
      refine a_aload iX7_child_23 rfl <| a_getr iX7_child_24 (lt_s0 hV) rfl (lt_r0_9 hV) <| a_geti iX7_child_27 (lt_ld hV).1 rfl <| ?_
      refine a_if_ne iX7_child_30 (fun hc7 => ?_) (fun hc7 => ?_)
      · have h := oe hc7 h
        refine a_aload iX7_child_36 rfl <| a_getr iX7_child_37 (lt_s0 hV) rfl (lt_r0_2 hV) <| a_geti iX7_child_40 (lt_e11 hV).1 rfl <| a_const iX7_child_43 <| a_idiv iX7_child_45 (by decide) <| a_const iX7_child_46 <| a_imul iX7_child_48 <| a_istore iX7_child_49 (by decide) rfl <| ?_
        refine a_const iX7_child_50 <| a_istore iX7_child_51 (by decide) rfl <| a_iload iX7_child_53 rfl <| a_ineg iX7_child_54 <| a_istore iX7_child_55 (by decide) rfl <| ?_
        refine a_sub (L' := [some (rf g 0), some (.int x1), some (.int x2), some (.int (((mi 11 0) / 24) * 24)), some (.int 0), some (.int (-x2))]) (by exact ⟨rfl, ⟨rfl, ⟨rfl, ⟨rfl, ⟨rfl, ⟨rfl, trivial⟩⟩⟩⟩⟩⟩) (w_X7_child_57 hV (fun v4_11 v5_11 h => ?_) FU _ _ h)
        refine a_iload iX7_child_95 rfl <| ?_
        obtain rfl := Option.some.inj h
        exact a_iret iX7_child_97 rfl ⟨Nat.le_refl 0, Nat.le_refl 0⟩ ⟨rfl, rfl, rfl, rfl⟩
      · have h := ot hc7 h
        refine a_const iX7_child_33 <| ?_
        obtain rfl := Option.some.inj h
        exact a_iret iX7_child_35 rfl ⟨Nat.le_refl 0, Nat.le_refl 0⟩ ⟨rfl, rfl, rfl, rfl⟩
    · have h := ot hc6 h
      refine a_const iX7_child_20 <| ?_
      obtain rfl := Option.some.inj h
      exact a_iret iX7_child_22 rfl ⟨Nat.le_refl 0, Nat.le_refl 0⟩ ⟨rfl, rfl, rfl, rfl⟩
def lp_X7_clear_30 (mi : Mi) (v1 : Int32) (v2 : Int32) (K : Int64 → Int32 → Option (Int32)) : Nat → Int64 → Int32 → Option (Int32)
  | 0, _, _ => none
  | n + 1, v3, v5 => if v1 ≤ v5 then (K v3 v5) else (lp_X7_clear_30 mi v1 v2 K n ((v3 * (v2.toInt64)) / (100)) (v5 + 1))
def f_X7_clear (mi : Mi) (x1 x2 : Int32) : Option (Int32) := (f_X7_isWithin x1 0 60).bind (fun r1 => if r1 = 0 then (some (-1000000002)) else ((f_X7_isWithin x2 0 100).bind (fun r4 => if r4 = 0 then (some (-1000000002)) else (lp_X7_clear_30 mi x1 x2 (fun v3_8 v5_8 => some (v3_8.toInt32)) FU (1000000000) 0))))
set_option maxRecDepth 20000 in
set_option maxHeartbeats 4000000 in
theorem w_X7_clear_30 {g : Gm} {V : Vw} {E : Ex} {ld dr : Nat} {mi : Mi} {ml : Ml} {v1 v2 : Int32} (hV : LayT V ld dr) {K : Int64 → Int32 → Option (Int32)} {r : Int32} (hK : ∀ (v3 : Int64) (v5 : Int32), K v3 v5 = some r → At g YX7_clear E (qm g YX7_clear (pI V r mi ml)) V (0, 0) 51 [some (rf g 0), some (.int v1), some (.int v2), some (.long v3), none, some (.int v5)] [] mi ml) : ∀ (n : Nat) (v3 : Int64) (v5 : Int32), lp_X7_clear_30 mi v1 v2 K n v3 v5 = some r → At g YX7_clear E (qm g YX7_clear (pI V r mi ml)) V (0, 0) 30 [some (rf g 0), some (.int v1), some (.int v2), some (.long v3), none, some (.int v5)] [] mi ml := by
  intro n
  induction n with
  | zero => intro v3 v5 h; exact oz h
  | succ n ih =>
    intro v3 v5 h
    unfold lp_X7_clear_30 at h
    refine a_iload iX7_clear_30 rfl <| a_iload iX7_clear_32 rfl <| ?_
    refine a_icmp_ge iX7_clear_33 (fun hc7 => ?_) (fun hc7 => ?_)
    · have h := ot hc7 h
      exact a_sub (L' := [some (rf g 0), some (.int v1), some (.int v2), some (.long v3), none, some (.int v5)]) (by exact ⟨rfl, ⟨rfl, ⟨rfl, ⟨rfl, ⟨rfl, trivial⟩⟩⟩⟩⟩) (hK _ _ h)
    · have h := oe hc7 h
      refine a_lload iX7_clear_36 rfl <| a_iload iX7_clear_37 rfl <| a_i2l iX7_clear_38 <| a_lmul iX7_clear_39 <| a_lconst iX7_clear_40 <| a_ldiv iX7_clear_43 (by decide) <| a_lstore iX7_clear_44 (by decide) rfl <| a_iinc iX7_clear_45 rfl (by decide) rfl <| ?_
      refine a_goto iX7_clear_48 <| ?_
      exact a_sub (L' := [some (rf g 0), some (.int v1), some (.int v2), some (.long ((v3 * (v2.toInt64)) / (100))), none, some (.int (v5 + 1))]) (by exact ⟨rfl, ⟨rfl, ⟨rfl, ⟨rfl, ⟨rfl, trivial⟩⟩⟩⟩⟩) (ih _ _ h)
set_option maxRecDepth 20000 in
set_option maxHeartbeats 4000000 in
theorem c_X7_clear {g : Gm} {V : Vw} {mi : Mi} {ml : Ml} {ld dr : Nat} {x1 x2 : Int32} (hV : LayT V ld dr) {r : Int32} (h : f_X7_clear mi x1 x2 = some r) : DoI g YX7_clear V [rf g 0, .int x1, .int x2] mi ml r mi ml := by
  unfold f_X7_clear at h
  refine does_of (L := [some (rf g 0), some (.int x1), some (.int x2), none, none, none]) okX7_clear rfl (Nat.le_of_ble_eq_true rfl) rfl ?_
  show At g YX7_clear _ (qm g YX7_clear (pI V r mi ml)) V (0, 0) 0 _ [] mi ml
  refine a_iload iX7_clear_0 rfl <| a_const iX7_clear_1 <| a_const iX7_clear_2 <| ?_
  obtain ⟨r1, he2, h⟩ := ob h
  refine a_cSi iX7_clear_4 okX7_isWithin stX7_isWithin ⟨rfl, rfl⟩ (c_X7_isWithin he2) rfl rfl (Nat.le_of_ble_eq_true rfl) ⟨Nat.le_refl 0, Nat.le_refl 0⟩ <| ?_
  refine a_if_eq iX7_clear_7 (fun hc3 => ?_) (fun hc3 => ?_)
  · have h := ot hc3 h
    refine a_const iX7_clear_20 <| ?_
    obtain rfl := Option.some.inj h
    exact a_iret iX7_clear_22 rfl ⟨Nat.le_refl 0, Nat.le_refl 0⟩ ⟨rfl, rfl, rfl, rfl⟩
  · have h := oe hc3 h
    refine a_iload iX7_clear_10 rfl <| a_const iX7_clear_11 <| a_const iX7_clear_12 <| ?_
    obtain ⟨r4, he5, h⟩ := ob h
    refine a_cSi iX7_clear_14 okX7_isWithin stX7_isWithin ⟨rfl, rfl⟩ (c_X7_isWithin he5) rfl rfl (Nat.le_of_ble_eq_true rfl) ⟨Nat.le_refl 0, Nat.le_refl 0⟩ <| ?_
    refine a_if_ne iX7_clear_17 (fun hc6 => ?_) (fun hc6 => ?_)
    · have h := oe hc6 h
      refine a_lconst iX7_clear_23 <| a_lstore iX7_clear_26 (by decide) rfl <| a_const iX7_clear_27 <| a_istore iX7_clear_28 (by decide) rfl <| ?_
      refine a_sub (L' := [some (rf g 0), some (.int x1), some (.int x2), some (.long (1000000000)), none, some (.int 0)]) (by exact ⟨rfl, ⟨rfl, ⟨rfl, ⟨rfl, ⟨rfl, trivial⟩⟩⟩⟩⟩) (w_X7_clear_30 hV (fun v3_8 v5_8 h => ?_) FU _ _ h)
      refine a_lload iX7_clear_51 rfl <| a_l2i iX7_clear_52 <| ?_
      obtain rfl := Option.some.inj h
      exact a_iret iX7_clear_53 rfl ⟨Nat.le_refl 0, Nat.le_refl 0⟩ ⟨rfl, rfl, rfl, rfl⟩
    · have h := ot hc6 h
      refine a_const iX7_clear_20 <| ?_
      obtain rfl := Option.some.inj h
      exact a_iret iX7_clear_22 rfl ⟨Nat.le_refl 0, Nat.le_refl 0⟩ ⟨rfl, rfl, rfl, rfl⟩
def f_X7_find (mi : Mi) (ld : Nat) (x1 x2 x3 : Int32) : Option (Int32 × Mi) := (f_X7_isThing mi ld x1).bind (fun r1 => if r1 = 0 then (some ((-1000000001), mi)) else ((f_X7_isValue x2).bind (fun r4 => if r4 = 0 then (some ((-1000000002), mi)) else (if (mi 199 4) < 6 then ((f_X3_add mi x1 x2 x3).bind (fun mi8 => some (mi8 199 4, mi8))) else (some ((-1000000004), mi))))))
set_option maxRecDepth 20000 in
set_option maxHeartbeats 4000000 in
theorem c_X7_find {g : Gm} {V : Vw} {mi : Mi} {ml : Ml} {ld dr : Nat} {x1 x2 x3 : Int32} (hV : LayT V ld dr) {r : Int32 × Mi} (h : f_X7_find mi ld x1 x2 x3 = some r) : DoI g YX7_find V [rf g 0, .int x1, .int x2, .int x3] mi ml (r.1) (r.2) ml := by
  unfold f_X7_find at h
  refine does_of (L := [some (rf g 0), some (.int x1), some (.int x2), some (.int x3)]) okX7_find rfl (Nat.le_of_ble_eq_true rfl) rfl ?_
  show At g YX7_find _ (qm g YX7_find (pI V (r.1) (r.2) ml)) V (0, 0) 0 _ [] mi ml
  refine a_aload iX7_find_0 rfl <| a_iload iX7_find_1 rfl <| ?_
  obtain ⟨r1, he2, h⟩ := ob h
  refine a_cVi iX7_find_2 okX7_isThing inX7_isThing ⟨rfl, rfl⟩ (lt_s0 hV) (c_X7_isThing hV he2) rfl rfl (Nat.le_of_ble_eq_true rfl) ⟨Nat.le_refl 0, Nat.le_refl 0⟩ <| ?_
  refine a_if_ne iX7_find_5 (fun hc3 => ?_) (fun hc3 => ?_)
  · have h := oe hc3 h
    refine a_iload iX7_find_11 rfl <| ?_
    obtain ⟨r4, he5, h⟩ := ob h
    refine a_cSi iX7_find_12 okX7_isValue stX7_isValue ⟨rfl, rfl⟩ (c_X7_isValue he5) rfl rfl (Nat.le_of_ble_eq_true rfl) ⟨Nat.le_refl 0, Nat.le_refl 0⟩ <| ?_
    refine a_if_ne iX7_find_15 (fun hc6 => ?_) (fun hc6 => ?_)
    · have h := oe hc6 h
      refine a_aload iX7_find_21 rfl <| a_getr iX7_find_22 (lt_s0 hV) rfl (lt_r0_4 hV) <| a_geti iX7_find_25 (lt_s199 hV) rfl <| a_const iX7_find_28 <| ?_
      refine a_icmp_lt iX7_find_30 (fun hc7 => ?_) (fun hc7 => ?_)
      · have h := ot hc7 h
        refine a_aload iX7_find_36 rfl <| a_getr iX7_find_37 (lt_s0 hV) rfl (lt_r0_4 hV) <| a_iload iX7_find_40 rfl <| a_iload iX7_find_41 rfl <| a_iload iX7_find_42 rfl <| ?_
        obtain ⟨mi8, he9, h⟩ := ob h
        refine a_cVv iX7_find_43 okX3_add inX3_add ⟨rfl, rfl⟩ (lt_s199 hV) (c_X3_add hV he9) rfl rfl (Nat.le_of_ble_eq_true rfl) ⟨Nat.le_refl 0, Nat.le_refl 0⟩ <| a_aload iX7_find_46 rfl <| a_getr iX7_find_47 (lt_s0 hV) rfl (lt_r0_4 hV) <| a_geti iX7_find_50 (lt_s199 hV) rfl <| ?_
        obtain rfl := Option.some.inj h
        exact a_iret iX7_find_53 rfl ⟨Nat.le_refl 0, Nat.le_refl 0⟩ ⟨rfl, rfl, rfl, rfl⟩
      · have h := oe hc7 h
        refine a_const iX7_find_33 <| ?_
        obtain rfl := Option.some.inj h
        exact a_iret iX7_find_35 rfl ⟨Nat.le_refl 0, Nat.le_refl 0⟩ ⟨rfl, rfl, rfl, rfl⟩
    · have h := ot hc6 h
      refine a_const iX7_find_18 <| ?_
      obtain rfl := Option.some.inj h
      exact a_iret iX7_find_20 rfl ⟨Nat.le_refl 0, Nat.le_refl 0⟩ ⟨rfl, rfl, rfl, rfl⟩
  · have h := ot hc3 h
    refine a_const iX7_find_8 <| ?_
    obtain rfl := Option.some.inj h
    exact a_iret iX7_find_10 rfl ⟨Nat.le_refl 0, Nat.le_refl 0⟩ ⟨rfl, rfl, rfl, rfl⟩
def f_X7_fits (mi : Mi) (ld : Nat) (x1 : Int32) : Option (Int32) := (f_X7_isWithin x1 0 1).bind (fun r1 => if r1 = 0 then (some (-1000000002)) else (if x1 = 0 then ((f_X3_fitCount mi ld 11).bind (fun r7 => some r7)) else ((f_X3_leastFit mi ld 11).bind (fun r5 => some r5))))
set_option maxRecDepth 20000 in
set_option maxHeartbeats 4000000 in
theorem c_X7_fits {g : Gm} {V : Vw} {mi : Mi} {ml : Ml} {ld dr : Nat} {x1 : Int32} (hV : LayT V ld dr) {r : Int32} (h : f_X7_fits mi ld x1 = some r) : DoI g YX7_fits V [rf g 0, .int x1] mi ml r mi ml := by
  unfold f_X7_fits at h
  refine does_of (L := [some (rf g 0), some (.int x1)]) okX7_fits rfl (Nat.le_of_ble_eq_true rfl) rfl ?_
  show At g YX7_fits _ (qm g YX7_fits (pI V r mi ml)) V (0, 0) 0 _ [] mi ml
  refine a_iload iX7_fits_0 rfl <| a_const iX7_fits_1 <| a_const iX7_fits_2 <| ?_
  obtain ⟨r1, he2, h⟩ := ob h
  refine a_cSi iX7_fits_3 okX7_isWithin stX7_isWithin ⟨rfl, rfl⟩ (c_X7_isWithin he2) rfl rfl (Nat.le_of_ble_eq_true rfl) ⟨Nat.le_refl 0, Nat.le_refl 0⟩ <| ?_
  refine a_if_ne iX7_fits_6 (fun hc3 => ?_) (fun hc3 => ?_)
  · have h := oe hc3 h
    refine a_iload iX7_fits_12 rfl <| ?_
    refine a_if_ne iX7_fits_13 (fun hc4 => ?_) (fun hc4 => ?_)
    · have h := oe hc4 h
      refine a_aload iX7_fits_34 rfl <| a_getr iX7_fits_35 (lt_s0 hV) rfl (lt_r0_4 hV) <| a_aload iX7_fits_38 rfl <| a_getr iX7_fits_39 (lt_s0 hV) rfl (lt_r0_9 hV) <| a_aload iX7_fits_42 rfl <| a_getr iX7_fits_43 (lt_s0 hV) rfl (lt_r0_2 hV) <| ?_
      obtain ⟨r5, he6, h⟩ := ob h
      refine a_cVi iX7_fits_46 okX3_leastFit inX3_leastFit ⟨rfl, rfl⟩ (lt_s199 hV) (c_X3_leastFit hV (lt_ld hV) (lt_e11 hV) he6) rfl rfl (Nat.le_of_ble_eq_true rfl) ⟨Nat.le_refl 0, Nat.le_refl 0⟩ <| ?_
      obtain rfl := Option.some.inj h
      exact a_iret iX7_fits_49 rfl ⟨Nat.le_refl 0, Nat.le_refl 0⟩ ⟨rfl, rfl, rfl, rfl⟩
    · have h := ot hc4 h
      refine a_aload iX7_fits_16 rfl <| a_getr iX7_fits_17 (lt_s0 hV) rfl (lt_r0_4 hV) <| a_aload iX7_fits_20 rfl <| a_getr iX7_fits_21 (lt_s0 hV) rfl (lt_r0_9 hV) <| a_aload iX7_fits_24 rfl <| a_getr iX7_fits_25 (lt_s0 hV) rfl (lt_r0_2 hV) <| ?_
      obtain ⟨r7, he8, h⟩ := ob h
      refine a_cVi iX7_fits_28 okX3_fitCount inX3_fitCount ⟨rfl, rfl⟩ (lt_s199 hV) (c_X3_fitCount hV (lt_ld hV) (lt_e11 hV) he8) rfl rfl (Nat.le_of_ble_eq_true rfl) ⟨Nat.le_refl 0, Nat.le_refl 0⟩ <| a_goto iX7_fits_31 <| ?_
      obtain rfl := Option.some.inj h
      exact a_iret iX7_fits_49 rfl ⟨Nat.le_refl 0, Nat.le_refl 0⟩ ⟨rfl, rfl, rfl, rfl⟩
  · have h := ot hc3 h
    refine a_const iX7_fits_9 <| ?_
    obtain rfl := Option.some.inj h
    exact a_iret iX7_fits_11 rfl ⟨Nat.le_refl 0, Nat.le_refl 0⟩ ⟨rfl, rfl, rfl, rfl⟩
def lp_X7_lookAt_20 (ld : Nat) (K : Int32 → Int32 → Int32 → Mi → Option (Int32 × Mi)) : Nat → Int32 → Int32 → Int32 → Mi → Option (Int32 × Mi)
  | 0, _, _, _, _ => none
  | n + 1, v1, v2, v3, mi => if (mi ld 5) ≤ v3 then (K v1 v2 v3 mi) else ((f_X3_greatestPart mi ld 11 v3).bind (fun q7 => if v1 ≤ q7.1 then (lp_X7_lookAt_20 ld K n v1 v2 (v3 + 1) q7.2) else (lp_X7_lookAt_20 ld K n q7.1 v3 (v3 + 1) q7.2)))
def f_X7_lookAt (mi : Mi) (ld : Nat) : Option (Int32 × Mi) := (f_X3_fitCount mi ld 11).bind (fun r1 => lp_X7_lookAt_20 ld (fun v1_9 v2_9 v3_9 mi9 => some (v2_9, mi9)) FU r1 (-1) 0 mi)
set_option maxRecDepth 20000 in
set_option maxHeartbeats 4000000 in
theorem w_X7_lookAt_20 {g : Gm} {V : Vw} {E : Ex} {ld dr : Nat} {ml : Ml} (hV : LayT V ld dr) {K : Int32 → Int32 → Int32 → Mi → Option (Int32 × Mi)} {r : Int32 × Mi} (hK : ∀ (v1 : Int32) (v2 : Int32) (v3 : Int32) (mi : Mi), K v1 v2 v3 mi = some r → At g YX7_lookAt E (qm g YX7_lookAt (pI V (r.1) (r.2) ml)) V (0, 0) 66 [some (rf g 0), some (.int v1), some (.int v2), some (.int v3), none] [] mi ml) : ∀ (n : Nat) (v1 : Int32) (v2 : Int32) (v3 : Int32) (mi : Mi), lp_X7_lookAt_20 ld K n v1 v2 v3 mi = some r → At g YX7_lookAt E (qm g YX7_lookAt (pI V (r.1) (r.2) ml)) V (0, 0) 20 [some (rf g 0), some (.int v1), some (.int v2), some (.int v3), none] [] mi ml := by
  intro n
  induction n with
  | zero => intro v1 v2 v3 mi h; exact oz h
  | succ n ih =>
    intro v1 v2 v3 mi h
    unfold lp_X7_lookAt_20 at h
    refine a_iload iX7_lookAt_20 rfl <| a_aload iX7_lookAt_21 rfl <| a_getr iX7_lookAt_22 (lt_s0 hV) rfl (lt_r0_9 hV) <| a_geti iX7_lookAt_25 (lt_ld hV).1 rfl <| ?_
    refine a_icmp_ge iX7_lookAt_28 (fun hc3 => ?_) (fun hc3 => ?_)
    · have h := ot hc3 h
      exact a_sub (L' := [some (rf g 0), some (.int v1), some (.int v2), some (.int v3), none]) (by exact ⟨rfl, ⟨rfl, ⟨rfl, ⟨rfl, trivial⟩⟩⟩⟩) (hK _ _ _ _ h)
    · have h := oe hc3 h
      refine a_aload iX7_lookAt_31 rfl <| a_getr iX7_lookAt_32 (lt_s0 hV) rfl (lt_r0_4 hV) <| a_aload iX7_lookAt_35 rfl <| a_getr iX7_lookAt_36 (lt_s0 hV) rfl (lt_r0_9 hV) <| a_aload iX7_lookAt_39 rfl <| a_getr iX7_lookAt_40 (lt_s0 hV) rfl (lt_r0_2 hV) <| a_iload iX7_lookAt_43 rfl <| ?_
      obtain ⟨⟨r4, mi5⟩, he6, h⟩ := ob h
      refine a_cVi iX7_lookAt_44 okX3_greatestPart inX3_greatestPart ⟨rfl, rfl⟩ (lt_s199 hV) (c_X3_greatestPart hV (lt_ld hV) (lt_e11 hV) he6) rfl rfl (Nat.le_of_ble_eq_true rfl) ⟨Nat.le_refl 0, Nat.le_refl 0⟩ <| a_istore iX7_lookAt_47 (by decide) rfl <| a_iload iX7_lookAt_49 rfl <| a_iload iX7_lookAt_51 rfl <| ?_
      refine a_icmp_ge iX7_lookAt_52 (fun hc8 => ?_) (fun hc8 => ?_)
      · have h := ot hc8 h
        refine a_iinc iX7_lookAt_60 rfl (by decide) rfl <| a_goto iX7_lookAt_63 <| ?_
        exact a_sub (L' := [some (rf g 0), some (.int v1), some (.int v2), some (.int (v3 + 1)), none]) (by exact ⟨rfl, ⟨rfl, ⟨rfl, ⟨rfl, trivial⟩⟩⟩⟩) (ih _ _ _ _ h)
      · have h := oe hc8 h
        refine a_iload iX7_lookAt_55 rfl <| a_istore iX7_lookAt_57 (by decide) rfl <| a_iload iX7_lookAt_58 rfl <| a_istore iX7_lookAt_59 (by decide) rfl <| a_iinc iX7_lookAt_60 rfl (by decide) rfl <| a_goto iX7_lookAt_63 <| ?_
        exact a_sub (L' := [some (rf g 0), some (.int r4), some (.int v3), some (.int (v3 + 1)), none]) (by exact ⟨rfl, ⟨rfl, ⟨rfl, ⟨rfl, trivial⟩⟩⟩⟩) (ih _ _ _ _ h)
set_option maxRecDepth 20000 in
set_option maxHeartbeats 4000000 in
theorem c_X7_lookAt {g : Gm} {V : Vw} {mi : Mi} {ml : Ml} {ld dr : Nat} (hV : LayT V ld dr) {r : Int32 × Mi} (h : f_X7_lookAt mi ld = some r) : DoI g YX7_lookAt V [rf g 0] mi ml (r.1) (r.2) ml := by
  unfold f_X7_lookAt at h
  refine does_of (L := [some (rf g 0), none, none, none, none]) okX7_lookAt rfl (Nat.le_of_ble_eq_true rfl) rfl ?_
  show At g YX7_lookAt _ (qm g YX7_lookAt (pI V (r.1) (r.2) ml)) V (0, 0) 0 _ [] mi ml
  refine a_aload iX7_lookAt_0 rfl <| a_getr iX7_lookAt_1 (lt_s0 hV) rfl (lt_r0_4 hV) <| a_aload iX7_lookAt_4 rfl <| a_getr iX7_lookAt_5 (lt_s0 hV) rfl (lt_r0_9 hV) <| a_aload iX7_lookAt_8 rfl <| a_getr iX7_lookAt_9 (lt_s0 hV) rfl (lt_r0_2 hV) <| ?_
  obtain ⟨r1, he2, h⟩ := ob h
  refine a_cVi iX7_lookAt_12 okX3_fitCount inX3_fitCount ⟨rfl, rfl⟩ (lt_s199 hV) (c_X3_fitCount hV (lt_ld hV) (lt_e11 hV) he2) rfl rfl (Nat.le_of_ble_eq_true rfl) ⟨Nat.le_refl 0, Nat.le_refl 0⟩ <| a_istore iX7_lookAt_15 (by decide) rfl <| a_const iX7_lookAt_16 <| a_istore iX7_lookAt_17 (by decide) rfl <| a_const iX7_lookAt_18 <| a_istore iX7_lookAt_19 (by decide) rfl <| ?_
  refine a_sub (L' := [some (rf g 0), some (.int r1), some (.int (-1)), some (.int 0), none]) (by exact ⟨rfl, ⟨rfl, ⟨rfl, ⟨rfl, trivial⟩⟩⟩⟩) (w_X7_lookAt_20 hV (fun v1_9 v2_9 v3_9 mi9 h => ?_) FU _ _ _ _ h)
  refine a_iload iX7_lookAt_66 rfl <| ?_
  obtain rfl := Option.some.inj h
  exact a_iret iX7_lookAt_67 rfl ⟨Nat.le_refl 0, Nat.le_refl 0⟩ ⟨rfl, rfl, rfl, rfl⟩
def f_X7_write (mi : Mi) (ld : Nat) (x1 x2 : Int32) : Option (Int32 × Mi) := (f_X7_isThing mi ld x1).bind (fun r1 => if r1 = 0 then (some ((-1000000001), mi)) else ((f_X7_isValue x2).bind (fun r4 => if r4 = 0 then (some ((-1000000002), mi)) else (if (mi 204 2) < 20 then ((f_X0_add mi x1 x2).bind (fun mi8 => some (mi8 204 2, mi8))) else (some ((-1000000004), mi))))))
set_option maxRecDepth 20000 in
set_option maxHeartbeats 4000000 in
theorem c_X7_write {g : Gm} {V : Vw} {mi : Mi} {ml : Ml} {ld dr : Nat} {x1 x2 : Int32} (hV : LayT V ld dr) {r : Int32 × Mi} (h : f_X7_write mi ld x1 x2 = some r) : DoI g YX7_write V [rf g 0, .int x1, .int x2] mi ml (r.1) (r.2) ml := by
  unfold f_X7_write at h
  refine does_of (L := [some (rf g 0), some (.int x1), some (.int x2)]) okX7_write rfl (Nat.le_of_ble_eq_true rfl) rfl ?_
  show At g YX7_write _ (qm g YX7_write (pI V (r.1) (r.2) ml)) V (0, 0) 0 _ [] mi ml
  refine a_aload iX7_write_0 rfl <| a_iload iX7_write_1 rfl <| ?_
  obtain ⟨r1, he2, h⟩ := ob h
  refine a_cVi iX7_write_2 okX7_isThing inX7_isThing ⟨rfl, rfl⟩ (lt_s0 hV) (c_X7_isThing hV he2) rfl rfl (Nat.le_of_ble_eq_true rfl) ⟨Nat.le_refl 0, Nat.le_refl 0⟩ <| ?_
  refine a_if_ne iX7_write_5 (fun hc3 => ?_) (fun hc3 => ?_)
  · have h := oe hc3 h
    refine a_iload iX7_write_11 rfl <| ?_
    obtain ⟨r4, he5, h⟩ := ob h
    refine a_cSi iX7_write_12 okX7_isValue stX7_isValue ⟨rfl, rfl⟩ (c_X7_isValue he5) rfl rfl (Nat.le_of_ble_eq_true rfl) ⟨Nat.le_refl 0, Nat.le_refl 0⟩ <| ?_
    refine a_if_ne iX7_write_15 (fun hc6 => ?_) (fun hc6 => ?_)
    · have h := oe hc6 h
      refine a_aload iX7_write_21 rfl <| a_getr iX7_write_22 (lt_s0 hV) rfl (lt_r0_5 hV) <| a_geti iX7_write_25 (lt_s204 hV) rfl <| a_const iX7_write_28 <| ?_
      refine a_icmp_lt iX7_write_30 (fun hc7 => ?_) (fun hc7 => ?_)
      · have h := ot hc7 h
        refine a_aload iX7_write_36 rfl <| a_getr iX7_write_37 (lt_s0 hV) rfl (lt_r0_5 hV) <| a_iload iX7_write_40 rfl <| a_iload iX7_write_41 rfl <| ?_
        obtain ⟨mi8, he9, h⟩ := ob h
        refine a_cVv iX7_write_42 okX0_add inX0_add ⟨rfl, rfl⟩ (lt_s204 hV) (c_X0_add hV he9) rfl rfl (Nat.le_of_ble_eq_true rfl) ⟨Nat.le_refl 0, Nat.le_refl 0⟩ <| a_aload iX7_write_45 rfl <| a_getr iX7_write_46 (lt_s0 hV) rfl (lt_r0_5 hV) <| a_geti iX7_write_49 (lt_s204 hV) rfl <| ?_
        obtain rfl := Option.some.inj h
        exact a_iret iX7_write_52 rfl ⟨Nat.le_refl 0, Nat.le_refl 0⟩ ⟨rfl, rfl, rfl, rfl⟩
      · have h := oe hc7 h
        refine a_const iX7_write_33 <| ?_
        obtain rfl := Option.some.inj h
        exact a_iret iX7_write_35 rfl ⟨Nat.le_refl 0, Nat.le_refl 0⟩ ⟨rfl, rfl, rfl, rfl⟩
    · have h := ot hc6 h
      refine a_const iX7_write_18 <| ?_
      obtain rfl := Option.some.inj h
      exact a_iret iX7_write_20 rfl ⟨Nat.le_refl 0, Nat.le_refl 0⟩ ⟨rfl, rfl, rfl, rfl⟩
  · have h := ot hc3 h
    refine a_const iX7_write_8 <| ?_
    obtain rfl := Option.some.inj h
    exact a_iret iX7_write_10 rfl ⟨Nat.le_refl 0, Nat.le_refl 0⟩ ⟨rfl, rfl, rfl, rfl⟩
def f_X7_judge (mi : Mi) : Option (Int32) := (f_X0_firstWrong mi 11).bind (fun r1 => some r1)
set_option maxRecDepth 20000 in
set_option maxHeartbeats 4000000 in
theorem c_X7_judge {g : Gm} {V : Vw} {mi : Mi} {ml : Ml} {ld dr : Nat} (hV : LayT V ld dr) {r : Int32} (h : f_X7_judge mi = some r) : DoI g YX7_judge V [rf g 0] mi ml r mi ml := by
  unfold f_X7_judge at h
  refine does_of (L := [some (rf g 0)]) okX7_judge rfl (Nat.le_of_ble_eq_true rfl) rfl ?_
  show At g YX7_judge _ (qm g YX7_judge (pI V r mi ml)) V (0, 0) 0 _ [] mi ml
  refine a_aload iX7_judge_0 rfl <| a_getr iX7_judge_1 (lt_s0 hV) rfl (lt_r0_5 hV) <| a_aload iX7_judge_4 rfl <| a_getr iX7_judge_5 (lt_s0 hV) rfl (lt_r0_2 hV) <| ?_
  obtain ⟨r1, he2, h⟩ := ob h
  refine a_cVi iX7_judge_8 okX0_firstWrong inX0_firstWrong ⟨rfl, rfl⟩ (lt_s204 hV) (c_X0_firstWrong hV (lt_e11 hV) he2) rfl rfl (Nat.le_of_ble_eq_true rfl) ⟨Nat.le_refl 0, Nat.le_refl 0⟩ <| ?_
  obtain rfl := Option.some.inj h
  exact a_iret iX7_judge_11 rfl ⟨Nat.le_refl 0, Nat.le_refl 0⟩ ⟨rfl, rfl, rfl, rfl⟩
def f_X7_tear (mi : Mi) : Option (Int32 × Mi) := some ((mi 199 4) + (mi 204 2), u2 (u2 mi 199 4 0) 204 2 0)
set_option maxRecDepth 20000 in
set_option maxHeartbeats 4000000 in
theorem c_X7_tear {g : Gm} {V : Vw} {mi : Mi} {ml : Ml} {ld dr : Nat} (hV : LayT V ld dr) {r : Int32 × Mi} (h : f_X7_tear mi = some r) : DoI g YX7_tear V [rf g 0] mi ml (r.1) (r.2) ml := by
  unfold f_X7_tear at h
  refine does_of (L := [some (rf g 0), none]) okX7_tear rfl (Nat.le_of_ble_eq_true rfl) rfl ?_
  show At g YX7_tear _ (qm g YX7_tear (pI V (r.1) (r.2) ml)) V (0, 0) 0 _ [] mi ml
  refine a_aload iX7_tear_0 rfl <| a_getr iX7_tear_1 (lt_s0 hV) rfl (lt_r0_4 hV) <| a_geti iX7_tear_4 (lt_s199 hV) rfl <| a_aload iX7_tear_7 rfl <| a_getr iX7_tear_8 (lt_s0 hV) rfl (lt_r0_5 hV) <| a_geti iX7_tear_11 (lt_s204 hV) rfl <| a_iadd iX7_tear_14 <| a_istore iX7_tear_15 (by decide) rfl <| ?_
  refine a_aload iX7_tear_16 rfl <| a_getr iX7_tear_17 (lt_s0 hV) rfl (lt_r0_4 hV) <| a_const iX7_tear_20 <| a_puti iX7_tear_21 (lt_s199 hV) rfl rfl rfl <| a_aload iX7_tear_24 rfl <| a_getr iX7_tear_25 (lt_s0 hV) rfl (lt_r0_5 hV) <| a_const iX7_tear_28 <| a_puti iX7_tear_29 (lt_s204 hV) rfl rfl rfl <| ?_
  refine a_iload iX7_tear_32 rfl <| ?_
  obtain rfl := Option.some.inj h
  exact a_iret iX7_tear_33 rfl ⟨Nat.le_refl 0, Nat.le_refl 0⟩ ⟨rfl, rfl, rfl, rfl⟩
def f_X7_seed (mi : Mi) (x1 : Int32) : Option (Int32 × Mi) := if 0 ≤ x1 then (some (mi 0 11, u2 mi 0 11 x1)) else (some ((-1000000002), mi))
set_option maxRecDepth 20000 in
set_option maxHeartbeats 4000000 in
theorem c_X7_seed {g : Gm} {V : Vw} {mi : Mi} {ml : Ml} {ld dr : Nat} {x1 : Int32} (hV : LayT V ld dr) {r : Int32 × Mi} (h : f_X7_seed mi x1 = some r) : DoI g YX7_seed V [rf g 0, .int x1] mi ml (r.1) (r.2) ml := by
  unfold f_X7_seed at h
  refine does_of (L := [some (rf g 0), some (.int x1), none]) okX7_seed rfl (Nat.le_of_ble_eq_true rfl) rfl ?_
  show At g YX7_seed _ (qm g YX7_seed (pI V (r.1) (r.2) ml)) V (0, 0) 0 _ [] mi ml
  refine a_iload iX7_seed_0 rfl <| ?_
  refine a_if_ge iX7_seed_1 (fun hc1 => ?_) (fun hc1 => ?_)
  · have h := ot hc1 h
    refine a_aload iX7_seed_7 rfl <| a_geti iX7_seed_8 (lt_s0 hV) rfl <| a_istore iX7_seed_11 (by decide) rfl <| a_aload iX7_seed_12 rfl <| a_iload iX7_seed_13 rfl <| a_puti iX7_seed_14 (lt_s0 hV) rfl rfl rfl <| a_iload iX7_seed_17 rfl <| ?_
    obtain rfl := Option.some.inj h
    exact a_iret iX7_seed_18 rfl ⟨Nat.le_refl 0, Nat.le_refl 0⟩ ⟨rfl, rfl, rfl, rfl⟩
  · have h := oe hc1 h
    refine a_const iX7_seed_4 <| ?_
    obtain rfl := Option.some.inj h
    exact a_iret iX7_seed_6 rfl ⟨Nat.le_refl 0, Nat.le_refl 0⟩ ⟨rfl, rfl, rfl, rfl⟩
def f_X7_keep (mi : Mi) (x1 : Int32) : Option (Int32 × Mi) := (f_X7_isImage x1).bind (fun r1 => if r1 = 0 then (some ((-1000000001), mi)) else (if inb x1 2 then (f_X2_copyOf mi (217 + 6 * x1.toNatClampNeg) 11).bind (fun mi5 => if inb x1 2 then if inb x1 2 then (f_X4_forget (u2 (u2 mi5 208 x1.toNatClampNeg (mi5 0 11)) 209 x1.toNatClampNeg 1)).bind (fun mi9 => some (1, mi9)) else none else none) else none))
set_option maxRecDepth 20000 in
set_option maxHeartbeats 4000000 in
theorem c_X7_keep {g : Gm} {V : Vw} {mi : Mi} {ml : Ml} {ld dr : Nat} {x1 : Int32} (hV : LayT V ld dr) {r : Int32 × Mi} (h : f_X7_keep mi x1 = some r) : DoI g YX7_keep V [rf g 0, .int x1] mi ml (r.1) (r.2) ml := by
  unfold f_X7_keep at h
  refine does_of (L := [some (rf g 0), some (.int x1)]) okX7_keep rfl (Nat.le_of_ble_eq_true rfl) rfl ?_
  show At g YX7_keep _ (qm g YX7_keep (pI V (r.1) (r.2) ml)) V (0, 0) 0 _ [] mi ml
  refine a_iload iX7_keep_0 rfl <| ?_
  obtain ⟨r1, he2, h⟩ := ob h
  refine a_cSi iX7_keep_1 okX7_isImage stX7_isImage ⟨rfl, rfl⟩ (c_X7_isImage he2) rfl rfl (Nat.le_of_ble_eq_true rfl) ⟨Nat.le_refl 0, Nat.le_refl 0⟩ <| ?_
  refine a_if_ne iX7_keep_4 (fun hc3 => ?_) (fun hc3 => ?_)
  · have h := oe hc3 h
    refine a_aload iX7_keep_10 rfl <| a_getr iX7_keep_11 (lt_s0 hV) rfl (lt_r0_6 hV) <| a_iload iX7_keep_14 rfl <| ?_
    obtain ⟨hg4, h⟩ := og h
    refine a_aald iX7_keep_15 (lt_s207 hV) (inb_vp hg4) (lt_a207 hV _ hg4.2).1 <| a_aload iX7_keep_16 rfl <| a_getr iX7_keep_17 (lt_s0 hV) rfl (lt_r0_2 hV) <| ?_
    obtain ⟨mi5, he6, h⟩ := ob h
    refine a_cVv iX7_keep_20 okX2_copyOf inX2_copyOf ⟨rfl, rfl⟩ (lt_a207 hV _ hg4.2).2.1 (c_X2_copyOf (lt_a207 hV _ hg4.2).2 (lt_e11 hV) (lt_fl hV) he6) rfl rfl (Nat.le_of_ble_eq_true rfl) ⟨Nat.le_refl 0, Nat.le_refl 0⟩ <| a_aload iX7_keep_23 rfl <| a_getr iX7_keep_24 (lt_s0 hV) rfl (lt_r0_7 hV) <| a_iload iX7_keep_27 rfl <| a_aload iX7_keep_28 rfl <| a_geti iX7_keep_29 (lt_s0 hV) rfl <| ?_
    obtain ⟨hg7, h⟩ := og h
    refine a_iast iX7_keep_32 (lt_s208 hV) (inb_vp hg7) <| a_aload iX7_keep_33 rfl <| a_getr iX7_keep_34 (lt_s0 hV) rfl (lt_r0_8 hV) <| a_iload iX7_keep_37 rfl <| a_const iX7_keep_38 <| ?_
    obtain ⟨hg8, h⟩ := og h
    refine a_zast iX7_keep_39 (lt_s209 hV) (inb_vp hg8) rfl <| a_aload iX7_keep_40 rfl <| a_getr iX7_keep_41 (lt_s0 hV) rfl (lt_r0_3 hV) <| ?_
    obtain ⟨mi9, he10, h⟩ := ob h
    refine a_cVv iX7_keep_44 okX4_forget inX4_forget ⟨rfl, rfl⟩ (lt_s17 hV) (c_X4_forget hV he10) rfl rfl (Nat.le_of_ble_eq_true rfl) ⟨Nat.le_refl 0, Nat.le_refl 0⟩ <| a_const iX7_keep_47 <| ?_
    obtain rfl := Option.some.inj h
    exact a_iret iX7_keep_48 rfl ⟨Nat.le_refl 0, Nat.le_refl 0⟩ ⟨rfl, rfl, rfl, rfl⟩
  · have h := ot hc3 h
    refine a_const iX7_keep_7 <| ?_
    obtain rfl := Option.some.inj h
    exact a_iret iX7_keep_9 rfl ⟨Nat.le_refl 0, Nat.le_refl 0⟩ ⟨rfl, rfl, rfl, rfl⟩
def f_X7_goBack (mi : Mi) (x1 : Int32) : Option (Int32 × Mi) := (f_X7_isImage x1).bind (fun r1 => if r1 = 0 then (some ((-1000000001), mi)) else (if inb x1 2 then if (mi 209 x1.toNatClampNeg) = 0 then (some ((-1000000003), mi)) else (if inb x1 2 then (f_X2_copyOf mi 11 (217 + 6 * x1.toNatClampNeg)).bind (fun mi7 => if inb x1 2 then (f_X4_forget (u2 mi7 0 11 (mi7 208 x1.toNatClampNeg))).bind (fun mi10 => some (1, mi10)) else none) else none) else none))
set_option maxRecDepth 20000 in
set_option maxHeartbeats 4000000 in
theorem c_X7_goBack {g : Gm} {V : Vw} {mi : Mi} {ml : Ml} {ld dr : Nat} {x1 : Int32} (hV : LayT V ld dr) {r : Int32 × Mi} (h : f_X7_goBack mi x1 = some r) : DoI g YX7_goBack V [rf g 0, .int x1] mi ml (r.1) (r.2) ml := by
  unfold f_X7_goBack at h
  refine does_of (L := [some (rf g 0), some (.int x1)]) okX7_goBack rfl (Nat.le_of_ble_eq_true rfl) rfl ?_
  show At g YX7_goBack _ (qm g YX7_goBack (pI V (r.1) (r.2) ml)) V (0, 0) 0 _ [] mi ml
  refine a_iload iX7_goBack_0 rfl <| ?_
  obtain ⟨r1, he2, h⟩ := ob h
  refine a_cSi iX7_goBack_1 okX7_isImage stX7_isImage ⟨rfl, rfl⟩ (c_X7_isImage he2) rfl rfl (Nat.le_of_ble_eq_true rfl) ⟨Nat.le_refl 0, Nat.le_refl 0⟩ <| ?_
  refine a_if_ne iX7_goBack_4 (fun hc3 => ?_) (fun hc3 => ?_)
  · have h := oe hc3 h
    refine a_aload iX7_goBack_10 rfl <| a_getr iX7_goBack_11 (lt_s0 hV) rfl (lt_r0_8 hV) <| a_iload iX7_goBack_14 rfl <| ?_
    obtain ⟨hg4, h⟩ := og h
    refine a_zald iX7_goBack_15 (lt_s209 hV) (inb_vp hg4) <| ?_
    refine a_if_ne iX7_goBack_16 (fun hc5 => ?_) (fun hc5 => ?_)
    · have h := oe hc5 h
      refine a_aload iX7_goBack_22 rfl <| a_getr iX7_goBack_23 (lt_s0 hV) rfl (lt_r0_2 hV) <| a_aload iX7_goBack_26 rfl <| a_getr iX7_goBack_27 (lt_s0 hV) rfl (lt_r0_6 hV) <| a_iload iX7_goBack_30 rfl <| ?_
      obtain ⟨hg6, h⟩ := og h
      refine a_aald iX7_goBack_31 (lt_s207 hV) (inb_vp hg6) (lt_a207 hV _ hg6.2).1 <| ?_
      obtain ⟨mi7, he8, h⟩ := ob h
      refine a_cVv iX7_goBack_32 okX2_copyOf inX2_copyOf ⟨rfl, rfl⟩ (lt_e11 hV).1 (c_X2_copyOf (lt_e11 hV) (lt_a207 hV _ hg6.2).2 (lt_fl hV) he8) rfl rfl (Nat.le_of_ble_eq_true rfl) ⟨Nat.le_refl 0, Nat.le_refl 0⟩ <| a_aload iX7_goBack_35 rfl <| a_aload iX7_goBack_36 rfl <| a_getr iX7_goBack_37 (lt_s0 hV) rfl (lt_r0_7 hV) <| a_iload iX7_goBack_40 rfl <| ?_
      obtain ⟨hg9, h⟩ := og h
      refine a_iald iX7_goBack_41 (lt_s208 hV) (inb_vp hg9) <| a_puti iX7_goBack_42 (lt_s0 hV) rfl rfl rfl <| a_aload iX7_goBack_45 rfl <| a_getr iX7_goBack_46 (lt_s0 hV) rfl (lt_r0_3 hV) <| ?_
      obtain ⟨mi10, he11, h⟩ := ob h
      refine a_cVv iX7_goBack_49 okX4_forget inX4_forget ⟨rfl, rfl⟩ (lt_s17 hV) (c_X4_forget hV he11) rfl rfl (Nat.le_of_ble_eq_true rfl) ⟨Nat.le_refl 0, Nat.le_refl 0⟩ <| a_const iX7_goBack_52 <| ?_
      obtain rfl := Option.some.inj h
      exact a_iret iX7_goBack_53 rfl ⟨Nat.le_refl 0, Nat.le_refl 0⟩ ⟨rfl, rfl, rfl, rfl⟩
    · have h := ot hc5 h
      refine a_const iX7_goBack_19 <| ?_
      obtain rfl := Option.some.inj h
      exact a_iret iX7_goBack_21 rfl ⟨Nat.le_refl 0, Nat.le_refl 0⟩ ⟨rfl, rfl, rfl, rfl⟩
  · have h := ot hc3 h
    refine a_const iX7_goBack_7 <| ?_
    obtain rfl := Option.some.inj h
    exact a_iret iX7_goBack_9 rfl ⟨Nat.le_refl 0, Nat.le_refl 0⟩ ⟨rfl, rfl, rfl, rfl⟩
