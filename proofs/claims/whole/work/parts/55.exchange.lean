/-! 55: contracts of exchange and county -/
def sw (V : Vw) (ld dr : Nat) : Vw := (V.1, V.2.1, u2 (u2 V.2.2.1 3 1 (some ld)) 0 9 (some dr), V.2.2.2)
theorem sw_r {V : Vw} {ld dr a b : Nat} (h1 : ¬ (a = 0 ∧ b = 9)) (h2 : ¬ (a = 3 ∧ b = 1)) : (sw V ld dr).2.2.1 a b = V.2.2.1 a b := by
  show u2 (u2 V.2.2.1 3 1 (some ld)) 0 9 (some dr) a b = _
  rw [u2_ne2 h1, u2_ne2 h2]
theorem sw_09 {V : Vw} {ld dr : Nat} : (sw V ld dr).2.2.1 0 9 = some dr := by
  show u2 (u2 V.2.2.1 3 1 (some ld)) 0 9 (some dr) 0 9 = _
  rw [u2_s2 ⟨rfl, rfl⟩]
theorem sw_31 {V : Vw} {ld dr : Nat} : (sw V ld dr).2.2.1 3 1 = some ld := by
  show u2 (u2 V.2.2.1 3 1 (some ld)) 0 9 (some dr) 3 1 = _
  rw [u2_ne2 (by omega), u2_s2 ⟨rfl, rfl⟩]
theorem LayC.sw {V : Vw} {ld dr c : Nat} (h : LayC V c) (hc : 4 ≤ c) : LayC (sw V ld dr) c := by
  unfold LayC at *
  rw [sw_r (by omega) (by omega), sw_r (by omega) (by omega), sw_r (by omega) (by omega), sw_r (by omega) (by omega), sw_r (by omega) (by omega), sw_r (by omega) (by omega)]
  exact h
theorem LayE.sw {V : Vw} {ld dr e : Nat} (h : LayE V e) (he : 4 ≤ e) : LayE (sw V ld dr) e := by
  unfold LayE at *
  rw [sw_r (by omega) (by omega), sw_r (by omega) (by omega), sw_r (by omega) (by omega), sw_r (by omega) (by omega), sw_r (by omega) (by omega)]
  exact h
theorem LayT.sw {V : Vw} {ld dr : Nat} (h : LayT V ld dr) (h1 : 4 ≤ ld) (h2 : 4 ≤ dr) : LayT (sw V ld dr) dr ld :=
  ⟨@lt_s0 V ld dr h, @lt_s1 V ld dr h, @lt_s2 V ld dr h, @lt_s3 V ld dr h, @lt_s17 V ld dr h, @lt_s18 V ld dr h, @lt_s199 V ld dr h, @lt_s200 V ld dr h, @lt_s201 V ld dr h, @lt_s202 V ld dr h, @lt_s203 V ld dr h, @lt_s204 V ld dr h, @lt_s205 V ld dr h, @lt_s206 V ld dr h, @lt_s207 V ld dr h, @lt_s208 V ld dr h, @lt_s209 V ld dr h, (sw_r (by omega) (by omega)).trans (lt_r0_0 h), (sw_r (by omega) (by omega)).trans (lt_r0_1 h), (sw_r (by omega) (by omega)).trans (lt_r0_2 h), (sw_r (by omega) (by omega)).trans (lt_r0_3 h), (sw_r (by omega) (by omega)).trans (lt_r0_4 h), (sw_r (by omega) (by omega)).trans (lt_r0_5 h), (sw_r (by omega) (by omega)).trans (lt_r0_6 h), (sw_r (by omega) (by omega)).trans (lt_r0_7 h), (sw_r (by omega) (by omega)).trans (lt_r0_8 h), sw_09, (sw_r (by omega) (by omega)).trans (lt_r1_0 h), (sw_r (by omega) (by omega)).trans (lt_r3_0 h), sw_31, (sw_r (by omega) (by omega)).trans (lt_r17_0 h), (sw_r (by omega) (by omega)).trans (lt_r199_0 h), (sw_r (by omega) (by omega)).trans (lt_r199_1 h), (sw_r (by omega) (by omega)).trans (lt_r199_2 h), (sw_r (by omega) (by omega)).trans (lt_r199_3 h), (sw_r (by omega) (by omega)).trans (lt_r204_0 h), (sw_r (by omega) (by omega)).trans (lt_r204_1 h), (lt_e11 h).sw (by omega), fun j hj => ⟨(sw_r (by omega) (by omega)).trans (lt_a18 h j hj).1, (lt_a18 h j hj).2.sw (by omega)⟩, fun j hj => ⟨(sw_r (by omega) (by omega)).trans (lt_a207 h j hj).1, (lt_a207 h j hj).2.sw (by omega)⟩, (lt_dr h).sw h2, (lt_ld h).sw h1, @lt_fl V ld dr h⟩
theorem c_X5_exchange {g : Gm} {V : Vw} {mi : Mi} {ml : Ml} {ld dr : Nat} (hV : LayT V ld dr) : Does g YX5_exchange V [rf g 3, rf g ld] mi ml (fun v V1 m1 l1 => v = some (rf g dr) ∧ V1 = (V.1, V.2.1, u2 V.2.2.1 3 1 (some ld), V.2.2.2) ∧ m1 = mi ∧ l1 = ml) := by
  refine does_of (L := [some (rf g 3), some (rf g ld), none]) okX5_exchange rfl (Nat.le_of_ble_eq_true rfl) rfl ?_
  refine a_aload iX5_exchange_0 rfl <| a_getr iX5_exchange_1 (lt_s3 hV) rfl (lt_r3_1 hV) <| a_astore iX5_exchange_4 (by decide) rfl <| a_aload iX5_exchange_5 rfl <| a_aload iX5_exchange_6 rfl <| a_putr iX5_exchange_7 (lt_s3 hV) rfl <| a_aload iX5_exchange_10 rfl <| ?_
  exact a_aret iX5_exchange_11 rfl ⟨Nat.le_refl 0, Nat.le_refl 0⟩ ⟨rfl, rfl, rfl, rfl⟩
theorem c_X7_countyB {g : Gm} {V : Vw} {mi mi1 : Mi} {ml : Ml} {ld dr : Nat} (hV : LayT V ld dr) (h : f_X5_readAll mi dr = some (nI 0, mi1)) : DoI g YX7_county V [rf g 0] mi ml (-10 - mi1 3 3) (u2 (u2 mi1 1 1 0) 0 10 (mi1 3 4)) ml := by
  refine does_of (L := [some (rf g 0), none]) okX7_county rfl (Nat.le_of_ble_eq_true rfl) rfl ?_
  refine a_aload iX7_county_0 rfl <| a_getr iX7_county_1 (lt_s0 hV) rfl (lt_r0_1 hV) <| ?_
  refine a_cVi iX7_county_4 okX5_readAll inX5_readAll ⟨rfl, rfl⟩ (lt_s3 hV) (c_X5_readAll hV h) rfl rfl (Nat.le_of_ble_eq_true rfl) ⟨Nat.le_refl 0, Nat.le_refl 0⟩ <| a_istore iX7_county_7 (by decide) rfl <| a_aload iX7_county_8 rfl <| a_getr iX7_county_9 (lt_s0 hV) rfl (lt_r0_0 hV) <| a_const iX7_county_12 <| a_puti iX7_county_13 (lt_s1 hV) rfl rfl rfl <| ?_
  refine a_aload iX7_county_16 rfl <| a_aload iX7_county_17 rfl <| a_getr iX7_county_18 (lt_s0 hV) rfl (lt_r0_1 hV) <| a_geti iX7_county_21 (lt_s3 hV) rfl <| a_puti iX7_county_24 (lt_s0 hV) rfl rfl rfl <| a_iload iX7_county_27 rfl <| ?_
  have e4 : (u2 mi1 1 1 0) 3 4 = mi1 3 4 := u2_ne2 (by omega)
  refine a_if_ne iX7_county_28 (fun hc => absurd rfl hc) (fun _ => ?_)
  refine a_const iX7_county_31 <| a_aload iX7_county_33 rfl <| a_getr iX7_county_34 (lt_s0 hV) rfl (lt_r0_1 hV) <| a_geti iX7_county_37 (lt_s3 hV) rfl <| a_isub iX7_county_40 <| ?_
  exact a_iret iX7_county_41 rfl ⟨Nat.le_refl 0, Nat.le_refl 0⟩ ⟨by rw [u2_ne2 (by omega), u2_ne2 (by omega)], rfl, by rw [e4], rfl⟩
theorem c_X7_countyG {g : Gm} {V : Vw} {mi mi1 M2 : Mi} {ml : Ml} {ld dr : Nat} (hV : LayT V ld dr) (h1 : 4 ≤ ld) (h2 : 4 ≤ dr) (h : f_X5_readAll mi dr = some (nI 1, mi1)) (hs : f_X7_startAnew (u2 (u2 mi1 1 1 0) 0 10 (mi1 3 4)) dr = some M2) : Does g YX7_county V [rf g 0] mi ml (fun v V1 m1 l1 => v = some (.int (M2 dr 5)) ∧ V1 = sw V ld dr ∧ m1 = M2 ∧ l1 = ml) := by
  refine does_of (L := [some (rf g 0), none]) okX7_county rfl (Nat.le_of_ble_eq_true rfl) rfl ?_
  refine a_aload iX7_county_0 rfl <| a_getr iX7_county_1 (lt_s0 hV) rfl (lt_r0_1 hV) <| ?_
  refine a_cVi iX7_county_4 okX5_readAll inX5_readAll ⟨rfl, rfl⟩ (lt_s3 hV) (c_X5_readAll hV h) rfl rfl (Nat.le_of_ble_eq_true rfl) ⟨Nat.le_refl 0, Nat.le_refl 0⟩ <| a_istore iX7_county_7 (by decide) rfl <| a_aload iX7_county_8 rfl <| a_getr iX7_county_9 (lt_s0 hV) rfl (lt_r0_0 hV) <| a_const iX7_county_12 <| a_puti iX7_county_13 (lt_s1 hV) rfl rfl rfl <| ?_
  refine a_aload iX7_county_16 rfl <| a_aload iX7_county_17 rfl <| a_getr iX7_county_18 (lt_s0 hV) rfl (lt_r0_1 hV) <| a_geti iX7_county_21 (lt_s3 hV) rfl <| a_puti iX7_county_24 (lt_s0 hV) rfl rfl rfl <| a_iload iX7_county_27 rfl <| ?_
  have e4 : (u2 mi1 1 1 0) 3 4 = mi1 3 4 := u2_ne2 (by omega)
  have hs' : f_X7_startAnew (u2 (u2 mi1 1 1 0) 0 10 ((u2 mi1 1 1 0) 3 4)) dr = some M2 := by rw [e4]; exact hs
  refine a_if_ne iX7_county_28 (fun _ => ?_) (fun hc => absurd hc (show ¬ nI 1 = 0 from nI_ne0 (by omega) (by omega)))
  refine a_aload iX7_county_42 rfl <| a_aload iX7_county_43 rfl <| a_getr iX7_county_44 (lt_s0 hV) rfl (lt_r0_1 hV) <| a_aload iX7_county_47 rfl <| a_getr iX7_county_48 (lt_s0 hV) rfl (lt_r0_9 hV) <| ?_
  refine a_callV iX7_county_51.1 okX5_exchange inX5_exchange iX7_county_51.2 (lt_s3 hV) (As := [rf g ld]) (c_X5_exchange hV) rfl rfl (Nat.le_of_ble_eq_true rfl) ⟨Nat.le_refl 0, Nat.le_refl 0⟩ ?_
  intro v V1 m1 l1 hp
  obtain ⟨rfl, rfl, rfl, rfl⟩ := hp
  refine a_putr iX7_county_54 (@lt_s0 V ld dr hV) rfl ?_
  have hW : LayT (sw V ld dr) dr ld := hV.sw h1 h2
  show At g YX7_county _ _ (sw V ld dr) _ _ _ _ _ _
  refine a_aload iX7_county_57 rfl <| a_cVv iX7_county_58 okX7_startAnew inX7_startAnew ⟨rfl, rfl⟩ (lt_s0 hW) (c_X7_startAnew hW hs') rfl rfl (Nat.le_of_ble_eq_true rfl) ⟨Nat.le_refl 0, Nat.le_refl 0⟩ <| ?_
  refine a_aload iX7_county_61 rfl <| a_getr iX7_county_62 (lt_s0 hW) rfl (lt_r0_9 hW) <| a_geti iX7_county_65 (lt_ld hW).1 rfl <| ?_
  exact a_iret iX7_county_68 rfl ⟨Nat.le_refl 0, Nat.le_refl 0⟩ ⟨rfl, rfl, rfl, rfl⟩
