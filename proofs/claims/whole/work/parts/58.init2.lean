/-! 58: leaf constructors, by wip/gen/ctor.py -/
section Grow
variable {g : Gm} {Y Y' : Ym} {E : Ex} {QF : Qf} {V : Vw} {k : Nat × Nat} {p1 p2 p3 p4 p5 : Nat} {L : List (Option Value)} {st st0 : List Value} {mi : Mi} {ml : Ml} {Post : Ps}
theorem a_arrZ {i a kd f N : Nat} {x : Int32} (c1 : c_al Y p1 a p2) (h1 : L[a]? = some (some (rf g i))) (c2 : c_ic Y p2 x p3) (c3 : decode Y.2.1 p3 = .ok (.newarray .boolean, 2) ∧ p4 = p3 + 2) (c4 : c_pf Y p4 kd f p5) (hfl : V.2.2.2 = true) (hx : ¬ x < 0) (hN : x.toNatClampNeg = N) (hb : N ≤ 100000) (hk : k.1 + 1 ≤ Y.2.2.2.2.cells ∧ k.2 + N ≤ Y.2.2.2.2.slots) (hs : V.2.1 i = (kd, 0)) (hi : i < V.1) (ht : isR (fty kd f) = true)
    (kk : At g Y E QF (st1 V (10, N) i f) (k.1 + 1, k.2 + N) p5 L st (ur mi V.1 (fun _ => 0)) (ur ml V.1 (fun _ => 0))) : At g Y E QF V k p1 L st mi ml := by
  refine a_aload c1 h1 <| a_const c2 <| a_newZ c3 hfl hx hN hb hk ?_
  exact a_putr c4 (by show va_up V.2.1 V.1 (10, N) i = _; rw [va_up_ne _ _ (by omega)]; exact hs) ht kk
end Grow
theorem c_X6_init {g : Gm} {V : Vw} {mi : Mi} {ml : Ml} {i : Nat} (hs : V.2.1 i = (6, 0)) (hfl : V.2.2.2 = true) (hn : V.1 = i + 1) : Does g YX6_init V [rf g i] mi ml (fun v V1 m1 l1 => v = none ∧ V1.1 = i + 2 ∧ GR i V mi ml V1 m1 l1 ∧ V1.2.1 (i + 1) = (9, 240) ∧ V1.2.2.1 i 0 = some (i + 1)) := by
  refine does_of (L := [some (rf g i)]) okX6_init rfl (Nat.le_of_ble_eq_true rfl) rfl ?_
  refine a_aload iX6_init_0 rfl <| a_objInit iX6_init_1 (by decide) <| ?_
  refine a_arrI (N := 240) iX6_init_4 rfl iX6_init_5 iX6_init_8 iX6_init_10 hfl (by decide) rfl (by decide) (by decide) hs (by omega) rfl ?_
  refine a_vret iX6_init_13 rfl ⟨Nat.le_of_ble_eq_true rfl, Nat.le_of_ble_eq_true rfl⟩ ⟨rfl, ?_, ((GR.rf hfl).arr), ?_⟩
  · simp only [st1_n]; omega
  · simp (disch := (first | omega | (simp only [st1_n]; omega))) only [st1_s, st1_o, st1_r, st1_ro, hs, st1_n, hn, and_self]
theorem c_X0_init {g : Gm} {V : Vw} {mi : Mi} {ml : Ml} {i : Nat} (hs : V.2.1 i = (0, 0)) (hfl : V.2.2.2 = true) (hn : V.1 = i + 1) : Does g YX0_init V [rf g i] mi ml (fun v V1 m1 l1 => v = none ∧ V1.1 = i + 3 ∧ GR i V mi ml V1 m1 l1 ∧ V1.2.1 (i + 1) = (9, 20) ∧ V1.2.1 (i + 2) = (9, 20) ∧ V1.2.2.1 i 0 = some (i + 1) ∧ V1.2.2.1 i 1 = some (i + 2)) := by
  refine does_of (L := [some (rf g i)]) okX0_init rfl (Nat.le_of_ble_eq_true rfl) rfl ?_
  refine a_aload iX0_init_0 rfl <| a_objInit iX0_init_1 (by decide) <| ?_
  refine a_arrI (N := 20) iX0_init_4 rfl iX0_init_5 iX0_init_7 iX0_init_9 hfl (by decide) rfl (by decide) (by decide) hs (by omega) rfl ?_
  refine a_arrI (N := 20) iX0_init_12 rfl iX0_init_13 iX0_init_15 iX0_init_17 rfl (by decide) rfl (by decide) (by decide) ((st1_o (by omega)).trans hs) (by rw [st1_n]; omega) rfl ?_
  refine a_vret iX0_init_20 rfl ⟨Nat.le_of_ble_eq_true rfl, Nat.le_of_ble_eq_true rfl⟩ ⟨rfl, ?_, (((GR.rf hfl).arr).arr), ?_⟩
  · simp only [st1_n]; omega
  · simp (disch := (first | omega | (simp only [st1_n]; omega))) only [st1_s, st1_o, st1_r, st1_ro, hs, st1_n, hn, and_self]
theorem c_X3_init {g : Gm} {V : Vw} {mi : Mi} {ml : Ml} {i : Nat} (hs : V.2.1 i = (3, 0)) (hfl : V.2.2.2 = true) (hn : V.1 = i + 1) : Does g YX3_init V [rf g i] mi ml (fun v V1 m1 l1 => v = none ∧ V1.1 = i + 5 ∧ GR i V mi ml V1 m1 l1 ∧ V1.2.1 (i + 1) = (9, 6) ∧ V1.2.1 (i + 2) = (9, 6) ∧ V1.2.1 (i + 3) = (10, 6) ∧ V1.2.1 (i + 4) = (9, 10) ∧ V1.2.2.1 i 0 = some (i + 1) ∧ V1.2.2.1 i 1 = some (i + 2) ∧ V1.2.2.1 i 2 = some (i + 3) ∧ V1.2.2.1 i 3 = some (i + 4)) := by
  refine does_of (L := [some (rf g i)]) okX3_init rfl (Nat.le_of_ble_eq_true rfl) rfl ?_
  refine a_aload iX3_init_0 rfl <| a_objInit iX3_init_1 (by decide) <| ?_
  refine a_arrI (N := 6) iX3_init_4 rfl iX3_init_5 iX3_init_7 iX3_init_9 hfl (by decide) rfl (by decide) (by decide) hs (by omega) rfl ?_
  refine a_arrI (N := 6) iX3_init_12 rfl iX3_init_13 iX3_init_15 iX3_init_17 rfl (by decide) rfl (by decide) (by decide) ((st1_o (by omega)).trans hs) (by rw [st1_n]; omega) rfl ?_
  refine a_arrZ (N := 6) iX3_init_20 rfl iX3_init_21 iX3_init_23 iX3_init_25 rfl (by decide) rfl (by decide) (by decide) ((st1_o (by rw [st1_n]; omega)).trans ((st1_o (by omega)).trans hs)) (by rw [st1_n, st1_n]; omega) rfl ?_
  refine a_arrI (N := 10) iX3_init_28 rfl iX3_init_29 iX3_init_31 iX3_init_33 rfl (by decide) rfl (by decide) (by decide) ((st1_o (by rw [st1_n, st1_n]; omega)).trans ((st1_o (by rw [st1_n]; omega)).trans ((st1_o (by omega)).trans hs))) (by rw [st1_n, st1_n, st1_n]; omega) rfl ?_
  refine a_vret iX3_init_36 rfl ⟨Nat.le_of_ble_eq_true rfl, Nat.le_of_ble_eq_true rfl⟩ ⟨rfl, ?_, (((((GR.rf hfl).arr).arr).arr).arr), ?_⟩
  · simp only [st1_n]; omega
  · simp (disch := (first | omega | (simp only [st1_n]; omega))) only [st1_s, st1_o, st1_r, st1_ro, hs, st1_n, hn, and_self]
theorem c_X2_init {g : Gm} {V : Vw} {mi : Mi} {ml : Ml} {i : Nat} (hs : V.2.1 i = (2, 0)) (hfl : V.2.2.2 = true) (hn : V.1 = i + 1) : Does g YX2_init V [rf g i] mi ml (fun v V1 m1 l1 => v = none ∧ V1.1 = i + 6 ∧ GR i V mi ml V1 m1 l1 ∧ LayE V1 i) := by
  refine does_of (L := [some (rf g i)]) okX2_init rfl (Nat.le_of_ble_eq_true rfl) rfl ?_
  refine a_aload iX2_init_0 rfl <| a_objInit iX2_init_1 (by decide) <| ?_
  refine a_arrI (N := 3) iX2_init_4 rfl iX2_init_5 iX2_init_6 iX2_init_8 hfl (by decide) rfl (by decide) (by decide) hs (by omega) rfl ?_
  refine a_arrI (N := 3) iX2_init_11 rfl iX2_init_12 iX2_init_13 iX2_init_15 rfl (by decide) rfl (by decide) (by decide) ((st1_o (by omega)).trans hs) (by rw [st1_n]; omega) rfl ?_
  refine a_arrI (N := 8) iX2_init_18 rfl iX2_init_19 iX2_init_21 iX2_init_23 rfl (by decide) rfl (by decide) (by decide) ((st1_o (by rw [st1_n]; omega)).trans ((st1_o (by omega)).trans hs)) (by rw [st1_n, st1_n]; omega) rfl ?_
  refine a_arrI (N := 24) iX2_init_26 rfl iX2_init_27 iX2_init_29 iX2_init_31 rfl (by decide) rfl (by decide) (by decide) ((st1_o (by rw [st1_n, st1_n]; omega)).trans ((st1_o (by rw [st1_n]; omega)).trans ((st1_o (by omega)).trans hs))) (by rw [st1_n, st1_n, st1_n]; omega) rfl ?_
  refine a_arrI (N := 80) iX2_init_34 rfl iX2_init_35 iX2_init_37 iX2_init_39 rfl (by decide) rfl (by decide) (by decide) ((st1_o (by rw [st1_n, st1_n, st1_n]; omega)).trans ((st1_o (by rw [st1_n, st1_n]; omega)).trans ((st1_o (by rw [st1_n]; omega)).trans ((st1_o (by omega)).trans hs)))) (by rw [st1_n, st1_n, st1_n, st1_n]; omega) rfl ?_
  refine a_vret iX2_init_42 rfl ⟨Nat.le_of_ble_eq_true rfl, Nat.le_of_ble_eq_true rfl⟩ ⟨rfl, ?_, ((((((GR.rf hfl).arr).arr).arr).arr).arr), ?_⟩
  · simp only [st1_n]; omega
  · unfold LayE
    simp (disch := (first | omega | (simp only [st1_n]; omega))) only [st1_s, st1_o, st1_r, st1_ro, hs, st1_n, hn, and_self]
