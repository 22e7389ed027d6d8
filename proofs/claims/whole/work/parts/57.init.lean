/-! 57: County's constructor -/
theorem c_X1_init {g : Gm} {V : Vw} {mi : Mi} {ml : Ml} {i : Nat} (hs : V.2.1 i = (1, 0)) (hfl : V.2.2.2 = true) (hn : V.1 = i + 1) : Does g YX1_init V [rf g i] mi ml (fun v V1 m1 l1 => v = none ∧ V1.1 = i + 7 ∧ GR i V mi ml V1 m1 l1 ∧ LayC V1 i) := by
  refine does_of (L := [some (rf g i)]) okX1_init rfl (Nat.le_of_ble_eq_true rfl) rfl ?_
  refine a_aload iX1_init_0 rfl <| a_objInit iX1_init_1 (by decide) <| ?_
  refine a_arrI (N := 12) iX1_init_4 rfl iX1_init_5 iX1_init_7 iX1_init_9 hfl (by decide) rfl (by decide) (by decide) hs (by omega) rfl ?_
  refine a_arrI (N := 8) iX1_init_12 rfl iX1_init_13 iX1_init_15 iX1_init_17 rfl (by decide) rfl (by decide) (by decide) ((st1_o (by omega)).trans hs) (by rw [st1_n]; omega) rfl ?_
  refine a_arrI (N := 8) iX1_init_20 rfl iX1_init_21 iX1_init_23 iX1_init_25 rfl (by decide) rfl (by decide) (by decide) ((st1_o (by rw [st1_n]; omega)).trans ((st1_o (by omega)).trans hs)) (by rw [st1_n, st1_n]; omega) rfl ?_
  refine a_arrI (N := 10) iX1_init_28 rfl iX1_init_29 iX1_init_31 iX1_init_33 rfl (by decide) rfl (by decide) (by decide) ((st1_o (by rw [st1_n, st1_n]; omega)).trans ((st1_o (by rw [st1_n]; omega)).trans ((st1_o (by omega)).trans hs))) (by rw [st1_n, st1_n, st1_n]; omega) rfl ?_
  refine a_arrI (N := 10) iX1_init_36 rfl iX1_init_37 iX1_init_39 iX1_init_41 rfl (by decide) rfl (by decide) (by decide) ((st1_o (by rw [st1_n, st1_n, st1_n]; omega)).trans ((st1_o (by rw [st1_n, st1_n]; omega)).trans ((st1_o (by rw [st1_n]; omega)).trans ((st1_o (by omega)).trans hs)))) (by rw [st1_n, st1_n, st1_n, st1_n]; omega) rfl ?_
  refine a_arrI (N := 10) iX1_init_44 rfl iX1_init_45 iX1_init_47 iX1_init_49 rfl (by decide) rfl (by decide) (by decide) ((st1_o (by rw [st1_n, st1_n, st1_n, st1_n]; omega)).trans ((st1_o (by rw [st1_n, st1_n, st1_n]; omega)).trans ((st1_o (by rw [st1_n, st1_n]; omega)).trans ((st1_o (by rw [st1_n]; omega)).trans ((st1_o (by omega)).trans hs))))) (by rw [st1_n, st1_n, st1_n, st1_n, st1_n]; omega) rfl ?_
  refine a_vret iX1_init_52 rfl ⟨Nat.le_of_ble_eq_true rfl, Nat.le_of_ble_eq_true rfl⟩ ⟨rfl, ?_, ((((((GR.rf hfl).arr).arr).arr).arr).arr).arr, ?_⟩
  · simp only [st1_n]; omega
  · unfold LayC
    simp (disch := (first | omega | (simp only [st1_n]; omega))) only [st1_s, st1_o, st1_r, st1_ro, hs, st1_n, hn, and_self]
