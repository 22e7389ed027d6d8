/-! 61: Past's constructor -/
theorem c_X4_init {g : Gm} {V : Vw} {mi : Mi} {ml : Ml} {i : Nat} (hs : V.2.1 i = (4, 0)) (hfl : V.2.2.2 = true) (hn : V.1 = i + 1) : Does g YX4_init V [rf g i] mi ml (fun v V1 m1 l1 => v = none ∧ PP V mi ml i 30 V1 m1 l1) := by
  refine does_of (L := [some (rf g i), none]) okX4_init rfl (Nat.le_of_ble_eq_true rfl) rfl ?_
  refine a_aload iX4_init_0 rfl <| a_objInit iX4_init_1 (by decide) <| a_aload iX4_init_4 rfl <| a_const iX4_init_5 <| a_newE (N := 30) iX4_init_7 hfl (by decide) rfl (by decide) (by decide) <| ?_
  refine a_putr iX4_init_10 (by show va_up V.2.1 V.1 (12, 30) i = _; rw [va_up_ne _ _ (by omega)]; exact hs) rfl <| a_const iX4_init_13 <| a_istore iX4_init_14 (by decide) rfl <| ?_
  refine w_X4_init hs hn 30 0 (st1 V (12, 30) i 0) _ _ (by omega) ⟨?_, (GR.rf hfl).arr, ?_, ?_, fun t ht => absurd ht (by omega)⟩
  · rw [st1_n]; omega
  · exact st1_s (by omega)
  · rw [st1_r ⟨rfl, rfl⟩, hn]
