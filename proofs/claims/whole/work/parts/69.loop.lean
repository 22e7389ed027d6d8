/-! 69: the start of the relation, the law's loop -/
theorem RR.start {m : Mi} {l : Ml} (z : ∀ j, j < 249 → j ≠ 0 → (j < 11 ∨ 15 < j) → j ≠ 229 → j ≠ 238 → m j = fun _ => 0) (h0 : m 0 11 = 0 ∧ m 0 10 = -1) (h229 : ∀ k, k ≠ 5 → m 229 k = 0) (h5 : m 229 5 = -1) (e0 : m 11 0 = nI 0) (e1 : m 11 1 = nI 0) (e2 : m 11 2 = nI 0) (e3 : ∀ j, j < 3 → m 12 j = nI 0 ∧ m 13 j = nI 0) (e4 : ∀ j, j < 8 → m 14 j = nI 0) (e5 : ∀ j, j < 24 → m 15 j = -nI 1) (w : ∀ b, m 238 b = if 16 ≤ b ∧ b < 40 then -1 else 0) (hl : l 229 31 = 0) : RR m m l 210 0 0 0 := by
  have z' : ∀ j k, j < 249 → j ≠ 0 → (j < 11 ∨ 15 < j) → j ≠ 229 → j ≠ 238 → m j k = nI 0 := fun j k a b c d e => by rw [z j a b c d e]; rfl
  have w0 : ∀ b, ¬ (16 ≤ b ∧ b < 40) → m 238 b = nI 0 := fun b h => by rw [w b, if_neg h]; rfl
  refine ⟨⟨?_, ?_, ?_, ?_⟩, ?_, ?_, ?_, ?_, ?_⟩
  · refine ⟨Or.inr rfl, by omega, by omega, by omega, ⟨z' 210 5 (by omega) (by omega) (by omega) (by omega) (by omega), h229 20 (by omega)⟩, ⟨z' 210 7 (by omega) (by omega) (by omega) (by omega) (by omega), h229 23 (by omega)⟩, ⟨z' 210 4 (by omega) (by omega) (by omega) (by omega) (by omega), h229 19 (by omega)⟩, ⟨?_, ?_, ?_, ?_⟩, Or.inl ⟨z' 210 0 (by omega) (by omega) (by omega) (by omega) (by omega), ?_, rfl⟩, fun k hk => absurd hk (by omega), fun k hk => absurd hk (by omega), fun k hk => absurd hk (by omega)⟩
    · rw [h229 17 (by omega), z' 210 1 (by omega) (by omega) (by omega) (by omega) (by omega)]; rfl
    · rw [h229 18 (by omega), z' 210 2 (by omega) (by omega) (by omega) (by omega) (by omega)]; rfl
    · rw [h229 21 (by omega), z' 210 3 (by omega) (by omega) (by omega) (by omega) (by omega)]; rfl
    · rw [h229 22 (by omega), z' 210 6 (by omega) (by omega) (by omega) (by omega) (by omega)]; rfl
    · rw [z' 210 2 (by omega) (by omega) (by omega) (by omega) (by omega)]; decide
  · refine ⟨⟨0, by omega, e0, w0 0 (by omega)⟩, ⟨0, by omega, e1, w0 1 (by omega)⟩, ⟨0, by omega, e2, w0 40 (by omega), fun k hk => absurd hk (by omega)⟩, fun k hk => ?_, fun k hk => ?_, fun t ht => ⟨?_, 0, by omega, e4 t ht⟩, fun k hk => ?_⟩
    · rw [w0 (2 + k) (by omega)]; exact (e3 k hk).1.symm
    · rw [w0 (5 + k) (by omega)]; exact (e3 k hk).2.symm
    · rw [w0 (8 + t) (by omega)]; exact (e4 t ht).symm
    · rw [w (16 + k), if_pos (by omega)]; exact (e5 k hk).symm
  · exact ⟨0, 0, 0, by omega, by omega, by omega, z' 17 2 (by omega) (by omega) (by omega) (by omega) (by omega), z' 17 1 (by omega) (by omega) (by omega) (by omega) (by omega), h229 28 (by omega), h229 29 (by omega), fun i hi => absurd hi (by omega)⟩
  · exact ⟨0, by omega, h0.1, hl⟩
  · exact ⟨0, by omega, z' 1 1 (by omega) (by omega) (by omega) (by omega) (by omega), h229 0 (by omega), fun k hk => absurd hk (by omega)⟩
  · rw [h5, h0.2]
  · intro i hi
    refine ⟨?_, Or.inl (z' 209 i (by omega) (by omega) (by omega) (by omega) (by omega))⟩
    rw [z' 246 i (by omega) (by omega) (by omega) (by omega) (by omega), z' 209 i (by omega) (by omega) (by omega) (by omega) (by omega)]
  · exact ⟨0, by omega, z' 199 4 (by omega) (by omega) (by omega) (by omega) (by omega), h229 32 (by omega), fun k hk => absurd hk (by omega)⟩
  · exact ⟨0, by omega, z' 204 2 (by omega) (by omega) (by omega) (by omega) (by omega), h229 37 (by omega), fun k hk => absurd hk (by omega)⟩
theorem and63 (x : Int32) : ∃ c : Nat, c < 64 ∧ x &&& 63 = nI c := by
  refine ⟨(x &&& 63).toBitVec.toNat, ?_, ?_⟩
  · rw [Int32.toBitVec_and, BitVec.toNat_and]
    exact Nat.lt_of_le_of_lt Nat.and_le_right (by decide)
  · apply Int32.toBitVec_inj.mp
    show _ = BitVec.ofNat 32 _
    simp
theorem sub6 {Ln i : Nat} (h1 : Ln ≤ 3072) (h2 : Ln < i + 6) : (nI Ln - 6).toInt < (i : Int) := by
  rcases Nat.lt_or_ge Ln 6 with q | q
  · have : (nI Ln - 6).toInt < 0 := by
      rcases (show Ln = 0 ∨ Ln = 1 ∨ Ln = 2 ∨ Ln = 3 ∨ Ln = 4 ∨ Ln = 5 by omega) with rfl | rfl | rfl | rfl | rfl | rfl <;> decide
    omega
  · have e : nI Ln - 6 = nI (Ln - 6) := by simp (disch := omega) only [fa_lit, nI_add, pk_sub, pk_mul, nI_clamp, nI_leI, nI_ltI, nI_eq, inb, u2_s2, u2_ne2, if_pos, if_neg, Option.bind_some, nx, add_n0, cO, cN, cF, cU, true_or, or_true, if_true, if_false, not_true_eq_false, not_false_eq_true, true_and, and_true]
    rw [e, nI_toInt (by omega)]
    omega
def QFL : Qf := fun below args s => lw_Z below args s
theorem l_ret {g : Gm} {nm : String} {V : Vw} {k : Nat × Nat} {L : List (Option Value)} {mi : Mi} {ml : Ml} {b Ln : Nat} {xs : Nat → Int32} (hk : k.1 ≤ 600000 ∧ k.2 ≤ 7302249) : At g (YLn nm) (EL g b Ln xs) QFL V k 1203 L [.int 1] mi ml := by
  intro p e s m args below meth c H locs ls C hE hW hS hL
  obtain ⟨h1, h2, h3, h4⟩ := hE
  subst h1
  refine va_forget (fun q hq => by have := hS.2.2 q hq; show s.heap.size ≤ q.base; rw [h4]; exact this) ?_
  exact W.widen hk.1 hk.2 (lw_ret C.1 C.2.1 C.2.2.1 C.2.2.2.2.2.2.1 iL_law_1203.1)
theorem l_loop {g : Gm} {nm : String} {b Ln : Nat} {xs : Nat → Int32} (hLn : Ln ≤ 3072) : ∀ (n i : Nat) (V : Vw) (M : Mi) (ml : Ml) (ld dr m wn sn : Nat), Ln + 1 ≤ i + n → i ≤ 3072 + 6 → LayT V ld dr → LayM V → ((ld = 4 ∧ dr = 210) ∨ (ld = 210 ∧ dr = 4)) → RR M M ml ld m wn sn →
    At g (YLn nm) (EL g b Ln xs) QFL V (249, 9132) 18 [some (.ref b), some (rf g 0), some (rf g 229), some (.int (nI i))] [] M ml := by
  intro n
  induction n with
  | zero =>
    intro i V M ml ld dr m wn sn hn hi hV hM hp hR
    refine a_iload iL_law_18 rfl <| a_aload0 iL_law_19 rfl <| l_len iL_law_20 <| a_const iL_law_21 <| a_isub iL_law_23 <| ?_
    refine a_icmp_gt iL_law_24 (fun _ => ?_) (fun h => ?_)
    · exact a_const iL_law_1202 <| l_ret ⟨show 249 ≤ 600000 by omega, show 9132 ≤ 7302249 by omega⟩
    · exfalso
      apply h
      rw [Int32.lt_iff_toInt_lt, nI_toInt (by omega)]
      exact sub6 (by omega) (by omega)
  | succ n ih =>
    intro i V M ml ld dr m wn sn hn hi hV hM hp hR
    refine a_iload iL_law_18 rfl <| a_aload0 iL_law_19 rfl <| l_len iL_law_20 <| a_const iL_law_21 <| a_isub iL_law_23 <| ?_
    refine a_icmp_gt iL_law_24 (fun _ => ?_) (fun h => ?_)
    · exact a_const iL_law_1202 <| l_ret ⟨show 249 ≤ 600000 by omega, show 9132 ≤ 7302249 by omega⟩
    · have h6 : i + 6 ≤ Ln := by
        rcases Nat.lt_or_ge Ln (i + 6) with q | q
        · exfalso
          apply h
          rw [Int32.lt_iff_toInt_lt, nI_toInt (by omega)]
          exact sub6 (by omega) (by omega)
        · exact q
      refine a_aload0 iL_law_27 rfl <| a_iload iL_law_28 rfl <| l_ld iL_law_29 (vp_in_nI (by omega) (by omega)) <| a_const iL_law_30 <| a_iand iL_law_32 <| ?_
      refine k_all h6 hLn hV hM hp hR ?_ _ (and63 _)
      intro V' M' ml' ld' dr' m' wn' sn' gV gM gp gR
      refine a_iinc iL_law_1196 rfl (show 3 < 4 by omega) rfl <| a_goto iL_law_1199 <| ?_
      have R := ih (i + 6) V' M' ml' ld' dr' m' wn' sn' (by omega) (by omega) gV gM gp gR
      have e1 : nI i + 6 = nI (i + 6) := nI_add _ 6
      rw [← e1] at R
      exact R
