/-! 64: the reference's constructor, by wip/gen/ctor8.py -/
section Grow
variable {g : Gm} {Y Y' : Ym} {E : Ex} {QF : Qf} {V : Vw} {k : Nat × Nat} {p1 p2 p3 p4 p5 : Nat} {L : List (Option Value)} {st st0 : List Value} {mi : Mi} {ml : Ml} {Post : Ps}
theorem a_arrJ {i a kd f N : Nat} {x : Int32} (c1 : c_al Y p1 a p2) (h1 : L[a]? = some (some (rf g i))) (c2 : c_ic Y p2 x p3) (c3 : decode Y.2.1 p3 = .ok (.newarray .long, 2) ∧ p4 = p3 + 2) (c4 : c_pf Y p4 kd f p5) (hfl : V.2.2.2 = true) (hx : ¬ x < 0) (hN : x.toNatClampNeg = N) (hb : N ≤ 100000) (hk : k.1 + 1 ≤ Y.2.2.2.2.cells ∧ k.2 + N ≤ Y.2.2.2.2.slots) (hs : V.2.1 i = (kd, 0)) (hi : i < V.1) (ht : isR (fty kd f) = true)
    (kk : At g Y E QF (st1 V (11, N) i f) (k.1 + 1, k.2 + N) p5 L st (ur mi V.1 (fun _ => 0)) (ur ml V.1 (fun _ => 0))) : At g Y E QF V k p1 L st mi ml := by
  refine a_aload c1 h1 <| a_const c2 <| a_newJ c3 hfl hx hN hb hk ?_
  exact a_putr c4 (by show va_up V.2.1 V.1 (11, N) i = _; rw [va_up_ne _ _ (by omega)]; exact hs) ht kk
end Grow
def SH : Nat → Nat × Nat
  | 0 => (9, 240)
  | 1 => (9, 12)
  | 2 => (9, 8)
  | 3 => (9, 8)
  | 4 => (9, 30)
  | 5 => (9, 12)
  | 6 => (9, 8)
  | 7 => (9, 30)
  | 8 => (9, 121)
  | 9 => (9, 3630)
  | 10 => (9, 6)
  | 11 => (9, 6)
  | 12 => (10, 6)
  | 13 => (9, 10)
  | 14 => (9, 20)
  | 15 => (9, 20)
  | 16 => (10, 2)
  | 17 => (9, 242)
  | 18 => (11, 2)
  | _ => (99, 0)
def FD : Nat → Nat
  | 0 => 1
  | 1 => 13
  | 2 => 14
  | 3 => 15
  | 4 => 16
  | 5 => 24
  | 6 => 25
  | 7 => 26
  | 8 => 27
  | 9 => 30
  | 10 => 33
  | 11 => 34
  | 12 => 35
  | 13 => 36
  | 14 => 38
  | 15 => 39
  | 16 => 40
  | 17 => 41
  | 18 => 42
  | _ => 0
theorem FD_lt : ∀ n, n < 19 → ∀ t, t < n → FD t < FD n := by decide
def BMo (V0 : Vw) (mi : Mi) (ml : Ml) (n : Nat) (V : Vw) (m : Mi) (l : Ml) : Prop := V.1 = 230 + n ∧ GR 229 V0 mi ml V m l ∧ ∀ t, t < n → V.2.1 (230 + t) = SH t ∧ V.2.2.1 229 (FD t) = some (230 + t)
theorem BMo.s {V0 V : Vw} {mi m : Mi} {ml l : Ml} {n : Nat} (b : BMo V0 mi ml n V m l) (h0 : V0.1 = 230) (hs : V0.2.1 229 = (8, 0)) : V.2.1 229 = (8, 0) := (b.2.1.2.2.1 229 (by omega)).trans hs
theorem BMo.fl {V0 V : Vw} {mi m : Mi} {ml l : Ml} {n : Nat} (b : BMo V0 mi ml n V m l) : V.2.2.2 = true := b.2.1.2.1
theorem BMo.ar {V0 V : Vw} {mi m : Mi} {ml l : Ml} {n : Nat} {sh : Nat × Nat} {f : Nat} (b : BMo V0 mi ml n V m l) (hn : n < 19) (h1 : SH n = sh) (h2 : FD n = f) : BMo V0 mi ml (n + 1) (st1 V sh 229 f) (ur m V.1 (fun _ => 0)) (ur l V.1 (fun _ => 0)) := by
  obtain ⟨b1, b2, b3⟩ := b
  subst h1 h2
  refine ⟨by rw [st1_n]; omega, b2.arr, fun t ht => ?_⟩
  by_cases e : t = n
  · subst e
    exact ⟨st1_s (by omega), by rw [st1_r ⟨rfl, rfl⟩, b1]⟩
  · have := FD_lt n hn t (by omega)
    rw [st1_o (by omega), st1_ro (by omega) (by omega)]
    exact b3 t (by omega)
theorem BMo.lay {V0 V : Vw} {mi m : Mi} {ml l : Ml} (b : BMo V0 mi ml 19 V m l) (h0 : V0.1 = 230) (hs : V0.2.1 229 = (8, 0)) : LayM V := by
  have h := b.2.2
  exact ⟨b.s h0 hs, (h 0 (by omega)).1, (h 1 (by omega)).1, (h 2 (by omega)).1, (h 3 (by omega)).1, (h 4 (by omega)).1, (h 5 (by omega)).1, (h 6 (by omega)).1, (h 7 (by omega)).1, (h 8 (by omega)).1, (h 9 (by omega)).1, (h 10 (by omega)).1, (h 11 (by omega)).1, (h 12 (by omega)).1, (h 13 (by omega)).1, (h 14 (by omega)).1, (h 15 (by omega)).1, (h 16 (by omega)).1, (h 17 (by omega)).1, (h 18 (by omega)).1, (h 0 (by omega)).2, (h 1 (by omega)).2, (h 2 (by omega)).2, (h 3 (by omega)).2, (h 4 (by omega)).2, (h 5 (by omega)).2, (h 6 (by omega)).2, (h 7 (by omega)).2, (h 8 (by omega)).2, (h 9 (by omega)).2, (h 10 (by omega)).2, (h 11 (by omega)).2, (h 12 (by omega)).2, (h 13 (by omega)).2, (h 14 (by omega)).2, (h 15 (by omega)).2, (h 16 (by omega)).2, (h 17 (by omega)).2, (h 18 (by omega)).2⟩
def p8 (V0 : Vw) (mi : Mi) (ml : Ml) : Ps := fun v V1 m1 l1 => v = none ∧ ∃ M : Mi, BMo V0 (u2 mi 229 5 (-1)) ml 19 V1 M l1 ∧ (∀ r, r ≠ 238 → m1 r = M r) ∧ ∀ b, m1 238 b = if 16 ≤ b ∧ b < 40 then -1 else M 238 b
theorem w_X8_init {g : Gm} {E : Ex} {V0 V : Vw} {mi M : Mi} {ml l : Ml} (h0 : V0.1 = 230) (hs : V0.2.1 229 = (8, 0)) (b : BMo V0 (u2 mi 229 5 (-1)) ml 19 V M l) : ∀ (c j : Nat) (m : Mi), j + c = 24 → (∀ r, r ≠ 238 → m r = M r) → (∀ b, m 238 b = if 16 ≤ b ∧ b < 16 + j then -1 else M 238 b) →
    At g YX8_init E (qm g YX8_init (p8 V0 mi ml)) V (19, 4413) 164 [some (rf g 229), some (.int (nI j))] [] m l := by
  have hM := b.lay h0 hs
  intro c
  induction c with
  | zero =>
    intro j m hj h1 h2
    have : j = 24 := by omega
    subst this
    refine a_iload iX8_init_164 rfl <| a_const iX8_init_165 <| a_icmp_ge iX8_init_167 (fun _ => ?_) (fun h => absurd ((nI_leI (a := 24) (b := 24) (by omega) (by omega)).2 (Nat.le_refl _)) h)
    exact a_vret iX8_init_186 rfl ⟨Nat.le_refl _, Nat.le_refl _⟩ ⟨rfl, M, b, h1, h2⟩
  | succ c ih =>
    intro j m hj h1 h2
    have e1 : nI j + 1 = nI (j + 1) := nI_add _ 1
    have e2 : (16 : Int32) + nI j = nI (16 + j) := nI_add 16 j
    have hcl : (nI (16 + j)).toNatClampNeg = 16 + j := nI_clamp (by omega)
    have hin : inb (nI (16 + j)) 121 := by simp (disch := omega) only [fa_lit, nI_add, pk_sub, pk_mul, nI_clamp, nI_leI, nI_ltI, nI_eq, inb, u2_s2, u2_ne2, if_pos, if_neg, Option.bind_some, nx, add_n0, cO, cN, cF, cU, true_or, or_true, if_true, if_false, not_true_eq_false, not_false_eq_true, true_and, and_true]; omega
    refine a_iload iX8_init_164 rfl <| a_const iX8_init_165 <| a_icmp_ge iX8_init_167 (fun h => absurd ((nI_leI (a := 24) (by omega) (by omega)).1 h) (by omega)) (fun _ => ?_)
    refine a_aload iX8_init_170 rfl <| a_getr iX8_init_171 (lm_s229 hM) rfl (lm_r229_27 hM) <| a_const iX8_init_174 <| a_iload iX8_init_176 rfl <| a_iadd iX8_init_177 <| a_const iX8_init_178 <| ?_
    rw [e2]
    refine a_iast iX8_init_179 (lm_s238 hM) (inb_vp hin) <| a_iinc iX8_init_180 rfl (by decide) rfl <| a_goto iX8_init_183 <| ?_
    have R := ih (j + 1) (u2 m 238 (16 + j) (-1)) (by omega) (fun r hr => by rw [u2_row hr]; exact h1 r hr) (fun q => by
      by_cases hq : q = 16 + j
      · subst hq; rw [u2_s2 ⟨rfl, rfl⟩, if_pos (by omega)]
      · rw [u2_ne2 (by omega), h2 q]
        by_cases hc : 16 ≤ q ∧ q < 16 + j
        · rw [if_pos hc, if_pos (by omega)]
        · rw [if_neg hc, if_neg (by omega)])
    rw [← e1] at R
    rw [hcl]
    exact R
theorem c_X8_init {g : Gm} {V : Vw} {mi : Mi} {ml : Ml} (hs : V.2.1 229 = (8, 0)) (hfl : V.2.2.2 = true) (hn : V.1 = 230) : Does g YX8_init V [rf g 229] mi ml (p8 V mi ml) := by
  refine does_of (L := [some (rf g 229), none]) okX8_init rfl (Nat.le_of_ble_eq_true rfl) rfl ?_
  have b0 : BMo V mi ml 0 V mi ml := ⟨hn, GR.rf hfl, fun t ht => absurd ht (by omega)⟩
  refine a_aload iX8_init_0 rfl <| a_objInit iX8_init_1 (by decide) <| ?_
  have b1 := b0.ar (sh := (9, 240)) (f := 1) (by omega) rfl rfl
  refine a_arrI (N := 240) iX8_init_4 rfl iX8_init_5 iX8_init_8 iX8_init_10 b0.fl (by decide) rfl (by decide) (by decide) (b0.s hn hs) (by have := b0.1; omega) rfl ?_
  generalize st1 V (9, 240) 229 1 = W1, ur mi V.1 (fun _ => 0) = m1, ur ml V.1 (fun _ => 0) = l1 at *
  refine a_aload iX8_init_13 rfl <| a_const iX8_init_14 <| a_puti iX8_init_15 (b1.s hn hs) rfl rfl rfl <| ?_
  replace b1 : BMo V (u2 mi 229 5 (-1)) ml 1 W1 (u2 m1 229 5 (-1)) l1 := ⟨b1.1, gr_puz b1.2.1 (by omega), b1.2.2⟩
  generalize u2 m1 229 5 (-1) = m1 at *
  show At g YX8_init _ _ W1 (1, 240) 18 [some (rf g 229), none] [] m1 l1
  have b2 := b1.ar (sh := (9, 12)) (f := 13) (by omega) rfl rfl
  refine a_arrI (N := 12) iX8_init_18 rfl iX8_init_19 iX8_init_21 iX8_init_23 b1.fl (by decide) rfl (by decide) (by decide) (b1.s hn hs) (by have := b1.1; omega) rfl ?_
  generalize st1 W1 (9, 12) 229 13 = W2, ur m1 W1.1 (fun _ => 0) = m2, ur l1 W1.1 (fun _ => 0) = l2 at *
  show At g YX8_init _ _ W2 (2, 252) 26 [some (rf g 229), none] [] m2 l2
  have b3 := b2.ar (sh := (9, 8)) (f := 14) (by omega) rfl rfl
  refine a_arrI (N := 8) iX8_init_26 rfl iX8_init_27 iX8_init_29 iX8_init_31 b2.fl (by decide) rfl (by decide) (by decide) (b2.s hn hs) (by have := b2.1; omega) rfl ?_
  generalize st1 W2 (9, 8) 229 14 = W3, ur m2 W2.1 (fun _ => 0) = m3, ur l2 W2.1 (fun _ => 0) = l3 at *
  show At g YX8_init _ _ W3 (3, 260) 34 [some (rf g 229), none] [] m3 l3
  have b4 := b3.ar (sh := (9, 8)) (f := 15) (by omega) rfl rfl
  refine a_arrI (N := 8) iX8_init_34 rfl iX8_init_35 iX8_init_37 iX8_init_39 b3.fl (by decide) rfl (by decide) (by decide) (b3.s hn hs) (by have := b3.1; omega) rfl ?_
  generalize st1 W3 (9, 8) 229 15 = W4, ur m3 W3.1 (fun _ => 0) = m4, ur l3 W3.1 (fun _ => 0) = l4 at *
  show At g YX8_init _ _ W4 (4, 268) 42 [some (rf g 229), none] [] m4 l4
  have b5 := b4.ar (sh := (9, 30)) (f := 16) (by omega) rfl rfl
  refine a_arrI (N := 30) iX8_init_42 rfl iX8_init_43 iX8_init_45 iX8_init_47 b4.fl (by decide) rfl (by decide) (by decide) (b4.s hn hs) (by have := b4.1; omega) rfl ?_
  generalize st1 W4 (9, 30) 229 16 = W5, ur m4 W4.1 (fun _ => 0) = m5, ur l4 W4.1 (fun _ => 0) = l5 at *
  show At g YX8_init _ _ W5 (5, 298) 50 [some (rf g 229), none] [] m5 l5
  have b6 := b5.ar (sh := (9, 12)) (f := 24) (by omega) rfl rfl
  refine a_arrI (N := 12) iX8_init_50 rfl iX8_init_51 iX8_init_53 iX8_init_55 b5.fl (by decide) rfl (by decide) (by decide) (b5.s hn hs) (by have := b5.1; omega) rfl ?_
  generalize st1 W5 (9, 12) 229 24 = W6, ur m5 W5.1 (fun _ => 0) = m6, ur l5 W5.1 (fun _ => 0) = l6 at *
  show At g YX8_init _ _ W6 (6, 310) 58 [some (rf g 229), none] [] m6 l6
  have b7 := b6.ar (sh := (9, 8)) (f := 25) (by omega) rfl rfl
  refine a_arrI (N := 8) iX8_init_58 rfl iX8_init_59 iX8_init_61 iX8_init_63 b6.fl (by decide) rfl (by decide) (by decide) (b6.s hn hs) (by have := b6.1; omega) rfl ?_
  generalize st1 W6 (9, 8) 229 25 = W7, ur m6 W6.1 (fun _ => 0) = m7, ur l6 W6.1 (fun _ => 0) = l7 at *
  show At g YX8_init _ _ W7 (7, 318) 66 [some (rf g 229), none] [] m7 l7
  have b8 := b7.ar (sh := (9, 30)) (f := 26) (by omega) rfl rfl
  refine a_arrI (N := 30) iX8_init_66 rfl iX8_init_67 iX8_init_69 iX8_init_71 b7.fl (by decide) rfl (by decide) (by decide) (b7.s hn hs) (by have := b7.1; omega) rfl ?_
  generalize st1 W7 (9, 30) 229 26 = W8, ur m7 W7.1 (fun _ => 0) = m8, ur l7 W7.1 (fun _ => 0) = l8 at *
  show At g YX8_init _ _ W8 (8, 348) 74 [some (rf g 229), none] [] m8 l8
  have b9 := b8.ar (sh := (9, 121)) (f := 27) (by omega) rfl rfl
  refine a_arrI (N := 121) iX8_init_74 rfl iX8_init_75 iX8_init_77 iX8_init_79 b8.fl (by decide) rfl (by decide) (by decide) (b8.s hn hs) (by have := b8.1; omega) rfl ?_
  generalize st1 W8 (9, 121) 229 27 = W9, ur m8 W8.1 (fun _ => 0) = m9, ur l8 W8.1 (fun _ => 0) = l9 at *
  show At g YX8_init _ _ W9 (9, 469) 82 [some (rf g 229), none] [] m9 l9
  have b10 := b9.ar (sh := (9, 3630)) (f := 30) (by omega) rfl rfl
  refine a_arrI (N := 3630) iX8_init_82 rfl iX8_init_83 iX8_init_86 iX8_init_88 b9.fl (by decide) rfl (by decide) (by decide) (b9.s hn hs) (by have := b9.1; omega) rfl ?_
  generalize st1 W9 (9, 3630) 229 30 = W10, ur m9 W9.1 (fun _ => 0) = m10, ur l9 W9.1 (fun _ => 0) = l10 at *
  show At g YX8_init _ _ W10 (10, 4099) 91 [some (rf g 229), none] [] m10 l10
  have b11 := b10.ar (sh := (9, 6)) (f := 33) (by omega) rfl rfl
  refine a_arrI (N := 6) iX8_init_91 rfl iX8_init_92 iX8_init_94 iX8_init_96 b10.fl (by decide) rfl (by decide) (by decide) (b10.s hn hs) (by have := b10.1; omega) rfl ?_
  generalize st1 W10 (9, 6) 229 33 = W11, ur m10 W10.1 (fun _ => 0) = m11, ur l10 W10.1 (fun _ => 0) = l11 at *
  show At g YX8_init _ _ W11 (11, 4105) 99 [some (rf g 229), none] [] m11 l11
  have b12 := b11.ar (sh := (9, 6)) (f := 34) (by omega) rfl rfl
  refine a_arrI (N := 6) iX8_init_99 rfl iX8_init_100 iX8_init_102 iX8_init_104 b11.fl (by decide) rfl (by decide) (by decide) (b11.s hn hs) (by have := b11.1; omega) rfl ?_
  generalize st1 W11 (9, 6) 229 34 = W12, ur m11 W11.1 (fun _ => 0) = m12, ur l11 W11.1 (fun _ => 0) = l12 at *
  show At g YX8_init _ _ W12 (12, 4111) 107 [some (rf g 229), none] [] m12 l12
  have b13 := b12.ar (sh := (10, 6)) (f := 35) (by omega) rfl rfl
  refine a_arrZ (N := 6) iX8_init_107 rfl iX8_init_108 iX8_init_110 iX8_init_112 b12.fl (by decide) rfl (by decide) (by decide) (b12.s hn hs) (by have := b12.1; omega) rfl ?_
  generalize st1 W12 (10, 6) 229 35 = W13, ur m12 W12.1 (fun _ => 0) = m13, ur l12 W12.1 (fun _ => 0) = l13 at *
  show At g YX8_init _ _ W13 (13, 4117) 115 [some (rf g 229), none] [] m13 l13
  have b14 := b13.ar (sh := (9, 10)) (f := 36) (by omega) rfl rfl
  refine a_arrI (N := 10) iX8_init_115 rfl iX8_init_116 iX8_init_118 iX8_init_120 b13.fl (by decide) rfl (by decide) (by decide) (b13.s hn hs) (by have := b13.1; omega) rfl ?_
  generalize st1 W13 (9, 10) 229 36 = W14, ur m13 W13.1 (fun _ => 0) = m14, ur l13 W13.1 (fun _ => 0) = l14 at *
  show At g YX8_init _ _ W14 (14, 4127) 123 [some (rf g 229), none] [] m14 l14
  have b15 := b14.ar (sh := (9, 20)) (f := 38) (by omega) rfl rfl
  refine a_arrI (N := 20) iX8_init_123 rfl iX8_init_124 iX8_init_126 iX8_init_128 b14.fl (by decide) rfl (by decide) (by decide) (b14.s hn hs) (by have := b14.1; omega) rfl ?_
  generalize st1 W14 (9, 20) 229 38 = W15, ur m14 W14.1 (fun _ => 0) = m15, ur l14 W14.1 (fun _ => 0) = l15 at *
  show At g YX8_init _ _ W15 (15, 4147) 131 [some (rf g 229), none] [] m15 l15
  have b16 := b15.ar (sh := (9, 20)) (f := 39) (by omega) rfl rfl
  refine a_arrI (N := 20) iX8_init_131 rfl iX8_init_132 iX8_init_134 iX8_init_136 b15.fl (by decide) rfl (by decide) (by decide) (b15.s hn hs) (by have := b15.1; omega) rfl ?_
  generalize st1 W15 (9, 20) 229 39 = W16, ur m15 W15.1 (fun _ => 0) = m16, ur l15 W15.1 (fun _ => 0) = l16 at *
  show At g YX8_init _ _ W16 (16, 4167) 139 [some (rf g 229), none] [] m16 l16
  have b17 := b16.ar (sh := (10, 2)) (f := 40) (by omega) rfl rfl
  refine a_arrZ (N := 2) iX8_init_139 rfl iX8_init_140 iX8_init_141 iX8_init_143 b16.fl (by decide) rfl (by decide) (by decide) (b16.s hn hs) (by have := b16.1; omega) rfl ?_
  generalize st1 W16 (10, 2) 229 40 = W17, ur m16 W16.1 (fun _ => 0) = m17, ur l16 W16.1 (fun _ => 0) = l17 at *
  show At g YX8_init _ _ W17 (17, 4169) 146 [some (rf g 229), none] [] m17 l17
  have b18 := b17.ar (sh := (9, 242)) (f := 41) (by omega) rfl rfl
  refine a_arrI (N := 242) iX8_init_146 rfl iX8_init_147 iX8_init_150 iX8_init_152 b17.fl (by decide) rfl (by decide) (by decide) (b17.s hn hs) (by have := b17.1; omega) rfl ?_
  generalize st1 W17 (9, 242) 229 41 = W18, ur m17 W17.1 (fun _ => 0) = m18, ur l17 W17.1 (fun _ => 0) = l18 at *
  show At g YX8_init _ _ W18 (18, 4411) 155 [some (rf g 229), none] [] m18 l18
  have b19 := b18.ar (sh := (11, 2)) (f := 42) (by omega) rfl rfl
  refine a_arrJ (N := 2) iX8_init_155 rfl iX8_init_156 iX8_init_157 iX8_init_159 b18.fl (by decide) rfl (by decide) (by decide) (b18.s hn hs) (by have := b18.1; omega) rfl ?_
  generalize st1 W18 (11, 2) 229 42 = W19, ur m18 W18.1 (fun _ => 0) = m19, ur l18 W18.1 (fun _ => 0) = l19 at *
  show At g YX8_init _ _ W19 (19, 4413) 162 [some (rf g 229), none] [] m19 l19
  refine a_const iX8_init_162 <| a_istore iX8_init_163 (by decide) rfl <| ?_
  exact w_X8_init hn hs b19 24 0 m19 rfl (fun _ _ => rfl) (fun q => by rw [if_neg (by omega)])
