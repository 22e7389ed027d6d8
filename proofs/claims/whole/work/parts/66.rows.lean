/-! 66: the law's own rows; its name stays open (the law's entry doesn't tell it) -/
def YLn (nm : String) : Ym := (⟨yL_law.cls, nm, yL_law.desc⟩, YL_law.2.1, 4, ret, room_1)
def EL (g : Gm) (b Ln : Nat) (xs : Nat → Int32) : Ex := fun args s => args = #[Value.ref b] ∧ va_X b Ln xs s s.heap ∧ b < s.heap.size ∧ s.heap.size = g.2.1
section LawRows
variable {g : Gm} {nm : String} {QF : Qf} {V : Vw} {k : Nat × Nat} {pc pc' : Nat} {L : List (Option Value)} {st : List Value} {mi : Mi} {ml : Ml} {b Ln : Nat} {xs : Nat → Int32}
theorem l_len (ct : c_op YL_law pc .arraylength pc') (kk : At g (YLn nm) (EL g b Ln xs) QF V k pc' L (.int (nI Ln) :: st) mi ml) : At g (YLn nm) (EL g b Ln xs) QF V k pc L (.ref b :: st) mi ml := by
  intro p e s m args below meth c H locs ls C hE hW hS hL
  obtain ⟨hd, rfl⟩ := ct
  obtain ⟨h1, h2, h3, h4⟩ := id hE
  exact va_slen C.1 C.2.1 h2 h3 (show ¬ g.2.1 ≤ b by omega) hS hd (kk p e s m args below meth c H locs ls C hE hW hS hL)
theorem l_ld {x : Int32} (ct : c_op YL_law pc .iaload pc') (hin : vp_in x Ln) (kk : At g (YLn nm) (EL g b Ln xs) QF V k pc' L (.int (xs x.toNatClampNeg) :: st) mi ml) : At g (YLn nm) (EL g b Ln xs) QF V k pc L (.int x :: .ref b :: st) mi ml := by
  intro p e s m args below meth c H locs ls C hE hW hS hL
  obtain ⟨hd, rfl⟩ := ct
  obtain ⟨h1, h2, h3, h4⟩ := id hE
  exact va_sld C.1 C.2.1 h2 h3 (show ¬ g.2.1 ≤ b by omega) hS hin hd (kk p e s m args below meth c H locs ls C hE hW hS hL)
theorem l_arg {i q p0 p1 p2 p3 p4 p5 : Nat} {v : Int32} (c1 : c_al YL_law p0 0 p1) (c2 : c_il YL_law p1 3 p2) (c3 : c_ic YL_law p2 v p3) (c4 : c_op YL_law p3 .iadd p4) (c5 : c_op YL_law p4 .iaload p5) (hv : v = nI q) (h0 : L[0]? = some (some (.ref b))) (h3 : L[3]? = some (some (.int (nI i)))) (hi : i + 6 ≤ Ln) (hq : q < 6) (hL : Ln ≤ 3072)
    (kk : At g (YLn nm) (EL g b Ln xs) QF V k p5 L (.int (xs (i + q)) :: st) mi ml) : At g (YLn nm) (EL g b Ln xs) QF V k p0 L st mi ml := by
  subst hv
  refine a_aload0 c1 h0 <| a_iload c2 h3 <| a_const c3 <| a_iadd c4 ?_
  rw [nI_add]
  refine l_ld c5 (vp_in_nI (by omega) (by omega)) ?_
  rw [nI_clamp (by omega)]
  exact kk
end LawRows
