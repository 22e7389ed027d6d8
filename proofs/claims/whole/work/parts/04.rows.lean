/-! 04: rows of the small machine: certificates of instructions, then a row for each kind -/
def c_op (Y : Ym) (pc : Nat) (i : Instr) (pc' : Nat) : Prop := decode Y.2.1 pc = .ok (i, 1) ∧ pc' = pc + 1
def c_il (Y : Ym) (pc i pc' : Nat) : Prop := (∃ k : Fin 4, decode Y.2.1 pc = .ok (.iload_n k, 1) ∧ (k : Nat) = i ∧ pc' = pc + 1) ∨ (decode Y.2.1 pc = .ok (.iload i, 2) ∧ pc' = pc + 2)
def c_al (Y : Ym) (pc i pc' : Nat) : Prop := (∃ k : Fin 4, decode Y.2.1 pc = .ok (.aload_n k, 1) ∧ (k : Nat) = i ∧ pc' = pc + 1) ∨ (decode Y.2.1 pc = .ok (.aload i, 2) ∧ pc' = pc + 2)
def c_ll (Y : Ym) (pc i pc' : Nat) : Prop := (∃ k : Fin 4, decode Y.2.1 pc = .ok (.lload_n k, 1) ∧ (k : Nat) = i ∧ pc' = pc + 1) ∨ (decode Y.2.1 pc = .ok (.lload i, 2) ∧ pc' = pc + 2)
def c_is (Y : Ym) (pc i pc' : Nat) : Prop := (∃ k : Fin 4, decode Y.2.1 pc = .ok (.istore_n k, 1) ∧ (k : Nat) = i ∧ pc' = pc + 1) ∨ (decode Y.2.1 pc = .ok (.istore i, 2) ∧ pc' = pc + 2)
def c_as (Y : Ym) (pc i pc' : Nat) : Prop := (∃ k : Fin 4, decode Y.2.1 pc = .ok (.astore_n k, 1) ∧ (k : Nat) = i ∧ pc' = pc + 1) ∨ (decode Y.2.1 pc = .ok (.astore i, 2) ∧ pc' = pc + 2)
def c_ls (Y : Ym) (pc i pc' : Nat) : Prop := (∃ k : Fin 4, decode Y.2.1 pc = .ok (.lstore_n k, 1) ∧ (k : Nat) = i ∧ pc' = pc + 1) ∨ (decode Y.2.1 pc = .ok (.lstore i, 2) ∧ pc' = pc + 2)
def c_ii (Y : Ym) (pc i : Nat) (d : Int32) (pc' : Nat) : Prop := ∃ n : Int, decode Y.2.1 pc = .ok (.iinc i n, 3) ∧ Int32.ofInt n = d ∧ pc' = pc + 3
def c_ic (Y : Ym) (pc : Nat) (v : Int32) (pc' : Nat) : Prop := (∃ n : Int, decode Y.2.1 pc = .ok (.iconst n, 1) ∧ Int32.ofInt n = v ∧ pc' = pc + 1) ∨ (∃ n : Int, decode Y.2.1 pc = .ok (.bipush n, 2) ∧ (Int8.ofInt n).toInt32 = v ∧ pc' = pc + 2) ∨ (∃ n : Int, decode Y.2.1 pc = .ok (.sipush n, 3) ∧ (Int16.ofInt n).toInt32 = v ∧ pc' = pc + 3) ∨ (∃ i : Nat, decode Y.2.1 pc = .ok (.ldc i, 2) ∧ Cond.constant Y.1.cls i v ∈ TW ∧ pc' = pc + 2) ∨ (∃ i : Nat, decode Y.2.1 pc = .ok (.ldc_w i, 3) ∧ Cond.constant Y.1.cls i v ∈ TW ∧ pc' = pc + 3)
def c_lc (Y : Ym) (pc : Nat) (v : Int64) (pc' : Nat) : Prop := ∃ i : Nat, decode Y.2.1 pc = .ok (.ldc2_w i, 3) ∧ Cond.constantLong Y.1.cls i v ∈ TW ∧ pc' = pc + 3
def c_go (Y : Ym) (pc tgt : Nat) : Prop := ∃ off : Int, decode Y.2.1 pc = .ok (.goto off, 3) ∧ (pc : Int) + off = (tgt : Int)
def c_br (Y : Ym) (pc : Nat) (f : Int → Instr) (tgt pc' : Nat) : Prop := ∃ off : Int, decode Y.2.1 pc = .ok (f off, 3) ∧ (pc : Int) + off = (tgt : Int) ∧ pc' = pc + 3
section Rows
variable {g : Gm} {Y : Ym} {E : Ex} {QF : Qf} {V : Vw} {k : Nat × Nat} {pc pc' tgt : Nat} {L : List (Option Value)} {st : List Value} {mi : Mi} {ml : Ml}
theorem a_widen {k1 k2 : Nat} (h1 : k.1 ≤ k1) (h2 : k.2 ≤ k2) (kk : At g Y E QF V (k1, k2) pc L st mi ml) : At g Y E QF V k pc L st mi ml :=
  fun p e s m args below meth c H locs ls C hE hW hS hL => W.widen h1 h2 (kk p e s m args below meth c H locs ls C hE hW hS hL)
theorem a_iload {i : Nat} {x : Int32} (ct : c_il Y pc i pc') (h : L[i]? = some (some (.int x))) (kk : At g Y E QF V k pc' L (.int x :: st) mi ml) : At g Y E QF V k pc L st mi ml := by
  intro p e s m args below meth c H locs ls C hE hW hS hL
  rcases ct with ⟨k4, hd, hi, rfl⟩ | ⟨hd, rfl⟩
  · exact lv_iload_n C.1 C.2.1 hd hi (hL.2.2 i _ h) (kk p e s m args below meth c H locs ls C hE hW hS hL)
  · exact lv_iload C.1 C.2.1 hd (hL.2.2 i _ h) (kk p e s m args below meth c H locs ls C hE hW hS hL)
theorem a_lload {i : Nat} {x : Int64} (ct : c_ll Y pc i pc') (h : L[i]? = some (some (.long x))) (kk : At g Y E QF V k pc' L (.long x :: st) mi ml) : At g Y E QF V k pc L st mi ml := by
  intro p e s m args below meth c H locs ls C hE hW hS hL
  rcases ct with ⟨k4, hd, hi, rfl⟩ | ⟨hd, rfl⟩
  · exact lv_lload_n C.1 C.2.1 hd hi (hL.2.2 i _ h) (kk p e s m args below meth c H locs ls C hE hW hS hL)
  · exact lv_lload C.1 C.2.1 hd (hL.2.2 i _ h) (kk p e s m args below meth c H locs ls C hE hW hS hL)
theorem a_aload {i a : Nat} (ct : c_al Y pc i pc') (h : L[i]? = some (some (rf g a))) (kk : At g Y E QF V k pc' L (rf g a :: st) mi ml) : At g Y E QF V k pc L st mi ml := by
  intro p e s m args below meth c H locs ls C hE hW hS hL
  rcases ct with ⟨k4, hd, hi, rfl⟩ | ⟨hd, rfl⟩
  · exact lv_aload_n C.1 C.2.1 hd hi (hL.2.2 i _ h) (kk p e s m args below meth c H locs ls C hE hW hS hL)
  · exact lv_aload C.1 C.2.1 hd (hL.2.2 i _ h) (kk p e s m args below meth c H locs ls C hE hW hS hL)
theorem a_aload0 {i b : Nat} (ct : c_al Y pc i pc') (h : L[i]? = some (some (.ref b))) (kk : At g Y E QF V k pc' L (.ref b :: st) mi ml) : At g Y E QF V k pc L st mi ml := by
  intro p e s m args below meth c H locs ls C hE hW hS hL
  rcases ct with ⟨k4, hd, hi, rfl⟩ | ⟨hd, rfl⟩
  · exact lv_aload_n C.1 C.2.1 hd hi (hL.2.2 i _ h) (kk p e s m args below meth c H locs ls C hE hW hS hL)
  · exact lv_aload C.1 C.2.1 hd (hL.2.2 i _ h) (kk p e s m args below meth c H locs ls C hE hW hS hL)
theorem a_istore {i : Nat} {x : Int32} (ct : c_is Y pc i pc') (hn : i < Y.2.2.1) (hc : lc L i = true) (kk : At g Y E QF V k pc' (L.set i (some (.int x))) st mi ml) : At g Y E QF V k pc L (.int x :: st) mi ml := by
  intro p e s m args below meth c H locs ls C hE hW hS hL
  rcases ct with ⟨k4, hd, hi, rfl⟩ | ⟨hd, rfl⟩
  · exact lv_istore_n C.1 C.2.1 hd hi hL.has hn rfl (fun ls hl => kk p e s m args below meth c H locs ls C hE hW hS (LH.store1 hl hc))
  · exact lv_istore C.1 C.2.1 hd hL.has hn rfl (fun ls hl => kk p e s m args below meth c H locs ls C hE hW hS (LH.store1 hl hc))
theorem a_astore {i : Nat} {a : Nat} (ct : c_as Y pc i pc') (hn : i < Y.2.2.1) (hc : lc L i = true) (kk : At g Y E QF V k pc' (L.set i (some (rf g a))) st mi ml) : At g Y E QF V k pc L (rf g a :: st) mi ml := by
  intro p e s m args below meth c H locs ls C hE hW hS hL
  rcases ct with ⟨k4, hd, hi, rfl⟩ | ⟨hd, rfl⟩
  · exact lv_astore_n C.1 C.2.1 hd hi hL.has hn rfl (fun ls hl => kk p e s m args below meth c H locs ls C hE hW hS (LH.store1 hl hc))
  · exact lv_astore C.1 C.2.1 hd hL.has hn rfl (fun ls hl => kk p e s m args below meth c H locs ls C hE hW hS (LH.store1 hl hc))
theorem a_lstore {i : Nat} {x : Int64} (ct : c_ls Y pc i pc') (hn : i + 1 < Y.2.2.1) (hc : lc L i = true) (kk : At g Y E QF V k pc' ((L.set i (some (.long x))).set (i + 1) none) st mi ml) : At g Y E QF V k pc L (.long x :: st) mi ml := by
  intro p e s m args below meth c H locs ls C hE hW hS hL
  rcases ct with ⟨k4, hd, hi, rfl⟩ | ⟨hd, rfl⟩
  · exact lv_lstore_n C.1 C.2.1 hd hi hL.has hn rfl (fun ls hl => kk p e s m args below meth c H locs ls C hE hW hS (LH.store2 hl hc))
  · exact lv_lstore C.1 C.2.1 hd hL.has hn rfl (fun ls hl => kk p e s m args below meth c H locs ls C hE hW hS (LH.store2 hl hc))
theorem a_iinc {i : Nat} {x d : Int32} (ct : c_ii Y pc i d pc') (h : L[i]? = some (some (.int x))) (hn : i < Y.2.2.1) (hc : lc L i = true) (kk : At g Y E QF V k pc' (L.set i (some (.int (x + d)))) st mi ml) : At g Y E QF V k pc L st mi ml := by
  intro p e s m args below meth c H locs ls C hE hW hS hL
  obtain ⟨n, hd, rfl, rfl⟩ := ct
  obtain ⟨q, hq⟩ := List.getElem?_of_mem (lpr_mem.mpr h)
  exact lv_iinc C.1 C.2.1 hd hL.has hq rfl hn rfl (fun ls hl => kk p e s m args below meth c H locs ls C hE hW hS (LH.store1 hl hc))
theorem a_const {v : Int32} (ct : c_ic Y pc v pc') (kk : At g Y E QF V k pc' L (.int v :: st) mi ml) : At g Y E QF V k pc L st mi ml := by
  intro p e s m args below meth c H locs ls C hE hW hS hL
  rcases ct with ⟨n, hd, hv, rfl⟩ | ⟨n, hd, hv, rfl⟩ | ⟨n, hd, hv, rfl⟩ | ⟨i, hd, hv, rfl⟩ | ⟨i, hd, hv, rfl⟩
  · exact lv_iconst C.1 C.2.1 hd hv (kk p e s m args below meth c H locs ls C hE hW hS hL)
  · exact lv_bipush C.1 C.2.1 hd hv (kk p e s m args below meth c H locs ls C hE hW hS hL)
  · exact lv_sipush C.1 C.2.1 hd hv (kk p e s m args below meth c H locs ls C hE hW hS hL)
  · exact lv_ldc C.1 C.2.1 C.2.2.2.2.1 (C.2.2.2.2.2.1 _ hv) hd (kk p e s m args below meth c H locs ls C hE hW hS hL)
  · exact lv_ldcw C.1 C.2.1 C.2.2.2.2.1 (C.2.2.2.2.2.1 _ hv) hd (kk p e s m args below meth c H locs ls C hE hW hS hL)
theorem a_lconst {v : Int64} (ct : c_lc Y pc v pc') (kk : At g Y E QF V k pc' L (.long v :: st) mi ml) : At g Y E QF V k pc L st mi ml := by
  intro p e s m args below meth c H locs ls C hE hW hS hL
  obtain ⟨i, hd, hv, rfl⟩ := ct
  exact lv_ldc2 C.1 C.2.1 C.2.2.2.2.1 (C.2.2.2.2.2.1 _ hv) hd (kk p e s m args below meth c H locs ls C hE hW hS hL)
theorem a_iadd {x y : Int32} (ct : c_op Y pc .iadd pc') (kk : At g Y E QF V k pc' L (.int (x + y) :: st) mi ml) : At g Y E QF V k pc L (.int y :: .int x :: st) mi ml := by
  intro p e s m args below meth c H locs ls C hE hW hS hL
  obtain ⟨hd, rfl⟩ := ct
  exact lv_iadd C.1 C.2.1 hd (kk p e s m args below meth c H locs ls C hE hW hS hL)
theorem a_isub {x y : Int32} (ct : c_op Y pc .isub pc') (kk : At g Y E QF V k pc' L (.int (x - y) :: st) mi ml) : At g Y E QF V k pc L (.int y :: .int x :: st) mi ml := by
  intro p e s m args below meth c H locs ls C hE hW hS hL
  obtain ⟨hd, rfl⟩ := ct
  exact lv_isub C.1 C.2.1 hd (kk p e s m args below meth c H locs ls C hE hW hS hL)
theorem a_imul {x y : Int32} (ct : c_op Y pc .imul pc') (kk : At g Y E QF V k pc' L (.int (x * y) :: st) mi ml) : At g Y E QF V k pc L (.int y :: .int x :: st) mi ml := by
  intro p e s m args below meth c H locs ls C hE hW hS hL
  obtain ⟨hd, rfl⟩ := ct
  exact lv_imul C.1 C.2.1 hd (kk p e s m args below meth c H locs ls C hE hW hS hL)
theorem a_iand {x y : Int32} (ct : c_op Y pc .iand pc') (kk : At g Y E QF V k pc' L (.int (x &&& y) :: st) mi ml) : At g Y E QF V k pc L (.int y :: .int x :: st) mi ml := by
  intro p e s m args below meth c H locs ls C hE hW hS hL
  obtain ⟨hd, rfl⟩ := ct
  exact lv_iand C.1 C.2.1 hd (kk p e s m args below meth c H locs ls C hE hW hS hL)
theorem a_ior {x y : Int32} (ct : c_op Y pc .ior pc') (kk : At g Y E QF V k pc' L (.int (x ||| y) :: st) mi ml) : At g Y E QF V k pc L (.int y :: .int x :: st) mi ml := by
  intro p e s m args below meth c H locs ls C hE hW hS hL
  obtain ⟨hd, rfl⟩ := ct
  exact lv_ior C.1 C.2.1 hd (kk p e s m args below meth c H locs ls C hE hW hS hL)
theorem a_ishl {x y : Int32} (ct : c_op Y pc .ishl pc') (kk : At g Y E QF V k pc' L (.int (x <<< (y &&& 31)) :: st) mi ml) : At g Y E QF V k pc L (.int y :: .int x :: st) mi ml := by
  intro p e s m args below meth c H locs ls C hE hW hS hL
  obtain ⟨hd, rfl⟩ := ct
  exact lv_ishl C.1 C.2.1 hd (kk p e s m args below meth c H locs ls C hE hW hS hL)
theorem a_idiv {x y : Int32} (ct : c_op Y pc .idiv pc') (hne : ¬ y = 0) (kk : At g Y E QF V k pc' L (.int (x / y) :: st) mi ml) : At g Y E QF V k pc L (.int y :: .int x :: st) mi ml := by
  intro p e s m args below meth c H locs ls C hE hW hS hL
  obtain ⟨hd, rfl⟩ := ct
  exact lv_idiv C.1 C.2.1 hd hne (kk p e s m args below meth c H locs ls C hE hW hS hL)
theorem a_irem {x y : Int32} (ct : c_op Y pc .irem pc') (hne : ¬ y = 0) (kk : At g Y E QF V k pc' L (.int (x - x / y * y) :: st) mi ml) : At g Y E QF V k pc L (.int y :: .int x :: st) mi ml := by
  intro p e s m args below meth c H locs ls C hE hW hS hL
  obtain ⟨hd, rfl⟩ := ct
  exact lv_irem C.1 C.2.1 hd hne (kk p e s m args below meth c H locs ls C hE hW hS hL)
theorem a_ineg {x : Int32} (ct : c_op Y pc .ineg pc') (kk : At g Y E QF V k pc' L (.int (-x) :: st) mi ml) : At g Y E QF V k pc L (.int x :: st) mi ml := by
  intro p e s m args below meth c H locs ls C hE hW hS hL
  obtain ⟨hd, rfl⟩ := ct
  exact lv_ineg C.1 C.2.1 hd (kk p e s m args below meth c H locs ls C hE hW hS hL)
theorem a_ladd {x y : Int64} (ct : c_op Y pc .ladd pc') (kk : At g Y E QF V k pc' L (.long (x + y) :: st) mi ml) : At g Y E QF V k pc L (.long y :: .long x :: st) mi ml := by
  intro p e s m args below meth c H locs ls C hE hW hS hL
  obtain ⟨hd, rfl⟩ := ct
  exact lv_ladd C.1 C.2.1 hd (kk p e s m args below meth c H locs ls C hE hW hS hL)
theorem a_lmul {x y : Int64} (ct : c_op Y pc .lmul pc') (kk : At g Y E QF V k pc' L (.long (x * y) :: st) mi ml) : At g Y E QF V k pc L (.long y :: .long x :: st) mi ml := by
  intro p e s m args below meth c H locs ls C hE hW hS hL
  obtain ⟨hd, rfl⟩ := ct
  exact lv_lmul C.1 C.2.1 hd (kk p e s m args below meth c H locs ls C hE hW hS hL)
theorem a_land {x y : Int64} (ct : c_op Y pc .land pc') (kk : At g Y E QF V k pc' L (.long (x &&& y) :: st) mi ml) : At g Y E QF V k pc L (.long y :: .long x :: st) mi ml := by
  intro p e s m args below meth c H locs ls C hE hW hS hL
  obtain ⟨hd, rfl⟩ := ct
  exact lv_land C.1 C.2.1 hd (kk p e s m args below meth c H locs ls C hE hW hS hL)
theorem a_ldiv {x y : Int64} (ct : c_op Y pc .ldiv pc') (hne : ¬ y = 0) (kk : At g Y E QF V k pc' L (.long (x / y) :: st) mi ml) : At g Y E QF V k pc L (.long y :: .long x :: st) mi ml := by
  intro p e s m args below meth c H locs ls C hE hW hS hL
  obtain ⟨hd, rfl⟩ := ct
  exact lv_ldiv C.1 C.2.1 hd hne (kk p e s m args below meth c H locs ls C hE hW hS hL)
theorem a_lrem {x y : Int64} (ct : c_op Y pc .lrem pc') (hne : ¬ y = 0) (kk : At g Y E QF V k pc' L (.long (x - x / y * y) :: st) mi ml) : At g Y E QF V k pc L (.long y :: .long x :: st) mi ml := by
  intro p e s m args below meth c H locs ls C hE hW hS hL
  obtain ⟨hd, rfl⟩ := ct
  exact lv_lrem C.1 C.2.1 hd hne (kk p e s m args below meth c H locs ls C hE hW hS hL)
theorem a_i2l {x : Int32} (ct : c_op Y pc .i2l pc') (kk : At g Y E QF V k pc' L (.long x.toInt64 :: st) mi ml) : At g Y E QF V k pc L (.int x :: st) mi ml := by
  intro p e s m args below meth c H locs ls C hE hW hS hL
  obtain ⟨hd, rfl⟩ := ct
  exact lv_i2l C.1 C.2.1 hd rfl (kk p e s m args below meth c H locs ls C hE hW hS hL)
theorem a_l2i {x : Int64} (ct : c_op Y pc .l2i pc') (kk : At g Y E QF V k pc' L (.int x.toInt32 :: st) mi ml) : At g Y E QF V k pc L (.long x :: st) mi ml := by
  intro p e s m args below meth c H locs ls C hE hW hS hL
  obtain ⟨hd, rfl⟩ := ct
  exact lv_l2i C.1 C.2.1 hd rfl (kk p e s m args below meth c H locs ls C hE hW hS hL)
theorem a_iushr {x y : Int32} (ct : c_op Y pc .iushr pc') (kk : At g Y E QF V k pc' L (.int (x.toUInt32 >>> (y.toUInt32 &&& Int32.toUInt32 31)).toInt32 :: st) mi ml) : At g Y E QF V k pc L (.int y :: .int x :: st) mi ml := by
  intro p e s m args below meth c H locs ls C hE hW hS hL
  obtain ⟨hd, rfl⟩ := ct
  exact lv_iushr C.1 C.2.1 hd rfl (kk p e s m args below meth c H locs ls C hE hW hS hL)
theorem a_dup {v : Value} (ct : c_op Y pc .dup pc') (hv : v.category = 1) (kk : At g Y E QF V k pc' L (v :: v :: st) mi ml) : At g Y E QF V k pc L (v :: st) mi ml := by
  intro p e s m args below meth c H locs ls C hE hW hS hL
  obtain ⟨hd, rfl⟩ := ct
  exact lv_dup C.1 C.2.1 hd hv (kk p e s m args below meth c H locs ls C hE hW hS hL)
theorem a_dup2 {v w : Value} (ct : c_op Y pc .dup2 pc') (hv : v.category = 1) (hw : w.category = 1) (kk : At g Y E QF V k pc' L (v :: w :: v :: w :: st) mi ml) : At g Y E QF V k pc L (v :: w :: st) mi ml := by
  intro p e s m args below meth c H locs ls C hE hW hS hL
  obtain ⟨hd, rfl⟩ := ct
  exact lv_dup2_11 C.1 C.2.1 hd hv hw (kk p e s m args below meth c H locs ls C hE hW hS hL)
theorem a_pop {v : Value} (ct : c_op Y pc .pop pc') (hv : v.category = 1) (kk : At g Y E QF V k pc' L st mi ml) : At g Y E QF V k pc L (v :: st) mi ml := by
  intro p e s m args below meth c H locs ls C hE hW hS hL
  obtain ⟨hd, rfl⟩ := ct
  exact lv_pop C.1 C.2.1 hd hv (kk p e s m args below meth c H locs ls C hE hW hS hL)
theorem a_goto (ct : c_go Y pc tgt) (kk : At g Y E QF V k tgt L st mi ml) : At g Y E QF V k pc L st mi ml := by
  intro p e s m args below meth c H locs ls C hE hW hS hL
  obtain ⟨off, hd, ht⟩ := ct
  exact lv_goto C.1 C.2.1 hd ht (kk p e s m args below meth c H locs ls C hE hW hS hL)
theorem a_if_eq {x : Int32} (ct : c_br Y pc (.ifCond .eq) tgt pc') (kt : x = 0 → At g Y E QF V k tgt L st mi ml) (kf : ¬ x = 0 → At g Y E QF V k pc' L st mi ml) : At g Y E QF V k pc L (.int x :: st) mi ml := by
  intro p e s m args below meth c H locs ls C hE hW hS hL
  obtain ⟨off, hd, ht, rfl⟩ := ct
  exact lv_if_eq C.1 C.2.1 hd ht (fun h => kt h p e s m args below meth c H locs ls C hE hW hS hL) (fun h => kf h p e s m args below meth c H locs ls C hE hW hS hL)
theorem a_if_ne {x : Int32} (ct : c_br Y pc (.ifCond .ne) tgt pc') (kt : ¬ x = 0 → At g Y E QF V k tgt L st mi ml) (kf : x = 0 → At g Y E QF V k pc' L st mi ml) : At g Y E QF V k pc L (.int x :: st) mi ml := by
  intro p e s m args below meth c H locs ls C hE hW hS hL
  obtain ⟨off, hd, ht, rfl⟩ := ct
  exact lv_if_ne C.1 C.2.1 hd ht (fun h => kt h p e s m args below meth c H locs ls C hE hW hS hL) (fun h => kf h p e s m args below meth c H locs ls C hE hW hS hL)
theorem a_if_lt {x : Int32} (ct : c_br Y pc (.ifCond .lt) tgt pc') (kt : x < 0 → At g Y E QF V k tgt L st mi ml) (kf : ¬ x < 0 → At g Y E QF V k pc' L st mi ml) : At g Y E QF V k pc L (.int x :: st) mi ml := by
  intro p e s m args below meth c H locs ls C hE hW hS hL
  obtain ⟨off, hd, ht, rfl⟩ := ct
  exact lv_if_lt C.1 C.2.1 hd ht (fun h => kt h p e s m args below meth c H locs ls C hE hW hS hL) (fun h => kf h p e s m args below meth c H locs ls C hE hW hS hL)
theorem a_if_ge {x : Int32} (ct : c_br Y pc (.ifCond .ge) tgt pc') (kt : 0 ≤ x → At g Y E QF V k tgt L st mi ml) (kf : ¬ 0 ≤ x → At g Y E QF V k pc' L st mi ml) : At g Y E QF V k pc L (.int x :: st) mi ml := by
  intro p e s m args below meth c H locs ls C hE hW hS hL
  obtain ⟨off, hd, ht, rfl⟩ := ct
  exact lv_if_ge C.1 C.2.1 hd ht (fun h => kt h p e s m args below meth c H locs ls C hE hW hS hL) (fun h => kf h p e s m args below meth c H locs ls C hE hW hS hL)
theorem a_if_gt {x : Int32} (ct : c_br Y pc (.ifCond .gt) tgt pc') (kt : 0 < x → At g Y E QF V k tgt L st mi ml) (kf : ¬ 0 < x → At g Y E QF V k pc' L st mi ml) : At g Y E QF V k pc L (.int x :: st) mi ml := by
  intro p e s m args below meth c H locs ls C hE hW hS hL
  obtain ⟨off, hd, ht, rfl⟩ := ct
  exact lv_if_gt C.1 C.2.1 hd ht (fun h => kt h p e s m args below meth c H locs ls C hE hW hS hL) (fun h => kf h p e s m args below meth c H locs ls C hE hW hS hL)
theorem a_if_le {x : Int32} (ct : c_br Y pc (.ifCond .le) tgt pc') (kt : x ≤ 0 → At g Y E QF V k tgt L st mi ml) (kf : ¬ x ≤ 0 → At g Y E QF V k pc' L st mi ml) : At g Y E QF V k pc L (.int x :: st) mi ml := by
  intro p e s m args below meth c H locs ls C hE hW hS hL
  obtain ⟨off, hd, ht, rfl⟩ := ct
  exact lv_if_le C.1 C.2.1 hd ht (fun h => kt h p e s m args below meth c H locs ls C hE hW hS hL) (fun h => kf h p e s m args below meth c H locs ls C hE hW hS hL)
theorem a_icmp_eq {x y : Int32} (ct : c_br Y pc (.if_icmp .eq) tgt pc') (kt : x = y → At g Y E QF V k tgt L st mi ml) (kf : ¬ x = y → At g Y E QF V k pc' L st mi ml) : At g Y E QF V k pc L (.int y :: .int x :: st) mi ml := by
  intro p e s m args below meth c H locs ls C hE hW hS hL
  obtain ⟨off, hd, ht, rfl⟩ := ct
  exact lv_icmp_eq C.1 C.2.1 hd ht (fun h => kt h p e s m args below meth c H locs ls C hE hW hS hL) (fun h => kf h p e s m args below meth c H locs ls C hE hW hS hL)
theorem a_icmp_ne {x y : Int32} (ct : c_br Y pc (.if_icmp .ne) tgt pc') (kt : ¬ x = y → At g Y E QF V k tgt L st mi ml) (kf : x = y → At g Y E QF V k pc' L st mi ml) : At g Y E QF V k pc L (.int y :: .int x :: st) mi ml := by
  intro p e s m args below meth c H locs ls C hE hW hS hL
  obtain ⟨off, hd, ht, rfl⟩ := ct
  exact lv_icmp_ne C.1 C.2.1 hd ht (fun h => kt h p e s m args below meth c H locs ls C hE hW hS hL) (fun h => kf h p e s m args below meth c H locs ls C hE hW hS hL)
theorem a_icmp_lt {x y : Int32} (ct : c_br Y pc (.if_icmp .lt) tgt pc') (kt : x < y → At g Y E QF V k tgt L st mi ml) (kf : ¬ x < y → At g Y E QF V k pc' L st mi ml) : At g Y E QF V k pc L (.int y :: .int x :: st) mi ml := by
  intro p e s m args below meth c H locs ls C hE hW hS hL
  obtain ⟨off, hd, ht, rfl⟩ := ct
  exact lv_icmp_lt C.1 C.2.1 hd ht (fun h => kt h p e s m args below meth c H locs ls C hE hW hS hL) (fun h => kf h p e s m args below meth c H locs ls C hE hW hS hL)
theorem a_icmp_ge {x y : Int32} (ct : c_br Y pc (.if_icmp .ge) tgt pc') (kt : y ≤ x → At g Y E QF V k tgt L st mi ml) (kf : ¬ y ≤ x → At g Y E QF V k pc' L st mi ml) : At g Y E QF V k pc L (.int y :: .int x :: st) mi ml := by
  intro p e s m args below meth c H locs ls C hE hW hS hL
  obtain ⟨off, hd, ht, rfl⟩ := ct
  exact lv_icmp_ge C.1 C.2.1 hd ht (fun h => kt h p e s m args below meth c H locs ls C hE hW hS hL) (fun h => kf h p e s m args below meth c H locs ls C hE hW hS hL)
theorem a_icmp_gt {x y : Int32} (ct : c_br Y pc (.if_icmp .gt) tgt pc') (kt : y < x → At g Y E QF V k tgt L st mi ml) (kf : ¬ y < x → At g Y E QF V k pc' L st mi ml) : At g Y E QF V k pc L (.int y :: .int x :: st) mi ml := by
  intro p e s m args below meth c H locs ls C hE hW hS hL
  obtain ⟨off, hd, ht, rfl⟩ := ct
  exact lv_icmp_gt C.1 C.2.1 hd ht (fun h => kt h p e s m args below meth c H locs ls C hE hW hS hL) (fun h => kf h p e s m args below meth c H locs ls C hE hW hS hL)
theorem a_icmp_le {x y : Int32} (ct : c_br Y pc (.if_icmp .le) tgt pc') (kt : x ≤ y → At g Y E QF V k tgt L st mi ml) (kf : ¬ x ≤ y → At g Y E QF V k pc' L st mi ml) : At g Y E QF V k pc L (.int y :: .int x :: st) mi ml := by
  intro p e s m args below meth c H locs ls C hE hW hS hL
  obtain ⟨off, hd, ht, rfl⟩ := ct
  exact lv_icmp_le C.1 C.2.1 hd ht (fun h => kt h p e s m args below meth c H locs ls C hE hW hS hL) (fun h => kf h p e s m args below meth c H locs ls C hE hW hS hL)
end Rows
