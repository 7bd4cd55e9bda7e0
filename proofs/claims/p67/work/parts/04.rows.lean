/-! the rows of the layer that touch stack and locals alone -/
section GROWS
variable {M : gM} {d mc ms : Nat} {h0 : gH} {Q : Option Value → gH → Prop} {QX : String → gH → Prop} {c n pc : Nat} {ls : List (Option Value)} {sk : List Value} {h : gH}
theorem g_iadd {x y : Int32} (hd : decode (mC M) pc = .ok (.iadd, 1)) (k : G M d mc ms h0 Q QX c n (pc + 1) ls (.int (x + y) :: sk) h) : G M d mc ms h0 Q QX c n pc ls (.int y :: .int x :: sk) h := by
  intro p l e s m args below meth cd base D E st av L0 f0 ad0 H locs lsA L f ad X w hl
  exact lv_iadd X.1 X.2.1 hd (k p l e s m args below meth cd base D E st av L0 f0 ad0 H locs lsA L f ad X w hl)
theorem g_isub {x y : Int32} (hd : decode (mC M) pc = .ok (.isub, 1)) (k : G M d mc ms h0 Q QX c n (pc + 1) ls (.int (x - y) :: sk) h) : G M d mc ms h0 Q QX c n pc ls (.int y :: .int x :: sk) h := by
  intro p l e s m args below meth cd base D E st av L0 f0 ad0 H locs lsA L f ad X w hl
  exact lv_isub X.1 X.2.1 hd (k p l e s m args below meth cd base D E st av L0 f0 ad0 H locs lsA L f ad X w hl)
theorem g_imul {x y : Int32} (hd : decode (mC M) pc = .ok (.imul, 1)) (k : G M d mc ms h0 Q QX c n (pc + 1) ls (.int (x * y) :: sk) h) : G M d mc ms h0 Q QX c n pc ls (.int y :: .int x :: sk) h := by
  intro p l e s m args below meth cd base D E st av L0 f0 ad0 H locs lsA L f ad X w hl
  exact lv_imul X.1 X.2.1 hd (k p l e s m args below meth cd base D E st av L0 f0 ad0 H locs lsA L f ad X w hl)
theorem g_iand {x y : Int32} (hd : decode (mC M) pc = .ok (.iand, 1)) (k : G M d mc ms h0 Q QX c n (pc + 1) ls (.int (x &&& y) :: sk) h) : G M d mc ms h0 Q QX c n pc ls (.int y :: .int x :: sk) h := by
  intro p l e s m args below meth cd base D E st av L0 f0 ad0 H locs lsA L f ad X w hl
  exact lv_iand X.1 X.2.1 hd (k p l e s m args below meth cd base D E st av L0 f0 ad0 H locs lsA L f ad X w hl)
theorem g_ior {x y : Int32} (hd : decode (mC M) pc = .ok (.ior, 1)) (k : G M d mc ms h0 Q QX c n (pc + 1) ls (.int (x ||| y) :: sk) h) : G M d mc ms h0 Q QX c n pc ls (.int y :: .int x :: sk) h := by
  intro p l e s m args below meth cd base D E st av L0 f0 ad0 H locs lsA L f ad X w hl
  exact lv_ior X.1 X.2.1 hd (k p l e s m args below meth cd base D E st av L0 f0 ad0 H locs lsA L f ad X w hl)
theorem g_ishl {x y : Int32} (hd : decode (mC M) pc = .ok (.ishl, 1)) (k : G M d mc ms h0 Q QX c n (pc + 1) ls (.int (x <<< (y &&& 31)) :: sk) h) : G M d mc ms h0 Q QX c n pc ls (.int y :: .int x :: sk) h := by
  intro p l e s m args below meth cd base D E st av L0 f0 ad0 H locs lsA L f ad X w hl
  exact lv_ishl X.1 X.2.1 hd (k p l e s m args below meth cd base D E st av L0 f0 ad0 H locs lsA L f ad X w hl)
theorem g_ishr {x y : Int32} (hd : decode (mC M) pc = .ok (.ishr, 1)) (k : G M d mc ms h0 Q QX c n (pc + 1) ls (.int (x >>> (y &&& 31)) :: sk) h) : G M d mc ms h0 Q QX c n pc ls (.int y :: .int x :: sk) h := by
  intro p l e s m args below meth cd base D E st av L0 f0 ad0 H locs lsA L f ad X w hl
  exact lv_ishr X.1 X.2.1 hd (k p l e s m args below meth cd base D E st av L0 f0 ad0 H locs lsA L f ad X w hl)
theorem g_idiv {x y : Int32} (hd : decode (mC M) pc = .ok (.idiv, 1)) (hne : ¬ y = 0) (k : G M d mc ms h0 Q QX c n (pc + 1) ls (.int (x / y) :: sk) h) : G M d mc ms h0 Q QX c n pc ls (.int y :: .int x :: sk) h := by
  intro p l e s m args below meth cd base D E st av L0 f0 ad0 H locs lsA L f ad X w hl
  exact lv_idiv X.1 X.2.1 hd hne (k p l e s m args below meth cd base D E st av L0 f0 ad0 H locs lsA L f ad X w hl)
theorem g_irem {x y : Int32} (hd : decode (mC M) pc = .ok (.irem, 1)) (hne : ¬ y = 0) (k : G M d mc ms h0 Q QX c n (pc + 1) ls (.int (x - x / y * y) :: sk) h) : G M d mc ms h0 Q QX c n pc ls (.int y :: .int x :: sk) h := by
  intro p l e s m args below meth cd base D E st av L0 f0 ad0 H locs lsA L f ad X w hl
  exact lv_irem X.1 X.2.1 hd hne (k p l e s m args below meth cd base D E st av L0 f0 ad0 H locs lsA L f ad X w hl)
theorem g_ineg {x : Int32} (hd : decode (mC M) pc = .ok (.ineg, 1)) (k : G M d mc ms h0 Q QX c n (pc + 1) ls (.int (-x) :: sk) h) : G M d mc ms h0 Q QX c n pc ls (.int x :: sk) h := by
  intro p l e s m args below meth cd base D E st av L0 f0 ad0 H locs lsA L f ad X w hl
  exact lv_ineg X.1 X.2.1 hd (k p l e s m args below meth cd base D E st av L0 f0 ad0 H locs lsA L f ad X w hl)
theorem g_ladd {x y : Int64} (hd : decode (mC M) pc = .ok (.ladd, 1)) (k : G M d mc ms h0 Q QX c n (pc + 1) ls (.long (x + y) :: sk) h) : G M d mc ms h0 Q QX c n pc ls (.long y :: .long x :: sk) h := by
  intro p l e s m args below meth cd base D E st av L0 f0 ad0 H locs lsA L f ad X w hl
  exact lv_ladd X.1 X.2.1 hd (k p l e s m args below meth cd base D E st av L0 f0 ad0 H locs lsA L f ad X w hl)
theorem g_lsub {x y : Int64} (hd : decode (mC M) pc = .ok (.lsub, 1)) (k : G M d mc ms h0 Q QX c n (pc + 1) ls (.long (x - y) :: sk) h) : G M d mc ms h0 Q QX c n pc ls (.long y :: .long x :: sk) h := by
  intro p l e s m args below meth cd base D E st av L0 f0 ad0 H locs lsA L f ad X w hl
  exact lv_lsub X.1 X.2.1 hd (k p l e s m args below meth cd base D E st av L0 f0 ad0 H locs lsA L f ad X w hl)
theorem g_lmul {x y : Int64} (hd : decode (mC M) pc = .ok (.lmul, 1)) (k : G M d mc ms h0 Q QX c n (pc + 1) ls (.long (x * y) :: sk) h) : G M d mc ms h0 Q QX c n pc ls (.long y :: .long x :: sk) h := by
  intro p l e s m args below meth cd base D E st av L0 f0 ad0 H locs lsA L f ad X w hl
  exact lv_lmul X.1 X.2.1 hd (k p l e s m args below meth cd base D E st av L0 f0 ad0 H locs lsA L f ad X w hl)
theorem g_lcmp {x y : Int64} (hd : decode (mC M) pc = .ok (.lcmp, 1)) (k : G M d mc ms h0 Q QX c n (pc + 1) ls (.int (lg_cmp x y) :: sk) h) : G M d mc ms h0 Q QX c n pc ls (.long y :: .long x :: sk) h := by
  intro p l e s m args below meth cd base D E st av L0 f0 ad0 H locs lsA L f ad X w hl
  exact W.lcmp X.1 X.2.1 hd (k p l e s m args below meth cd base D E st av L0 f0 ad0 H locs lsA L f ad X w hl)
theorem g_i2l {x : Int32} (hd : decode (mC M) pc = .ok (.i2l, 1)) (k : G M d mc ms h0 Q QX c n (pc + 1) ls (.long x.toInt64 :: sk) h) : G M d mc ms h0 Q QX c n pc ls (.int x :: sk) h := by
  intro p l e s m args below meth cd base D E st av L0 f0 ad0 H locs lsA L f ad X w hl
  exact lv_i2l X.1 X.2.1 hd rfl (k p l e s m args below meth cd base D E st av L0 f0 ad0 H locs lsA L f ad X w hl)
theorem g_l2i {x : Int64} (hd : decode (mC M) pc = .ok (.l2i, 1)) (k : G M d mc ms h0 Q QX c n (pc + 1) ls (.int x.toInt32 :: sk) h) : G M d mc ms h0 Q QX c n pc ls (.long x :: sk) h := by
  intro p l e s m args below meth cd base D E st av L0 f0 ad0 H locs lsA L f ad X w hl
  exact lv_l2i X.1 X.2.1 hd rfl (k p l e s m args below meth cd base D E st av L0 f0 ad0 H locs lsA L f ad X w hl)
theorem g_i2b {x : Int32} (hd : decode (mC M) pc = .ok (.i2b, 1)) (k : G M d mc ms h0 Q QX c n (pc + 1) ls (.int x.toInt8.toInt32 :: sk) h) : G M d mc ms h0 Q QX c n pc ls (.int x :: sk) h := by
  intro p l e s m args below meth cd base D E st av L0 f0 ad0 H locs lsA L f ad X w hl
  exact lv_i2b X.1 X.2.1 hd rfl (k p l e s m args below meth cd base D E st av L0 f0 ad0 H locs lsA L f ad X w hl)
theorem g_i2f {x : Int32} (hd : decode (mC M) pc = .ok (.i2f, 1)) (k : G M d mc ms h0 Q QX c n (pc + 1) ls (.float (FP.i2f x) :: sk) h) : G M d mc ms h0 Q QX c n pc ls (.int x :: sk) h := by
  intro p l e s m args below meth cd base D E st av L0 f0 ad0 H locs lsA L f ad X w hl
  exact lv_i2f X.1 X.2.1 hd (k p l e s m args below meth cd base D E st av L0 f0 ad0 H locs lsA L f ad X w hl)
theorem g_i2d {x : Int32} (hd : decode (mC M) pc = .ok (.i2d, 1)) (k : G M d mc ms h0 Q QX c n (pc + 1) ls (.double (FP.i2d x) :: sk) h) : G M d mc ms h0 Q QX c n pc ls (.int x :: sk) h := by
  intro p l e s m args below meth cd base D E st av L0 f0 ad0 H locs lsA L f ad X w hl
  exact lv_i2d X.1 X.2.1 hd (k p l e s m args below meth cd base D E st av L0 f0 ad0 H locs lsA L f ad X w hl)
theorem g_l2d {x : Int64} (hd : decode (mC M) pc = .ok (.l2d, 1)) (k : G M d mc ms h0 Q QX c n (pc + 1) ls (.double (FP.l2d x) :: sk) h) : G M d mc ms h0 Q QX c n pc ls (.long x :: sk) h := by
  intro p l e s m args below meth cd base D E st av L0 f0 ad0 H locs lsA L f ad X w hl
  exact lv_l2d X.1 X.2.1 hd (k p l e s m args below meth cd base D E st av L0 f0 ad0 H locs lsA L f ad X w hl)
theorem g_fdiv {x y : UInt32} (hd : decode (mC M) pc = .ok (.fdiv, 1)) (hne : vf_n32 (FP.fdiv x y)) (k : G M d mc ms h0 Q QX c n (pc + 1) ls (.float (FP.fdiv x y) :: sk) h) : G M d mc ms h0 Q QX c n pc ls (.float y :: .float x :: sk) h := by
  intro p l e s m args below meth cd base D E st av L0 f0 ad0 H locs lsA L f ad X w hl
  exact lv_fdiv X.1 X.2.1 hd hne (k p l e s m args below meth cd base D E st av L0 f0 ad0 H locs lsA L f ad X w hl)
theorem g_ddiv {x y : UInt64} (hd : decode (mC M) pc = .ok (.ddiv, 1)) (hne : vf_n64 (FP.ddiv x y)) (k : G M d mc ms h0 Q QX c n (pc + 1) ls (.double (FP.ddiv x y) :: sk) h) : G M d mc ms h0 Q QX c n pc ls (.double y :: .double x :: sk) h := by
  intro p l e s m args below meth cd base D E st av L0 f0 ad0 H locs lsA L f ad X w hl
  exact lv_ddiv X.1 X.2.1 hd hne (k p l e s m args below meth cd base D E st av L0 f0 ad0 H locs lsA L f ad X w hl)
theorem g_f2d {x : UInt32} (hd : decode (mC M) pc = .ok (.f2d, 1)) (hne : vf_n64 (FP.f2d x)) (k : G M d mc ms h0 Q QX c n (pc + 1) ls (.double (FP.f2d x) :: sk) h) : G M d mc ms h0 Q QX c n pc ls (.float x :: sk) h := by
  intro p l e s m args below meth cd base D E st av L0 f0 ad0 H locs lsA L f ad X w hl
  exact lv_f2d X.1 X.2.1 hd hne (k p l e s m args below meth cd base D E st av L0 f0 ad0 H locs lsA L f ad X w hl)
theorem g_dcmp {x y : UInt64} {op : CmpOp} (hd : decode (mC M) pc = .ok (.dcmp op, 1)) (k : G M d mc ms h0 Q QX c n (pc + 1) ls (.int (Op.cmpValue (FP.dcmp x y) op) :: sk) h) : G M d mc ms h0 Q QX c n pc ls (.double y :: .double x :: sk) h := by
  intro p l e s m args below meth cd base D E st av L0 f0 ad0 H locs lsA L f ad X w hl
  exact lv_dcmp X.1 X.2.1 hd (k p l e s m args below meth cd base D E st av L0 f0 ad0 H locs lsA L f ad X w hl)
theorem g_fconst0 (hd : decode (mC M) pc = .ok (.fconst 0, 1)) (k : G M d mc ms h0 Q QX c n (pc + 1) ls (.float FP.fconst0 :: sk) h) : G M d mc ms h0 Q QX c n pc ls (sk) h := by
  intro p l e s m args below meth cd base D E st av L0 f0 ad0 H locs lsA L f ad X w hl
  exact lv_fconst0 X.1 X.2.1 hd (k p l e s m args below meth cd base D E st av L0 f0 ad0 H locs lsA L f ad X w hl)
theorem g_dconst0 (hd : decode (mC M) pc = .ok (.dconst 0, 1)) (k : G M d mc ms h0 Q QX c n (pc + 1) ls (.double FP.dconst0 :: sk) h) : G M d mc ms h0 Q QX c n pc ls (sk) h := by
  intro p l e s m args below meth cd base D E st av L0 f0 ad0 H locs lsA L f ad X w hl
  exact lv_dconst0 X.1 X.2.1 hd (k p l e s m args below meth cd base D E st av L0 f0 ad0 H locs lsA L f ad X w hl)
theorem g_iconst {z : Int} (hd : decode (mC M) pc = .ok (.iconst z, 1)) (k : G M d mc ms h0 Q QX c n (pc + 1) ls (.int (Int32.ofInt z) :: sk) h) : G M d mc ms h0 Q QX c n pc ls (sk) h := by
  intro p l e s m args below meth cd base D E st av L0 f0 ad0 H locs lsA L f ad X w hl
  exact lv_iconst X.1 X.2.1 hd rfl (k p l e s m args below meth cd base D E st av L0 f0 ad0 H locs lsA L f ad X w hl)
theorem g_bipush {z : Int} {v : Int32} (hd : decode (mC M) pc = .ok (.bipush z, 2)) (hv : (Int8.ofInt z).toInt32 = v) (k : G M d mc ms h0 Q QX c n (pc + 2) ls (.int v :: sk) h) : G M d mc ms h0 Q QX c n pc ls (sk) h := by
  intro p l e s m args below meth cd base D E st av L0 f0 ad0 H locs lsA L f ad X w hl
  exact lv_bipush X.1 X.2.1 hd hv (k p l e s m args below meth cd base D E st av L0 f0 ad0 H locs lsA L f ad X w hl)
theorem g_sipush {z : Int} {v : Int32} (hd : decode (mC M) pc = .ok (.sipush z, 3)) (hv : (Int16.ofInt z).toInt32 = v) (k : G M d mc ms h0 Q QX c n (pc + 3) ls (.int v :: sk) h) : G M d mc ms h0 Q QX c n pc ls (sk) h := by
  intro p l e s m args below meth cd base D E st av L0 f0 ad0 H locs lsA L f ad X w hl
  exact lv_sipush X.1 X.2.1 hd hv (k p l e s m args below meth cd base D E st av L0 f0 ad0 H locs lsA L f ad X w hl)
theorem g_lconst {z : Fin 2} (hd : decode (mC M) pc = .ok (.lconst z, 1)) (k : G M d mc ms h0 Q QX c n (pc + 1) ls (.long (Int64.ofNat (z : Nat)) :: sk) h) : G M d mc ms h0 Q QX c n pc ls (sk) h := by
  intro p l e s m args below meth cd base D E st av L0 f0 ad0 H locs lsA L f ad X w hl
  exact lv_lconst X.1 X.2.1 hd rfl (k p l e s m args below meth cd base D E st av L0 f0 ad0 H locs lsA L f ad X w hl)
theorem g_iload_n {i : Fin 4} {x : Int32} (hd : decode (mC M) pc = .ok (.iload_n i, 1)) (hi : ls[(i : Nat)]? = some (some (.int x))) (k : G M d mc ms h0 Q QX c n (pc + 1) ls (.int x :: sk) h) : G M d mc ms h0 Q QX c n pc ls sk h := by
  intro p l e s m args below meth cd base D E st av L0 f0 ad0 H locs lsA L f ad X w hl
  exact lv_iload_n X.1 X.2.1 hd rfl (hl.at hi) (k p l e s m args below meth cd base D E st av L0 f0 ad0 H locs lsA L f ad X w hl)
theorem g_iload {i : Nat} {x : Int32} (hd : decode (mC M) pc = .ok (.iload i, 2)) (hi : ls[(i : Nat)]? = some (some (.int x))) (k : G M d mc ms h0 Q QX c n (pc + 2) ls (.int x :: sk) h) : G M d mc ms h0 Q QX c n pc ls sk h := by
  intro p l e s m args below meth cd base D E st av L0 f0 ad0 H locs lsA L f ad X w hl
  exact lv_iload X.1 X.2.1 hd (hl.at hi) (k p l e s m args below meth cd base D E st av L0 f0 ad0 H locs lsA L f ad X w hl)
theorem g_lload_n {i : Fin 4} {x : Int64} (hd : decode (mC M) pc = .ok (.lload_n i, 1)) (hi : ls[(i : Nat)]? = some (some (.long x))) (k : G M d mc ms h0 Q QX c n (pc + 1) ls (.long x :: sk) h) : G M d mc ms h0 Q QX c n pc ls sk h := by
  intro p l e s m args below meth cd base D E st av L0 f0 ad0 H locs lsA L f ad X w hl
  exact lv_lload_n X.1 X.2.1 hd rfl (hl.at hi) (k p l e s m args below meth cd base D E st av L0 f0 ad0 H locs lsA L f ad X w hl)
theorem g_lload {i : Nat} {x : Int64} (hd : decode (mC M) pc = .ok (.lload i, 2)) (hi : ls[(i : Nat)]? = some (some (.long x))) (k : G M d mc ms h0 Q QX c n (pc + 2) ls (.long x :: sk) h) : G M d mc ms h0 Q QX c n pc ls sk h := by
  intro p l e s m args below meth cd base D E st av L0 f0 ad0 H locs lsA L f ad X w hl
  exact lv_lload X.1 X.2.1 hd (hl.at hi) (k p l e s m args below meth cd base D E st av L0 f0 ad0 H locs lsA L f ad X w hl)
theorem g_aload_n {i : Fin 4} {x : Nat} (hd : decode (mC M) pc = .ok (.aload_n i, 1)) (hi : ls[(i : Nat)]? = some (some (.ref x))) (k : G M d mc ms h0 Q QX c n (pc + 1) ls (.ref x :: sk) h) : G M d mc ms h0 Q QX c n pc ls sk h := by
  intro p l e s m args below meth cd base D E st av L0 f0 ad0 H locs lsA L f ad X w hl
  exact lv_aload_n X.1 X.2.1 hd rfl (hl.at hi) (k p l e s m args below meth cd base D E st av L0 f0 ad0 H locs lsA L f ad X w hl)
theorem g_aload {i : Nat} {x : Nat} (hd : decode (mC M) pc = .ok (.aload i, 2)) (hi : ls[(i : Nat)]? = some (some (.ref x))) (k : G M d mc ms h0 Q QX c n (pc + 2) ls (.ref x :: sk) h) : G M d mc ms h0 Q QX c n pc ls sk h := by
  intro p l e s m args below meth cd base D E st av L0 f0 ad0 H locs lsA L f ad X w hl
  exact lv_aload X.1 X.2.1 hd (hl.at hi) (k p l e s m args below meth cd base D E st av L0 f0 ad0 H locs lsA L f ad X w hl)
theorem g_dload {i : Nat} {x : UInt64} (hd : decode (mC M) pc = .ok (.dload i, 2)) (hi : ls[(i : Nat)]? = some (some (.double x))) (k : G M d mc ms h0 Q QX c n (pc + 2) ls (.double x :: sk) h) : G M d mc ms h0 Q QX c n pc ls sk h := by
  intro p l e s m args below meth cd base D E st av L0 f0 ad0 H locs lsA L f ad X w hl
  exact lv_dload X.1 X.2.1 hd (hl.at hi) (k p l e s m args below meth cd base D E st av L0 f0 ad0 H locs lsA L f ad X w hl)
theorem g_istore_n {i : Fin 4} {x : Int32} (hd : decode (mC M) pc = .ok (.istore_n i, 1)) (hn : (i : Nat) < mN M) (k : G M d mc ms h0 Q QX c n (pc + 1) (gSet1 ls i (.int x)) sk h) : G M d mc ms h0 Q QX c n pc ls (.int x :: sk) h := by
  intro p l e s m args below meth cd base D E st av L0 f0 ad0 H locs lsA L f ad X w hl
  exact lv_istore_n X.1 X.2.1 hd rfl hl.2 hn rfl (fun lsB hB => k p l e s m args below meth cd base D E st av L0 f0 ad0 H locs lsB L f ad X w (hl.st1 (v := .int x) hB))
theorem g_istore {i : Nat} {x : Int32} (hd : decode (mC M) pc = .ok (.istore i, 2)) (hn : (i : Nat) < mN M) (k : G M d mc ms h0 Q QX c n (pc + 2) (gSet1 ls i (.int x)) sk h) : G M d mc ms h0 Q QX c n pc ls (.int x :: sk) h := by
  intro p l e s m args below meth cd base D E st av L0 f0 ad0 H locs lsA L f ad X w hl
  exact lv_istore X.1 X.2.1 hd hl.2 hn rfl (fun lsB hB => k p l e s m args below meth cd base D E st av L0 f0 ad0 H locs lsB L f ad X w (hl.st1 (v := .int x) hB))
theorem g_lstore_n {i : Fin 4} {x : Int64} (hd : decode (mC M) pc = .ok (.lstore_n i, 1)) (hn : (i : Nat) + 1 < mN M) (k : G M d mc ms h0 Q QX c n (pc + 1) (gSet2 ls i (.long x)) sk h) : G M d mc ms h0 Q QX c n pc ls (.long x :: sk) h := by
  intro p l e s m args below meth cd base D E st av L0 f0 ad0 H locs lsA L f ad X w hl
  exact lv_lstore_n X.1 X.2.1 hd rfl hl.2 hn rfl (fun lsB hB => k p l e s m args below meth cd base D E st av L0 f0 ad0 H locs lsB L f ad X w (hl.st2 (v := .long x) hB))
theorem g_lstore {i : Nat} {x : Int64} (hd : decode (mC M) pc = .ok (.lstore i, 2)) (hn : (i : Nat) + 1 < mN M) (k : G M d mc ms h0 Q QX c n (pc + 2) (gSet2 ls i (.long x)) sk h) : G M d mc ms h0 Q QX c n pc ls (.long x :: sk) h := by
  intro p l e s m args below meth cd base D E st av L0 f0 ad0 H locs lsA L f ad X w hl
  exact lv_lstore X.1 X.2.1 hd hl.2 hn rfl (fun lsB hB => k p l e s m args below meth cd base D E st av L0 f0 ad0 H locs lsB L f ad X w (hl.st2 (v := .long x) hB))
theorem g_astore_n {i : Fin 4} {x : Nat} (hd : decode (mC M) pc = .ok (.astore_n i, 1)) (hn : (i : Nat) < mN M) (k : G M d mc ms h0 Q QX c n (pc + 1) (gSet1 ls i (.ref x)) sk h) : G M d mc ms h0 Q QX c n pc ls (.ref x :: sk) h := by
  intro p l e s m args below meth cd base D E st av L0 f0 ad0 H locs lsA L f ad X w hl
  exact lv_astore_n X.1 X.2.1 hd rfl hl.2 hn rfl (fun lsB hB => k p l e s m args below meth cd base D E st av L0 f0 ad0 H locs lsB L f ad X w (hl.st1 (v := .ref x) hB))
theorem g_astore {i : Nat} {x : Nat} (hd : decode (mC M) pc = .ok (.astore i, 2)) (hn : (i : Nat) < mN M) (k : G M d mc ms h0 Q QX c n (pc + 2) (gSet1 ls i (.ref x)) sk h) : G M d mc ms h0 Q QX c n pc ls (.ref x :: sk) h := by
  intro p l e s m args below meth cd base D E st av L0 f0 ad0 H locs lsA L f ad X w hl
  exact lv_astore X.1 X.2.1 hd hl.2 hn rfl (fun lsB hB => k p l e s m args below meth cd base D E st av L0 f0 ad0 H locs lsB L f ad X w (hl.st1 (v := .ref x) hB))
theorem g_dstore {i : Nat} {x : UInt64} (hd : decode (mC M) pc = .ok (.dstore i, 2)) (hn : (i : Nat) + 1 < mN M) (k : G M d mc ms h0 Q QX c n (pc + 2) (gSet2 ls i (.double x)) sk h) : G M d mc ms h0 Q QX c n pc ls (.double x :: sk) h := by
  intro p l e s m args below meth cd base D E st av L0 f0 ad0 H locs lsA L f ad X w hl
  exact lv_dstore X.1 X.2.1 hd hl.2 hn rfl (fun lsB hB => k p l e s m args below meth cd base D E st av L0 f0 ad0 H locs lsB L f ad X w (hl.st2 (v := .double x) hB))
theorem gLsF_get {ad : Nat → Nat} {ls : List (Option Value)} {i : Nat} {x : Int32} (hi : ls[i]? = some (some (.int x))) : ∃ k : Nat, (gLsF ad 0 ls)[k]? = some (i, .int x) :=
  List.getElem?_of_mem (gLsF_mem.mpr ⟨i, .int x, by omega, hi, rfl⟩)
theorem g_iinc {i : Nat} {z : Int} {x : Int32} (hd : decode (mC M) pc = .ok (.iinc i z, 3)) (hn : i < mN M) (hi : ls[i]? = some (some (.int x))) (k : G M d mc ms h0 Q QX c n (pc + 3) (gSet1 ls i (.int (x + Int32.ofInt z))) sk h) : G M d mc ms h0 Q QX c n pc ls sk h := by
  intro p l e s m args below meth cd base D E st av L0 f0 ad0 H locs lsA L f ad X w hl
  obtain ⟨q, hq⟩ := gLsF_get (ad := ad) hi
  exact lv_iinc X.1 X.2.1 hd hl.2 hq rfl hn rfl (fun lsB hB => k p l e s m args below meth cd base D E st av L0 f0 ad0 H locs lsB L f ad X w (hl.st1 (v := .int (x + Int32.ofInt z)) hB))
theorem g_dup {va : Value} (hd : decode (mC M) pc = .ok (.dup, 1)) (hva : va.category = 1) (k : G M d mc ms h0 Q QX c n (pc + 1) ls (va :: va :: sk) h) : G M d mc ms h0 Q QX c n pc ls (va :: sk) h := by
  intro p l e s m args below meth cd base D E st av L0 f0 ad0 H locs lsA L f ad X w hl
  exact lv_dup X.1 X.2.1 hd (by rw [tv_cat]; exact hva) (k p l e s m args below meth cd base D E st av L0 f0 ad0 H locs lsA L f ad X w hl)
theorem g_pop {va : Value} (hd : decode (mC M) pc = .ok (.pop, 1)) (hva : va.category = 1) (k : G M d mc ms h0 Q QX c n (pc + 1) ls (sk) h) : G M d mc ms h0 Q QX c n pc ls (va :: sk) h := by
  intro p l e s m args below meth cd base D E st av L0 f0 ad0 H locs lsA L f ad X w hl
  exact lv_pop X.1 X.2.1 hd (by rw [tv_cat]; exact hva) (k p l e s m args below meth cd base D E st av L0 f0 ad0 H locs lsA L f ad X w hl)
theorem g_dup2 {va vb : Value} (hd : decode (mC M) pc = .ok (.dup2, 1)) (hva : va.category = 1) (hvb : vb.category = 1) (k : G M d mc ms h0 Q QX c n (pc + 1) ls (va :: vb :: va :: vb :: sk) h) : G M d mc ms h0 Q QX c n pc ls (va :: vb :: sk) h := by
  intro p l e s m args below meth cd base D E st av L0 f0 ad0 H locs lsA L f ad X w hl
  exact lv_dup2_11 X.1 X.2.1 hd (by rw [tv_cat]; exact hva) (by rw [tv_cat]; exact hvb) (k p l e s m args below meth cd base D E st av L0 f0 ad0 H locs lsA L f ad X w hl)
theorem g_if_eq {x : Int32} {off : Int} {t : Nat} (hd : decode (mC M) pc = .ok (.ifCond .eq off, 3)) (ht : (pc : Int) + off = (t : Int)) (kt : (x = 0) → G M d mc ms h0 Q QX c n t ls sk h) (kf : ¬ (x = 0) → G M d mc ms h0 Q QX c n (pc + 3) ls sk h) : G M d mc ms h0 Q QX c n pc ls (.int x :: sk) h := by
  intro p l e s m args below meth cd base D E st av L0 f0 ad0 H locs lsA L f ad X w hl
  exact lv_if_eq X.1 X.2.1 hd ht (fun z => kt z p l e s m args below meth cd base D E st av L0 f0 ad0 H locs lsA L f ad X w hl) (fun z => kf z p l e s m args below meth cd base D E st av L0 f0 ad0 H locs lsA L f ad X w hl)
theorem g_icmp_eq {x y : Int32} {off : Int} {t : Nat} (hd : decode (mC M) pc = .ok (.if_icmp .eq off, 3)) (ht : (pc : Int) + off = (t : Int)) (kt : (x = y) → G M d mc ms h0 Q QX c n t ls sk h) (kf : ¬ (x = y) → G M d mc ms h0 Q QX c n (pc + 3) ls sk h) : G M d mc ms h0 Q QX c n pc ls (.int y :: .int x :: sk) h := by
  intro p l e s m args below meth cd base D E st av L0 f0 ad0 H locs lsA L f ad X w hl
  exact lv_icmp_eq X.1 X.2.1 hd ht (fun z => kt z p l e s m args below meth cd base D E st av L0 f0 ad0 H locs lsA L f ad X w hl) (fun z => kf z p l e s m args below meth cd base D E st av L0 f0 ad0 H locs lsA L f ad X w hl)
theorem g_if_ne {x : Int32} {off : Int} {t : Nat} (hd : decode (mC M) pc = .ok (.ifCond .ne off, 3)) (ht : (pc : Int) + off = (t : Int)) (kt : (¬ x = 0) → G M d mc ms h0 Q QX c n t ls sk h) (kf : x = 0 → G M d mc ms h0 Q QX c n (pc + 3) ls sk h) : G M d mc ms h0 Q QX c n pc ls (.int x :: sk) h := by
  intro p l e s m args below meth cd base D E st av L0 f0 ad0 H locs lsA L f ad X w hl
  exact lv_if_ne X.1 X.2.1 hd ht (fun z => kt z p l e s m args below meth cd base D E st av L0 f0 ad0 H locs lsA L f ad X w hl) (fun z => kf z p l e s m args below meth cd base D E st av L0 f0 ad0 H locs lsA L f ad X w hl)
theorem g_icmp_ne {x y : Int32} {off : Int} {t : Nat} (hd : decode (mC M) pc = .ok (.if_icmp .ne off, 3)) (ht : (pc : Int) + off = (t : Int)) (kt : (¬ x = y) → G M d mc ms h0 Q QX c n t ls sk h) (kf : x = y → G M d mc ms h0 Q QX c n (pc + 3) ls sk h) : G M d mc ms h0 Q QX c n pc ls (.int y :: .int x :: sk) h := by
  intro p l e s m args below meth cd base D E st av L0 f0 ad0 H locs lsA L f ad X w hl
  exact lv_icmp_ne X.1 X.2.1 hd ht (fun z => kt z p l e s m args below meth cd base D E st av L0 f0 ad0 H locs lsA L f ad X w hl) (fun z => kf z p l e s m args below meth cd base D E st av L0 f0 ad0 H locs lsA L f ad X w hl)
theorem g_if_lt {x : Int32} {off : Int} {t : Nat} (hd : decode (mC M) pc = .ok (.ifCond .lt off, 3)) (ht : (pc : Int) + off = (t : Int)) (kt : (x < 0) → G M d mc ms h0 Q QX c n t ls sk h) (kf : ¬ (x < 0) → G M d mc ms h0 Q QX c n (pc + 3) ls sk h) : G M d mc ms h0 Q QX c n pc ls (.int x :: sk) h := by
  intro p l e s m args below meth cd base D E st av L0 f0 ad0 H locs lsA L f ad X w hl
  exact lv_if_lt X.1 X.2.1 hd ht (fun z => kt z p l e s m args below meth cd base D E st av L0 f0 ad0 H locs lsA L f ad X w hl) (fun z => kf z p l e s m args below meth cd base D E st av L0 f0 ad0 H locs lsA L f ad X w hl)
theorem g_icmp_lt {x y : Int32} {off : Int} {t : Nat} (hd : decode (mC M) pc = .ok (.if_icmp .lt off, 3)) (ht : (pc : Int) + off = (t : Int)) (kt : (x < y) → G M d mc ms h0 Q QX c n t ls sk h) (kf : ¬ (x < y) → G M d mc ms h0 Q QX c n (pc + 3) ls sk h) : G M d mc ms h0 Q QX c n pc ls (.int y :: .int x :: sk) h := by
  intro p l e s m args below meth cd base D E st av L0 f0 ad0 H locs lsA L f ad X w hl
  exact lv_icmp_lt X.1 X.2.1 hd ht (fun z => kt z p l e s m args below meth cd base D E st av L0 f0 ad0 H locs lsA L f ad X w hl) (fun z => kf z p l e s m args below meth cd base D E st av L0 f0 ad0 H locs lsA L f ad X w hl)
theorem g_if_ge {x : Int32} {off : Int} {t : Nat} (hd : decode (mC M) pc = .ok (.ifCond .ge off, 3)) (ht : (pc : Int) + off = (t : Int)) (kt : (x ≥ 0) → G M d mc ms h0 Q QX c n t ls sk h) (kf : ¬ (x ≥ 0) → G M d mc ms h0 Q QX c n (pc + 3) ls sk h) : G M d mc ms h0 Q QX c n pc ls (.int x :: sk) h := by
  intro p l e s m args below meth cd base D E st av L0 f0 ad0 H locs lsA L f ad X w hl
  exact lv_if_ge X.1 X.2.1 hd ht (fun z => kt z p l e s m args below meth cd base D E st av L0 f0 ad0 H locs lsA L f ad X w hl) (fun z => kf z p l e s m args below meth cd base D E st av L0 f0 ad0 H locs lsA L f ad X w hl)
theorem g_icmp_ge {x y : Int32} {off : Int} {t : Nat} (hd : decode (mC M) pc = .ok (.if_icmp .ge off, 3)) (ht : (pc : Int) + off = (t : Int)) (kt : (x ≥ y) → G M d mc ms h0 Q QX c n t ls sk h) (kf : ¬ (x ≥ y) → G M d mc ms h0 Q QX c n (pc + 3) ls sk h) : G M d mc ms h0 Q QX c n pc ls (.int y :: .int x :: sk) h := by
  intro p l e s m args below meth cd base D E st av L0 f0 ad0 H locs lsA L f ad X w hl
  exact lv_icmp_ge X.1 X.2.1 hd ht (fun z => kt z p l e s m args below meth cd base D E st av L0 f0 ad0 H locs lsA L f ad X w hl) (fun z => kf z p l e s m args below meth cd base D E st av L0 f0 ad0 H locs lsA L f ad X w hl)
theorem g_if_gt {x : Int32} {off : Int} {t : Nat} (hd : decode (mC M) pc = .ok (.ifCond .gt off, 3)) (ht : (pc : Int) + off = (t : Int)) (kt : (x > 0) → G M d mc ms h0 Q QX c n t ls sk h) (kf : ¬ (x > 0) → G M d mc ms h0 Q QX c n (pc + 3) ls sk h) : G M d mc ms h0 Q QX c n pc ls (.int x :: sk) h := by
  intro p l e s m args below meth cd base D E st av L0 f0 ad0 H locs lsA L f ad X w hl
  exact lv_if_gt X.1 X.2.1 hd ht (fun z => kt z p l e s m args below meth cd base D E st av L0 f0 ad0 H locs lsA L f ad X w hl) (fun z => kf z p l e s m args below meth cd base D E st av L0 f0 ad0 H locs lsA L f ad X w hl)
theorem g_icmp_gt {x y : Int32} {off : Int} {t : Nat} (hd : decode (mC M) pc = .ok (.if_icmp .gt off, 3)) (ht : (pc : Int) + off = (t : Int)) (kt : (x > y) → G M d mc ms h0 Q QX c n t ls sk h) (kf : ¬ (x > y) → G M d mc ms h0 Q QX c n (pc + 3) ls sk h) : G M d mc ms h0 Q QX c n pc ls (.int y :: .int x :: sk) h := by
  intro p l e s m args below meth cd base D E st av L0 f0 ad0 H locs lsA L f ad X w hl
  exact lv_icmp_gt X.1 X.2.1 hd ht (fun z => kt z p l e s m args below meth cd base D E st av L0 f0 ad0 H locs lsA L f ad X w hl) (fun z => kf z p l e s m args below meth cd base D E st av L0 f0 ad0 H locs lsA L f ad X w hl)
theorem g_if_le {x : Int32} {off : Int} {t : Nat} (hd : decode (mC M) pc = .ok (.ifCond .le off, 3)) (ht : (pc : Int) + off = (t : Int)) (kt : (x ≤ 0) → G M d mc ms h0 Q QX c n t ls sk h) (kf : ¬ (x ≤ 0) → G M d mc ms h0 Q QX c n (pc + 3) ls sk h) : G M d mc ms h0 Q QX c n pc ls (.int x :: sk) h := by
  intro p l e s m args below meth cd base D E st av L0 f0 ad0 H locs lsA L f ad X w hl
  exact lv_if_le X.1 X.2.1 hd ht (fun z => kt z p l e s m args below meth cd base D E st av L0 f0 ad0 H locs lsA L f ad X w hl) (fun z => kf z p l e s m args below meth cd base D E st av L0 f0 ad0 H locs lsA L f ad X w hl)
theorem g_icmp_le {x y : Int32} {off : Int} {t : Nat} (hd : decode (mC M) pc = .ok (.if_icmp .le off, 3)) (ht : (pc : Int) + off = (t : Int)) (kt : (x ≤ y) → G M d mc ms h0 Q QX c n t ls sk h) (kf : ¬ (x ≤ y) → G M d mc ms h0 Q QX c n (pc + 3) ls sk h) : G M d mc ms h0 Q QX c n pc ls (.int y :: .int x :: sk) h := by
  intro p l e s m args below meth cd base D E st av L0 f0 ad0 H locs lsA L f ad X w hl
  exact lv_icmp_le X.1 X.2.1 hd ht (fun z => kt z p l e s m args below meth cd base D E st av L0 f0 ad0 H locs lsA L f ad X w hl) (fun z => kf z p l e s m args below meth cd base D E st av L0 f0 ad0 H locs lsA L f ad X w hl)
theorem g_goto {off : Int} {t : Nat} (hd : decode (mC M) pc = .ok (.goto off, 3)) (ht : (pc : Int) + off = (t : Int)) (k : G M d mc ms h0 Q QX c n t ls sk h) : G M d mc ms h0 Q QX c n pc ls sk h := by
  intro p l e s m args below meth cd base D E st av L0 f0 ad0 H locs lsA L f ad X w hl
  exact lv_goto X.1 X.2.1 hd ht (k p l e s m args below meth cd base D E st av L0 f0 ad0 H locs lsA L f ad X w hl)
theorem g_ifnonnull {x : Nat} {off : Int} {t : Nat} (hd : decode (mC M) pc = .ok (.ifnonnull off, 3)) (ht : (pc : Int) + off = (t : Int)) (k : G M d mc ms h0 Q QX c n t ls sk h) : G M d mc ms h0 Q QX c n pc ls (.ref x :: sk) h := by
  intro p l e s m args below meth cd base D E st av L0 f0 ad0 H locs lsA L f ad X w hl
  exact lv_ifnonnull X.1 X.2.1 hd ht (k p l e s m args below meth cd base D E st av L0 f0 ad0 H locs lsA L f ad X w hl)
theorem g_ifnonnullN {off : Int} (hd : decode (mC M) pc = .ok (.ifnonnull off, 3)) (k : G M d mc ms h0 Q QX c n (pc + 3) ls sk h) : G M d mc ms h0 Q QX c n pc ls (.null :: sk) h := by
  intro p l e s m args below meth cd base D E st av L0 f0 ad0 H locs lsA L f ad X w hl
  exact lv_ifnonnullN X.1 X.2.1 hd (k p l e s m args below meth cd base D E st av L0 f0 ad0 H locs lsA L f ad X w hl)
theorem g_swOut {dflt lo hi : Int} {offs : Array Int} {len t : Nat} {x : Int32} (hd : decode (mC M) pc = .ok (.tableswitch dflt lo hi offs, len)) (hx : x.toInt < lo ∨ hi < x.toInt) (ht : (pc : Int) + dflt = (t : Int)) (k : G M d mc ms h0 Q QX c n t ls sk h) : G M d mc ms h0 Q QX c n pc ls (.int x :: sk) h := by
  intro p l e s m args below meth cd base D E st av L0 f0 ad0 H locs lsA L f ad X w hl
  exact lv_tableOut X.1 X.2.1 hd hx ht (k p l e s m args below meth cd base D E st av L0 f0 ad0 H locs lsA L f ad X w hl)
theorem g_swIn {dflt lo hi : Int} {offs : Array Int} {len t : Nat} {x : Int32} {off : Int} (hd : decode (mC M) pc = .ok (.tableswitch dflt lo hi offs, len)) (h1 : ¬ x.toInt < lo) (h2 : ¬ hi < x.toInt) (ho : offs[(x.toInt - lo).toNat]? = some off) (ht : (pc : Int) + off = (t : Int)) (k : G M d mc ms h0 Q QX c n t ls sk h) : G M d mc ms h0 Q QX c n pc ls (.int x :: sk) h := by
  intro p l e s m args below meth cd base D E st av L0 f0 ad0 H locs lsA L f ad X w hl
  exact lv_tableIn X.1 X.2.1 hd h1 h2 ho ht (k p l e s m args below meth cd base D E st av L0 f0 ad0 H locs lsA L f ad X w hl)
end GROWS
