/-- a store into a field -/
def gUp (h : gH) (p a b : Nat) (v : Value) : gH := match h[p]? with
  | some (some (.inl x)) => h.set p (some (.inl (a, x.2.set b v)))
  | _ => h
theorem gUp_p (p : Nat) (h : gH) (a b : Nat) (v : Value) (F : gH → Prop) : (cO h[p]? a fun fs => b < fs.length ∧ F (h.set p (some (.inl (a, fs.set b v))))) = (cO h[p]? a fun fs => b < fs.length ∧ F (gUp h p a b v)) := by
  unfold gUp
  cases hx : h[p]? with
  | none => rfl
  | some o => cases o with
    | none => rfl
    | some x => cases x <;> rfl
theorem gUp_q (r : List Value) (h : gH) (a b : Nat) (v : Value) (F : List Value → gH → Prop) : (pR r fun p r => cO h[p]? a fun fs => b < fs.length ∧ F r (h.set p (some (.inl (a, fs.set b v))))) = (pR r fun p r => cO h[p]? a fun fs => b < fs.length ∧ F r (gUp h p a b v)) := by
  unfold pR
  split
  · exact gUp_p _ h a b v (F _)
  · rfl
theorem gUp_c {c : Option gC} {r : gH} {p a b : Nat} {v : Value} : gUp (c :: r) (p + 1) a b v = c :: gUp r p a b v := by
  unfold gUp
  rw [List.getElem?_cons_succ]
  cases r[p]? with
  | none => rfl
  | some o => cases o with
    | none => rfl
    | some x => cases x <;> rfl
theorem gUp_0 {cj : Nat} {fs : List Value} {r : gH} {a b : Nat} {v : Value} : gUp (some (.inl (cj, fs)) :: r) 0 a b v = some (.inl (a, fs.set b v)) :: r := rfl
section GWL
variable {M : gM} {K : Nat → List (Option Value) → List Value → gH → Prop} {KR : Option Value → gH → Prop} {is : List gI} {pc a b t : Nat} {ls : List (Option Value)} {sk : List Value} {h : gH}
theorem w_nil : wpb M K KR [] pc ls sk h = K pc ls sk h := rfl
theorem w_iadd  : wpb M K KR ((.iadd, a, b, t) :: is) pc ls sk h = (pI sk fun y r => pI r fun x r => wpb M K KR is (pc + 1) ls (.int (x + y) :: r) h) := rfl
theorem w_isub  : wpb M K KR ((.isub, a, b, t) :: is) pc ls sk h = (pI sk fun y r => pI r fun x r => wpb M K KR is (pc + 1) ls (.int (x - y) :: r) h) := rfl
theorem w_imul  : wpb M K KR ((.imul, a, b, t) :: is) pc ls sk h = (pI sk fun y r => pI r fun x r => wpb M K KR is (pc + 1) ls (.int (x * y) :: r) h) := rfl
theorem w_iand  : wpb M K KR ((.iand, a, b, t) :: is) pc ls sk h = (pI sk fun y r => pI r fun x r => wpb M K KR is (pc + 1) ls (.int (x &&& y) :: r) h) := rfl
theorem w_ior  : wpb M K KR ((.ior, a, b, t) :: is) pc ls sk h = (pI sk fun y r => pI r fun x r => wpb M K KR is (pc + 1) ls (.int (x ||| y) :: r) h) := rfl
theorem w_ishl  : wpb M K KR ((.ishl, a, b, t) :: is) pc ls sk h = (pI sk fun y r => pI r fun x r => wpb M K KR is (pc + 1) ls (.int (x <<< (y &&& 31)) :: r) h) := rfl
theorem w_ishr  : wpb M K KR ((.ishr, a, b, t) :: is) pc ls sk h = (pI sk fun y r => pI r fun x r => wpb M K KR is (pc + 1) ls (.int (x >>> (y &&& 31)) :: r) h) := rfl
theorem w_idiv  : wpb M K KR ((.idiv, a, b, t) :: is) pc ls sk h = (pI sk fun y r => pI r fun x r => ¬ y = 0 ∧ wpb M K KR is (pc + 1) ls (.int (x / y) :: r) h) := rfl
theorem w_irem  : wpb M K KR ((.irem, a, b, t) :: is) pc ls sk h = (pI sk fun y r => pI r fun x r => ¬ y = 0 ∧ wpb M K KR is (pc + 1) ls (.int (x - x / y * y) :: r) h) := rfl
theorem w_ladd  : wpb M K KR ((.ladd, a, b, t) :: is) pc ls sk h = (pL sk fun y r => pL r fun x r => wpb M K KR is (pc + 1) ls (.long (x + y) :: r) h) := rfl
theorem w_lsub  : wpb M K KR ((.lsub, a, b, t) :: is) pc ls sk h = (pL sk fun y r => pL r fun x r => wpb M K KR is (pc + 1) ls (.long (x - y) :: r) h) := rfl
theorem w_lmul  : wpb M K KR ((.lmul, a, b, t) :: is) pc ls sk h = (pL sk fun y r => pL r fun x r => wpb M K KR is (pc + 1) ls (.long (x * y) :: r) h) := rfl
theorem w_lcmp  : wpb M K KR ((.lcmp, a, b, t) :: is) pc ls sk h = (pL sk fun y r => pL r fun x r => wpb M K KR is (pc + 1) ls (.int (lg_cmp x y) :: r) h) := rfl
theorem w_fdiv  : wpb M K KR ((.fdiv, a, b, t) :: is) pc ls sk h = (pF sk fun y r => pF r fun x r => vf_n32 (FP.fdiv x y) ∧ wpb M K KR is (pc + 1) ls (.float (FP.fdiv x y) :: r) h) := rfl
theorem w_ddiv  : wpb M K KR ((.ddiv, a, b, t) :: is) pc ls sk h = (pD sk fun y r => pD r fun x r => vf_n64 (FP.ddiv x y) ∧ wpb M K KR is (pc + 1) ls (.double (FP.ddiv x y) :: r) h) := rfl
theorem w_ineg  : wpb M K KR ((.ineg, a, b, t) :: is) pc ls sk h = (pI sk fun x r => wpb M K KR is (pc + 1) ls (.int (-x) :: r) h) := rfl
theorem w_i2l  : wpb M K KR ((.i2l, a, b, t) :: is) pc ls sk h = (pI sk fun x r => wpb M K KR is (pc + 1) ls (.long x.toInt64 :: r) h) := rfl
theorem w_l2i  : wpb M K KR ((.l2i, a, b, t) :: is) pc ls sk h = (pL sk fun x r => wpb M K KR is (pc + 1) ls (.int x.toInt32 :: r) h) := rfl
theorem w_i2b  : wpb M K KR ((.i2b, a, b, t) :: is) pc ls sk h = (pI sk fun x r => wpb M K KR is (pc + 1) ls (.int x.toInt8.toInt32 :: r) h) := rfl
theorem w_i2c  : wpb M K KR ((.i2c, a, b, t) :: is) pc ls sk h = (pI sk fun x r => wpb M K KR is (pc + 1) ls (.int (x.toUInt32 % 65536).toInt32 :: r) h) := rfl
theorem w_i2f  : wpb M K KR ((.i2f, a, b, t) :: is) pc ls sk h = (pI sk fun x r => wpb M K KR is (pc + 1) ls (.float (FP.i2f x) :: r) h) := rfl
theorem w_i2d  : wpb M K KR ((.i2d, a, b, t) :: is) pc ls sk h = (pI sk fun x r => wpb M K KR is (pc + 1) ls (.double (FP.i2d x) :: r) h) := rfl
theorem w_l2d  : wpb M K KR ((.l2d, a, b, t) :: is) pc ls sk h = (pL sk fun x r => wpb M K KR is (pc + 1) ls (.double (FP.l2d x) :: r) h) := rfl
theorem w_f2d  : wpb M K KR ((.f2d, a, b, t) :: is) pc ls sk h = (pF sk fun x r => vf_n64 (FP.f2d x) ∧ wpb M K KR is (pc + 1) ls (.double (FP.f2d x) :: r) h) := rfl
theorem w_dcmp {op : CmpOp} : wpb M K KR ((.dcmp op, a, b, t) :: is) pc ls sk h = (pD sk fun y r => pD r fun x r => wpb M K KR is (pc + 1) ls (.int (Op.cmpValue (FP.dcmp x y) op) :: r) h) := rfl
theorem w_iconst {z : Int} : wpb M K KR ((.iconst z, a, b, t) :: is) pc ls sk h = (wpb M K KR is (pc + 1) ls (.int (Int32.ofInt z) :: sk) h) := rfl
theorem w_bipush {z : Int} : wpb M K KR ((.bipush z, a, b, t) :: is) pc ls sk h = (wpb M K KR is (pc + 2) ls (.int (Int32.ofInt z) :: sk) h) := rfl
theorem w_sipush {z : Int} : wpb M K KR ((.sipush z, a, b, t) :: is) pc ls sk h = (wpb M K KR is (pc + 3) ls (.int (Int32.ofInt z) :: sk) h) := rfl
theorem w_lconst {z : Fin 2} : wpb M K KR ((.lconst z, a, b, t) :: is) pc ls sk h = (wpb M K KR is (pc + 1) ls (.long (Int64.ofNat (z : Nat)) :: sk) h) := rfl
theorem w_fconst {z : Fin 3} : wpb M K KR ((.fconst z, a, b, t) :: is) pc ls sk h = (wpb M K KR is (pc + 1) ls (.float FP.fconst0 :: sk) h) := rfl
theorem w_dconst {z : Fin 2} : wpb M K KR ((.dconst z, a, b, t) :: is) pc ls sk h = (wpb M K KR is (pc + 1) ls (.double FP.dconst0 :: sk) h) := rfl
theorem w_iload_n0  : wpb M K KR ((.iload_n 0, a, b, t) :: is) pc ls sk h = (lI ls[(0 : Nat)]? fun x => wpb M K KR is (pc + 1) ls (.int x :: sk) h) := rfl
theorem w_iload_n1  : wpb M K KR ((.iload_n 1, a, b, t) :: is) pc ls sk h = (lI ls[(1 : Nat)]? fun x => wpb M K KR is (pc + 1) ls (.int x :: sk) h) := rfl
theorem w_iload_n2  : wpb M K KR ((.iload_n 2, a, b, t) :: is) pc ls sk h = (lI ls[(2 : Nat)]? fun x => wpb M K KR is (pc + 1) ls (.int x :: sk) h) := rfl
theorem w_iload_n3  : wpb M K KR ((.iload_n 3, a, b, t) :: is) pc ls sk h = (lI ls[(3 : Nat)]? fun x => wpb M K KR is (pc + 1) ls (.int x :: sk) h) := rfl
theorem w_iload {i : Nat} : wpb M K KR ((.iload i, a, b, t) :: is) pc ls sk h = (lI ls[i]? fun x => wpb M K KR is (pc + 2) ls (.int x :: sk) h) := rfl
theorem w_lload_n0  : wpb M K KR ((.lload_n 0, a, b, t) :: is) pc ls sk h = (lL ls[(0 : Nat)]? fun x => wpb M K KR is (pc + 1) ls (.long x :: sk) h) := rfl
theorem w_lload_n1  : wpb M K KR ((.lload_n 1, a, b, t) :: is) pc ls sk h = (lL ls[(1 : Nat)]? fun x => wpb M K KR is (pc + 1) ls (.long x :: sk) h) := rfl
theorem w_lload_n2  : wpb M K KR ((.lload_n 2, a, b, t) :: is) pc ls sk h = (lL ls[(2 : Nat)]? fun x => wpb M K KR is (pc + 1) ls (.long x :: sk) h) := rfl
theorem w_lload_n3  : wpb M K KR ((.lload_n 3, a, b, t) :: is) pc ls sk h = (lL ls[(3 : Nat)]? fun x => wpb M K KR is (pc + 1) ls (.long x :: sk) h) := rfl
theorem w_lload {i : Nat} : wpb M K KR ((.lload i, a, b, t) :: is) pc ls sk h = (lL ls[i]? fun x => wpb M K KR is (pc + 2) ls (.long x :: sk) h) := rfl
theorem w_aload_n0  : wpb M K KR ((.aload_n 0, a, b, t) :: is) pc ls sk h = (lR ls[(0 : Nat)]? fun x => wpb M K KR is (pc + 1) ls (.ref x :: sk) h) := rfl
theorem w_aload_n1  : wpb M K KR ((.aload_n 1, a, b, t) :: is) pc ls sk h = (lR ls[(1 : Nat)]? fun x => wpb M K KR is (pc + 1) ls (.ref x :: sk) h) := rfl
theorem w_aload_n2  : wpb M K KR ((.aload_n 2, a, b, t) :: is) pc ls sk h = (lR ls[(2 : Nat)]? fun x => wpb M K KR is (pc + 1) ls (.ref x :: sk) h) := rfl
theorem w_aload_n3  : wpb M K KR ((.aload_n 3, a, b, t) :: is) pc ls sk h = (lR ls[(3 : Nat)]? fun x => wpb M K KR is (pc + 1) ls (.ref x :: sk) h) := rfl
theorem w_aload {i : Nat} : wpb M K KR ((.aload i, a, b, t) :: is) pc ls sk h = (lR ls[i]? fun x => wpb M K KR is (pc + 2) ls (.ref x :: sk) h) := rfl
theorem w_dload {i : Nat} : wpb M K KR ((.dload i, a, b, t) :: is) pc ls sk h = (lD ls[i]? fun x => wpb M K KR is (pc + 2) ls (.double x :: sk) h) := rfl
theorem w_istore_n0  : wpb M K KR ((.istore_n 0, a, b, t) :: is) pc ls sk h = (pI sk fun x r => wpb M K KR is (pc + 1) (gSet1 ls 0 (.int x)) r h) := rfl
theorem w_istore_n1  : wpb M K KR ((.istore_n 1, a, b, t) :: is) pc ls sk h = (pI sk fun x r => wpb M K KR is (pc + 1) (gSet1 ls 1 (.int x)) r h) := rfl
theorem w_istore_n2  : wpb M K KR ((.istore_n 2, a, b, t) :: is) pc ls sk h = (pI sk fun x r => wpb M K KR is (pc + 1) (gSet1 ls 2 (.int x)) r h) := rfl
theorem w_istore_n3  : wpb M K KR ((.istore_n 3, a, b, t) :: is) pc ls sk h = (pI sk fun x r => wpb M K KR is (pc + 1) (gSet1 ls 3 (.int x)) r h) := rfl
theorem w_istore {i : Nat} : wpb M K KR ((.istore i, a, b, t) :: is) pc ls sk h = (pI sk fun x r => wpb M K KR is (pc + 2) (gSet1 ls i (.int x)) r h) := rfl
theorem w_lstore_n0  : wpb M K KR ((.lstore_n 0, a, b, t) :: is) pc ls sk h = (pL sk fun x r => wpb M K KR is (pc + 1) (gSet2 ls 0 (.long x)) r h) := rfl
theorem w_lstore_n1  : wpb M K KR ((.lstore_n 1, a, b, t) :: is) pc ls sk h = (pL sk fun x r => wpb M K KR is (pc + 1) (gSet2 ls 1 (.long x)) r h) := rfl
theorem w_lstore_n2  : wpb M K KR ((.lstore_n 2, a, b, t) :: is) pc ls sk h = (pL sk fun x r => wpb M K KR is (pc + 1) (gSet2 ls 2 (.long x)) r h) := rfl
theorem w_lstore_n3  : wpb M K KR ((.lstore_n 3, a, b, t) :: is) pc ls sk h = (pL sk fun x r => wpb M K KR is (pc + 1) (gSet2 ls 3 (.long x)) r h) := rfl
theorem w_lstore {i : Nat} : wpb M K KR ((.lstore i, a, b, t) :: is) pc ls sk h = (pL sk fun x r => wpb M K KR is (pc + 2) (gSet2 ls i (.long x)) r h) := rfl
theorem w_astore_n0  : wpb M K KR ((.astore_n 0, a, b, t) :: is) pc ls sk h = (pR sk fun x r => wpb M K KR is (pc + 1) (gSet1 ls 0 (.ref x)) r h) := rfl
theorem w_astore_n1  : wpb M K KR ((.astore_n 1, a, b, t) :: is) pc ls sk h = (pR sk fun x r => wpb M K KR is (pc + 1) (gSet1 ls 1 (.ref x)) r h) := rfl
theorem w_astore_n2  : wpb M K KR ((.astore_n 2, a, b, t) :: is) pc ls sk h = (pR sk fun x r => wpb M K KR is (pc + 1) (gSet1 ls 2 (.ref x)) r h) := rfl
theorem w_astore_n3  : wpb M K KR ((.astore_n 3, a, b, t) :: is) pc ls sk h = (pR sk fun x r => wpb M K KR is (pc + 1) (gSet1 ls 3 (.ref x)) r h) := rfl
theorem w_astore {i : Nat} : wpb M K KR ((.astore i, a, b, t) :: is) pc ls sk h = (pR sk fun x r => wpb M K KR is (pc + 2) (gSet1 ls i (.ref x)) r h) := rfl
theorem w_dstore {i : Nat} : wpb M K KR ((.dstore i, a, b, t) :: is) pc ls sk h = (pD sk fun x r => wpb M K KR is (pc + 2) (gSet2 ls i (.double x)) r h) := rfl
theorem w_iinc {i : Nat} {z : Int} : wpb M K KR ((.iinc i z, a, b, t) :: is) pc ls sk h = (lI ls[i]? fun x => wpb M K KR is (pc + 3) (gSet1 ls i (.int (x + Int32.ofInt z))) sk h) := rfl
theorem w_dup  : wpb M K KR ((.dup, a, b, t) :: is) pc ls sk h = (p1 sk fun v r => wpb M K KR is (pc + 1) ls (v :: v :: r) h) := rfl
theorem w_pop  : wpb M K KR ((.pop, a, b, t) :: is) pc ls sk h = (p1 sk fun v r => wpb M K KR is (pc + 1) ls r h) := rfl
theorem w_dup2  : wpb M K KR ((.dup2, a, b, t) :: is) pc ls sk h = (p1 sk fun v r => p1 r fun u r => wpb M K KR is (pc + 1) ls (v :: u :: v :: u :: r) h) := rfl
theorem w_getfield {idx : Nat} : wpb M K KR ((.getfield idx, a, b, t) :: is) pc ls sk h = (pR sk fun p r => cO h[p]? a fun fs => oV fs[b]? fun v => wpb M K KR is (pc + 3) ls (v :: r) h) := rfl
theorem w_putfieldz0 {idx : Nat} : wpb M K KR ((.putfield idx, a, b, 0) :: is) pc ls sk h = (pI sk fun x r => pR r fun p r => cO h[p]? a fun fs => b < fs.length ∧ wpb M K KR is (pc + 3) ls r (h.set p (some (.inl (a, fs.set b (.int x)))))) := rfl
theorem w_putfield0 {idx : Nat} : wpb M K KR ((.putfield idx, a, b, 0) :: is) pc ls sk h = (pI sk fun x r => pR r fun p r => cO h[p]? a fun fs => b < fs.length ∧ wpb M K KR is (pc + 3) ls r (gUp h p a b (.int x))) := by
  rw [w_putfieldz0]
  unfold pI
  split
  · exact gUp_q _ _ _ _ _ (fun r h => wpb M K KR is (pc + 3) ls r h)
  · rfl
theorem w_putfieldz1 {idx : Nat} : wpb M K KR ((.putfield idx, a, b, 1) :: is) pc ls sk h = (pL sk fun x r => pR r fun p r => cO h[p]? a fun fs => b < fs.length ∧ wpb M K KR is (pc + 3) ls r (h.set p (some (.inl (a, fs.set b (.long x)))))) := rfl
theorem w_putfield1 {idx : Nat} : wpb M K KR ((.putfield idx, a, b, 1) :: is) pc ls sk h = (pL sk fun x r => pR r fun p r => cO h[p]? a fun fs => b < fs.length ∧ wpb M K KR is (pc + 3) ls r (gUp h p a b (.long x))) := by
  rw [w_putfieldz1]
  unfold pL
  split
  · exact gUp_q _ _ _ _ _ (fun r h => wpb M K KR is (pc + 3) ls r h)
  · rfl
theorem w_putfieldz2 {idx : Nat} : wpb M K KR ((.putfield idx, a, b, 2) :: is) pc ls sk h = (pN sk fun v r => pR r fun p r => cO h[p]? a fun fs => b < fs.length ∧ wpb M K KR is (pc + 3) ls r (h.set p (some (.inl (a, fs.set b v))))) := rfl
theorem w_putfield2 {idx : Nat} : wpb M K KR ((.putfield idx, a, b, 2) :: is) pc ls sk h = (pN sk fun v r => pR r fun p r => cO h[p]? a fun fs => b < fs.length ∧ wpb M K KR is (pc + 3) ls r (gUp h p a b v)) := by
  rw [w_putfieldz2]
  unfold pN
  split
  · exact gUp_q _ _ _ _ _ (fun r h => wpb M K KR is (pc + 3) ls r h)
  · exact gUp_q _ _ _ _ _ (fun r h => wpb M K KR is (pc + 3) ls r h)
  · rfl
theorem w_iaload  : wpb M K KR ((.iaload, a, b, t) :: is) pc ls sk h = (pI sk fun i r => pR r fun p r => cI h[p]? 0 fun l => vp_in i l.length ∧ wpb M K KR is (pc + 1) ls (.int (l.getD i.toNatClampNeg 0) :: r) h) := rfl
theorem w_baload  : wpb M K KR ((.baload, a, b, t) :: is) pc ls sk h = (pI sk fun i r => pR r fun p r => cI h[p]? 1 fun l => vp_in i l.length ∧ wpb M K KR is (pc + 1) ls (.int (l.getD i.toNatClampNeg 0) :: r) h) := rfl
theorem w_laload  : wpb M K KR ((.laload, a, b, t) :: is) pc ls sk h = (pI sk fun i r => pR r fun p r => cL h[p]? fun l => vp_in i l.length ∧ wpb M K KR is (pc + 1) ls (.long (l.getD i.toNatClampNeg 0) :: r) h) := rfl
theorem w_aaload  : wpb M K KR ((.aaload, a, b, t) :: is) pc ls sk h = (pI sk fun i r => pR r fun p r => cQ h[p]? fun l => vp_in i l.length ∧ wpb M K KR is (pc + 1) ls (gRf (l.getD i.toNatClampNeg none) :: r) h) := rfl
theorem w_iastore  : wpb M K KR ((.iastore, a, b, t) :: is) pc ls sk h = (pI sk fun x r => pI r fun i r => pR r fun p r => cI h[p]? 0 fun l => vp_in i l.length ∧ wpb M K KR is (pc + 1) ls r (h.set p (some (.inr (.inl (0, l.set i.toNatClampNeg x)))))) := rfl
theorem w_bastore  : wpb M K KR ((.bastore, a, b, t) :: is) pc ls sk h = (pI sk fun x r => pI r fun i r => pR r fun p r => cI h[p]? 1 fun l => vp_in i l.length ∧ wpb M K KR is (pc + 1) ls r (h.set p (some (.inr (.inl (1, l.set i.toNatClampNeg x.toInt8.toInt32)))))) := rfl
theorem w_lastore  : wpb M K KR ((.lastore, a, b, t) :: is) pc ls sk h = (pL sk fun x r => pI r fun i r => pR r fun p r => cL h[p]? fun l => vp_in i l.length ∧ wpb M K KR is (pc + 1) ls r (h.set p (some (.inr (.inr (.inr (l.set i.toNatClampNeg x))))))) := rfl
theorem w_aastore  : wpb M K KR ((.aastore, a, b, t) :: is) pc ls sk h = (pR sk fun v r => pI r fun i r => pR r fun p r => cQ h[p]? fun l => cO h[v]? 3 fun _ => vp_in i l.length ∧ wpb M K KR is (pc + 1) ls r (h.set p (some (.inr (.inr (.inl (l.set i.toNatClampNeg (some v)))))))) := rfl
theorem w_ldc0 {idx : Nat} : wpb M K KR ((.ldc idx, 0, b, t) :: is) pc ls sk h = (wpb M K KR is (pc + 2) ls (.int (gCIv b) :: sk) h) := rfl
theorem w_ldc1 {idx : Nat} : wpb M K KR ((.ldc idx, 1, b, t) :: is) pc ls sk h = (wpb M K KR is (pc + 2) ls (.ref (1000 + b) :: sk) h) := rfl
theorem w_ldc_w {idx : Nat} : wpb M K KR ((.ldc_w idx, a, b, t) :: is) pc ls sk h = (wpb M K KR is (pc + 3) ls (.int (gCIv b) :: sk) h) := rfl
theorem w_ldc2_w {idx : Nat} : wpb M K KR ((.ldc2_w idx, a, b, t) :: is) pc ls sk h = (wpb M K KR is (pc + 3) ls (.long (gCLv b) :: sk) h) := rfl
theorem w_ifCond_eq {off : Int} : wpb M K KR ((.ifCond .eq off, a, b, t) :: is) pc ls sk h = (pI sk fun x r => (x = 0 → K a ls r h) ∧ (¬ (x = 0) → wpb M K KR is (pc + 3) ls r h)) := rfl
theorem w_ifCond_ne {off : Int} : wpb M K KR ((.ifCond .ne off, a, b, t) :: is) pc ls sk h = (pI sk fun x r => (¬ x = 0 → K a ls r h) ∧ (x = 0 → wpb M K KR is (pc + 3) ls r h)) := rfl
theorem w_ifCond_lt {off : Int} : wpb M K KR ((.ifCond .lt off, a, b, t) :: is) pc ls sk h = (pI sk fun x r => (x < 0 → K a ls r h) ∧ (¬ (x < 0) → wpb M K KR is (pc + 3) ls r h)) := rfl
theorem w_ifCond_ge {off : Int} : wpb M K KR ((.ifCond .ge off, a, b, t) :: is) pc ls sk h = (pI sk fun x r => (x ≥ 0 → K a ls r h) ∧ (¬ (x ≥ 0) → wpb M K KR is (pc + 3) ls r h)) := rfl
theorem w_ifCond_gt {off : Int} : wpb M K KR ((.ifCond .gt off, a, b, t) :: is) pc ls sk h = (pI sk fun x r => (x > 0 → K a ls r h) ∧ (¬ (x > 0) → wpb M K KR is (pc + 3) ls r h)) := rfl
theorem w_ifCond_le {off : Int} : wpb M K KR ((.ifCond .le off, a, b, t) :: is) pc ls sk h = (pI sk fun x r => (x ≤ 0 → K a ls r h) ∧ (¬ (x ≤ 0) → wpb M K KR is (pc + 3) ls r h)) := rfl
theorem w_if_icmp_eq {off : Int} : wpb M K KR ((.if_icmp .eq off, a, b, t) :: is) pc ls sk h = (pI sk fun y r => pI r fun x r => (x = y → K a ls r h) ∧ (¬ (x = y) → wpb M K KR is (pc + 3) ls r h)) := rfl
theorem w_if_icmp_ne {off : Int} : wpb M K KR ((.if_icmp .ne off, a, b, t) :: is) pc ls sk h = (pI sk fun y r => pI r fun x r => (¬ x = y → K a ls r h) ∧ (x = y → wpb M K KR is (pc + 3) ls r h)) := rfl
theorem w_if_icmp_lt {off : Int} : wpb M K KR ((.if_icmp .lt off, a, b, t) :: is) pc ls sk h = (pI sk fun y r => pI r fun x r => (x < y → K a ls r h) ∧ (¬ (x < y) → wpb M K KR is (pc + 3) ls r h)) := rfl
theorem w_if_icmp_ge {off : Int} : wpb M K KR ((.if_icmp .ge off, a, b, t) :: is) pc ls sk h = (pI sk fun y r => pI r fun x r => (x ≥ y → K a ls r h) ∧ (¬ (x ≥ y) → wpb M K KR is (pc + 3) ls r h)) := rfl
theorem w_if_icmp_gt {off : Int} : wpb M K KR ((.if_icmp .gt off, a, b, t) :: is) pc ls sk h = (pI sk fun y r => pI r fun x r => (x > y → K a ls r h) ∧ (¬ (x > y) → wpb M K KR is (pc + 3) ls r h)) := rfl
theorem w_if_icmp_le {off : Int} : wpb M K KR ((.if_icmp .le off, a, b, t) :: is) pc ls sk h = (pI sk fun y r => pI r fun x r => (x ≤ y → K a ls r h) ∧ (¬ (x ≤ y) → wpb M K KR is (pc + 3) ls r h)) := rfl
theorem w_goto {off : Int} : wpb M K KR ((.goto off, a, b, t) :: is) pc ls sk h = (K a ls sk h) := rfl
theorem w_ireturn  : wpb M K KR ((.ireturn, a, b, t) :: is) pc ls sk h = (pI sk fun x r => r = [] ∧ (mR M = some .boolean → x = 0 ∨ x = 1) ∧ KR (some (.int x)) h) := rfl
theorem w_return_  : wpb M K KR ((.return_, a, b, t) :: is) pc ls sk h = (sk = [] ∧ KR none h) := rfl
theorem w_lreturn  : wpb M K KR ((.lreturn, a, b, t) :: is) pc ls sk h = (pL sk fun x r => r = [] ∧ KR (some (.long x)) h) := rfl
theorem w_freturn  : wpb M K KR ((.freturn, a, b, t) :: is) pc ls sk h = (pF sk fun x r => r = [] ∧ KR (some (.float x)) h) := rfl
theorem w_dreturn  : wpb M K KR ((.dreturn, a, b, t) :: is) pc ls sk h = (pD sk fun x r => r = [] ∧ KR (some (.double x)) h) := rfl
end GWL
theorem lI_at0 {x : Int32} {r : List (Option Value)} {k : Int32 → Prop} : lI (some (.int x) :: r)[0]? k = k x := rfl
theorem lI_at1 {a0 : Option Value} {x : Int32} {r : List (Option Value)} {k : Int32 → Prop} : lI (a0 :: some (.int x) :: r)[1]? k = k x := rfl
theorem lI_at2 {a0 a1 : Option Value} {x : Int32} {r : List (Option Value)} {k : Int32 → Prop} : lI (a0 :: a1 :: some (.int x) :: r)[2]? k = k x := rfl
theorem lI_at3 {a0 a1 a2 : Option Value} {x : Int32} {r : List (Option Value)} {k : Int32 → Prop} : lI (a0 :: a1 :: a2 :: some (.int x) :: r)[3]? k = k x := rfl
theorem lI_at4 {a0 a1 a2 a3 : Option Value} {x : Int32} {r : List (Option Value)} {k : Int32 → Prop} : lI (a0 :: a1 :: a2 :: a3 :: some (.int x) :: r)[4]? k = k x := rfl
theorem lI_at5 {a0 a1 a2 a3 a4 : Option Value} {x : Int32} {r : List (Option Value)} {k : Int32 → Prop} : lI (a0 :: a1 :: a2 :: a3 :: a4 :: some (.int x) :: r)[5]? k = k x := rfl
theorem lI_at6 {a0 a1 a2 a3 a4 a5 : Option Value} {x : Int32} {r : List (Option Value)} {k : Int32 → Prop} : lI (a0 :: a1 :: a2 :: a3 :: a4 :: a5 :: some (.int x) :: r)[6]? k = k x := rfl
theorem lI_at7 {a0 a1 a2 a3 a4 a5 a6 : Option Value} {x : Int32} {r : List (Option Value)} {k : Int32 → Prop} : lI (a0 :: a1 :: a2 :: a3 :: a4 :: a5 :: a6 :: some (.int x) :: r)[7]? k = k x := rfl
theorem lI_at8 {a0 a1 a2 a3 a4 a5 a6 a7 : Option Value} {x : Int32} {r : List (Option Value)} {k : Int32 → Prop} : lI (a0 :: a1 :: a2 :: a3 :: a4 :: a5 :: a6 :: a7 :: some (.int x) :: r)[8]? k = k x := rfl
theorem lI_at9 {a0 a1 a2 a3 a4 a5 a6 a7 a8 : Option Value} {x : Int32} {r : List (Option Value)} {k : Int32 → Prop} : lI (a0 :: a1 :: a2 :: a3 :: a4 :: a5 :: a6 :: a7 :: a8 :: some (.int x) :: r)[9]? k = k x := rfl
theorem lL_at0 {x : Int64} {r : List (Option Value)} {k : Int64 → Prop} : lL (some (.long x) :: r)[0]? k = k x := rfl
theorem lL_at1 {a0 : Option Value} {x : Int64} {r : List (Option Value)} {k : Int64 → Prop} : lL (a0 :: some (.long x) :: r)[1]? k = k x := rfl
theorem lL_at2 {a0 a1 : Option Value} {x : Int64} {r : List (Option Value)} {k : Int64 → Prop} : lL (a0 :: a1 :: some (.long x) :: r)[2]? k = k x := rfl
theorem lL_at3 {a0 a1 a2 : Option Value} {x : Int64} {r : List (Option Value)} {k : Int64 → Prop} : lL (a0 :: a1 :: a2 :: some (.long x) :: r)[3]? k = k x := rfl
theorem lL_at4 {a0 a1 a2 a3 : Option Value} {x : Int64} {r : List (Option Value)} {k : Int64 → Prop} : lL (a0 :: a1 :: a2 :: a3 :: some (.long x) :: r)[4]? k = k x := rfl
theorem lL_at5 {a0 a1 a2 a3 a4 : Option Value} {x : Int64} {r : List (Option Value)} {k : Int64 → Prop} : lL (a0 :: a1 :: a2 :: a3 :: a4 :: some (.long x) :: r)[5]? k = k x := rfl
theorem lL_at6 {a0 a1 a2 a3 a4 a5 : Option Value} {x : Int64} {r : List (Option Value)} {k : Int64 → Prop} : lL (a0 :: a1 :: a2 :: a3 :: a4 :: a5 :: some (.long x) :: r)[6]? k = k x := rfl
theorem lL_at7 {a0 a1 a2 a3 a4 a5 a6 : Option Value} {x : Int64} {r : List (Option Value)} {k : Int64 → Prop} : lL (a0 :: a1 :: a2 :: a3 :: a4 :: a5 :: a6 :: some (.long x) :: r)[7]? k = k x := rfl
theorem lL_at8 {a0 a1 a2 a3 a4 a5 a6 a7 : Option Value} {x : Int64} {r : List (Option Value)} {k : Int64 → Prop} : lL (a0 :: a1 :: a2 :: a3 :: a4 :: a5 :: a6 :: a7 :: some (.long x) :: r)[8]? k = k x := rfl
theorem lL_at9 {a0 a1 a2 a3 a4 a5 a6 a7 a8 : Option Value} {x : Int64} {r : List (Option Value)} {k : Int64 → Prop} : lL (a0 :: a1 :: a2 :: a3 :: a4 :: a5 :: a6 :: a7 :: a8 :: some (.long x) :: r)[9]? k = k x := rfl
theorem lD_at0 {x : UInt64} {r : List (Option Value)} {k : UInt64 → Prop} : lD (some (.double x) :: r)[0]? k = k x := rfl
theorem lD_at1 {a0 : Option Value} {x : UInt64} {r : List (Option Value)} {k : UInt64 → Prop} : lD (a0 :: some (.double x) :: r)[1]? k = k x := rfl
theorem lD_at2 {a0 a1 : Option Value} {x : UInt64} {r : List (Option Value)} {k : UInt64 → Prop} : lD (a0 :: a1 :: some (.double x) :: r)[2]? k = k x := rfl
theorem lD_at3 {a0 a1 a2 : Option Value} {x : UInt64} {r : List (Option Value)} {k : UInt64 → Prop} : lD (a0 :: a1 :: a2 :: some (.double x) :: r)[3]? k = k x := rfl
theorem lD_at4 {a0 a1 a2 a3 : Option Value} {x : UInt64} {r : List (Option Value)} {k : UInt64 → Prop} : lD (a0 :: a1 :: a2 :: a3 :: some (.double x) :: r)[4]? k = k x := rfl
theorem lD_at5 {a0 a1 a2 a3 a4 : Option Value} {x : UInt64} {r : List (Option Value)} {k : UInt64 → Prop} : lD (a0 :: a1 :: a2 :: a3 :: a4 :: some (.double x) :: r)[5]? k = k x := rfl
theorem lD_at6 {a0 a1 a2 a3 a4 a5 : Option Value} {x : UInt64} {r : List (Option Value)} {k : UInt64 → Prop} : lD (a0 :: a1 :: a2 :: a3 :: a4 :: a5 :: some (.double x) :: r)[6]? k = k x := rfl
theorem lD_at7 {a0 a1 a2 a3 a4 a5 a6 : Option Value} {x : UInt64} {r : List (Option Value)} {k : UInt64 → Prop} : lD (a0 :: a1 :: a2 :: a3 :: a4 :: a5 :: a6 :: some (.double x) :: r)[7]? k = k x := rfl
theorem lD_at8 {a0 a1 a2 a3 a4 a5 a6 a7 : Option Value} {x : UInt64} {r : List (Option Value)} {k : UInt64 → Prop} : lD (a0 :: a1 :: a2 :: a3 :: a4 :: a5 :: a6 :: a7 :: some (.double x) :: r)[8]? k = k x := rfl
theorem lD_at9 {a0 a1 a2 a3 a4 a5 a6 a7 a8 : Option Value} {x : UInt64} {r : List (Option Value)} {k : UInt64 → Prop} : lD (a0 :: a1 :: a2 :: a3 :: a4 :: a5 :: a6 :: a7 :: a8 :: some (.double x) :: r)[9]? k = k x := rfl
theorem lR_at0 {x : Nat} {r : List (Option Value)} {k : Nat → Prop} : lR (some (.ref x) :: r)[0]? k = k x := rfl
theorem lR_at1 {a0 : Option Value} {x : Nat} {r : List (Option Value)} {k : Nat → Prop} : lR (a0 :: some (.ref x) :: r)[1]? k = k x := rfl
theorem lR_at2 {a0 a1 : Option Value} {x : Nat} {r : List (Option Value)} {k : Nat → Prop} : lR (a0 :: a1 :: some (.ref x) :: r)[2]? k = k x := rfl
theorem lR_at3 {a0 a1 a2 : Option Value} {x : Nat} {r : List (Option Value)} {k : Nat → Prop} : lR (a0 :: a1 :: a2 :: some (.ref x) :: r)[3]? k = k x := rfl
theorem lR_at4 {a0 a1 a2 a3 : Option Value} {x : Nat} {r : List (Option Value)} {k : Nat → Prop} : lR (a0 :: a1 :: a2 :: a3 :: some (.ref x) :: r)[4]? k = k x := rfl
theorem lR_at5 {a0 a1 a2 a3 a4 : Option Value} {x : Nat} {r : List (Option Value)} {k : Nat → Prop} : lR (a0 :: a1 :: a2 :: a3 :: a4 :: some (.ref x) :: r)[5]? k = k x := rfl
theorem lR_at6 {a0 a1 a2 a3 a4 a5 : Option Value} {x : Nat} {r : List (Option Value)} {k : Nat → Prop} : lR (a0 :: a1 :: a2 :: a3 :: a4 :: a5 :: some (.ref x) :: r)[6]? k = k x := rfl
theorem lR_at7 {a0 a1 a2 a3 a4 a5 a6 : Option Value} {x : Nat} {r : List (Option Value)} {k : Nat → Prop} : lR (a0 :: a1 :: a2 :: a3 :: a4 :: a5 :: a6 :: some (.ref x) :: r)[7]? k = k x := rfl
theorem lR_at8 {a0 a1 a2 a3 a4 a5 a6 a7 : Option Value} {x : Nat} {r : List (Option Value)} {k : Nat → Prop} : lR (a0 :: a1 :: a2 :: a3 :: a4 :: a5 :: a6 :: a7 :: some (.ref x) :: r)[8]? k = k x := rfl
theorem lR_at9 {a0 a1 a2 a3 a4 a5 a6 a7 a8 : Option Value} {x : Nat} {r : List (Option Value)} {k : Nat → Prop} : lR (a0 :: a1 :: a2 :: a3 :: a4 :: a5 :: a6 :: a7 :: a8 :: some (.ref x) :: r)[9]? k = k x := rfl
theorem oV_at0 {v : Value} {r : List Value} {k : Value → Prop} : oV (v :: r)[0]? k = k v := rfl
theorem oV_at1 {a0 : Value} {v : Value} {r : List Value} {k : Value → Prop} : oV (a0 :: v :: r)[1]? k = k v := rfl
theorem oV_at2 {a0 a1 : Value} {v : Value} {r : List Value} {k : Value → Prop} : oV (a0 :: a1 :: v :: r)[2]? k = k v := rfl
theorem oV_at3 {a0 a1 a2 : Value} {v : Value} {r : List Value} {k : Value → Prop} : oV (a0 :: a1 :: a2 :: v :: r)[3]? k = k v := rfl
theorem oV_at4 {a0 a1 a2 a3 : Value} {v : Value} {r : List Value} {k : Value → Prop} : oV (a0 :: a1 :: a2 :: a3 :: v :: r)[4]? k = k v := rfl
theorem oV_at5 {a0 a1 a2 a3 a4 : Value} {v : Value} {r : List Value} {k : Value → Prop} : oV (a0 :: a1 :: a2 :: a3 :: a4 :: v :: r)[5]? k = k v := rfl
theorem oV_at6 {a0 a1 a2 a3 a4 a5 : Value} {v : Value} {r : List Value} {k : Value → Prop} : oV (a0 :: a1 :: a2 :: a3 :: a4 :: a5 :: v :: r)[6]? k = k v := rfl
theorem oV_at7 {a0 a1 a2 a3 a4 a5 a6 : Value} {v : Value} {r : List Value} {k : Value → Prop} : oV (a0 :: a1 :: a2 :: a3 :: a4 :: a5 :: a6 :: v :: r)[7]? k = k v := rfl
theorem oV_at8 {a0 a1 a2 a3 a4 a5 a6 a7 : Value} {v : Value} {r : List Value} {k : Value → Prop} : oV (a0 :: a1 :: a2 :: a3 :: a4 :: a5 :: a6 :: a7 :: v :: r)[8]? k = k v := rfl
theorem oV_at9 {a0 a1 a2 a3 a4 a5 a6 a7 a8 : Value} {v : Value} {r : List Value} {k : Value → Prop} : oV (a0 :: a1 :: a2 :: a3 :: a4 :: a5 :: a6 :: a7 :: a8 :: v :: r)[9]? k = k v := rfl
theorem oV_at10 {a0 a1 a2 a3 a4 a5 a6 a7 a8 a9 : Value} {v : Value} {r : List Value} {k : Value → Prop} : oV (a0 :: a1 :: a2 :: a3 :: a4 :: a5 :: a6 :: a7 :: a8 :: a9 :: v :: r)[10]? k = k v := rfl
theorem oV_at11 {a0 a1 a2 a3 a4 a5 a6 a7 a8 a9 a10 : Value} {v : Value} {r : List Value} {k : Value → Prop} : oV (a0 :: a1 :: a2 :: a3 :: a4 :: a5 :: a6 :: a7 :: a8 :: a9 :: a10 :: v :: r)[11]? k = k v := rfl
theorem oV_at12 {a0 a1 a2 a3 a4 a5 a6 a7 a8 a9 a10 a11 : Value} {v : Value} {r : List Value} {k : Value → Prop} : oV (a0 :: a1 :: a2 :: a3 :: a4 :: a5 :: a6 :: a7 :: a8 :: a9 :: a10 :: a11 :: v :: r)[12]? k = k v := rfl
theorem oV_at13 {a0 a1 a2 a3 a4 a5 a6 a7 a8 a9 a10 a11 a12 : Value} {v : Value} {r : List Value} {k : Value → Prop} : oV (a0 :: a1 :: a2 :: a3 :: a4 :: a5 :: a6 :: a7 :: a8 :: a9 :: a10 :: a11 :: a12 :: v :: r)[13]? k = k v := rfl
theorem oV_at14 {a0 a1 a2 a3 a4 a5 a6 a7 a8 a9 a10 a11 a12 a13 : Value} {v : Value} {r : List Value} {k : Value → Prop} : oV (a0 :: a1 :: a2 :: a3 :: a4 :: a5 :: a6 :: a7 :: a8 :: a9 :: a10 :: a11 :: a12 :: a13 :: v :: r)[14]? k = k v := rfl
theorem oV_at15 {a0 a1 a2 a3 a4 a5 a6 a7 a8 a9 a10 a11 a12 a13 a14 : Value} {v : Value} {r : List Value} {k : Value → Prop} : oV (a0 :: a1 :: a2 :: a3 :: a4 :: a5 :: a6 :: a7 :: a8 :: a9 :: a10 :: a11 :: a12 :: a13 :: a14 :: v :: r)[15]? k = k v := rfl
theorem oV_at16 {a0 a1 a2 a3 a4 a5 a6 a7 a8 a9 a10 a11 a12 a13 a14 a15 : Value} {v : Value} {r : List Value} {k : Value → Prop} : oV (a0 :: a1 :: a2 :: a3 :: a4 :: a5 :: a6 :: a7 :: a8 :: a9 :: a10 :: a11 :: a12 :: a13 :: a14 :: a15 :: v :: r)[16]? k = k v := rfl
theorem oV_at17 {a0 a1 a2 a3 a4 a5 a6 a7 a8 a9 a10 a11 a12 a13 a14 a15 a16 : Value} {v : Value} {r : List Value} {k : Value → Prop} : oV (a0 :: a1 :: a2 :: a3 :: a4 :: a5 :: a6 :: a7 :: a8 :: a9 :: a10 :: a11 :: a12 :: a13 :: a14 :: a15 :: a16 :: v :: r)[17]? k = k v := rfl
theorem oV_at18 {a0 a1 a2 a3 a4 a5 a6 a7 a8 a9 a10 a11 a12 a13 a14 a15 a16 a17 : Value} {v : Value} {r : List Value} {k : Value → Prop} : oV (a0 :: a1 :: a2 :: a3 :: a4 :: a5 :: a6 :: a7 :: a8 :: a9 :: a10 :: a11 :: a12 :: a13 :: a14 :: a15 :: a16 :: a17 :: v :: r)[18]? k = k v := rfl
theorem oV_at19 {a0 a1 a2 a3 a4 a5 a6 a7 a8 a9 a10 a11 a12 a13 a14 a15 a16 a17 a18 : Value} {v : Value} {r : List Value} {k : Value → Prop} : oV (a0 :: a1 :: a2 :: a3 :: a4 :: a5 :: a6 :: a7 :: a8 :: a9 :: a10 :: a11 :: a12 :: a13 :: a14 :: a15 :: a16 :: a17 :: a18 :: v :: r)[19]? k = k v := rfl
theorem oV_at20 {a0 a1 a2 a3 a4 a5 a6 a7 a8 a9 a10 a11 a12 a13 a14 a15 a16 a17 a18 a19 : Value} {v : Value} {r : List Value} {k : Value → Prop} : oV (a0 :: a1 :: a2 :: a3 :: a4 :: a5 :: a6 :: a7 :: a8 :: a9 :: a10 :: a11 :: a12 :: a13 :: a14 :: a15 :: a16 :: a17 :: a18 :: a19 :: v :: r)[20]? k = k v := rfl
theorem oV_at21 {a0 a1 a2 a3 a4 a5 a6 a7 a8 a9 a10 a11 a12 a13 a14 a15 a16 a17 a18 a19 a20 : Value} {v : Value} {r : List Value} {k : Value → Prop} : oV (a0 :: a1 :: a2 :: a3 :: a4 :: a5 :: a6 :: a7 :: a8 :: a9 :: a10 :: a11 :: a12 :: a13 :: a14 :: a15 :: a16 :: a17 :: a18 :: a19 :: a20 :: v :: r)[21]? k = k v := rfl
theorem oV_at22 {a0 a1 a2 a3 a4 a5 a6 a7 a8 a9 a10 a11 a12 a13 a14 a15 a16 a17 a18 a19 a20 a21 : Value} {v : Value} {r : List Value} {k : Value → Prop} : oV (a0 :: a1 :: a2 :: a3 :: a4 :: a5 :: a6 :: a7 :: a8 :: a9 :: a10 :: a11 :: a12 :: a13 :: a14 :: a15 :: a16 :: a17 :: a18 :: a19 :: a20 :: a21 :: v :: r)[22]? k = k v := rfl
theorem oV_at23 {a0 a1 a2 a3 a4 a5 a6 a7 a8 a9 a10 a11 a12 a13 a14 a15 a16 a17 a18 a19 a20 a21 a22 : Value} {v : Value} {r : List Value} {k : Value → Prop} : oV (a0 :: a1 :: a2 :: a3 :: a4 :: a5 :: a6 :: a7 :: a8 :: a9 :: a10 :: a11 :: a12 :: a13 :: a14 :: a15 :: a16 :: a17 :: a18 :: a19 :: a20 :: a21 :: a22 :: v :: r)[23]? k = k v := rfl
theorem oV_at24 {a0 a1 a2 a3 a4 a5 a6 a7 a8 a9 a10 a11 a12 a13 a14 a15 a16 a17 a18 a19 a20 a21 a22 a23 : Value} {v : Value} {r : List Value} {k : Value → Prop} : oV (a0 :: a1 :: a2 :: a3 :: a4 :: a5 :: a6 :: a7 :: a8 :: a9 :: a10 :: a11 :: a12 :: a13 :: a14 :: a15 :: a16 :: a17 :: a18 :: a19 :: a20 :: a21 :: a22 :: a23 :: v :: r)[24]? k = k v := rfl
theorem oV_at25 {a0 a1 a2 a3 a4 a5 a6 a7 a8 a9 a10 a11 a12 a13 a14 a15 a16 a17 a18 a19 a20 a21 a22 a23 a24 : Value} {v : Value} {r : List Value} {k : Value → Prop} : oV (a0 :: a1 :: a2 :: a3 :: a4 :: a5 :: a6 :: a7 :: a8 :: a9 :: a10 :: a11 :: a12 :: a13 :: a14 :: a15 :: a16 :: a17 :: a18 :: a19 :: a20 :: a21 :: a22 :: a23 :: a24 :: v :: r)[25]? k = k v := rfl
theorem oV_at26 {a0 a1 a2 a3 a4 a5 a6 a7 a8 a9 a10 a11 a12 a13 a14 a15 a16 a17 a18 a19 a20 a21 a22 a23 a24 a25 : Value} {v : Value} {r : List Value} {k : Value → Prop} : oV (a0 :: a1 :: a2 :: a3 :: a4 :: a5 :: a6 :: a7 :: a8 :: a9 :: a10 :: a11 :: a12 :: a13 :: a14 :: a15 :: a16 :: a17 :: a18 :: a19 :: a20 :: a21 :: a22 :: a23 :: a24 :: a25 :: v :: r)[26]? k = k v := rfl
theorem oV_at27 {a0 a1 a2 a3 a4 a5 a6 a7 a8 a9 a10 a11 a12 a13 a14 a15 a16 a17 a18 a19 a20 a21 a22 a23 a24 a25 a26 : Value} {v : Value} {r : List Value} {k : Value → Prop} : oV (a0 :: a1 :: a2 :: a3 :: a4 :: a5 :: a6 :: a7 :: a8 :: a9 :: a10 :: a11 :: a12 :: a13 :: a14 :: a15 :: a16 :: a17 :: a18 :: a19 :: a20 :: a21 :: a22 :: a23 :: a24 :: a25 :: a26 :: v :: r)[27]? k = k v := rfl
theorem oV_at28 {a0 a1 a2 a3 a4 a5 a6 a7 a8 a9 a10 a11 a12 a13 a14 a15 a16 a17 a18 a19 a20 a21 a22 a23 a24 a25 a26 a27 : Value} {v : Value} {r : List Value} {k : Value → Prop} : oV (a0 :: a1 :: a2 :: a3 :: a4 :: a5 :: a6 :: a7 :: a8 :: a9 :: a10 :: a11 :: a12 :: a13 :: a14 :: a15 :: a16 :: a17 :: a18 :: a19 :: a20 :: a21 :: a22 :: a23 :: a24 :: a25 :: a26 :: a27 :: v :: r)[28]? k = k v := rfl
theorem oV_at29 {a0 a1 a2 a3 a4 a5 a6 a7 a8 a9 a10 a11 a12 a13 a14 a15 a16 a17 a18 a19 a20 a21 a22 a23 a24 a25 a26 a27 a28 : Value} {v : Value} {r : List Value} {k : Value → Prop} : oV (a0 :: a1 :: a2 :: a3 :: a4 :: a5 :: a6 :: a7 :: a8 :: a9 :: a10 :: a11 :: a12 :: a13 :: a14 :: a15 :: a16 :: a17 :: a18 :: a19 :: a20 :: a21 :: a22 :: a23 :: a24 :: a25 :: a26 :: a27 :: a28 :: v :: r)[29]? k = k v := rfl
theorem oV_at30 {a0 a1 a2 a3 a4 a5 a6 a7 a8 a9 a10 a11 a12 a13 a14 a15 a16 a17 a18 a19 a20 a21 a22 a23 a24 a25 a26 a27 a28 a29 : Value} {v : Value} {r : List Value} {k : Value → Prop} : oV (a0 :: a1 :: a2 :: a3 :: a4 :: a5 :: a6 :: a7 :: a8 :: a9 :: a10 :: a11 :: a12 :: a13 :: a14 :: a15 :: a16 :: a17 :: a18 :: a19 :: a20 :: a21 :: a22 :: a23 :: a24 :: a25 :: a26 :: a27 :: a28 :: a29 :: v :: r)[30]? k = k v := rfl
theorem oV_at31 {a0 a1 a2 a3 a4 a5 a6 a7 a8 a9 a10 a11 a12 a13 a14 a15 a16 a17 a18 a19 a20 a21 a22 a23 a24 a25 a26 a27 a28 a29 a30 : Value} {v : Value} {r : List Value} {k : Value → Prop} : oV (a0 :: a1 :: a2 :: a3 :: a4 :: a5 :: a6 :: a7 :: a8 :: a9 :: a10 :: a11 :: a12 :: a13 :: a14 :: a15 :: a16 :: a17 :: a18 :: a19 :: a20 :: a21 :: a22 :: a23 :: a24 :: a25 :: a26 :: a27 :: a28 :: a29 :: a30 :: v :: r)[31]? k = k v := rfl
theorem oV_at32 {a0 a1 a2 a3 a4 a5 a6 a7 a8 a9 a10 a11 a12 a13 a14 a15 a16 a17 a18 a19 a20 a21 a22 a23 a24 a25 a26 a27 a28 a29 a30 a31 : Value} {v : Value} {r : List Value} {k : Value → Prop} : oV (a0 :: a1 :: a2 :: a3 :: a4 :: a5 :: a6 :: a7 :: a8 :: a9 :: a10 :: a11 :: a12 :: a13 :: a14 :: a15 :: a16 :: a17 :: a18 :: a19 :: a20 :: a21 :: a22 :: a23 :: a24 :: a25 :: a26 :: a27 :: a28 :: a29 :: a30 :: a31 :: v :: r)[32]? k = k v := rfl
theorem oV_at33 {a0 a1 a2 a3 a4 a5 a6 a7 a8 a9 a10 a11 a12 a13 a14 a15 a16 a17 a18 a19 a20 a21 a22 a23 a24 a25 a26 a27 a28 a29 a30 a31 a32 : Value} {v : Value} {r : List Value} {k : Value → Prop} : oV (a0 :: a1 :: a2 :: a3 :: a4 :: a5 :: a6 :: a7 :: a8 :: a9 :: a10 :: a11 :: a12 :: a13 :: a14 :: a15 :: a16 :: a17 :: a18 :: a19 :: a20 :: a21 :: a22 :: a23 :: a24 :: a25 :: a26 :: a27 :: a28 :: a29 :: a30 :: a31 :: a32 :: v :: r)[33]? k = k v := rfl
theorem oV_at34 {a0 a1 a2 a3 a4 a5 a6 a7 a8 a9 a10 a11 a12 a13 a14 a15 a16 a17 a18 a19 a20 a21 a22 a23 a24 a25 a26 a27 a28 a29 a30 a31 a32 a33 : Value} {v : Value} {r : List Value} {k : Value → Prop} : oV (a0 :: a1 :: a2 :: a3 :: a4 :: a5 :: a6 :: a7 :: a8 :: a9 :: a10 :: a11 :: a12 :: a13 :: a14 :: a15 :: a16 :: a17 :: a18 :: a19 :: a20 :: a21 :: a22 :: a23 :: a24 :: a25 :: a26 :: a27 :: a28 :: a29 :: a30 :: a31 :: a32 :: a33 :: v :: r)[34]? k = k v := rfl
theorem oV_at35 {a0 a1 a2 a3 a4 a5 a6 a7 a8 a9 a10 a11 a12 a13 a14 a15 a16 a17 a18 a19 a20 a21 a22 a23 a24 a25 a26 a27 a28 a29 a30 a31 a32 a33 a34 : Value} {v : Value} {r : List Value} {k : Value → Prop} : oV (a0 :: a1 :: a2 :: a3 :: a4 :: a5 :: a6 :: a7 :: a8 :: a9 :: a10 :: a11 :: a12 :: a13 :: a14 :: a15 :: a16 :: a17 :: a18 :: a19 :: a20 :: a21 :: a22 :: a23 :: a24 :: a25 :: a26 :: a27 :: a28 :: a29 :: a30 :: a31 :: a32 :: a33 :: a34 :: v :: r)[35]? k = k v := rfl
theorem oV_at36 {a0 a1 a2 a3 a4 a5 a6 a7 a8 a9 a10 a11 a12 a13 a14 a15 a16 a17 a18 a19 a20 a21 a22 a23 a24 a25 a26 a27 a28 a29 a30 a31 a32 a33 a34 a35 : Value} {v : Value} {r : List Value} {k : Value → Prop} : oV (a0 :: a1 :: a2 :: a3 :: a4 :: a5 :: a6 :: a7 :: a8 :: a9 :: a10 :: a11 :: a12 :: a13 :: a14 :: a15 :: a16 :: a17 :: a18 :: a19 :: a20 :: a21 :: a22 :: a23 :: a24 :: a25 :: a26 :: a27 :: a28 :: a29 :: a30 :: a31 :: a32 :: a33 :: a34 :: a35 :: v :: r)[36]? k = k v := rfl
theorem oV_at37 {a0 a1 a2 a3 a4 a5 a6 a7 a8 a9 a10 a11 a12 a13 a14 a15 a16 a17 a18 a19 a20 a21 a22 a23 a24 a25 a26 a27 a28 a29 a30 a31 a32 a33 a34 a35 a36 : Value} {v : Value} {r : List Value} {k : Value → Prop} : oV (a0 :: a1 :: a2 :: a3 :: a4 :: a5 :: a6 :: a7 :: a8 :: a9 :: a10 :: a11 :: a12 :: a13 :: a14 :: a15 :: a16 :: a17 :: a18 :: a19 :: a20 :: a21 :: a22 :: a23 :: a24 :: a25 :: a26 :: a27 :: a28 :: a29 :: a30 :: a31 :: a32 :: a33 :: a34 :: a35 :: a36 :: v :: r)[37]? k = k v := rfl
theorem oV_at38 {a0 a1 a2 a3 a4 a5 a6 a7 a8 a9 a10 a11 a12 a13 a14 a15 a16 a17 a18 a19 a20 a21 a22 a23 a24 a25 a26 a27 a28 a29 a30 a31 a32 a33 a34 a35 a36 a37 : Value} {v : Value} {r : List Value} {k : Value → Prop} : oV (a0 :: a1 :: a2 :: a3 :: a4 :: a5 :: a6 :: a7 :: a8 :: a9 :: a10 :: a11 :: a12 :: a13 :: a14 :: a15 :: a16 :: a17 :: a18 :: a19 :: a20 :: a21 :: a22 :: a23 :: a24 :: a25 :: a26 :: a27 :: a28 :: a29 :: a30 :: a31 :: a32 :: a33 :: a34 :: a35 :: a36 :: a37 :: v :: r)[38]? k = k v := rfl
theorem oV_at39 {a0 a1 a2 a3 a4 a5 a6 a7 a8 a9 a10 a11 a12 a13 a14 a15 a16 a17 a18 a19 a20 a21 a22 a23 a24 a25 a26 a27 a28 a29 a30 a31 a32 a33 a34 a35 a36 a37 a38 : Value} {v : Value} {r : List Value} {k : Value → Prop} : oV (a0 :: a1 :: a2 :: a3 :: a4 :: a5 :: a6 :: a7 :: a8 :: a9 :: a10 :: a11 :: a12 :: a13 :: a14 :: a15 :: a16 :: a17 :: a18 :: a19 :: a20 :: a21 :: a22 :: a23 :: a24 :: a25 :: a26 :: a27 :: a28 :: a29 :: a30 :: a31 :: a32 :: a33 :: a34 :: a35 :: a36 :: a37 :: a38 :: v :: r)[39]? k = k v := rfl
theorem gLt_0 {v : Value} {r : List Value} : (0 < (v :: r).length) = True := eq_true (by simp)
theorem gLt_1 {a0 : Value} {v : Value} {r : List Value} : (1 < (a0 :: v :: r).length) = True := eq_true (by simp)
theorem gLt_2 {a0 a1 : Value} {v : Value} {r : List Value} : (2 < (a0 :: a1 :: v :: r).length) = True := eq_true (by simp)
theorem gLt_3 {a0 a1 a2 : Value} {v : Value} {r : List Value} : (3 < (a0 :: a1 :: a2 :: v :: r).length) = True := eq_true (by simp)
theorem gLt_4 {a0 a1 a2 a3 : Value} {v : Value} {r : List Value} : (4 < (a0 :: a1 :: a2 :: a3 :: v :: r).length) = True := eq_true (by simp)
theorem gLt_5 {a0 a1 a2 a3 a4 : Value} {v : Value} {r : List Value} : (5 < (a0 :: a1 :: a2 :: a3 :: a4 :: v :: r).length) = True := eq_true (by simp)
theorem gLt_6 {a0 a1 a2 a3 a4 a5 : Value} {v : Value} {r : List Value} : (6 < (a0 :: a1 :: a2 :: a3 :: a4 :: a5 :: v :: r).length) = True := eq_true (by simp)
theorem gLt_7 {a0 a1 a2 a3 a4 a5 a6 : Value} {v : Value} {r : List Value} : (7 < (a0 :: a1 :: a2 :: a3 :: a4 :: a5 :: a6 :: v :: r).length) = True := eq_true (by simp)
theorem gLt_8 {a0 a1 a2 a3 a4 a5 a6 a7 : Value} {v : Value} {r : List Value} : (8 < (a0 :: a1 :: a2 :: a3 :: a4 :: a5 :: a6 :: a7 :: v :: r).length) = True := eq_true (by simp)
theorem gLt_9 {a0 a1 a2 a3 a4 a5 a6 a7 a8 : Value} {v : Value} {r : List Value} : (9 < (a0 :: a1 :: a2 :: a3 :: a4 :: a5 :: a6 :: a7 :: a8 :: v :: r).length) = True := eq_true (by simp)
theorem gLt_10 {a0 a1 a2 a3 a4 a5 a6 a7 a8 a9 : Value} {v : Value} {r : List Value} : (10 < (a0 :: a1 :: a2 :: a3 :: a4 :: a5 :: a6 :: a7 :: a8 :: a9 :: v :: r).length) = True := eq_true (by simp)
theorem gLt_11 {a0 a1 a2 a3 a4 a5 a6 a7 a8 a9 a10 : Value} {v : Value} {r : List Value} : (11 < (a0 :: a1 :: a2 :: a3 :: a4 :: a5 :: a6 :: a7 :: a8 :: a9 :: a10 :: v :: r).length) = True := eq_true (by simp)
theorem gLt_12 {a0 a1 a2 a3 a4 a5 a6 a7 a8 a9 a10 a11 : Value} {v : Value} {r : List Value} : (12 < (a0 :: a1 :: a2 :: a3 :: a4 :: a5 :: a6 :: a7 :: a8 :: a9 :: a10 :: a11 :: v :: r).length) = True := eq_true (by simp)
theorem gLt_13 {a0 a1 a2 a3 a4 a5 a6 a7 a8 a9 a10 a11 a12 : Value} {v : Value} {r : List Value} : (13 < (a0 :: a1 :: a2 :: a3 :: a4 :: a5 :: a6 :: a7 :: a8 :: a9 :: a10 :: a11 :: a12 :: v :: r).length) = True := eq_true (by simp)
theorem gLt_14 {a0 a1 a2 a3 a4 a5 a6 a7 a8 a9 a10 a11 a12 a13 : Value} {v : Value} {r : List Value} : (14 < (a0 :: a1 :: a2 :: a3 :: a4 :: a5 :: a6 :: a7 :: a8 :: a9 :: a10 :: a11 :: a12 :: a13 :: v :: r).length) = True := eq_true (by simp)
theorem gLt_15 {a0 a1 a2 a3 a4 a5 a6 a7 a8 a9 a10 a11 a12 a13 a14 : Value} {v : Value} {r : List Value} : (15 < (a0 :: a1 :: a2 :: a3 :: a4 :: a5 :: a6 :: a7 :: a8 :: a9 :: a10 :: a11 :: a12 :: a13 :: a14 :: v :: r).length) = True := eq_true (by simp)
theorem gLt_16 {a0 a1 a2 a3 a4 a5 a6 a7 a8 a9 a10 a11 a12 a13 a14 a15 : Value} {v : Value} {r : List Value} : (16 < (a0 :: a1 :: a2 :: a3 :: a4 :: a5 :: a6 :: a7 :: a8 :: a9 :: a10 :: a11 :: a12 :: a13 :: a14 :: a15 :: v :: r).length) = True := eq_true (by simp)
theorem gLt_17 {a0 a1 a2 a3 a4 a5 a6 a7 a8 a9 a10 a11 a12 a13 a14 a15 a16 : Value} {v : Value} {r : List Value} : (17 < (a0 :: a1 :: a2 :: a3 :: a4 :: a5 :: a6 :: a7 :: a8 :: a9 :: a10 :: a11 :: a12 :: a13 :: a14 :: a15 :: a16 :: v :: r).length) = True := eq_true (by simp)
theorem gLt_18 {a0 a1 a2 a3 a4 a5 a6 a7 a8 a9 a10 a11 a12 a13 a14 a15 a16 a17 : Value} {v : Value} {r : List Value} : (18 < (a0 :: a1 :: a2 :: a3 :: a4 :: a5 :: a6 :: a7 :: a8 :: a9 :: a10 :: a11 :: a12 :: a13 :: a14 :: a15 :: a16 :: a17 :: v :: r).length) = True := eq_true (by simp)
theorem gLt_19 {a0 a1 a2 a3 a4 a5 a6 a7 a8 a9 a10 a11 a12 a13 a14 a15 a16 a17 a18 : Value} {v : Value} {r : List Value} : (19 < (a0 :: a1 :: a2 :: a3 :: a4 :: a5 :: a6 :: a7 :: a8 :: a9 :: a10 :: a11 :: a12 :: a13 :: a14 :: a15 :: a16 :: a17 :: a18 :: v :: r).length) = True := eq_true (by simp)
theorem gLt_20 {a0 a1 a2 a3 a4 a5 a6 a7 a8 a9 a10 a11 a12 a13 a14 a15 a16 a17 a18 a19 : Value} {v : Value} {r : List Value} : (20 < (a0 :: a1 :: a2 :: a3 :: a4 :: a5 :: a6 :: a7 :: a8 :: a9 :: a10 :: a11 :: a12 :: a13 :: a14 :: a15 :: a16 :: a17 :: a18 :: a19 :: v :: r).length) = True := eq_true (by simp)
theorem gLt_21 {a0 a1 a2 a3 a4 a5 a6 a7 a8 a9 a10 a11 a12 a13 a14 a15 a16 a17 a18 a19 a20 : Value} {v : Value} {r : List Value} : (21 < (a0 :: a1 :: a2 :: a3 :: a4 :: a5 :: a6 :: a7 :: a8 :: a9 :: a10 :: a11 :: a12 :: a13 :: a14 :: a15 :: a16 :: a17 :: a18 :: a19 :: a20 :: v :: r).length) = True := eq_true (by simp)
theorem gLt_22 {a0 a1 a2 a3 a4 a5 a6 a7 a8 a9 a10 a11 a12 a13 a14 a15 a16 a17 a18 a19 a20 a21 : Value} {v : Value} {r : List Value} : (22 < (a0 :: a1 :: a2 :: a3 :: a4 :: a5 :: a6 :: a7 :: a8 :: a9 :: a10 :: a11 :: a12 :: a13 :: a14 :: a15 :: a16 :: a17 :: a18 :: a19 :: a20 :: a21 :: v :: r).length) = True := eq_true (by simp)
theorem gLt_23 {a0 a1 a2 a3 a4 a5 a6 a7 a8 a9 a10 a11 a12 a13 a14 a15 a16 a17 a18 a19 a20 a21 a22 : Value} {v : Value} {r : List Value} : (23 < (a0 :: a1 :: a2 :: a3 :: a4 :: a5 :: a6 :: a7 :: a8 :: a9 :: a10 :: a11 :: a12 :: a13 :: a14 :: a15 :: a16 :: a17 :: a18 :: a19 :: a20 :: a21 :: a22 :: v :: r).length) = True := eq_true (by simp)
theorem gLt_24 {a0 a1 a2 a3 a4 a5 a6 a7 a8 a9 a10 a11 a12 a13 a14 a15 a16 a17 a18 a19 a20 a21 a22 a23 : Value} {v : Value} {r : List Value} : (24 < (a0 :: a1 :: a2 :: a3 :: a4 :: a5 :: a6 :: a7 :: a8 :: a9 :: a10 :: a11 :: a12 :: a13 :: a14 :: a15 :: a16 :: a17 :: a18 :: a19 :: a20 :: a21 :: a22 :: a23 :: v :: r).length) = True := eq_true (by simp)
theorem gLt_25 {a0 a1 a2 a3 a4 a5 a6 a7 a8 a9 a10 a11 a12 a13 a14 a15 a16 a17 a18 a19 a20 a21 a22 a23 a24 : Value} {v : Value} {r : List Value} : (25 < (a0 :: a1 :: a2 :: a3 :: a4 :: a5 :: a6 :: a7 :: a8 :: a9 :: a10 :: a11 :: a12 :: a13 :: a14 :: a15 :: a16 :: a17 :: a18 :: a19 :: a20 :: a21 :: a22 :: a23 :: a24 :: v :: r).length) = True := eq_true (by simp)
theorem gLt_26 {a0 a1 a2 a3 a4 a5 a6 a7 a8 a9 a10 a11 a12 a13 a14 a15 a16 a17 a18 a19 a20 a21 a22 a23 a24 a25 : Value} {v : Value} {r : List Value} : (26 < (a0 :: a1 :: a2 :: a3 :: a4 :: a5 :: a6 :: a7 :: a8 :: a9 :: a10 :: a11 :: a12 :: a13 :: a14 :: a15 :: a16 :: a17 :: a18 :: a19 :: a20 :: a21 :: a22 :: a23 :: a24 :: a25 :: v :: r).length) = True := eq_true (by simp)
theorem gLt_27 {a0 a1 a2 a3 a4 a5 a6 a7 a8 a9 a10 a11 a12 a13 a14 a15 a16 a17 a18 a19 a20 a21 a22 a23 a24 a25 a26 : Value} {v : Value} {r : List Value} : (27 < (a0 :: a1 :: a2 :: a3 :: a4 :: a5 :: a6 :: a7 :: a8 :: a9 :: a10 :: a11 :: a12 :: a13 :: a14 :: a15 :: a16 :: a17 :: a18 :: a19 :: a20 :: a21 :: a22 :: a23 :: a24 :: a25 :: a26 :: v :: r).length) = True := eq_true (by simp)
theorem gLt_28 {a0 a1 a2 a3 a4 a5 a6 a7 a8 a9 a10 a11 a12 a13 a14 a15 a16 a17 a18 a19 a20 a21 a22 a23 a24 a25 a26 a27 : Value} {v : Value} {r : List Value} : (28 < (a0 :: a1 :: a2 :: a3 :: a4 :: a5 :: a6 :: a7 :: a8 :: a9 :: a10 :: a11 :: a12 :: a13 :: a14 :: a15 :: a16 :: a17 :: a18 :: a19 :: a20 :: a21 :: a22 :: a23 :: a24 :: a25 :: a26 :: a27 :: v :: r).length) = True := eq_true (by simp)
theorem gLt_29 {a0 a1 a2 a3 a4 a5 a6 a7 a8 a9 a10 a11 a12 a13 a14 a15 a16 a17 a18 a19 a20 a21 a22 a23 a24 a25 a26 a27 a28 : Value} {v : Value} {r : List Value} : (29 < (a0 :: a1 :: a2 :: a3 :: a4 :: a5 :: a6 :: a7 :: a8 :: a9 :: a10 :: a11 :: a12 :: a13 :: a14 :: a15 :: a16 :: a17 :: a18 :: a19 :: a20 :: a21 :: a22 :: a23 :: a24 :: a25 :: a26 :: a27 :: a28 :: v :: r).length) = True := eq_true (by simp)
theorem gLt_30 {a0 a1 a2 a3 a4 a5 a6 a7 a8 a9 a10 a11 a12 a13 a14 a15 a16 a17 a18 a19 a20 a21 a22 a23 a24 a25 a26 a27 a28 a29 : Value} {v : Value} {r : List Value} : (30 < (a0 :: a1 :: a2 :: a3 :: a4 :: a5 :: a6 :: a7 :: a8 :: a9 :: a10 :: a11 :: a12 :: a13 :: a14 :: a15 :: a16 :: a17 :: a18 :: a19 :: a20 :: a21 :: a22 :: a23 :: a24 :: a25 :: a26 :: a27 :: a28 :: a29 :: v :: r).length) = True := eq_true (by simp)
theorem gLt_31 {a0 a1 a2 a3 a4 a5 a6 a7 a8 a9 a10 a11 a12 a13 a14 a15 a16 a17 a18 a19 a20 a21 a22 a23 a24 a25 a26 a27 a28 a29 a30 : Value} {v : Value} {r : List Value} : (31 < (a0 :: a1 :: a2 :: a3 :: a4 :: a5 :: a6 :: a7 :: a8 :: a9 :: a10 :: a11 :: a12 :: a13 :: a14 :: a15 :: a16 :: a17 :: a18 :: a19 :: a20 :: a21 :: a22 :: a23 :: a24 :: a25 :: a26 :: a27 :: a28 :: a29 :: a30 :: v :: r).length) = True := eq_true (by simp)
theorem gLt_32 {a0 a1 a2 a3 a4 a5 a6 a7 a8 a9 a10 a11 a12 a13 a14 a15 a16 a17 a18 a19 a20 a21 a22 a23 a24 a25 a26 a27 a28 a29 a30 a31 : Value} {v : Value} {r : List Value} : (32 < (a0 :: a1 :: a2 :: a3 :: a4 :: a5 :: a6 :: a7 :: a8 :: a9 :: a10 :: a11 :: a12 :: a13 :: a14 :: a15 :: a16 :: a17 :: a18 :: a19 :: a20 :: a21 :: a22 :: a23 :: a24 :: a25 :: a26 :: a27 :: a28 :: a29 :: a30 :: a31 :: v :: r).length) = True := eq_true (by simp)
theorem gLt_33 {a0 a1 a2 a3 a4 a5 a6 a7 a8 a9 a10 a11 a12 a13 a14 a15 a16 a17 a18 a19 a20 a21 a22 a23 a24 a25 a26 a27 a28 a29 a30 a31 a32 : Value} {v : Value} {r : List Value} : (33 < (a0 :: a1 :: a2 :: a3 :: a4 :: a5 :: a6 :: a7 :: a8 :: a9 :: a10 :: a11 :: a12 :: a13 :: a14 :: a15 :: a16 :: a17 :: a18 :: a19 :: a20 :: a21 :: a22 :: a23 :: a24 :: a25 :: a26 :: a27 :: a28 :: a29 :: a30 :: a31 :: a32 :: v :: r).length) = True := eq_true (by simp)
theorem gLt_34 {a0 a1 a2 a3 a4 a5 a6 a7 a8 a9 a10 a11 a12 a13 a14 a15 a16 a17 a18 a19 a20 a21 a22 a23 a24 a25 a26 a27 a28 a29 a30 a31 a32 a33 : Value} {v : Value} {r : List Value} : (34 < (a0 :: a1 :: a2 :: a3 :: a4 :: a5 :: a6 :: a7 :: a8 :: a9 :: a10 :: a11 :: a12 :: a13 :: a14 :: a15 :: a16 :: a17 :: a18 :: a19 :: a20 :: a21 :: a22 :: a23 :: a24 :: a25 :: a26 :: a27 :: a28 :: a29 :: a30 :: a31 :: a32 :: a33 :: v :: r).length) = True := eq_true (by simp)
theorem gLt_35 {a0 a1 a2 a3 a4 a5 a6 a7 a8 a9 a10 a11 a12 a13 a14 a15 a16 a17 a18 a19 a20 a21 a22 a23 a24 a25 a26 a27 a28 a29 a30 a31 a32 a33 a34 : Value} {v : Value} {r : List Value} : (35 < (a0 :: a1 :: a2 :: a3 :: a4 :: a5 :: a6 :: a7 :: a8 :: a9 :: a10 :: a11 :: a12 :: a13 :: a14 :: a15 :: a16 :: a17 :: a18 :: a19 :: a20 :: a21 :: a22 :: a23 :: a24 :: a25 :: a26 :: a27 :: a28 :: a29 :: a30 :: a31 :: a32 :: a33 :: a34 :: v :: r).length) = True := eq_true (by simp)
theorem gLt_36 {a0 a1 a2 a3 a4 a5 a6 a7 a8 a9 a10 a11 a12 a13 a14 a15 a16 a17 a18 a19 a20 a21 a22 a23 a24 a25 a26 a27 a28 a29 a30 a31 a32 a33 a34 a35 : Value} {v : Value} {r : List Value} : (36 < (a0 :: a1 :: a2 :: a3 :: a4 :: a5 :: a6 :: a7 :: a8 :: a9 :: a10 :: a11 :: a12 :: a13 :: a14 :: a15 :: a16 :: a17 :: a18 :: a19 :: a20 :: a21 :: a22 :: a23 :: a24 :: a25 :: a26 :: a27 :: a28 :: a29 :: a30 :: a31 :: a32 :: a33 :: a34 :: a35 :: v :: r).length) = True := eq_true (by simp)
theorem gLt_37 {a0 a1 a2 a3 a4 a5 a6 a7 a8 a9 a10 a11 a12 a13 a14 a15 a16 a17 a18 a19 a20 a21 a22 a23 a24 a25 a26 a27 a28 a29 a30 a31 a32 a33 a34 a35 a36 : Value} {v : Value} {r : List Value} : (37 < (a0 :: a1 :: a2 :: a3 :: a4 :: a5 :: a6 :: a7 :: a8 :: a9 :: a10 :: a11 :: a12 :: a13 :: a14 :: a15 :: a16 :: a17 :: a18 :: a19 :: a20 :: a21 :: a22 :: a23 :: a24 :: a25 :: a26 :: a27 :: a28 :: a29 :: a30 :: a31 :: a32 :: a33 :: a34 :: a35 :: a36 :: v :: r).length) = True := eq_true (by simp)
theorem gLt_38 {a0 a1 a2 a3 a4 a5 a6 a7 a8 a9 a10 a11 a12 a13 a14 a15 a16 a17 a18 a19 a20 a21 a22 a23 a24 a25 a26 a27 a28 a29 a30 a31 a32 a33 a34 a35 a36 a37 : Value} {v : Value} {r : List Value} : (38 < (a0 :: a1 :: a2 :: a3 :: a4 :: a5 :: a6 :: a7 :: a8 :: a9 :: a10 :: a11 :: a12 :: a13 :: a14 :: a15 :: a16 :: a17 :: a18 :: a19 :: a20 :: a21 :: a22 :: a23 :: a24 :: a25 :: a26 :: a27 :: a28 :: a29 :: a30 :: a31 :: a32 :: a33 :: a34 :: a35 :: a36 :: a37 :: v :: r).length) = True := eq_true (by simp)
theorem gLt_39 {a0 a1 a2 a3 a4 a5 a6 a7 a8 a9 a10 a11 a12 a13 a14 a15 a16 a17 a18 a19 a20 a21 a22 a23 a24 a25 a26 a27 a28 a29 a30 a31 a32 a33 a34 a35 a36 a37 a38 : Value} {v : Value} {r : List Value} : (39 < (a0 :: a1 :: a2 :: a3 :: a4 :: a5 :: a6 :: a7 :: a8 :: a9 :: a10 :: a11 :: a12 :: a13 :: a14 :: a15 :: a16 :: a17 :: a18 :: a19 :: a20 :: a21 :: a22 :: a23 :: a24 :: a25 :: a26 :: a27 :: a28 :: a29 :: a30 :: a31 :: a32 :: a33 :: a34 :: a35 :: a36 :: a37 :: a38 :: v :: r).length) = True := eq_true (by simp)
theorem fin2_4 : ((2 : Fin 4) : Nat) = 2 := rfl
theorem fin3_4 : ((3 : Fin 4) : Nat) = 3 := rfl
theorem fin0_4 : ((0 : Fin 4) : Nat) = 0 := rfl
theorem fin1_4 : ((1 : Fin 4) : Nat) = 1 := rfl
theorem gSet1_0 {a : Option Value} {r : List (Option Value)} {v : Value} : gSet1 (a :: r) 0 v = some v :: r := rfl
theorem gSet1_1 {a : Option Value} {r : List (Option Value)} {v : Value} : gSet1 (a :: r) 1 v = gW1 a :: gSet1 r 0 v := rfl
theorem gSet1_2 {a : Option Value} {r : List (Option Value)} {v : Value} {n : Nat} : gSet1 (a :: r) (n + 2) v = a :: gSet1 r (n + 1) v := rfl
theorem gSet2_0 {a b : Option Value} {r : List (Option Value)} {v : Value} : gSet2 (a :: b :: r) 0 v = some v :: none :: r := rfl
theorem gSet2_1 {a b : Option Value} {r : List (Option Value)} {v : Value} : gSet2 (a :: b :: r) 1 v = gW1 a :: gSet2 (b :: r) 0 v := rfl
theorem gSet2_2 {a b : Option Value} {r : List (Option Value)} {v : Value} {n : Nat} : gSet2 (a :: b :: r) (n + 2) v = a :: gSet2 (b :: r) (n + 1) v := rfl
theorem gW1_i {x : Int32} : gW1 (some (.int x)) = some (.int x) := rfl
theorem gW1_r {x : Nat} : gW1 (some (.ref x)) = some (.ref x) := rfl
theorem gW1_u : gW1 (some .null) = some .null := rfl
theorem gW1_l {x : Int64} : gW1 (some (.long x)) = none := rfl
theorem gW1_d {x : UInt64} : gW1 (some (.double x)) = none := rfl
theorem gW1_0 : gW1 none = none := rfl
