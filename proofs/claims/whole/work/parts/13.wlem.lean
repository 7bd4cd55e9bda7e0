section GWL
variable {M : gM} {K : Nat → List (Option Value) → List Value → gH → Prop} {KR : Option Value → gH → Prop} {is : List gI} {pc a b t : Nat} {ls : List (Option Value)} {sk : List Value} {h : gH}
theorem w_nil : wpb M K KR [] pc ls sk h = K pc ls sk h := rfl
theorem w_iadd  : wpb M K KR ((.iadd, a, b, t) :: is) pc ls sk h = (pI sk fun y r => pI r fun x r => wpb M K KR is (pc + 1) ls (.int (x + y) :: r) h) := rfl
theorem w_isub  : wpb M K KR ((.isub, a, b, t) :: is) pc ls sk h = (pI sk fun y r => pI r fun x r => wpb M K KR is (pc + 1) ls (.int (x - y) :: r) h) := rfl
theorem w_imul  : wpb M K KR ((.imul, a, b, t) :: is) pc ls sk h = (pI sk fun y r => pI r fun x r => wpb M K KR is (pc + 1) ls (.int (x * y) :: r) h) := rfl
theorem w_iand  : wpb M K KR ((.iand, a, b, t) :: is) pc ls sk h = (pI sk fun y r => pI r fun x r => wpb M K KR is (pc + 1) ls (.int (x &&& y) :: r) h) := rfl
theorem w_ior  : wpb M K KR ((.ior, a, b, t) :: is) pc ls sk h = (pI sk fun y r => pI r fun x r => wpb M K KR is (pc + 1) ls (.int (x ||| y) :: r) h) := rfl
theorem w_ishl  : wpb M K KR ((.ishl, a, b, t) :: is) pc ls sk h = (pI sk fun y r => pI r fun x r => wpb M K KR is (pc + 1) ls (.int (x <<< (y &&& 31)) :: r) h) := rfl
theorem w_ishr  : wpb M K KR ((.ishr, a, b, t) :: is) pc ls sk h = (pI sk fun y r => pI r fun x r => wpb M K KR is (pc + 1) ls (.int (x >>> (y &&& 31)) :: r) h) := rfl
theorem w_idiv  : wpb M K KR ((.idiv, a, b, t) :: is) pc ls sk h = (pI sk fun y r => pI r fun x r => ¬ y = 0 ∧ wpb M K KR is (pc + 1) ls (.int (x / y) :: r) h) := rfl
theorem w_irem  : wpb M K KR ((.irem, a, b, t) :: is) pc ls sk h = (pI sk fun y r => pI r fun x r => ¬ y = 0 ∧ wpb M K KR is (pc + 1) ls (.int (x - x / y * y) :: r) h) := rfl
theorem w_ladd  : wpb M K KR ((.ladd, a, b, t) :: is) pc ls sk h = (pL sk fun y r => pL r fun x r => wpb M K KR is (pc + 1) ls (.long (x + y) :: r) h) := rfl
theorem w_lsub  : wpb M K KR ((.lsub, a, b, t) :: is) pc ls sk h = (pL sk fun y r => pL r fun x r => wpb M K KR is (pc + 1) ls (.long (x - y) :: r) h) := rfl
theorem w_lmul  : wpb M K KR ((.lmul, a, b, t) :: is) pc ls sk h = (pL sk fun y r => pL r fun x r => wpb M K KR is (pc + 1) ls (.long (x * y) :: r) h) := rfl
theorem w_lcmp  : wpb M K KR ((.lcmp, a, b, t) :: is) pc ls sk h = (pL sk fun y r => pL r fun x r => wpb M K KR is (pc + 1) ls (.int (lg_cmp x y) :: r) h) := rfl
theorem w_fdiv  : wpb M K KR ((.fdiv, a, b, t) :: is) pc ls sk h = (pF sk fun y r => pF r fun x r => vf_n32 (FP.fdiv x y) ∧ wpb M K KR is (pc + 1) ls (.float (FP.fdiv x y) :: r) h) := rfl
theorem w_ddiv  : wpb M K KR ((.ddiv, a, b, t) :: is) pc ls sk h = (pD sk fun y r => pD r fun x r => vf_n64 (FP.ddiv x y) ∧ wpb M K KR is (pc + 1) ls (.double (FP.ddiv x y) :: r) h) := rfl
theorem w_ineg  : wpb M K KR ((.ineg, a, b, t) :: is) pc ls sk h = (pI sk fun x r => wpb M K KR is (pc + 1) ls (.int (-x) :: r) h) := rfl
theorem w_i2l  : wpb M K KR ((.i2l, a, b, t) :: is) pc ls sk h = (pI sk fun x r => wpb M K KR is (pc + 1) ls (.long x.toInt64 :: r) h) := rfl
theorem w_l2i  : wpb M K KR ((.l2i, a, b, t) :: is) pc ls sk h = (pL sk fun x r => wpb M K KR is (pc + 1) ls (.int x.toInt32 :: r) h) := rfl
theorem w_i2b  : wpb M K KR ((.i2b, a, b, t) :: is) pc ls sk h = (pI sk fun x r => wpb M K KR is (pc + 1) ls (.int x.toInt8.toInt32 :: r) h) := rfl
theorem w_i2c  : wpb M K KR ((.i2c, a, b, t) :: is) pc ls sk h = (pI sk fun x r => wpb M K KR is (pc + 1) ls (.int (x.toUInt32 % 65536).toInt32 :: r) h) := rfl
theorem w_i2f  : wpb M K KR ((.i2f, a, b, t) :: is) pc ls sk h = (pI sk fun x r => wpb M K KR is (pc + 1) ls (.float (FP.i2f x) :: r) h) := rfl
theorem w_i2d  : wpb M K KR ((.i2d, a, b, t) :: is) pc ls sk h = (pI sk fun x r => wpb M K KR is (pc + 1) ls (.double (FP.i2d x) :: r) h) := rfl
theorem w_l2d  : wpb M K KR ((.l2d, a, b, t) :: is) pc ls sk h = (pL sk fun x r => wpb M K KR is (pc + 1) ls (.double (FP.l2d x) :: r) h) := rfl
theorem w_f2d  : wpb M K KR ((.f2d, a, b, t) :: is) pc ls sk h = (pF sk fun x r => vf_n64 (FP.f2d x) ∧ wpb M K KR is (pc + 1) ls (.double (FP.f2d x) :: r) h) := rfl
theorem w_dcmp {op : CmpOp} : wpb M K KR ((.dcmp op, a, b, t) :: is) pc ls sk h = (pD sk fun y r => pD r fun x r => wpb M K KR is (pc + 1) ls (.int (Op.cmpValue (FP.dcmp x y) op) :: r) h) := rfl
theorem w_iconst {z : Int} : wpb M K KR ((.iconst z, a, b, t) :: is) pc ls sk h = (wpb M K KR is (pc + 1) ls (.int (Int32.ofInt z) :: sk) h) := rfl
theorem w_bipush {z : Int} : wpb M K KR ((.bipush z, a, b, t) :: is) pc ls sk h = (wpb M K KR is (pc + 2) ls (.int (Int32.ofInt z) :: sk) h) := rfl
theorem w_sipush {z : Int} : wpb M K KR ((.sipush z, a, b, t) :: is) pc ls sk h = (wpb M K KR is (pc + 3) ls (.int (Int32.ofInt z) :: sk) h) := rfl
theorem w_lconst {z : Fin 2} : wpb M K KR ((.lconst z, a, b, t) :: is) pc ls sk h = (wpb M K KR is (pc + 1) ls (.long (Int64.ofNat (z : Nat)) :: sk) h) := rfl
theorem w_fconst {z : Fin 3} : wpb M K KR ((.fconst z, a, b, t) :: is) pc ls sk h = (wpb M K KR is (pc + 1) ls (.float FP.fconst0 :: sk) h) := rfl
theorem w_dconst {z : Fin 2} : wpb M K KR ((.dconst z, a, b, t) :: is) pc ls sk h = (wpb M K KR is (pc + 1) ls (.double FP.dconst0 :: sk) h) := rfl
theorem w_iload_n {i : Fin 4} : wpb M K KR ((.iload_n i, a, b, t) :: is) pc ls sk h = (lI ls[(i : Nat)]? fun x => wpb M K KR is (pc + 1) ls (.int x :: sk) h) := rfl
theorem w_iload {i : Nat} : wpb M K KR ((.iload i, a, b, t) :: is) pc ls sk h = (lI ls[i]? fun x => wpb M K KR is (pc + 2) ls (.int x :: sk) h) := rfl
theorem w_lload_n {i : Fin 4} : wpb M K KR ((.lload_n i, a, b, t) :: is) pc ls sk h = (lL ls[(i : Nat)]? fun x => wpb M K KR is (pc + 1) ls (.long x :: sk) h) := rfl
theorem w_lload {i : Nat} : wpb M K KR ((.lload i, a, b, t) :: is) pc ls sk h = (lL ls[i]? fun x => wpb M K KR is (pc + 2) ls (.long x :: sk) h) := rfl
theorem w_aload_n {i : Fin 4} : wpb M K KR ((.aload_n i, a, b, t) :: is) pc ls sk h = (lR ls[(i : Nat)]? fun x => wpb M K KR is (pc + 1) ls (.ref x :: sk) h) := rfl
theorem w_aload {i : Nat} : wpb M K KR ((.aload i, a, b, t) :: is) pc ls sk h = (lR ls[i]? fun x => wpb M K KR is (pc + 2) ls (.ref x :: sk) h) := rfl
theorem w_dload {i : Nat} : wpb M K KR ((.dload i, a, b, t) :: is) pc ls sk h = (lD ls[i]? fun x => wpb M K KR is (pc + 2) ls (.double x :: sk) h) := rfl
theorem w_istore_n {i : Fin 4} : wpb M K KR ((.istore_n i, a, b, t) :: is) pc ls sk h = (pI sk fun x r => wpb M K KR is (pc + 1) (gSet1 ls i (.int x)) r h) := rfl
theorem w_istore {i : Nat} : wpb M K KR ((.istore i, a, b, t) :: is) pc ls sk h = (pI sk fun x r => wpb M K KR is (pc + 2) (gSet1 ls i (.int x)) r h) := rfl
theorem w_lstore_n {i : Fin 4} : wpb M K KR ((.lstore_n i, a, b, t) :: is) pc ls sk h = (pL sk fun x r => wpb M K KR is (pc + 1) (gSet2 ls i (.long x)) r h) := rfl
theorem w_lstore {i : Nat} : wpb M K KR ((.lstore i, a, b, t) :: is) pc ls sk h = (pL sk fun x r => wpb M K KR is (pc + 2) (gSet2 ls i (.long x)) r h) := rfl
theorem w_astore_n {i : Fin 4} : wpb M K KR ((.astore_n i, a, b, t) :: is) pc ls sk h = (pR sk fun x r => wpb M K KR is (pc + 1) (gSet1 ls i (.ref x)) r h) := rfl
theorem w_astore {i : Nat} : wpb M K KR ((.astore i, a, b, t) :: is) pc ls sk h = (pR sk fun x r => wpb M K KR is (pc + 2) (gSet1 ls i (.ref x)) r h) := rfl
theorem w_dstore {i : Nat} : wpb M K KR ((.dstore i, a, b, t) :: is) pc ls sk h = (pD sk fun x r => wpb M K KR is (pc + 2) (gSet2 ls i (.double x)) r h) := rfl
theorem w_iinc {i : Nat} {z : Int} : wpb M K KR ((.iinc i z, a, b, t) :: is) pc ls sk h = (lI ls[i]? fun x => wpb M K KR is (pc + 3) (gSet1 ls i (.int (x + Int32.ofInt z))) sk h) := rfl
theorem w_dup  : wpb M K KR ((.dup, a, b, t) :: is) pc ls sk h = (p1 sk fun v r => wpb M K KR is (pc + 1) ls (v :: v :: r) h) := rfl
theorem w_pop  : wpb M K KR ((.pop, a, b, t) :: is) pc ls sk h = (p1 sk fun v r => wpb M K KR is (pc + 1) ls r h) := rfl
theorem w_dup2  : wpb M K KR ((.dup2, a, b, t) :: is) pc ls sk h = (p1 sk fun v r => p1 r fun u r => wpb M K KR is (pc + 1) ls (v :: u :: v :: u :: r) h) := rfl
theorem w_getfield {idx : Nat} : wpb M K KR ((.getfield idx, a, b, t) :: is) pc ls sk h = (pR sk fun p r => cO h[p]? a fun fs => oV fs[b]? fun v => wpb M K KR is (pc + 3) ls (v :: r) h) := rfl
theorem w_putfield0 {idx : Nat} : wpb M K KR ((.putfield idx, a, b, 0) :: is) pc ls sk h = (pI sk fun x r => pR r fun p r => cO h[p]? a fun fs => b < fs.length ∧ wpb M K KR is (pc + 3) ls r (h.set p (some (.inl (a, fs.set b (.int x)))))) := rfl
theorem w_putfield1 {idx : Nat} : wpb M K KR ((.putfield idx, a, b, 1) :: is) pc ls sk h = (pL sk fun x r => pR r fun p r => cO h[p]? a fun fs => b < fs.length ∧ wpb M K KR is (pc + 3) ls r (h.set p (some (.inl (a, fs.set b (.long x)))))) := rfl
theorem w_putfield2 {idx : Nat} : wpb M K KR ((.putfield idx, a, b, 2) :: is) pc ls sk h = (pN sk fun v r => pR r fun p r => cO h[p]? a fun fs => b < fs.length ∧ wpb M K KR is (pc + 3) ls r (h.set p (some (.inl (a, fs.set b v))))) := rfl
theorem w_iaload  : wpb M K KR ((.iaload, a, b, t) :: is) pc ls sk h = (pI sk fun i r => pR r fun p r => cI h[p]? 0 fun l => vp_in i l.length ∧ wpb M K KR is (pc + 1) ls (.int (l.getD i.toNatClampNeg 0) :: r) h) := rfl
theorem w_baload  : wpb M K KR ((.baload, a, b, t) :: is) pc ls sk h = (pI sk fun i r => pR r fun p r => cI h[p]? 1 fun l => vp_in i l.length ∧ wpb M K KR is (pc + 1) ls (.int (l.getD i.toNatClampNeg 0) :: r) h) := rfl
theorem w_laload  : wpb M K KR ((.laload, a, b, t) :: is) pc ls sk h = (pI sk fun i r => pR r fun p r => cL h[p]? fun l => vp_in i l.length ∧ wpb M K KR is (pc + 1) ls (.long (l.getD i.toNatClampNeg 0) :: r) h) := rfl
theorem w_aaload  : wpb M K KR ((.aaload, a, b, t) :: is) pc ls sk h = (pI sk fun i r => pR r fun p r => cQ h[p]? fun l => vp_in i l.length ∧ wpb M K KR is (pc + 1) ls (gRf (l.getD i.toNatClampNeg none) :: r) h) := rfl
theorem w_iastore  : wpb M K KR ((.iastore, a, b, t) :: is) pc ls sk h = (pI sk fun x r => pI r fun i r => pR r fun p r => cI h[p]? 0 fun l => vp_in i l.length ∧ wpb M K KR is (pc + 1) ls r (h.set p (some (.inr (.inl (0, l.set i.toNatClampNeg x)))))) := rfl
theorem w_bastore  : wpb M K KR ((.bastore, a, b, t) :: is) pc ls sk h = (pI sk fun x r => pI r fun i r => pR r fun p r => cI h[p]? 1 fun l => vp_in i l.length ∧ wpb M K KR is (pc + 1) ls r (h.set p (some (.inr (.inl (1, l.set i.toNatClampNeg x.toInt8.toInt32)))))) := rfl
theorem w_lastore  : wpb M K KR ((.lastore, a, b, t) :: is) pc ls sk h = (pL sk fun x r => pI r fun i r => pR r fun p r => cL h[p]? fun l => vp_in i l.length ∧ wpb M K KR is (pc + 1) ls r (h.set p (some (.inr (.inr (.inr (l.set i.toNatClampNeg x))))))) := rfl
theorem w_aastore  : wpb M K KR ((.aastore, a, b, t) :: is) pc ls sk h = (pR sk fun v r => pI r fun i r => pR r fun p r => cQ h[p]? fun l => cO h[v]? 3 fun _ => vp_in i l.length ∧ wpb M K KR is (pc + 1) ls r (h.set p (some (.inr (.inr (.inl (l.set i.toNatClampNeg (some v)))))))) := rfl
theorem w_ldc0 {idx : Nat} : wpb M K KR ((.ldc idx, 0, b, t) :: is) pc ls sk h = (wpb M K KR is (pc + 2) ls (.int (gCIv b) :: sk) h) := rfl
theorem w_ldc1 {idx : Nat} : wpb M K KR ((.ldc idx, 1, b, t) :: is) pc ls sk h = (wpb M K KR is (pc + 2) ls (.ref (1000 + b) :: sk) h) := rfl
theorem w_ldc_w {idx : Nat} : wpb M K KR ((.ldc_w idx, a, b, t) :: is) pc ls sk h = (wpb M K KR is (pc + 3) ls (.int (gCIv b) :: sk) h) := rfl
theorem w_ldc2_w {idx : Nat} : wpb M K KR ((.ldc2_w idx, a, b, t) :: is) pc ls sk h = (wpb M K KR is (pc + 3) ls (.long (gCLv b) :: sk) h) := rfl
theorem w_ifCond_eq {off : Int} : wpb M K KR ((.ifCond .eq off, a, b, t) :: is) pc ls sk h = (pI sk fun x r => (x = 0 → K a ls r h) ∧ (¬ (x = 0) → wpb M K KR is (pc + 3) ls r h)) := rfl
theorem w_ifCond_ne {off : Int} : wpb M K KR ((.ifCond .ne off, a, b, t) :: is) pc ls sk h = (pI sk fun x r => (¬ x = 0 → K a ls r h) ∧ (x = 0 → wpb M K KR is (pc + 3) ls r h)) := rfl
theorem w_ifCond_lt {off : Int} : wpb M K KR ((.ifCond .lt off, a, b, t) :: is) pc ls sk h = (pI sk fun x r => (x < 0 → K a ls r h) ∧ (¬ (x < 0) → wpb M K KR is (pc + 3) ls r h)) := rfl
theorem w_ifCond_ge {off : Int} : wpb M K KR ((.ifCond .ge off, a, b, t) :: is) pc ls sk h = (pI sk fun x r => (x ≥ 0 → K a ls r h) ∧ (¬ (x ≥ 0) → wpb M K KR is (pc + 3) ls r h)) := rfl
theorem w_ifCond_gt {off : Int} : wpb M K KR ((.ifCond .gt off, a, b, t) :: is) pc ls sk h = (pI sk fun x r => (x > 0 → K a ls r h) ∧ (¬ (x > 0) → wpb M K KR is (pc + 3) ls r h)) := rfl
theorem w_ifCond_le {off : Int} : wpb M K KR ((.ifCond .le off, a, b, t) :: is) pc ls sk h = (pI sk fun x r => (x ≤ 0 → K a ls r h) ∧ (¬ (x ≤ 0) → wpb M K KR is (pc + 3) ls r h)) := rfl
theorem w_if_icmp_eq {off : Int} : wpb M K KR ((.if_icmp .eq off, a, b, t) :: is) pc ls sk h = (pI sk fun y r => pI r fun x r => (x = y → K a ls r h) ∧ (¬ (x = y) → wpb M K KR is (pc + 3) ls r h)) := rfl
theorem w_if_icmp_ne {off : Int} : wpb M K KR ((.if_icmp .ne off, a, b, t) :: is) pc ls sk h = (pI sk fun y r => pI r fun x r => (¬ x = y → K a ls r h) ∧ (x = y → wpb M K KR is (pc + 3) ls r h)) := rfl
theorem w_if_icmp_lt {off : Int} : wpb M K KR ((.if_icmp .lt off, a, b, t) :: is) pc ls sk h = (pI sk fun y r => pI r fun x r => (x < y → K a ls r h) ∧ (¬ (x < y) → wpb M K KR is (pc + 3) ls r h)) := rfl
theorem w_if_icmp_ge {off : Int} : wpb M K KR ((.if_icmp .ge off, a, b, t) :: is) pc ls sk h = (pI sk fun y r => pI r fun x r => (x ≥ y → K a ls r h) ∧ (¬ (x ≥ y) → wpb M K KR is (pc + 3) ls r h)) := rfl
theorem w_if_icmp_gt {off : Int} : wpb M K KR ((.if_icmp .gt off, a, b, t) :: is) pc ls sk h = (pI sk fun y r => pI r fun x r => (x > y → K a ls r h) ∧ (¬ (x > y) → wpb M K KR is (pc + 3) ls r h)) := rfl
theorem w_if_icmp_le {off : Int} : wpb M K KR ((.if_icmp .le off, a, b, t) :: is) pc ls sk h = (pI sk fun y r => pI r fun x r => (x ≤ y → K a ls r h) ∧ (¬ (x ≤ y) → wpb M K KR is (pc + 3) ls r h)) := rfl
theorem w_goto {off : Int} : wpb M K KR ((.goto off, a, b, t) :: is) pc ls sk h = (K a ls sk h) := rfl
theorem w_ireturn  : wpb M K KR ((.ireturn, a, b, t) :: is) pc ls sk h = (pI sk fun x r => r = [] ∧ (mR M = some .boolean → x = 0 ∨ x = 1) ∧ KR (some (.int x)) h) := rfl
theorem w_return_  : wpb M K KR ((.return_, a, b, t) :: is) pc ls sk h = (sk = [] ∧ KR none h) := rfl
theorem w_lreturn  : wpb M K KR ((.lreturn, a, b, t) :: is) pc ls sk h = (pL sk fun x r => r = [] ∧ KR (some (.long x)) h) := rfl
theorem w_freturn  : wpb M K KR ((.freturn, a, b, t) :: is) pc ls sk h = (pF sk fun x r => r = [] ∧ KR (some (.float x)) h) := rfl
theorem w_dreturn  : wpb M K KR ((.dreturn, a, b, t) :: is) pc ls sk h = (pD sk fun x r => r = [] ∧ KR (some (.double x)) h) := rfl
end GWL
theorem fin2_4 : ((2 : Fin 4) : Nat) = 2 := rfl
theorem fin3_4 : ((3 : Fin 4) : Nat) = 3 := rfl
theorem fin0_4 : ((0 : Fin 4) : Nat) = 0 := rfl
theorem fin1_4 : ((1 : Fin 4) : Nat) = 1 := rfl
theorem gSet1_0 {a : Option Value} {r : List (Option Value)} {v : Value} : gSet1 (a :: r) 0 v = some v :: r := rfl
theorem gSet1_1 {a : Option Value} {r : List (Option Value)} {v : Value} : gSet1 (a :: r) 1 v = gW1 a :: gSet1 r 0 v := rfl
theorem gSet1_2 {a : Option Value} {r : List (Option Value)} {v : Value} {n : Nat} : gSet1 (a :: r) (n + 2) v = a :: gSet1 r (n + 1) v := rfl
theorem gSet2_0 {a b : Option Value} {r : List (Option Value)} {v : Value} : gSet2 (a :: b :: r) 0 v = some v :: none :: r := rfl
theorem gSet2_1 {a b : Option Value} {r : List (Option Value)} {v : Value} : gSet2 (a :: b :: r) 1 v = gW1 a :: gSet2 (b :: r) 0 v := rfl
theorem gSet2_2 {a b : Option Value} {r : List (Option Value)} {v : Value} {n : Nat} : gSet2 (a :: b :: r) (n + 2) v = a :: gSet2 (b :: r) (n + 1) v := rfl
theorem gW1_i {x : Int32} : gW1 (some (.int x)) = some (.int x) := rfl
theorem gW1_r {x : Nat} : gW1 (some (.ref x)) = some (.ref x) := rfl
theorem gW1_u : gW1 (some .null) = some .null := rfl
theorem gW1_l {x : Int64} : gW1 (some (.long x)) = none := rfl
theorem gW1_d {x : UInt64} : gW1 (some (.double x)) = none := rfl
theorem gW1_0 : gW1 none = none := rfl
