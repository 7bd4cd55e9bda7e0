/-! THE BLOCK READER: what a run of instructions asks, read off their list; its soundness over the rows -/
def pI (sk : List Value) (k : Int32 → List Value → Prop) : Prop := match sk with
  | .int x :: r => k x r
  | _ => False
def pL (sk : List Value) (k : Int64 → List Value → Prop) : Prop := match sk with
  | .long x :: r => k x r
  | _ => False
def pF (sk : List Value) (k : UInt32 → List Value → Prop) : Prop := match sk with
  | .float x :: r => k x r
  | _ => False
def pD (sk : List Value) (k : UInt64 → List Value → Prop) : Prop := match sk with
  | .double x :: r => k x r
  | _ => False
def pR (sk : List Value) (k : Nat → List Value → Prop) : Prop := match sk with
  | .ref x :: r => k x r
  | _ => False
/-- a reference or null -/
def pN (sk : List Value) (k : Value → List Value → Prop) : Prop := match sk with
  | .ref x :: r => k (.ref x) r
  | .null :: r => k .null r
  | _ => False
/-- a value of one word -/
def p1 (sk : List Value) (k : Value → List Value → Prop) : Prop := match sk with
  | .ref x :: r => k (.ref x) r
  | .int x :: r => k (.int x) r
  | .null :: r => k .null r
  | _ => False
def lI (o : Option (Option Value)) (k : Int32 → Prop) : Prop := match o with
  | some (some (.int x)) => k x
  | _ => False
def lL (o : Option (Option Value)) (k : Int64 → Prop) : Prop := match o with
  | some (some (.long x)) => k x
  | _ => False
def lD (o : Option (Option Value)) (k : UInt64 → Prop) : Prop := match o with
  | some (some (.double x)) => k x
  | _ => False
def lR (o : Option (Option Value)) (k : Nat → Prop) : Prop := match o with
  | some (some (.ref x)) => k x
  | _ => False
def cO (o : Option (Option gC)) (ci : Nat) (k : List Value → Prop) : Prop := match o with
  | some (some (.inl x)) => x.1 = ci ∧ k x.2
  | _ => False
def cI (o : Option (Option gC)) (kd : Nat) (k : List Int32 → Prop) : Prop := match o with
  | some (some (.inr (.inl x))) => x.1 = kd ∧ k x.2
  | _ => False
def cQ (o : Option (Option gC)) (k : List (Option Nat) → Prop) : Prop := match o with
  | some (some (.inr (.inr (.inl x)))) => k x
  | _ => False
def cL (o : Option (Option gC)) (k : List (Option Nat) → Prop) : Prop := match o with
  | some (some (.inr (.inr (.inr x)))) => k x
  | _ => False
def oV (o : Option Value) (k : Value → Prop) : Prop := match o with
  | some v => k v
  | none => False
def gCIv (b : Nat) : Int32 := (gCI.getD b ("", 0, 0)).2.2
def gCLv (b : Nat) : Int64 := (gCL.getD b ("", 0, 0)).2.2
def gCs : List Value → Nat
  | [] => 0
  | v :: r => v.category + gCs r
theorem gCs_eq (l : List Value) : (l.map fun v => v.category).sum = gCs l := by
  induction l with
  | nil => rfl
  | cons v r ih => rw [List.map_cons, List.sum_cons, ih]; rfl
theorem pI_c {x : Int32} {r : List Value} {k : Int32 → List Value → Prop} : pI (.int x :: r) k = k x r := rfl
theorem pI_i {sk : List Value} {k : Int32 → List Value → Prop} (h : pI sk k) : ∃ x r, sk = .int x :: r ∧ k x r := by
  unfold pI at h
  split at h
  · exact ⟨_, _, rfl, h⟩
  · exact h.elim
theorem pL_c {x : Int64} {r : List Value} {k : Int64 → List Value → Prop} : pL (.long x :: r) k = k x r := rfl
theorem pL_i {sk : List Value} {k : Int64 → List Value → Prop} (h : pL sk k) : ∃ x r, sk = .long x :: r ∧ k x r := by
  unfold pL at h
  split at h
  · exact ⟨_, _, rfl, h⟩
  · exact h.elim
theorem pF_c {x : UInt32} {r : List Value} {k : UInt32 → List Value → Prop} : pF (.float x :: r) k = k x r := rfl
theorem pF_i {sk : List Value} {k : UInt32 → List Value → Prop} (h : pF sk k) : ∃ x r, sk = .float x :: r ∧ k x r := by
  unfold pF at h
  split at h
  · exact ⟨_, _, rfl, h⟩
  · exact h.elim
theorem pD_c {x : UInt64} {r : List Value} {k : UInt64 → List Value → Prop} : pD (.double x :: r) k = k x r := rfl
theorem pD_i {sk : List Value} {k : UInt64 → List Value → Prop} (h : pD sk k) : ∃ x r, sk = .double x :: r ∧ k x r := by
  unfold pD at h
  split at h
  · exact ⟨_, _, rfl, h⟩
  · exact h.elim
theorem pR_c {x : Nat} {r : List Value} {k : Nat → List Value → Prop} : pR (.ref x :: r) k = k x r := rfl
theorem pR_i {sk : List Value} {k : Nat → List Value → Prop} (h : pR sk k) : ∃ x r, sk = .ref x :: r ∧ k x r := by
  unfold pR at h
  split at h
  · exact ⟨_, _, rfl, h⟩
  · exact h.elim
theorem lI_c {x : Int32} {k : Int32 → Prop} : lI (some (some (.int x))) k = k x := rfl
theorem lI_i {o : Option (Option Value)} {k : Int32 → Prop} (h : lI o k) : ∃ x, o = some (some (.int x)) ∧ k x := by
  unfold lI at h
  split at h
  · exact ⟨_, rfl, h⟩
  · exact h.elim
theorem lL_c {x : Int64} {k : Int64 → Prop} : lL (some (some (.long x))) k = k x := rfl
theorem lL_i {o : Option (Option Value)} {k : Int64 → Prop} (h : lL o k) : ∃ x, o = some (some (.long x)) ∧ k x := by
  unfold lL at h
  split at h
  · exact ⟨_, rfl, h⟩
  · exact h.elim
theorem lD_c {x : UInt64} {k : UInt64 → Prop} : lD (some (some (.double x))) k = k x := rfl
theorem lD_i {o : Option (Option Value)} {k : UInt64 → Prop} (h : lD o k) : ∃ x, o = some (some (.double x)) ∧ k x := by
  unfold lD at h
  split at h
  · exact ⟨_, rfl, h⟩
  · exact h.elim
theorem lR_c {x : Nat} {k : Nat → Prop} : lR (some (some (.ref x))) k = k x := rfl
theorem lR_i {o : Option (Option Value)} {k : Nat → Prop} (h : lR o k) : ∃ x, o = some (some (.ref x)) ∧ k x := by
  unfold lR at h
  split at h
  · exact ⟨_, rfl, h⟩
  · exact h.elim
theorem pN_r {x : Nat} {r : List Value} {k : Value → List Value → Prop} : pN (.ref x :: r) k = k (.ref x) r := rfl
theorem pN_n {r : List Value} {k : Value → List Value → Prop} : pN (.null :: r) k = k .null r := rfl
theorem p1_r {x : Nat} {r : List Value} {k : Value → List Value → Prop} : p1 (.ref x :: r) k = k (.ref x) r := rfl
theorem p1_i {x : Int32} {r : List Value} {k : Value → List Value → Prop} : p1 (.int x :: r) k = k (.int x) r := rfl
theorem p1_n {r : List Value} {k : Value → List Value → Prop} : p1 (.null :: r) k = k .null r := rfl
theorem pN_i {sk : List Value} {k : Value → List Value → Prop} (h : pN sk k) : ∃ v r, sk = v :: r ∧ (v = .null ∨ ∃ a, v = .ref a) ∧ k v r := by
  unfold pN at h
  split at h
  · exact ⟨_, _, rfl, Or.inr ⟨_, rfl⟩, h⟩
  · exact ⟨_, _, rfl, Or.inl rfl, h⟩
  · exact h.elim
theorem p1_v {sk : List Value} {k : Value → List Value → Prop} (h : p1 sk k) : ∃ v r, sk = v :: r ∧ v.category = 1 ∧ k v r := by
  unfold p1 at h
  split at h
  · exact ⟨_, _, rfl, rfl, h⟩
  · exact ⟨_, _, rfl, rfl, h⟩
  · exact ⟨_, _, rfl, rfl, h⟩
  · exact h.elim
theorem cO_c {ci cj : Nat} {fs : List Value} {k : List Value → Prop} : cO (some (some (.inl (cj, fs)))) ci k = (cj = ci ∧ k fs) := rfl
theorem cI_c {ci cj : Nat} {fs : List Int32} {k : List Int32 → Prop} : cI (some (some (.inr (.inl (cj, fs))))) ci k = (cj = ci ∧ k fs) := rfl
theorem cQ_c {fs : List (Option Nat)} {k : List (Option Nat) → Prop} : cQ (some (some (.inr (.inr (.inl fs))))) k = k fs := rfl
theorem cL_c {fs : List (Option Nat)} {k : List (Option Nat) → Prop} : cL (some (some (.inr (.inr (.inr fs))))) k = k fs := rfl
theorem oV_c {v : Value} {k : Value → Prop} : oV (some v) k = k v := rfl
theorem cO_i {o : Option (Option gC)} {ci : Nat} {k : List Value → Prop} (h : cO o ci k) : ∃ fs, o = some (some (.inl (ci, fs))) ∧ k fs := by
  unfold cO at h
  split at h
  · rename_i x
    obtain ⟨x1, x2⟩ := x
    obtain ⟨h1, h2⟩ := h
    cases h1
    exact ⟨_, rfl, h2⟩
  · exact h.elim
theorem cI_i {o : Option (Option gC)} {ci : Nat} {k : List Int32 → Prop} (h : cI o ci k) : ∃ fs, o = some (some (.inr (.inl (ci, fs)))) ∧ k fs := by
  unfold cI at h
  split at h
  · rename_i x
    obtain ⟨x1, x2⟩ := x
    obtain ⟨h1, h2⟩ := h
    cases h1
    exact ⟨_, rfl, h2⟩
  · exact h.elim
theorem cQ_i {o : Option (Option gC)} {k : List (Option Nat) → Prop} (h : cQ o k) : ∃ fs, o = some (some (.inr (.inr (.inl fs)))) ∧ k fs := by
  unfold cQ at h
  split at h
  · exact ⟨_, rfl, h⟩
  · exact h.elim
theorem cL_i {o : Option (Option gC)} {k : List (Option Nat) → Prop} (h : cL o k) : ∃ fs, o = some (some (.inr (.inr (.inr fs)))) ∧ k fs := by
  unfold cL at h
  split at h
  · exact ⟨_, rfl, h⟩
  · exact h.elim
theorem oV_i {o : Option Value} {k : Value → Prop} (h : oV o k) : ∃ v, o = some v ∧ k v := by
  unfold oV at h
  split at h
  · exact ⟨_, rfl, h⟩
  · exact h.elim
/-- the type of a field that is written: 0 int, 1 long, else a reference -/
def gTy (ci k t : Nat) : Bool := match vwCl[ci]? with
  | some r => match parseFieldDescriptor (r.2.1 k).2.2.1 with
    | some .int => t == 0
    | some .long => t == 1
    | some (.array _) => t == 2
    | some (.object _) => t == 2
    | _ => false
  | none => false
def gFi (M : gM) (ci k : Nat) : Bool := match vwCl[ci]? with
  | some r => !(r.2.1 k).2.2.2 || (decide ((mY M).name = "<init>") && decide ((mY M).cls = (r.2.1 k).1))
  | none => false
theorem gFi_s {M : gM} {ci k : Nat} (h : gFi M ci k = true) : ∀ r, vwCl[ci]? = some r → (r.2.1 k).2.2.2 = true → (mY M).name = "<init>" ∧ (mY M).cls = (r.2.1 k).1 := by
  intro r hr hb
  unfold gFi at h
  rw [hr] at h
  simp only [hb, Bool.not_true, Bool.false_or, Bool.and_eq_true, decide_eq_true_eq] at h
  exact h
theorem gTy_i {ci k : Nat} (h : gTy ci k 0 = true) (x : Int32) : gFit ci k (.int x) := by
  unfold gTy at h
  split at h
  · rename_i r hr
    split at h
    · rename_i hp; exact ⟨r, .int, hr, hp, rfl, rfl, fun _ => ⟨rfl, rfl⟩⟩
    all_goals cases h
  · cases h
theorem gTy_l {ci k : Nat} (h : gTy ci k 1 = true) (x : Int64) : gFit ci k (.long x) := by
  unfold gTy at h
  split at h
  · rename_i r hr
    split at h
    · cases h
    · rename_i hp; exact ⟨r, .long, hr, hp, rfl, rfl, fun _ => ⟨rfl, rfl⟩⟩
    all_goals cases h
  · cases h
theorem gTy_r {ci k : Nat} (h : gTy ci k 2 = true) {v : Value} (hv : v = .null ∨ ∃ a, v = .ref a) : gFit ci k v := by
  unfold gTy at h
  split at h
  · rename_i r hr
    split at h
    · cases h
    · cases h
    · rename_i t hp; rcases hv with rfl | ⟨a, rfl⟩ <;> exact ⟨r, _, hr, hp, rfl, rfl, fun _ => ⟨rfl, rfl⟩⟩
    · rename_i t hp; rcases hv with rfl | ⟨a, rfl⟩ <;> exact ⟨r, _, hr, hp, rfl, rfl, fun _ => ⟨rfl, rfl⟩⟩
    · cases h
  · cases h
def gLen : Instr → Nat
  | .bipush _ => 2
  | .sipush _ => 3
  | .iload _ => 2
  | .lload _ => 2
  | .aload _ => 2
  | .dload _ => 2
  | .istore _ => 2
  | .lstore _ => 2
  | .astore _ => 2
  | .dstore _ => 2
  | .iinc _ _ => 3
  | .getfield _ => 3
  | .putfield _ => 3
  | .ldc _ => 2
  | .ldc_w _ => 3
  | .ldc2_w _ => 3
  | .ifCond _ _ => 3
  | .if_icmp _ _ => 3
  | .goto _ => 3
  | .multianewarray _ _ => 4
  | .checkcast _ => 3
  | .getstatic _ => 3
  | .invokevirtual _ => 3
  | .invokespecial _ => 3
  | .invokestatic _ => 3
  | .new _ => 3
  | .newarray _ => 2
  | .anewarray _ => 3
  | .ifnonnull _ => 3
  | _ => 1
def gOk (M : gM) (pc : Nat) : gI → Bool
  | (.bipush z, _, _, _) => decide ((Int8.ofInt z).toInt32 = Int32.ofInt z)
  | (.sipush z, _, _, _) => decide ((Int16.ofInt z).toInt32 = Int32.ofInt z)
  | (.fconst z, _, _, _) => decide (z = 0)
  | (.dconst z, _, _, _) => decide (z = 0)
  | (.istore_n i, _, _, _) => decide ((i : Nat) < mN M)
  | (.istore i, _, _, _) => decide ((i : Nat) < mN M)
  | (.lstore_n i, _, _, _) => decide ((i : Nat) + 1 < mN M)
  | (.lstore i, _, _, _) => decide ((i : Nat) + 1 < mN M)
  | (.astore_n i, _, _, _) => decide ((i : Nat) < mN M)
  | (.astore i, _, _, _) => decide ((i : Nat) < mN M)
  | (.dstore i, _, _, _) => decide ((i : Nat) + 1 < mN M)
  | (.iinc i z, _, _, _) => decide ((i : Nat) < mN M)
  | (.getfield idx, a, b, _) => decide ((idx, a, b) ∈ gFlds M.1)
  | (.putfield idx, a, b, t) => decide ((idx, a, b) ∈ gFlds M.1) && gTy a b t && gFi M a b
  | (.ldc idx, a, b, _) => match a with
    | 0 => decide (gCI[b]? = some ((mY M).cls, idx, gCIv b))
    | _ => decide ((gStr[b]?).map (fun t => (t.1, t.2.1)) = some ((mY M).cls, idx))
  | (.ldc_w idx, _, b, _) => decide (gCI[b]? = some ((mY M).cls, idx, gCIv b))
  | (.ldc2_w idx, _, b, _) => decide (gCL[b]? = some ((mY M).cls, idx, gCLv b))
  | (.ifCond cd off, a, _, _) => decide ((pc : Int) + off = (a : Int))
  | (.if_icmp cd off, a, _, _) => decide ((pc : Int) + off = (a : Int))
  | (.goto off, a, _, _) => decide ((pc : Int) + off = (a : Int))
  | (.ireturn, _, _, _) => decide (mR M = some .int) || decide (mR M = some .boolean)
  | (.areturn, _, _, _) => gRr (mR M)
  | (.return_, _, _, _) => decide (mR M = none)
  | (.lreturn, _, _, _) => decide (mR M = some .long)
  | (.freturn, _, _, _) => decide (mR M = some .float)
  | (.dreturn, _, _, _) => decide (mR M = some .double)
  | _ => true
def gAt (M : gM) : Nat → List gI → Bool
  | _, [] => true
  | pc, i :: is => decide (decode (mC M) pc = .ok (i.1, gLen i.1)) && gOk M pc i && gAt M (pc + gLen i.1) is
def wpb (M : gM) (K : Nat → List (Option Value) → List Value → gH → Prop) (KR : Option Value → gH → Prop) : List gI → Nat → List (Option Value) → List Value → gH → Prop
  | [], pc, ls, sk, h => K pc ls sk h
  | (i, a, b, t) :: is, pc, ls, sk, h => match i with
  | .iadd => pI sk fun y r => pI r fun x r => wpb M K KR is (pc + 1) ls (.int (x + y) :: r) h
  | .isub => pI sk fun y r => pI r fun x r => wpb M K KR is (pc + 1) ls (.int (x - y) :: r) h
  | .imul => pI sk fun y r => pI r fun x r => wpb M K KR is (pc + 1) ls (.int (x * y) :: r) h
  | .iand => pI sk fun y r => pI r fun x r => wpb M K KR is (pc + 1) ls (.int (x &&& y) :: r) h
  | .ior => pI sk fun y r => pI r fun x r => wpb M K KR is (pc + 1) ls (.int (x ||| y) :: r) h
  | .ishl => pI sk fun y r => pI r fun x r => wpb M K KR is (pc + 1) ls (.int (x <<< (y &&& 31)) :: r) h
  | .ishr => pI sk fun y r => pI r fun x r => wpb M K KR is (pc + 1) ls (.int (x >>> (y &&& 31)) :: r) h
  | .idiv => pI sk fun y r => pI r fun x r => ¬ y = 0 ∧ wpb M K KR is (pc + 1) ls (.int (x / y) :: r) h
  | .irem => pI sk fun y r => pI r fun x r => ¬ y = 0 ∧ wpb M K KR is (pc + 1) ls (.int (x - x / y * y) :: r) h
  | .ladd => pL sk fun y r => pL r fun x r => wpb M K KR is (pc + 1) ls (.long (x + y) :: r) h
  | .lsub => pL sk fun y r => pL r fun x r => wpb M K KR is (pc + 1) ls (.long (x - y) :: r) h
  | .lmul => pL sk fun y r => pL r fun x r => wpb M K KR is (pc + 1) ls (.long (x * y) :: r) h
  | .lcmp => pL sk fun y r => pL r fun x r => wpb M K KR is (pc + 1) ls (.int (lg_cmp x y) :: r) h
  | .fdiv => pF sk fun y r => pF r fun x r => vf_n32 (FP.fdiv x y) ∧ wpb M K KR is (pc + 1) ls (.float (FP.fdiv x y) :: r) h
  | .ddiv => pD sk fun y r => pD r fun x r => vf_n64 (FP.ddiv x y) ∧ wpb M K KR is (pc + 1) ls (.double (FP.ddiv x y) :: r) h
  | .ineg => pI sk fun x r => wpb M K KR is (pc + 1) ls (.int (-x) :: r) h
  | .i2l => pI sk fun x r => wpb M K KR is (pc + 1) ls (.long x.toInt64 :: r) h
  | .l2i => pL sk fun x r => wpb M K KR is (pc + 1) ls (.int x.toInt32 :: r) h
  | .i2b => pI sk fun x r => wpb M K KR is (pc + 1) ls (.int x.toInt8.toInt32 :: r) h
  | .i2c => pI sk fun x r => wpb M K KR is (pc + 1) ls (.int (x.toUInt32 % 65536).toInt32 :: r) h
  | .i2f => pI sk fun x r => wpb M K KR is (pc + 1) ls (.float (FP.i2f x) :: r) h
  | .i2d => pI sk fun x r => wpb M K KR is (pc + 1) ls (.double (FP.i2d x) :: r) h
  | .l2d => pL sk fun x r => wpb M K KR is (pc + 1) ls (.double (FP.l2d x) :: r) h
  | .f2d => pF sk fun x r => vf_n64 (FP.f2d x) ∧ wpb M K KR is (pc + 1) ls (.double (FP.f2d x) :: r) h
  | .dcmp op => pD sk fun y r => pD r fun x r => wpb M K KR is (pc + 1) ls (.int (Op.cmpValue (FP.dcmp x y) op) :: r) h
  | .iconst z => wpb M K KR is (pc + 1) ls (.int (Int32.ofInt z) :: sk) h
  | .bipush z => wpb M K KR is (pc + 2) ls (.int (Int32.ofInt z) :: sk) h
  | .sipush z => wpb M K KR is (pc + 3) ls (.int (Int32.ofInt z) :: sk) h
  | .lconst z => wpb M K KR is (pc + 1) ls (.long (Int64.ofNat (z : Nat)) :: sk) h
  | .fconst z => wpb M K KR is (pc + 1) ls (.float FP.fconst0 :: sk) h
  | .dconst z => wpb M K KR is (pc + 1) ls (.double FP.dconst0 :: sk) h
  | .iload_n i => lI ls[(i : Nat)]? fun x => wpb M K KR is (pc + 1) ls (.int x :: sk) h
  | .iload i => lI ls[i]? fun x => wpb M K KR is (pc + 2) ls (.int x :: sk) h
  | .lload_n i => lL ls[(i : Nat)]? fun x => wpb M K KR is (pc + 1) ls (.long x :: sk) h
  | .lload i => lL ls[i]? fun x => wpb M K KR is (pc + 2) ls (.long x :: sk) h
  | .aload_n i => lR ls[(i : Nat)]? fun x => wpb M K KR is (pc + 1) ls (.ref x :: sk) h
  | .aload i => lR ls[i]? fun x => wpb M K KR is (pc + 2) ls (.ref x :: sk) h
  | .dload i => lD ls[i]? fun x => wpb M K KR is (pc + 2) ls (.double x :: sk) h
  | .istore_n i => pI sk fun x r => wpb M K KR is (pc + 1) (gSet1 ls i (.int x)) r h
  | .istore i => pI sk fun x r => wpb M K KR is (pc + 2) (gSet1 ls i (.int x)) r h
  | .lstore_n i => pL sk fun x r => wpb M K KR is (pc + 1) (gSet2 ls i (.long x)) r h
  | .lstore i => pL sk fun x r => wpb M K KR is (pc + 2) (gSet2 ls i (.long x)) r h
  | .astore_n i => pR sk fun x r => wpb M K KR is (pc + 1) (gSet1 ls i (.ref x)) r h
  | .astore i => pR sk fun x r => wpb M K KR is (pc + 2) (gSet1 ls i (.ref x)) r h
  | .dstore i => pD sk fun x r => wpb M K KR is (pc + 2) (gSet2 ls i (.double x)) r h
  | .iinc i z => lI ls[i]? fun x => wpb M K KR is (pc + 3) (gSet1 ls i (.int (x + Int32.ofInt z))) sk h
  | .dup => p1 sk fun v r => wpb M K KR is (pc + 1) ls (v :: v :: r) h
  | .pop => p1 sk fun v r => wpb M K KR is (pc + 1) ls r h
  | .dup2 => p1 sk fun v r => p1 r fun u r => wpb M K KR is (pc + 1) ls (v :: u :: v :: u :: r) h
  | .getfield idx => pR sk fun p r => cO h[p]? a fun fs => oV fs[b]? fun v => wpb M K KR is (pc + 3) ls (v :: r) h
  | .putfield idx => match t with
    | 0 => pI sk fun x r => pR r fun p r => cO h[p]? a fun fs => b < fs.length ∧ wpb M K KR is (pc + 3) ls r (h.set p (some (.inl (a, fs.set b (.int x)))))
    | 1 => pL sk fun x r => pR r fun p r => cO h[p]? a fun fs => b < fs.length ∧ wpb M K KR is (pc + 3) ls r (h.set p (some (.inl (a, fs.set b (.long x)))))
    | _ => pN sk fun v r => pR r fun p r => cO h[p]? a fun fs => b < fs.length ∧ wpb M K KR is (pc + 3) ls r (h.set p (some (.inl (a, fs.set b v))))
  | .iaload => pI sk fun i r => pR r fun p r => cI h[p]? 0 fun l => vp_in i l.length ∧ wpb M K KR is (pc + 1) ls (.int (l.getD i.toNatClampNeg 0) :: r) h
  | .baload => pI sk fun i r => pR r fun p r => cI h[p]? 1 fun l => vp_in i l.length ∧ wpb M K KR is (pc + 1) ls (.int (l.getD i.toNatClampNeg 0) :: r) h
  | .aaload => match a with
    | 0 => pI sk fun i r => pR r fun p r => cQ h[p]? fun l => vp_in i l.length ∧ wpb M K KR is (pc + 1) ls (gRf (l.getD i.toNatClampNeg none) :: r) h
    | _ => pI sk fun i r => pR r fun p r => cL h[p]? fun l => vp_in i l.length ∧ wpb M K KR is (pc + 1) ls (gRf (l.getD i.toNatClampNeg none) :: r) h
  | .iastore => pI sk fun x r => pI r fun i r => pR r fun p r => cI h[p]? 0 fun l => vp_in i l.length ∧ wpb M K KR is (pc + 1) ls r (h.set p (some (.inr (.inl (0, l.set i.toNatClampNeg x)))))
  | .bastore => pI sk fun x r => pI r fun i r => pR r fun p r => cI h[p]? 1 fun l => vp_in i l.length ∧ wpb M K KR is (pc + 1) ls r (h.set p (some (.inr (.inl (1, l.set i.toNatClampNeg x.toInt8.toInt32)))))
  | .aastore => pR sk fun v r => pI r fun i r => pR r fun p r => cQ h[p]? fun l => cO h[v]? 3 fun _ => vp_in i l.length ∧ wpb M K KR is (pc + 1) ls r (h.set p (some (.inr (.inr (.inl (l.set i.toNatClampNeg (some v)))))))
  | .ldc idx => match a with
    | 0 => wpb M K KR is (pc + 2) ls (.int (gCIv b) :: sk) h
    | _ => wpb M K KR is (pc + 2) ls (.ref (1000 + b) :: sk) h
  | .ldc_w idx => wpb M K KR is (pc + 3) ls (.int (gCIv b) :: sk) h
  | .ldc2_w idx => wpb M K KR is (pc + 3) ls (.long (gCLv b) :: sk) h
  | .ifCond cd off => match cd with
    | .eq => pI sk fun x r => (x = 0 → K a ls r h) ∧ (¬ (x = 0) → wpb M K KR is (pc + 3) ls r h)
    | .ne => pI sk fun x r => (¬ x = 0 → K a ls r h) ∧ (x = 0 → wpb M K KR is (pc + 3) ls r h)
    | .lt => pI sk fun x r => (x < 0 → K a ls r h) ∧ (¬ (x < 0) → wpb M K KR is (pc + 3) ls r h)
    | .ge => pI sk fun x r => (x ≥ 0 → K a ls r h) ∧ (¬ (x ≥ 0) → wpb M K KR is (pc + 3) ls r h)
    | .gt => pI sk fun x r => (x > 0 → K a ls r h) ∧ (¬ (x > 0) → wpb M K KR is (pc + 3) ls r h)
    | .le => pI sk fun x r => (x ≤ 0 → K a ls r h) ∧ (¬ (x ≤ 0) → wpb M K KR is (pc + 3) ls r h)
  | .if_icmp cd off => match cd with
    | .eq => pI sk fun y r => pI r fun x r => (x = y → K a ls r h) ∧ (¬ (x = y) → wpb M K KR is (pc + 3) ls r h)
    | .ne => pI sk fun y r => pI r fun x r => (¬ x = y → K a ls r h) ∧ (x = y → wpb M K KR is (pc + 3) ls r h)
    | .lt => pI sk fun y r => pI r fun x r => (x < y → K a ls r h) ∧ (¬ (x < y) → wpb M K KR is (pc + 3) ls r h)
    | .ge => pI sk fun y r => pI r fun x r => (x ≥ y → K a ls r h) ∧ (¬ (x ≥ y) → wpb M K KR is (pc + 3) ls r h)
    | .gt => pI sk fun y r => pI r fun x r => (x > y → K a ls r h) ∧ (¬ (x > y) → wpb M K KR is (pc + 3) ls r h)
    | .le => pI sk fun y r => pI r fun x r => (x ≤ y → K a ls r h) ∧ (¬ (x ≤ y) → wpb M K KR is (pc + 3) ls r h)
  | .goto off => K a ls sk h
  | .ireturn => pI sk fun x r => r = [] ∧ (mR M = some .boolean → x = 0 ∨ x = 1) ∧ KR (some (.int x)) h
  | .areturn => pR sk fun x r => r = [] ∧ x < h.length ∧ KR (some (.ref x)) h
  | .return_ => sk = [] ∧ KR none h
  | .lreturn => pL sk fun x r => r = [] ∧ KR (some (.long x)) h
  | .freturn => pF sk fun x r => r = [] ∧ KR (some (.float x)) h
  | .dreturn => pD sk fun x r => r = [] ∧ KR (some (.double x)) h
  | _ => K pc ls sk h
section GWPB
variable {M : gM} {d mc ms : Nat} {h0 : gH} {Q : Option Value → gH → Prop} {QX : String → gH → Prop} {c n : Nat}
set_option maxHeartbeats 4000000 in
theorem wpb_k (K : Nat → List (Option Value) → List Value → gH → Prop) (hK : ∀ pc ls sk h, K pc ls sk h → G M d mc ms h0 Q QX c n pc ls sk h) (ho : gOwn M.1 = (mY M).cls) (hc : c ≤ mc) (hn : n ≤ ms) : ∀ (is : List gI) (pc : Nat) (ls : List (Option Value)) (sk : List Value) (h : gH), gAt M pc is = true →
    wpb M K Q is pc ls sk h → G M d mc ms h0 Q QX c n pc ls sk h := by
  intro is
  induction is with
  | nil => intro pc ls sk h _ hw; exact hK _ _ _ _ hw
  | cons i is ih =>
    intro pc ls sk h hg hw
    obtain ⟨i, a, b, t⟩ := i
    simp only [gAt, Bool.and_eq_true] at hg
    obtain ⟨⟨hd0, hk⟩, hg⟩ := hg
    have hd := of_decide_eq_true hd0
    clear hd0
    cases i
    case iadd =>
      have w0 : pI sk fun y r => pI r fun x r => wpb M K Q is (pc + 1) ls (.int (x + y) :: r) h := hw
      clear hw
      obtain ⟨y, r, rfl, w1⟩ := pI_i w0; obtain ⟨x, r, rfl, w2⟩ := pI_i w1; exact g_iadd hd (ih _ _ _ _ hg w2)
    case isub =>
      have w0 : pI sk fun y r => pI r fun x r => wpb M K Q is (pc + 1) ls (.int (x - y) :: r) h := hw
      clear hw
      obtain ⟨y, r, rfl, w1⟩ := pI_i w0; obtain ⟨x, r, rfl, w2⟩ := pI_i w1; exact g_isub hd (ih _ _ _ _ hg w2)
    case imul =>
      have w0 : pI sk fun y r => pI r fun x r => wpb M K Q is (pc + 1) ls (.int (x * y) :: r) h := hw
      clear hw
      obtain ⟨y, r, rfl, w1⟩ := pI_i w0; obtain ⟨x, r, rfl, w2⟩ := pI_i w1; exact g_imul hd (ih _ _ _ _ hg w2)
    case iand =>
      have w0 : pI sk fun y r => pI r fun x r => wpb M K Q is (pc + 1) ls (.int (x &&& y) :: r) h := hw
      clear hw
      obtain ⟨y, r, rfl, w1⟩ := pI_i w0; obtain ⟨x, r, rfl, w2⟩ := pI_i w1; exact g_iand hd (ih _ _ _ _ hg w2)
    case ior =>
      have w0 : pI sk fun y r => pI r fun x r => wpb M K Q is (pc + 1) ls (.int (x ||| y) :: r) h := hw
      clear hw
      obtain ⟨y, r, rfl, w1⟩ := pI_i w0; obtain ⟨x, r, rfl, w2⟩ := pI_i w1; exact g_ior hd (ih _ _ _ _ hg w2)
    case ishl =>
      have w0 : pI sk fun y r => pI r fun x r => wpb M K Q is (pc + 1) ls (.int (x <<< (y &&& 31)) :: r) h := hw
      clear hw
      obtain ⟨y, r, rfl, w1⟩ := pI_i w0; obtain ⟨x, r, rfl, w2⟩ := pI_i w1; exact g_ishl hd (ih _ _ _ _ hg w2)
    case ishr =>
      have w0 : pI sk fun y r => pI r fun x r => wpb M K Q is (pc + 1) ls (.int (x >>> (y &&& 31)) :: r) h := hw
      clear hw
      obtain ⟨y, r, rfl, w1⟩ := pI_i w0; obtain ⟨x, r, rfl, w2⟩ := pI_i w1; exact g_ishr hd (ih _ _ _ _ hg w2)
    case idiv =>
      have w0 : pI sk fun y r => pI r fun x r => ¬ y = 0 ∧ wpb M K Q is (pc + 1) ls (.int (x / y) :: r) h := hw
      clear hw
      obtain ⟨y, r, rfl, w1⟩ := pI_i w0; obtain ⟨x, r, rfl, w2⟩ := pI_i w1; obtain ⟨hz, w3⟩ := w2; exact g_idiv hd hz (ih _ _ _ _ hg w3)
    case irem =>
      have w0 : pI sk fun y r => pI r fun x r => ¬ y = 0 ∧ wpb M K Q is (pc + 1) ls (.int (x - x / y * y) :: r) h := hw
      clear hw
      obtain ⟨y, r, rfl, w1⟩ := pI_i w0; obtain ⟨x, r, rfl, w2⟩ := pI_i w1; obtain ⟨hz, w3⟩ := w2; exact g_irem hd hz (ih _ _ _ _ hg w3)
    case ladd =>
      have w0 : pL sk fun y r => pL r fun x r => wpb M K Q is (pc + 1) ls (.long (x + y) :: r) h := hw
      clear hw
      obtain ⟨y, r, rfl, w1⟩ := pL_i w0; obtain ⟨x, r, rfl, w2⟩ := pL_i w1; exact g_ladd hd (ih _ _ _ _ hg w2)
    case lsub =>
      have w0 : pL sk fun y r => pL r fun x r => wpb M K Q is (pc + 1) ls (.long (x - y) :: r) h := hw
      clear hw
      obtain ⟨y, r, rfl, w1⟩ := pL_i w0; obtain ⟨x, r, rfl, w2⟩ := pL_i w1; exact g_lsub hd (ih _ _ _ _ hg w2)
    case lmul =>
      have w0 : pL sk fun y r => pL r fun x r => wpb M K Q is (pc + 1) ls (.long (x * y) :: r) h := hw
      clear hw
      obtain ⟨y, r, rfl, w1⟩ := pL_i w0; obtain ⟨x, r, rfl, w2⟩ := pL_i w1; exact g_lmul hd (ih _ _ _ _ hg w2)
    case lcmp =>
      have w0 : pL sk fun y r => pL r fun x r => wpb M K Q is (pc + 1) ls (.int (lg_cmp x y) :: r) h := hw
      clear hw
      obtain ⟨y, r, rfl, w1⟩ := pL_i w0; obtain ⟨x, r, rfl, w2⟩ := pL_i w1; exact g_lcmp hd (ih _ _ _ _ hg w2)
    case fdiv =>
      have w0 : pF sk fun y r => pF r fun x r => vf_n32 (FP.fdiv x y) ∧ wpb M K Q is (pc + 1) ls (.float (FP.fdiv x y) :: r) h := hw
      clear hw
      obtain ⟨y, r, rfl, w1⟩ := pF_i w0; obtain ⟨x, r, rfl, w2⟩ := pF_i w1; obtain ⟨hz, w3⟩ := w2; exact g_fdiv hd hz (ih _ _ _ _ hg w3)
    case ddiv =>
      have w0 : pD sk fun y r => pD r fun x r => vf_n64 (FP.ddiv x y) ∧ wpb M K Q is (pc + 1) ls (.double (FP.ddiv x y) :: r) h := hw
      clear hw
      obtain ⟨y, r, rfl, w1⟩ := pD_i w0; obtain ⟨x, r, rfl, w2⟩ := pD_i w1; obtain ⟨hz, w3⟩ := w2; exact g_ddiv hd hz (ih _ _ _ _ hg w3)
    case ineg =>
      have w0 : pI sk fun x r => wpb M K Q is (pc + 1) ls (.int (-x) :: r) h := hw
      clear hw
      obtain ⟨x, r, rfl, w1⟩ := pI_i w0; exact g_ineg hd (ih _ _ _ _ hg w1)
    case i2l =>
      have w0 : pI sk fun x r => wpb M K Q is (pc + 1) ls (.long x.toInt64 :: r) h := hw
      clear hw
      obtain ⟨x, r, rfl, w1⟩ := pI_i w0; exact g_i2l hd (ih _ _ _ _ hg w1)
    case l2i =>
      have w0 : pL sk fun x r => wpb M K Q is (pc + 1) ls (.int x.toInt32 :: r) h := hw
      clear hw
      obtain ⟨x, r, rfl, w1⟩ := pL_i w0; exact g_l2i hd (ih _ _ _ _ hg w1)
    case i2b =>
      have w0 : pI sk fun x r => wpb M K Q is (pc + 1) ls (.int x.toInt8.toInt32 :: r) h := hw
      clear hw
      obtain ⟨x, r, rfl, w1⟩ := pI_i w0; exact g_i2b hd (ih _ _ _ _ hg w1)
    case i2c =>
      have w0 : pI sk fun x r => wpb M K Q is (pc + 1) ls (.int (x.toUInt32 % 65536).toInt32 :: r) h := hw
      clear hw
      obtain ⟨x, r, rfl, w1⟩ := pI_i w0; exact g_i2c hd (ih _ _ _ _ hg w1)
    case i2f =>
      have w0 : pI sk fun x r => wpb M K Q is (pc + 1) ls (.float (FP.i2f x) :: r) h := hw
      clear hw
      obtain ⟨x, r, rfl, w1⟩ := pI_i w0; exact g_i2f hd (ih _ _ _ _ hg w1)
    case i2d =>
      have w0 : pI sk fun x r => wpb M K Q is (pc + 1) ls (.double (FP.i2d x) :: r) h := hw
      clear hw
      obtain ⟨x, r, rfl, w1⟩ := pI_i w0; exact g_i2d hd (ih _ _ _ _ hg w1)
    case l2d =>
      have w0 : pL sk fun x r => wpb M K Q is (pc + 1) ls (.double (FP.l2d x) :: r) h := hw
      clear hw
      obtain ⟨x, r, rfl, w1⟩ := pL_i w0; exact g_l2d hd (ih _ _ _ _ hg w1)
    case f2d =>
      have w0 : pF sk fun x r => vf_n64 (FP.f2d x) ∧ wpb M K Q is (pc + 1) ls (.double (FP.f2d x) :: r) h := hw
      clear hw
      obtain ⟨x, r, rfl, w1⟩ := pF_i w0; obtain ⟨hz, w2⟩ := w1; exact g_f2d hd hz (ih _ _ _ _ hg w2)
    case dcmp op =>
      have w0 : pD sk fun y r => pD r fun x r => wpb M K Q is (pc + 1) ls (.int (Op.cmpValue (FP.dcmp x y) op) :: r) h := hw
      clear hw
      obtain ⟨y, r, rfl, w1⟩ := pD_i w0; obtain ⟨x, r, rfl, w2⟩ := pD_i w1; exact g_dcmp hd (ih _ _ _ _ hg w2)
    case iconst z =>
      have w0 : wpb M K Q is (pc + 1) ls (.int (Int32.ofInt z) :: sk) h := hw
      clear hw
      exact g_iconst hd (ih _ _ _ _ hg w0)
    case bipush z =>
      have w0 : wpb M K Q is (pc + 2) ls (.int (Int32.ofInt z) :: sk) h := hw
      clear hw
      exact g_bipush hd (of_decide_eq_true hk) (ih _ _ _ _ hg w0)
    case sipush z =>
      have w0 : wpb M K Q is (pc + 3) ls (.int (Int32.ofInt z) :: sk) h := hw
      clear hw
      exact g_sipush hd (of_decide_eq_true hk) (ih _ _ _ _ hg w0)
    case lconst z =>
      have w0 : wpb M K Q is (pc + 1) ls (.long (Int64.ofNat (z : Nat)) :: sk) h := hw
      clear hw
      exact g_lconst hd (ih _ _ _ _ hg w0)
    case fconst z =>
      have w0 : wpb M K Q is (pc + 1) ls (.float FP.fconst0 :: sk) h := hw
      clear hw
      have hk := of_decide_eq_true hk; subst hk; exact g_fconst0 hd (ih _ _ _ _ hg w0)
    case dconst z =>
      have w0 : wpb M K Q is (pc + 1) ls (.double FP.dconst0 :: sk) h := hw
      clear hw
      have hk := of_decide_eq_true hk; subst hk; exact g_dconst0 hd (ih _ _ _ _ hg w0)
    case iload_n i =>
      have w0 : lI ls[(i : Nat)]? fun x => wpb M K Q is (pc + 1) ls (.int x :: sk) h := hw
      clear hw
      obtain ⟨x, hi, w1⟩ := lI_i w0; exact g_iload_n hd hi (ih _ _ _ _ hg w1)
    case iload i =>
      have w0 : lI ls[i]? fun x => wpb M K Q is (pc + 2) ls (.int x :: sk) h := hw
      clear hw
      obtain ⟨x, hi, w1⟩ := lI_i w0; exact g_iload hd hi (ih _ _ _ _ hg w1)
    case lload_n i =>
      have w0 : lL ls[(i : Nat)]? fun x => wpb M K Q is (pc + 1) ls (.long x :: sk) h := hw
      clear hw
      obtain ⟨x, hi, w1⟩ := lL_i w0; exact g_lload_n hd hi (ih _ _ _ _ hg w1)
    case lload i =>
      have w0 : lL ls[i]? fun x => wpb M K Q is (pc + 2) ls (.long x :: sk) h := hw
      clear hw
      obtain ⟨x, hi, w1⟩ := lL_i w0; exact g_lload hd hi (ih _ _ _ _ hg w1)
    case aload_n i =>
      have w0 : lR ls[(i : Nat)]? fun x => wpb M K Q is (pc + 1) ls (.ref x :: sk) h := hw
      clear hw
      obtain ⟨x, hi, w1⟩ := lR_i w0; exact g_aload_n hd hi (ih _ _ _ _ hg w1)
    case aload i =>
      have w0 : lR ls[i]? fun x => wpb M K Q is (pc + 2) ls (.ref x :: sk) h := hw
      clear hw
      obtain ⟨x, hi, w1⟩ := lR_i w0; exact g_aload hd hi (ih _ _ _ _ hg w1)
    case dload i =>
      have w0 : lD ls[i]? fun x => wpb M K Q is (pc + 2) ls (.double x :: sk) h := hw
      clear hw
      obtain ⟨x, hi, w1⟩ := lD_i w0; exact g_dload hd hi (ih _ _ _ _ hg w1)
    case istore_n i =>
      have w0 : pI sk fun x r => wpb M K Q is (pc + 1) (gSet1 ls i (.int x)) r h := hw
      clear hw
      obtain ⟨x, r, rfl, w1⟩ := pI_i w0; exact g_istore_n hd (of_decide_eq_true hk) (ih _ _ _ _ hg w1)
    case istore i =>
      have w0 : pI sk fun x r => wpb M K Q is (pc + 2) (gSet1 ls i (.int x)) r h := hw
      clear hw
      obtain ⟨x, r, rfl, w1⟩ := pI_i w0; exact g_istore hd (of_decide_eq_true hk) (ih _ _ _ _ hg w1)
    case lstore_n i =>
      have w0 : pL sk fun x r => wpb M K Q is (pc + 1) (gSet2 ls i (.long x)) r h := hw
      clear hw
      obtain ⟨x, r, rfl, w1⟩ := pL_i w0; exact g_lstore_n hd (of_decide_eq_true hk) (ih _ _ _ _ hg w1)
    case lstore i =>
      have w0 : pL sk fun x r => wpb M K Q is (pc + 2) (gSet2 ls i (.long x)) r h := hw
      clear hw
      obtain ⟨x, r, rfl, w1⟩ := pL_i w0; exact g_lstore hd (of_decide_eq_true hk) (ih _ _ _ _ hg w1)
    case astore_n i =>
      have w0 : pR sk fun x r => wpb M K Q is (pc + 1) (gSet1 ls i (.ref x)) r h := hw
      clear hw
      obtain ⟨x, r, rfl, w1⟩ := pR_i w0; exact g_astore_n hd (of_decide_eq_true hk) (ih _ _ _ _ hg w1)
    case astore i =>
      have w0 : pR sk fun x r => wpb M K Q is (pc + 2) (gSet1 ls i (.ref x)) r h := hw
      clear hw
      obtain ⟨x, r, rfl, w1⟩ := pR_i w0; exact g_astore hd (of_decide_eq_true hk) (ih _ _ _ _ hg w1)
    case dstore i =>
      have w0 : pD sk fun x r => wpb M K Q is (pc + 2) (gSet2 ls i (.double x)) r h := hw
      clear hw
      obtain ⟨x, r, rfl, w1⟩ := pD_i w0; exact g_dstore hd (of_decide_eq_true hk) (ih _ _ _ _ hg w1)
    case iinc i z =>
      have w0 : lI ls[i]? fun x => wpb M K Q is (pc + 3) (gSet1 ls i (.int (x + Int32.ofInt z))) sk h := hw
      clear hw
      obtain ⟨x, hi, w1⟩ := lI_i w0; exact g_iinc hd (of_decide_eq_true hk) hi (ih _ _ _ _ hg w1)
    case dup =>
      have w0 : p1 sk fun v r => wpb M K Q is (pc + 1) ls (v :: v :: r) h := hw
      clear hw
      obtain ⟨v, r, rfl, hv, w1⟩ := p1_v w0; exact g_dup hd hv (ih _ _ _ _ hg w1)
    case pop =>
      have w0 : p1 sk fun v r => wpb M K Q is (pc + 1) ls r h := hw
      clear hw
      obtain ⟨v, r, rfl, hv, w1⟩ := p1_v w0; exact g_pop hd hv (ih _ _ _ _ hg w1)
    case dup2 =>
      have w0 : p1 sk fun v r => p1 r fun u r => wpb M K Q is (pc + 1) ls (v :: u :: v :: u :: r) h := hw
      clear hw
      obtain ⟨v, r, rfl, hv, w1⟩ := p1_v w0; obtain ⟨u, r, rfl, hu, w2⟩ := p1_v w1; exact g_dup2 hd hv hu (ih _ _ _ _ hg w2)
    case getfield idx =>
      have w0 : pR sk fun p r => cO h[p]? a fun fs => oV fs[b]? fun v => wpb M K Q is (pc + 3) ls (v :: r) h := hw
      clear hw
      obtain ⟨p, r, rfl, w1⟩ := pR_i w0; obtain ⟨fs, hp, w2⟩ := cO_i w1; obtain ⟨v, hv, w3⟩ := oV_i w2; exact g_get hd (by rw [← ho]; exact gFlds_ok _ _ (of_decide_eq_true hk)) hp hv (ih _ _ _ _ hg w3)
    case putfield idx =>
      simp only [gOk, Bool.and_eq_true] at hk
      obtain ⟨⟨hk1, hk2⟩, hk3⟩ := hk
      have hf : gFok (mY M).cls idx a b := by rw [← ho]; exact gFlds_ok _ _ (of_decide_eq_true hk1)
      match t, hk2, hw with
      | 0, hk2, hw => have w0 : pI sk fun x r => pR r fun p r => cO h[p]? a fun fs => b < fs.length ∧ wpb M K Q is (pc + 3) ls r (h.set p (some (.inl (a, fs.set b (.int x))))) := hw; clear hw; obtain ⟨x, r, rfl, w1⟩ := pI_i w0; obtain ⟨p, r, rfl, w2⟩ := pR_i w1; obtain ⟨fs, hp, hl, w3⟩ := cO_i w2; exact g_put hd hf (gFi_s hk3) hp (gTy_i hk2 x) hl (ih _ _ _ _ hg w3)
      | 1, hk2, hw => have w0 : pL sk fun x r => pR r fun p r => cO h[p]? a fun fs => b < fs.length ∧ wpb M K Q is (pc + 3) ls r (h.set p (some (.inl (a, fs.set b (.long x))))) := hw; clear hw; obtain ⟨x, r, rfl, w1⟩ := pL_i w0; obtain ⟨p, r, rfl, w2⟩ := pR_i w1; obtain ⟨fs, hp, hl, w3⟩ := cO_i w2; exact g_put hd hf (gFi_s hk3) hp (gTy_l hk2 x) hl (ih _ _ _ _ hg w3)
      | 2, hk2, hw => have w0 : pN sk fun x r => pR r fun p r => cO h[p]? a fun fs => b < fs.length ∧ wpb M K Q is (pc + 3) ls r (h.set p (some (.inl (a, fs.set b (x))))) := hw; clear hw; obtain ⟨v, r, rfl, hv, w1⟩ := pN_i w0; obtain ⟨p, r, rfl, w2⟩ := pR_i w1; obtain ⟨fs, hp, hl, w3⟩ := cO_i w2; exact g_put hd hf (gFi_s hk3) hp (gTy_r hk2 hv) hl (ih _ _ _ _ hg w3)
      | t + 3, hk2, hw =>
        unfold gTy at hk2
        split at hk2
        · split at hk2 <;> simp at hk2
        · cases hk2
    case iaload =>
      have w0 : pI sk fun i r => pR r fun p r => cI h[p]? 0 fun l => vp_in i l.length ∧ wpb M K Q is (pc + 1) ls (.int (l.getD i.toNatClampNeg 0) :: r) h := hw
      clear hw
      obtain ⟨i, r, rfl, w1⟩ := pI_i w0; obtain ⟨p, r, rfl, w2⟩ := pR_i w1; obtain ⟨l, hp, hi, w3⟩ := cI_i w2; exact g_iald hd hp hi (ih _ _ _ _ hg w3)
    case baload =>
      have w0 : pI sk fun i r => pR r fun p r => cI h[p]? 1 fun l => vp_in i l.length ∧ wpb M K Q is (pc + 1) ls (.int (l.getD i.toNatClampNeg 0) :: r) h := hw
      clear hw
      obtain ⟨i, r, rfl, w1⟩ := pI_i w0; obtain ⟨p, r, rfl, w2⟩ := pR_i w1; obtain ⟨l, hp, hi, w3⟩ := cI_i w2; exact g_bald hd hp hi (ih _ _ _ _ hg w3)
    case aaload =>
      match a, hw with
      | 0, hw => have w0 : pI sk fun i r => pR r fun p r => cQ h[p]? fun l => vp_in i l.length ∧ wpb M K Q is (pc + 1) ls (gRf (l.getD i.toNatClampNeg none) :: r) h := hw; clear hw; obtain ⟨i, r, rfl, w1⟩ := pI_i w0; obtain ⟨p, r, rfl, w2⟩ := pR_i w1; obtain ⟨l, hp, hi, w3⟩ := cQ_i w2; exact g_aald hd hp hi (ih _ _ _ _ hg w3)
      | a + 1, hw => have w0 : pI sk fun i r => pR r fun p r => cL h[p]? fun l => vp_in i l.length ∧ wpb M K Q is (pc + 1) ls (gRf (l.getD i.toNatClampNeg none) :: r) h := hw; clear hw; obtain ⟨i, r, rfl, w1⟩ := pI_i w0; obtain ⟨p, r, rfl, w2⟩ := pR_i w1; obtain ⟨l, hp, hi, w3⟩ := cL_i w2; exact g_aaldA hd hp hi (ih _ _ _ _ hg w3)
    case iastore =>
      have w0 : pI sk fun x r => pI r fun i r => pR r fun p r => cI h[p]? 0 fun l => vp_in i l.length ∧ wpb M K Q is (pc + 1) ls r (h.set p (some (.inr (.inl (0, l.set i.toNatClampNeg x))))) := hw
      clear hw
      obtain ⟨x, r, rfl, w1⟩ := pI_i w0; obtain ⟨i, r, rfl, w2⟩ := pI_i w1; obtain ⟨p, r, rfl, w3⟩ := pR_i w2; obtain ⟨l, hp, hi, w4⟩ := cI_i w3; exact g_iast hd hp hi (ih _ _ _ _ hg w4)
    case bastore =>
      have w0 : pI sk fun x r => pI r fun i r => pR r fun p r => cI h[p]? 1 fun l => vp_in i l.length ∧ wpb M K Q is (pc + 1) ls r (h.set p (some (.inr (.inl (1, l.set i.toNatClampNeg x.toInt8.toInt32))))) := hw
      clear hw
      obtain ⟨x, r, rfl, w1⟩ := pI_i w0; obtain ⟨i, r, rfl, w2⟩ := pI_i w1; obtain ⟨p, r, rfl, w3⟩ := pR_i w2; obtain ⟨l, hp, hi, w4⟩ := cI_i w3; exact g_bast hd hp hi (ih _ _ _ _ hg w4)
    case aastore =>
      have w0 : pR sk fun v r => pI r fun i r => pR r fun p r => cQ h[p]? fun l => cO h[v]? 3 fun _ => vp_in i l.length ∧ wpb M K Q is (pc + 1) ls r (h.set p (some (.inr (.inr (.inl (l.set i.toNatClampNeg (some v))))))) := hw
      clear hw
      obtain ⟨v, r, rfl, w1⟩ := pR_i w0; obtain ⟨i, r, rfl, w2⟩ := pI_i w1; obtain ⟨p, r, rfl, w3⟩ := pR_i w2; obtain ⟨l, hp, w4⟩ := cQ_i w3; obtain ⟨fs, hv, hi, w5⟩ := cO_i w4; exact g_aast hd hp hv hi (ih _ _ _ _ hg w5)
    case ldc idx =>
      match a, hk, hw with
      | 0, hk, hw => exact g_ldc hd (List.mem_of_getElem? (of_decide_eq_true hk)) (ih _ _ _ _ hg hw)
      | a + 1, hk, hw =>
        have hk := of_decide_eq_true hk
        cases hb : gStr[b]? with
        | none => rw [hb] at hk; cases hk
        | some t =>
          rw [hb] at hk
          have hk := Option.some.inj hk
          exact g_ldcs hd hb (congrArg Prod.fst hk) (congrArg Prod.snd hk) (ih _ _ _ _ hg hw)
    case ldc_w idx =>
      have w0 : wpb M K Q is (pc + 3) ls (.int (gCIv b) :: sk) h := hw
      clear hw
      exact g_ldcw hd (List.mem_of_getElem? (of_decide_eq_true hk)) (ih _ _ _ _ hg w0)
    case ldc2_w idx =>
      have w0 : wpb M K Q is (pc + 3) ls (.long (gCLv b) :: sk) h := hw
      clear hw
      exact g_ldc2 hd (List.mem_of_getElem? (of_decide_eq_true hk)) (ih _ _ _ _ hg w0)
    case ifCond cd off =>
      cases cd with
      | eq => obtain ⟨x, r, rfl, h1, h2⟩ := pI_i hw; exact g_if_eq hd (of_decide_eq_true hk) (fun z => hK _ _ _ _ (h1 z)) (fun z => ih _ _ _ _ hg (h2 z))
      | ne => obtain ⟨x, r, rfl, h1, h2⟩ := pI_i hw; exact g_if_ne hd (of_decide_eq_true hk) (fun z => hK _ _ _ _ (h1 z)) (fun z => ih _ _ _ _ hg (h2 z))
      | lt => obtain ⟨x, r, rfl, h1, h2⟩ := pI_i hw; exact g_if_lt hd (of_decide_eq_true hk) (fun z => hK _ _ _ _ (h1 z)) (fun z => ih _ _ _ _ hg (h2 z))
      | ge => obtain ⟨x, r, rfl, h1, h2⟩ := pI_i hw; exact g_if_ge hd (of_decide_eq_true hk) (fun z => hK _ _ _ _ (h1 z)) (fun z => ih _ _ _ _ hg (h2 z))
      | gt => obtain ⟨x, r, rfl, h1, h2⟩ := pI_i hw; exact g_if_gt hd (of_decide_eq_true hk) (fun z => hK _ _ _ _ (h1 z)) (fun z => ih _ _ _ _ hg (h2 z))
      | le => obtain ⟨x, r, rfl, h1, h2⟩ := pI_i hw; exact g_if_le hd (of_decide_eq_true hk) (fun z => hK _ _ _ _ (h1 z)) (fun z => ih _ _ _ _ hg (h2 z))
    case if_icmp cd off =>
      cases cd with
      | eq => obtain ⟨y, r, rfl, hw⟩ := pI_i hw; obtain ⟨x, r, rfl, h1, h2⟩ := pI_i hw; exact g_icmp_eq hd (of_decide_eq_true hk) (fun z => hK _ _ _ _ (h1 z)) (fun z => ih _ _ _ _ hg (h2 z))
      | ne => obtain ⟨y, r, rfl, hw⟩ := pI_i hw; obtain ⟨x, r, rfl, h1, h2⟩ := pI_i hw; exact g_icmp_ne hd (of_decide_eq_true hk) (fun z => hK _ _ _ _ (h1 z)) (fun z => ih _ _ _ _ hg (h2 z))
      | lt => obtain ⟨y, r, rfl, hw⟩ := pI_i hw; obtain ⟨x, r, rfl, h1, h2⟩ := pI_i hw; exact g_icmp_lt hd (of_decide_eq_true hk) (fun z => hK _ _ _ _ (h1 z)) (fun z => ih _ _ _ _ hg (h2 z))
      | ge => obtain ⟨y, r, rfl, hw⟩ := pI_i hw; obtain ⟨x, r, rfl, h1, h2⟩ := pI_i hw; exact g_icmp_ge hd (of_decide_eq_true hk) (fun z => hK _ _ _ _ (h1 z)) (fun z => ih _ _ _ _ hg (h2 z))
      | gt => obtain ⟨y, r, rfl, hw⟩ := pI_i hw; obtain ⟨x, r, rfl, h1, h2⟩ := pI_i hw; exact g_icmp_gt hd (of_decide_eq_true hk) (fun z => hK _ _ _ _ (h1 z)) (fun z => ih _ _ _ _ hg (h2 z))
      | le => obtain ⟨y, r, rfl, hw⟩ := pI_i hw; obtain ⟨x, r, rfl, h1, h2⟩ := pI_i hw; exact g_icmp_le hd (of_decide_eq_true hk) (fun z => hK _ _ _ _ (h1 z)) (fun z => ih _ _ _ _ hg (h2 z))
    case goto off =>
      have w0 : K a ls sk h := hw
      clear hw
      exact g_goto hd (of_decide_eq_true hk) (hK _ _ _ _ w0)
    case ireturn =>
      have w0 : pI sk fun x r => r = [] ∧ (mR M = some .boolean → x = 0 ∨ x = 1) ∧ Q (some (.int x)) h := hw
      clear hw
      obtain ⟨x, r, rfl, hr, hz, w1⟩ := pI_i w0
      subst hr
      simp only [gOk, Bool.or_eq_true, decide_eq_true_eq] at hk
      rcases hk with hk | hk
      · exact g_iret hd hk hc hn w1
      · exact g_zret hd hk (hz hk) hc hn w1
    case areturn =>
      have w0 : pR sk fun x r => r = [] ∧ x < h.length ∧ Q (some (.ref x)) h := hw
      clear hw
      obtain ⟨x, r, rfl, hr, hx, w1⟩ := pR_i w0; subst hr; exact g_aret hd hk hx hc hn w1
    case return_ =>
      have w0 : sk = [] ∧ Q none h := hw
      clear hw
      obtain ⟨rfl, w1⟩ := w0; exact g_vret hd (of_decide_eq_true hk) hc hn w1
    case lreturn =>
      have w0 : pL sk fun x r => r = [] ∧ Q (some (.long x)) h := hw
      clear hw
      obtain ⟨x, r, rfl, hr, w1⟩ := pL_i w0; subst hr; exact g_lret hd (of_decide_eq_true hk) hc hn w1
    case freturn =>
      have w0 : pF sk fun x r => r = [] ∧ Q (some (.float x)) h := hw
      clear hw
      obtain ⟨x, r, rfl, hr, w1⟩ := pF_i w0; subst hr; exact g_fret hd (of_decide_eq_true hk) hc hn w1
    case dreturn =>
      have w0 : pD sk fun x r => r = [] ∧ Q (some (.double x)) h := hw
      clear hw
      obtain ⟨x, r, rfl, hr, w1⟩ := pD_i w0; subst hr; exact g_dret hd (of_decide_eq_true hk) hc hn w1
    all_goals exact hK _ _ _ _ hw
theorem wpb_s (ho : gOwn M.1 = (mY M).cls) (hc : c ≤ mc) (hn : n ≤ ms) (is : List gI) {pc : Nat} {ls : List (Option Value)} {sk : List Value} {h : gH} (hg : gAt M pc is = true)
    (hw : wpb M (fun pc ls sk h => G M d mc ms h0 Q QX c n pc ls sk h) Q is pc ls sk h) : G M d mc ms h0 Q QX c n pc ls sk h :=
  wpb_k _ (fun _ _ _ _ z => z) ho hc hn is pc ls sk h hg hw
end GWPB
