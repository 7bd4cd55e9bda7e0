/-! THE LAYER OF SMALL HEAPS: a method is walked over a list of cells of its own, numbered from 0; a reference is a number in that list (from 1000 on: a String constant). -/
abbrev gC : Type := (Nat × List Value) ⊕ ((Nat × List Int32) ⊕ (List (Option Nat) ⊕ List (Option Nat)))
abbrev gH : Type := List (Option gC)
abbrev gM : Type := Nat × MethodName × ByteArray × Nat × Option FieldType × List (Nat × Nat × Nat × Nat) × Option (Nat × Nat × (Nat → Int32))
abbrev mY (M : gM) : MethodName := M.2.1
abbrev mC (M : gM) : ByteArray := M.2.2.1
abbrev mN (M : gM) : Nat := M.2.2.2.1
abbrev mR (M : gM) : Option FieldType := M.2.2.2.2.1
abbrev mT (M : gM) : List (Nat × Nat × Nat × Nat) := M.2.2.2.2.2.1
/-- a script that a method may read: its address, its length, its ints; its number is 2000 -/
abbrev mS (M : gM) : Option (Nat × Nat × (Nat → Int32)) := M.2.2.2.2.2.2
abbrev gI : Type := Instr × Nat × Nat × Nat
def tv (ad : Nat → Nat) : Value → Value
  | .ref k => .ref (ad k)
  | v => v
def tc (E : Nat → ClassId) (ad : Nat → Nat) : gC → va_E
  | .inl o => .inr (o.1, o.2.map (tv ad))
  | .inr (.inl a) => .inl (E a.1, a.2.length, .inl (fun j => a.2.getD j 0))
  | .inr (.inr (.inl a)) => .inl (E 2, a.length, .inr (.inr (.inr (.inr (fun j => (a.getD j none).map ad)))))
  | .inr (.inr (.inr a)) => .inl (E 3, a.length, .inr (.inr (.inr (.inr (fun j => (a.getD j none).map ad)))))
def gTys (E : Nat → ClassId) : List (ClassId × FieldType) := [(E 0, .int), (E 1, .byte), (E 2, .object RX3), (E 3, .array .int)]
def gA (base : Nat) : Nat → Prop := fun q => base ≤ q
/-- the small heap h lies in the pool (L, f), by the addresses ad -/
def gR (E : Nat → ClassId) (ad : Nat → Nat) (h : gH) (L : List Nat) (f : Nat → va_E) : Prop :=
  (∀ (k : Nat) (c : gC), h[k]? = some (some c) → ad k ∈ L ∧ f (ad k) = tc E ad c) ∧ ∀ (j k : Nat) (c c' : gC), h[j]? = some (some c) → h[k]? = some (some c') → ad j = ad k → j = k
/-- what a method leaves as it was -/
def gFr (h0 : gH) (L0 : List Nat) (f0 : Nat → va_E) (ad0 : Nat → Nat) (h : gH) (L : List Nat) (f : Nat → va_E) (ad : Nat → Nat) : Prop :=
  (∀ k, h0[k]? ≠ some none → ad k = ad0 k) ∧ (∀ a ∈ L0, a ∈ L) ∧ (∀ a ∈ L0, (∀ (k : Nat) (c : gC), h0[k]? = some (some c) → ad0 k ≠ a) → f a = f0 a) ∧ (∀ (k : Nat) (c : gC), h0[k]? = some none → h[k]? = some (some c) → ad k ∉ L0) ∧ h.length = h0.length ∧ ∀ (k : Nat) (c : gC), h0[k]? = some (some c) → h[k]? ≠ some none
theorem gFr.rf {h : gH} {L : List Nat} {f : Nat → va_E} {ad : Nat → Nat} : gFr h L f ad h L f ad :=
  ⟨fun _ _ => rfl, fun _ h => h, fun _ _ _ => rfl, fun k c h1 h2 => by (rw [h1] at h2; cases h2), rfl, fun k c h1 h2 => by (rw [h1] at h2; cases h2)⟩
/-- the JDK's own things that a walk may meet -/
def gS (base : Nat) (len : Nat) (byt : List Int32) (q av : Nat) (U : State) (H : Heap) : Prop :=
  va_O "java/lang/String" q (gA base) U H ∧ va_OF "java/lang/String" "coder" "B" (.int 0) q (gA base) U H ∧ va_OF "java/lang/String" "value" "[B" (.ref av) q (gA base) U H ∧ va_T .byte av len (fun j => .int (byt.getD j 0)) (gA base) U H
theorem gS.moved {base len : Nat} {byt : List Int32} {q av : Nat} {u U : State} {H : Heap} (hvm : u.vm.Alike U.vm) (h : gS base len byt q av u H) : gS base len byt q av U H :=
  ⟨va_O.moved hvm h.1, va_OF.moved hvm h.2.1, va_OF.moved hvm h.2.2.1, va_T.moved hvm h.2.2.2⟩
theorem gS.kept {base len : Nat} {byt : List Int32} {q av : Nat} {U : State} {H H1 : Heap} (h : gS base len byt q av U H) (hq : ∀ a : Nat, a < H.size → ¬ gA base a → H1[a]? = H[a]?) : gS base len byt q av U H1 :=
  ⟨h.1.kept hq, h.2.1.kept hq, h.2.2.1.kept hq, h.2.2.2.kept hq⟩
/-- what a static row of the start holds: numbers, or String constants by their numbers -/
def gAv (st : Nat → Nat) : Int32 ⊕ Nat → Value
  | .inl x => .int x
  | .inr k => .ref (st k)
def gXt (base : Nat) (st : Nat → Nat) (U : State) (H : Heap) : Prop :=
  va_AOA .int U ∧ va_Nw (.castable "[B" "java/lang/Cloneable") U ∧ (∀ y ∈ gPrv, va_Nw (.selects "java/lang/StringBuilder" y y) U) ∧ ∀ (i : Nat) (t : String × String × String × FieldType × List (Int32 ⊕ Nat)), gArr[i]? = some t → va_Z t.1 t.2.1 t.2.2.1 (.ref (st (700 + i))) (gA base) U H ∧ va_T t.2.2.2.1 (st (700 + i)) t.2.2.2.2.length (fun j => gAv st (t.2.2.2.2.getD j (.inl 0))) (gA base) U H
theorem gXt.warm {base : Nat} {st : Nat → Nat} {u U : State} {H : Heap} (hW : u.WarmedH U.vm) (h : gXt base st u H) : gXt base st U H :=
  ⟨va_AOA.moved hW.alike h.1, va_Nw.warmC hW h.2.1, fun y hy => word_at hW (good_of_word rfl) (h.2.2.1 y hy), fun i t ht => ⟨va_Z.moved hW.alike (h.2.2.2 i t ht).1, va_T.moved hW.alike (h.2.2.2 i t ht).2⟩⟩
theorem gXt.kept {base : Nat} {st : Nat → Nat} {U : State} {H H1 : Heap} (h : gXt base st U H) (hq : ∀ a : Nat, a < H.size → ¬ gA base a → H1[a]? = H[a]?) : gXt base st U H1 :=
  ⟨h.1, h.2.1, h.2.2.1, fun i t ht => ⟨(h.2.2.2 i t ht).1.kept hq, (h.2.2.2 i t ht).2.kept hq⟩⟩
def gJ (base : Nat) (st av : Nat → Nat) (U : State) (H : Heap) : Prop :=
  (∀ q ∈ gNM, va_Nw (.methodLinkNest q.1 q.2.1 q.2.2.1 q.2.2.2) U) ∧ (∀ C ∈ gCast, va_Nw (.castable C C) U) ∧ (∀ y ∈ gDecl, va_Nw (.declares y) U) ∧ (∀ q ∈ gNcs, va_Nc q.1 q.2 U) ∧
  vx_Zq Bundle.tN "UNASSIGNED_STACK" Bundle.steD (gA base) U H ∧ vx_Zq Bundle.tN "SUPPRESSED_SENTINEL" Bundle.listD (gA base) U H ∧
  va_Z "java/lang/String" "COMPACT_STRINGS" "Z" (.int 1) (gA base) U H ∧ (va_Z "jdk/internal/util/Preconditions" "SIOOBE_FORMATTER" "Ljava/util/function/BiFunction;" .null (gA base) U H ∨ va_Z "jdk/internal/util/Preconditions" "SIOOBE_FORMATTER" "Ljava/util/function/BiFunction;" (.ref (st 900)) (gA base) U H) ∧
  (va_AO RX3 U ∧ gXt base st U H) ∧ ∀ (i : Nat) (t : String × Nat × String × List Int32), gStr[i]? = some t → vk_R t.1 t.2.1 t.2.2.1 (st i) U ∧ gS base t.2.2.2.length t.2.2.2 (st i) (st (500 + i)) U H
theorem gJ.kept {base : Nat} {st av : Nat → Nat} {U : State} {H H1 : Heap} (h : gJ base st av U H) (hq : ∀ a : Nat, a < H.size → ¬ gA base a → H1[a]? = H[a]?) : gJ base st av U H1 := by
  obtain ⟨h1, h2, h9, hA, h3, h4, h5, h6, h7, h8⟩ := h
  exact ⟨h1, h2, h9, hA, h3.kept hq, h4.kept hq, va_Z.kept h5 hq, h6.imp (fun z => va_Z.kept z hq) (fun z => va_Z.kept z hq), ⟨h7.1, h7.2.kept hq⟩, fun i t ht => ⟨(h8 i t ht).1, (h8 i t ht).2.kept hq⟩⟩
theorem gJ.warm {base : Nat} {st av : Nat → Nat} {s U : State} {H : Heap} (hW : s.WarmedH U.vm) (h : gJ base st av s H) : gJ base st av U H := by
  obtain ⟨h1, h2, h9, hA, h3, h4, h5, h6, h7, h8⟩ := h
  exact ⟨fun q hq => va_Nw.warmM hW (h1 q hq), fun C hC => va_Nw.warmC hW (h2 C hC), fun y hy => va_Nw.warmD hW (h9 y hy), fun q hq => va_Nc.moved hW.alike (hA q hq), vx_Zq.moved hW.alike h3, vx_Zq.moved hW.alike h4, va_Z.moved hW.alike h5, h6.imp (fun z => va_Z.moved hW.alike z) (fun z => va_Z.moved hW.alike z), ⟨va_AO.moved hW.alike h7.1, gXt.warm hW h7.2⟩, fun i t ht => ⟨vk_R.warm hW (h8 i t ht).1, gS.moved hW.alike (h8 i t ht).2⟩⟩
theorem gJ.same {base : Nat} {st av : Nat → Nat} {s U : State} {H : Heap} (hv : U.vm = s.vm) (h : gJ base st av s H) : gJ base st av U H :=
  gJ.warm (by rw [hv]; exact State.WarmedH.refl s) h
/-- the words of every method: its own code, then all good words of the tables -/
def gG : List Cond := lw_tbl.filter goodWord
def gCode (M : gM) : Cond := match mT M with
  | [] => .code (mY M) (mC M) (mN M) (mR M)
  | x :: r => .codeWith (mY M) (mC M) (mN M) (mR M) (x :: r)
def gws (M : gM) : List Cond := gCode M :: gG
def grm (d mc ms : Nat) : Room := { frames := d, cells := mc, slots := ms, locals := 36 * d }
theorem gG_in {w : Cond} (i : Nat) (h : lw_tbl[i]? = some w) (g : goodWord w = true) : w ∈ gG := List.mem_filter.mpr ⟨List.mem_of_getElem? h, g⟩
theorem gG_good : GoodIn gG gG := fun w h => ⟨h, good_of_word (List.mem_filter.mp h).2⟩
abbrev gU : Type := gH × List Nat × (Nat → va_E) × (Nat → Nat)
def gPre (base : Nat) (D : va_G) (E : Nat → ClassId) (st av : Nat → Nat) (L : List Nat) (f : Nat → va_E) (U : State) : Prop :=
  base ≤ U.heap.size ∧ va_P D vwCl (va_pl L f) U.heap ∧ va_D (gA base) (va_pl L f) ∧ va_K D vwCl (gTys E) U ∧ gJ base st av U U.heap
def gB (base : Nat) (D : va_G) (E : Nat → ClassId) (u : gU) (t : State) : Prop :=
  gR E u.2.2.2 u.1 u.2.1 u.2.2.1 ∧ va_P D vwCl (va_pl u.2.1 u.2.2.1) t.heap ∧ va_D (gA base) (va_pl u.2.1 u.2.2.1) ∧ va_K D vwCl (gTys E) t
def gFu (h0 : gH) (L0 : List Nat) (f0 : Nat → va_E) (ad0 : Nat → Nat) (u : gU) : Prop := gFr h0 L0 f0 ad0 u.1 u.2.1 u.2.2.1 u.2.2.2
/-- a method's end, by its kind of answer -/
def gQc (ret : Option FieldType) (base : Nat) (D : va_G) (E : Nat → ClassId) (h0 : gH) (L0 : List Nat) (f0 : Nat → va_E) (ad0 : Nat → Nat) (Q : Option Value → gH → Prop) : Array Value → State → Outcome → State → Prop :=
  match ret with
  | none => va_Qv (fun u : gU => Q none u.1 ∧ gFu h0 L0 f0 ad0 u) (gB base D E) (gA base)
  | some .long => va_Ql (fun r (u : gU) => Q (some (.long r)) u.1 ∧ gFu h0 L0 f0 ad0 u) (gB base D E) (gA base)
  | some .float => va_Qf (fun r (u : gU) => Q (some (.float r)) u.1 ∧ gFu h0 L0 f0 ad0 u) (gB base D E) (gA base)
  | some .double => va_Qd (fun r (u : gU) => Q (some (.double r)) u.1 ∧ gFu h0 L0 f0 ad0 u) (gB base D E) (gA base)
  | some (.array _) => va_Qr (fun u : gU × Nat => (u.2 < u.1.1.length ∧ Q (some (.ref u.2)) u.1.1) ∧ gFu h0 L0 f0 ad0 u.1) (fun u a t => gB base D E u.1 t ∧ a = u.1.2.2.2 u.2) (gA base)
  | some (.object _) => va_Qr (fun u : gU × Nat => (u.2 < u.1.1.length ∧ Q (some (.ref u.2)) u.1.1) ∧ gFu h0 L0 f0 ad0 u.1) (fun u a t => gB base D E u.1 t ∧ a = u.1.2.2.2 u.2) (gA base)
  | some _ => va_Qi (fun r (u : gU) => Q (some (.int r)) u.1 ∧ gFu h0 L0 f0 ad0 u) (gB base D E) (gA base)
def gXc (base : Nat) (D : va_G) (E : Nat → ClassId) (h0 : gH) (L0 : List Nat) (f0 : Nat → va_E) (ad0 : Nat → Nat) (QX : String → gH → Prop) : String → State → State → Prop :=
  vx_X (fun u : String × gU => QX u.1 u.2.1 ∧ gFu h0 L0 f0 ad0 u.2) (fun X u t => X = u.1 ∧ gB base D E u.2 t) (gA base)
def gSc (M : gM) (base : Nat) (s : State) (ad : Nat → Nat) : Prop := ∀ b L xs, mS M = some (b, L, xs) → ad 2000 = b ∧ va_X b L xs s s.heap ∧ b < s.heap.size ∧ ¬ gA base b
def gPreS (M : gM) (base : Nat) (D : va_G) (E : Nat → ClassId) (st av : Nat → Nat) (L : List Nat) (f : Nat → va_E) (ad : Nat → Nat) (U : State) : Prop := gPre base D E st av L f U ∧ gSc M base U ad
/-- THE CONTRACT: over the small heap h, with these arguments, the method of M returns with Q or throws with QX; d frames deep, mc cells of ms slots at most are made -/
def gCt (M : gM) (d mc ms : Nat) (args : List Value) (h : gH) (Q : Option Value → gH → Prop) (QX : String → gH → Prop) : Prop :=
  ∀ (l : Launch), l.stackTraces = false → ∀ (base : Nat) (D : va_G) (E : Nat → ClassId) (st av : Nat → Nat) (L : List Nat) (f : Nat → va_E) (ad : Nat → Nat), gR E ad h L f → (∀ i, ad (1000 + i) = st i) →
    vx_Met l (mY M) (gws M) (grm d mc ms) (va_Pc (args.map (tv ad)) (gPreS M base D E st av L f ad)) (gQc (mR M) base D E h L f ad Q) (gXc base D E h L f ad QX) mc ms (gA base)
/-- what is fixed in a method's body -/
def gCx (M : gM) (p : Program) (l : Launch) (s : State) (m : MethodId) (args : Array Value) (meth : Method) (cd : Code) : Prop :=
  p.tables.exec = Jvm.exec ∧ cd.code = mC M ∧ meth.sig.returnType = mR M ∧ cd.maxLocals = mN M ∧ s.vm.findClass (mY M).cls = some m.cls ∧ (∀ w ∈ gG, w.before args s = true) ∧ meth.locks = false ∧ meth.name = (mY M).name ∧ cd.exceptionTable.toList = tableOf (mT M) ∧ l.stackTraces = false
def gWd (M : gM) (base : Nat) (D : va_G) (E : Nat → ClassId) (st av : Nat → Nat) (s : State) (h0 : gH) (L0 : List Nat) (f0 : Nat → va_E) (ad0 : Nat → Nat) (H : Heap) (locs : List Loc) (L : List Nat) (f : Nat → va_E) (ad : Nat → Nat) (h : gH) : Prop :=
  gJ base st av s s.heap ∧ base ≤ s.heap.size ∧ va_K D vwCl (gTys E) s ∧ va_S (gA base) s.heap H locs ∧ va_P D vwCl (va_pl L f) H ∧ va_D (gA base) (va_pl L f) ∧ gR E ad h L f ∧ (∀ i, ad (1000 + i) = st i) ∧ gFr h0 L0 f0 ad0 h L f ad ∧ gSc M base s ad
/-- the locals, by their places -/
def gLsF (ad : Nat → Nat) : Nat → List (Option Value) → List (Nat × Value)
  | _, [] => []
  | i, some v :: r => (i, tv ad v) :: gLsF ad (i + 1) r
  | i, none :: r => gLsF ad (i + 1) r
def gLv (lsA : Array Slot) (n : Nat) (ad : Nat → Nat) (ls : List (Option Value)) : Prop := ls.length = n ∧ lv_has lsA n (gLsF ad 0 ls)
/-- at pc, with these locals, this stack, this small heap, after c cells of n slots: the rest of the method goes well -/
def G (M : gM) (d mc ms : Nat) (h0 : gH) (Q : Option Value → gH → Prop) (QX : String → gH → Prop) (c n pc : Nat) (ls : List (Option Value)) (sk : List Value) (h : gH) : Prop :=
  ∀ (p : Program) (l : Launch) (e : Env) (s : State) (m : MethodId) (args : Array Value) (below : List Frame) (meth : Method) (cd : Code) (base : Nat) (D : va_G) (E : Nat → ClassId) (st av : Nat → Nat) (L0 : List Nat) (f0 : Nat → va_E) (ad0 : Nat → Nat) (H : Heap) (locs : List Loc) (lsA : Array Slot) (L : List Nat) (f : Nat → va_E) (ad : Nat → Nat),
    gCx M p l s m args meth cd → gWd M base D E st av s h0 L0 f0 ad0 H locs L f ad h → gLv lsA (mN M) ad ls →
    W p l e (grm d mc ms) s m args below meth cd H locs c n (vx_MQ below (gQc (mR M) base D E h0 L0 f0 ad0 Q) (gXc base D E h0 L0 f0 ad0 QX) args s mc ms (gA base)) (F0 m pc lsA (sk.map (tv ad)))
theorem gLsF_mem {ad : Nat → Nat} {i : Nat} {w : Value} : ∀ {ls : List (Option Value)} {k : Nat}, (i, w) ∈ gLsF ad k ls ↔ ∃ (j : Nat) (v : Value), i = k + j ∧ ls[j]? = some (some v) ∧ w = tv ad v := by
  intro ls
  induction ls with
  | nil => intro k; simp [gLsF]
  | cons o r ih =>
    intro k
    cases o with
    | none =>
      rw [gLsF, ih]
      constructor
      · rintro ⟨j, v, h1, h2, h3⟩
        exact ⟨j + 1, v, by omega, by rw [List.getElem?_cons_succ]; exact h2, h3⟩
      · rintro ⟨j, v, h1, h2, h3⟩
        cases j with
        | zero => simp at h2
        | succ j => exact ⟨j, v, by omega, by rw [List.getElem?_cons_succ] at h2; exact h2, h3⟩
    | some x =>
      rw [gLsF, List.mem_cons, ih]
      constructor
      · rintro (h | ⟨j, v, h1, h2, h3⟩)
        · cases h; exact ⟨0, x, rfl, rfl, rfl⟩
        · exact ⟨j + 1, v, by omega, by rw [List.getElem?_cons_succ]; exact h2, h3⟩
      · rintro ⟨j, v, h1, h2, h3⟩
        cases j with
        | zero => simp at h2; subst h2; left; rw [h1, h3]; rfl
        | succ j => right; exact ⟨j, v, by omega, by rw [List.getElem?_cons_succ] at h2; exact h2, h3⟩
theorem gLv.at {lsA : Array Slot} {n : Nat} {ad : Nat → Nat} {ls : List (Option Value)} (h : gLv lsA n ad ls) {i : Nat} {v : Value} (hi : ls[i]? = some (some v)) : lsA[i]? = some (.val (tv ad v)) :=
  h.2.2.2 (i, tv ad v) (gLsF_mem.mpr ⟨i, v, by omega, hi, rfl⟩)
theorem gLv.of {lsA : Array Slot} {n : Nat} {ad : Nat → Nat} {ls : List (Option Value)} {l : List (Nat × Value)} (hn : ls.length = n) (h : lv_has lsA n l) (hm : ∀ (i : Nat) (v : Value), ls[i]? = some (some v) → (i, tv ad v) ∈ l) : gLv lsA n ad ls := by
  refine ⟨hn, h.1, h.2.1, fun q hq => ?_⟩
  obtain ⟨i, w⟩ := q
  obtain ⟨j, v, h1, h2, h3⟩ := gLsF_mem.mp hq
  have h1 : i = j := by omega
  subst h1; subst h3
  exact h.2.2 _ (hm i v h2)
theorem tv_cat (ad : Nat → Nat) (v : Value) : (tv ad v).category = v.category := by cases v <;> rfl
/-- the locals behind a store -/
def gW1 : Option Value → Option Value
  | some (.long _) => none
  | some (.double _) => none
  | a => a
def gSet1 : List (Option Value) → Nat → Value → List (Option Value)
  | [], _, _ => []
  | _ :: r, 0, v => some v :: r
  | a :: r, 1, v => gW1 a :: gSet1 r 0 v
  | a :: r, n + 2, v => a :: gSet1 r (n + 1) v
def gSet2 : List (Option Value) → Nat → Value → List (Option Value)
  | [], _, _ => []
  | [_], 0, v => [some v]
  | _ :: _ :: r, 0, v => some v :: none :: r
  | a :: r, 1, v => gW1 a :: gSet2 r 0 v
  | a :: r, n + 2, v => a :: gSet2 r (n + 1) v
theorem gSet1_len : ∀ (ls : List (Option Value)) (i : Nat) (v : Value), (gSet1 ls i v).length = ls.length := by
  intro ls
  induction ls with
  | nil => intro i v; rfl
  | cons a r ih =>
    intro i v
    match i with
    | 0 => rfl
    | 1 => simp [gSet1, ih]
    | i + 2 => simp [gSet1, ih]
theorem gSet2_len : ∀ (ls : List (Option Value)) (i : Nat) (v : Value), (gSet2 ls i v).length = ls.length := by
  intro ls
  induction ls with
  | nil => intro i v; rfl
  | cons a r ih =>
    intro i v
    match i, r, ih with
    | 0, [], ih => rfl
    | 0, b :: r, ih => rfl
    | 1, r, ih => simp [gSet2, ih]
    | i + 2, r, ih => simp [gSet2, ih]
theorem gW1_val {a : Option Value} {w : Value} (h : gW1 a = some w) : a = some w ∧ w.category ≠ 2 := by
  cases a with
  | none => cases h
  | some x => cases x <;> first | (cases h; done) | (cases h; exact ⟨rfl, by decide⟩) | (simp [gW1] at h; subst h; exact ⟨rfl, by simp [Value.category]⟩)
theorem gSet1_at : ∀ (ls : List (Option Value)) (i : Nat) (v : Value) (j : Nat) (w : Value), (gSet1 ls i v)[j]? = some (some w) → (j = i ∧ w = v) ∨ (ls[j]? = some (some w) ∧ j ≠ i ∧ (j + 1 = i → w.category ≠ 2)) := by
  intro ls
  induction ls with
  | nil => intro i v j w h; simp [gSet1] at h
  | cons a r ih =>
    intro i v j w h
    match i with
    | 0 =>
      cases j with
      | zero => simp [gSet1] at h; exact Or.inl ⟨rfl, h.symm⟩
      | succ j => simp [gSet1] at h; exact Or.inr ⟨by simpa using h, by omega, by omega⟩
    | 1 =>
      cases j with
      | zero => simp [gSet1] at h; obtain ⟨h1, h2⟩ := gW1_val h; exact Or.inr ⟨by rw [h1]; rfl, by omega, fun _ => h2⟩
      | succ j =>
        simp [gSet1] at h
        rcases ih 0 v j w h with ⟨q1, q2⟩ | ⟨q1, q2, q3⟩
        · exact Or.inl ⟨by omega, q2⟩
        · exact Or.inr ⟨by simpa using q1, by omega, by omega⟩
    | i + 2 =>
      cases j with
      | zero => simp [gSet1] at h; exact Or.inr ⟨by rw [h]; rfl, by omega, by omega⟩
      | succ j =>
        simp [gSet1] at h
        rcases ih (i + 1) v j w h with ⟨q1, q2⟩ | ⟨q1, q2, q3⟩
        · exact Or.inl ⟨by omega, q2⟩
        · exact Or.inr ⟨by simpa using q1, by omega, fun z => q3 (by omega)⟩
theorem gSet2_at : ∀ (ls : List (Option Value)) (i : Nat) (v : Value) (j : Nat) (w : Value), (gSet2 ls i v)[j]? = some (some w) → (j = i ∧ w = v) ∨ (ls[j]? = some (some w) ∧ j ≠ i ∧ j ≠ i + 1 ∧ (j + 1 = i → w.category ≠ 2)) := by
  intro ls
  induction ls with
  | nil => intro i v j w h; simp [gSet2] at h
  | cons a r ih =>
    intro i v j w h
    match i, r, ih, h with
    | 0, [], ih, h =>
      cases j with
      | zero => simp [gSet2] at h; exact Or.inl ⟨rfl, h.symm⟩
      | succ j => simp [gSet2] at h
    | 0, b :: r, ih, h =>
      match j, h with
      | 0, h => simp [gSet2] at h; exact Or.inl ⟨rfl, h.symm⟩
      | 1, h => simp [gSet2] at h
      | j + 2, h => simp [gSet2] at h; exact Or.inr ⟨by simpa using h, by omega, by omega, by omega⟩
    | 1, r, ih, h =>
      cases j with
      | zero => simp [gSet2] at h; obtain ⟨h1, h2⟩ := gW1_val h; exact Or.inr ⟨by rw [h1]; rfl, by omega, by omega, fun _ => h2⟩
      | succ j =>
        simp [gSet2] at h
        rcases ih 0 v j w h with ⟨q1, q2⟩ | ⟨q1, q2, q3, q4⟩
        · exact Or.inl ⟨by omega, q2⟩
        · exact Or.inr ⟨by simpa using q1, by omega, by omega, by omega⟩
    | i + 2, r, ih, h =>
      cases j with
      | zero => simp [gSet2] at h; exact Or.inr ⟨by rw [h]; rfl, by omega, by omega, by omega⟩
      | succ j =>
        simp [gSet2] at h
        rcases ih (i + 1) v j w h with ⟨q1, q2⟩ | ⟨q1, q2, q3, q4⟩
        · exact Or.inl ⟨by omega, q2⟩
        · exact Or.inr ⟨by simpa using q1, by omega, by omega, fun z => q4 (by omega)⟩
theorem gLv.st1 {lsA lsB : Array Slot} {n i : Nat} {ad : Nat → Nat} {ls : List (Option Value)} {v : Value} (h : gLv lsA n ad ls)
    (hB : lv_has lsB n ((i, tv ad v) :: (gLsF ad 0 ls).filter (fun q => !(q.1 == i) && !(q.1 + 1 == i && q.2.category == 2)))) : gLv lsB n ad (gSet1 ls i v) := by
  refine gLv.of (by rw [gSet1_len]; exact h.1) hB (fun j w hj => ?_)
  rcases gSet1_at ls i v j w hj with ⟨h1, h2⟩ | ⟨h1, h2, h3⟩
  · rw [h1, h2]; exact List.mem_cons_self
  · refine List.mem_cons_of_mem _ (List.mem_filter.mpr ⟨gLsF_mem.mpr ⟨j, w, by omega, h1, rfl⟩, ?_⟩)
    simp only [tv_cat, Bool.and_eq_true, Bool.not_eq_true', beq_eq_false_iff_ne, Bool.and_eq_false_iff, ne_eq]
    refine ⟨h2, ?_⟩
    by_cases hz : j + 1 = i
    · exact Or.inr (h3 hz)
    · exact Or.inl hz
theorem gLv.st2 {lsA lsB : Array Slot} {n i : Nat} {ad : Nat → Nat} {ls : List (Option Value)} {v : Value} (h : gLv lsA n ad ls)
    (hB : lv_has lsB n ((i, tv ad v) :: (gLsF ad 0 ls).filter (fun q => !(q.1 == i) && (!(q.1 == i + 1) && !(q.1 + 1 == i && q.2.category == 2))))) : gLv lsB n ad (gSet2 ls i v) := by
  refine gLv.of (by rw [gSet2_len]; exact h.1) hB (fun j w hj => ?_)
  rcases gSet2_at ls i v j w hj with ⟨h1, h2⟩ | ⟨h1, h2, h4, h3⟩
  · rw [h1, h2]; exact List.mem_cons_self
  · refine List.mem_cons_of_mem _ (List.mem_filter.mpr ⟨gLsF_mem.mpr ⟨j, w, by omega, h1, rfl⟩, ?_⟩)
    simp only [tv_cat, Bool.and_eq_true, Bool.not_eq_true', beq_eq_false_iff_ne, Bool.and_eq_false_iff, ne_eq]
    refine ⟨h2, h4, ?_⟩
    by_cases hz : j + 1 = i
    · exact Or.inr (h3 hz)
    · exact Or.inl hz
theorem gPre_blind {M : gM} {ad : Nat → Nat} {av0 : List Value} {base : Nat} {D : va_G} {E : Nat → ClassId} {st av : Nat → Nat} {L : List Nat} {f : Nat → va_E} : FrameBlind (va_Pc av0 (gPreS M base D E st av L f ad)) := by
  intro a U g mk q
  obtain ⟨q0, ⟨q1, qP, qD, qK, qJ⟩, qS⟩ := q
  exact ⟨q0, ⟨q1, qP, qD, va_K.moved (u := U) (U := U.calling g mk a) (Vm.Alike.refl U.vm) qK, gJ.same (s := U) rfl qJ⟩, fun b L xs hb => ⟨(qS b L xs hb).1, va_X.moved (u := U) (U := U.calling g mk a) (Vm.Alike.refl U.vm) (qS b L xs hb).2.1, (qS b L xs hb).2.2⟩⟩
/-- the locals at a method's entry -/
def gEn : List Value → List (Option Value)
  | [] => []
  | .long x :: r => some (.long x) :: none :: gEn r
  | .double x :: r => some (.double x) :: none :: gEn r
  | v :: r => some v :: gEn r
theorem gEn_at (ad : Nat → Nat) : ∀ (vs : List Value) (k : Nat), ∀ (j : Nat) (v : Value), (gEn vs)[j]? = some (some v) → (k + j, tv ad v) ∈ lv_args k (vs.map (tv ad)) := by
  intro vs
  induction vs with
  | nil => intro k j v h; simp [gEn] at h
  | cons x r ih =>
    intro k j v h
    have one : (tv ad x).category ≠ 2 → (some x :: gEn r)[j]? = some (some v) → (k + j, tv ad v) ∈ lv_args k ((x :: r).map (tv ad)) := by
      intro hc h
      match j, h with
      | 0, h => simp at h; subst h; exact List.mem_cons_self
      | j + 1, h =>
        rw [List.getElem?_cons_succ] at h
        refine List.mem_cons_of_mem _ ?_
        rw [if_neg hc, show k + (j + 1) = k + 1 + j by omega]
        exact ih (k + 1) j v h
    have two : (tv ad x).category = 2 → (some x :: none :: gEn r)[j]? = some (some v) → (k + j, tv ad v) ∈ lv_args k ((x :: r).map (tv ad)) := by
      intro hc h
      match j, h with
      | 0, h => simp at h; subst h; exact List.mem_cons_self
      | 1, h => simp at h
      | j + 2, h =>
        rw [List.getElem?_cons_succ, List.getElem?_cons_succ] at h
        refine List.mem_cons_of_mem _ ?_
        rw [if_pos hc, show k + (j + 2) = k + 2 + j by omega]
        exact ih (k + 2) j v h
    cases x with
    | long x => exact two rfl h
    | double x => exact two rfl h
    | int x => exact one (by simp [tv, Value.category]) h
    | float x => exact one (by simp [tv, Value.category]) h
    | null => exact one (by simp [tv, Value.category]) h
    | ref x => exact one (by simp [tv, Value.category]) h
    | retAddr x => exact one (by simp [tv, Value.category]) h
theorem lg_sl_tv (ad : Nat → Nat) (vs : List Value) : (lg_sl (vs.map (tv ad))).length = (lg_sl vs).length := by
  induction vs with
  | nil => rfl
  | cons v r ih => cases v <;> simp [lg_sl, tv, Value.category] at ih ⊢ <;> omega
theorem gEn_len (vs : List Value) : (lg_sl vs).length = (gEn vs).length := by
  induction vs with
  | nil => rfl
  | cons v r ih => cases v <;> simp [lg_sl, gEn, Value.category] at ih ⊢ <;> omega
theorem gLv_entry {vs : List Value} {n : Nat} {ad : Nat → Nat} {lsA : Array Slot} (hn : (gEn vs).length ≤ n) (hl : lv_has lsA n (lv_args 0 (vs.map (tv ad)))) : gLv lsA n ad (gEn vs ++ List.replicate (n - (gEn vs).length) none) := by
  refine gLv.of (by simp; omega) hl (fun i v h => ?_)
  by_cases hi : i < (gEn vs).length
  · rw [List.getElem?_append_left hi] at h
    have := gEn_at ad vs 0 i v h
    rwa [Nat.zero_add] at this
  · rw [List.getElem?_append_right (by omega), List.getElem?_replicate] at h
    split at h <;> cases h
/-- a contract out of a walk from the entry -/
theorem gCt_of {M : gM} {d mc ms : Nat} {vs : List Value} {h : gH} {Q : Option Value → gH → Prop} {QX : String → gH → Prop} {ls : List (Option Value)} (hy : plainName (mY M).cls = true) (hT : mT M = []) (hS : mN M = mN M) (hn : (gEn vs).length ≤ mN M) (hls : gEn vs ++ List.replicate (mN M - (gEn vs).length) none = ls)
    (k : G M d mc ms h Q QX 0 0 0 ls [] h) : gCt M d mc ms vs h Q QX := by
  intro l hst base D E st av L f ad hR hst2
  refine vx_ofW (cc := mC M) (maxL := mN M) (ret := mR M) (ws' := gG) hy (by unfold gws gCode; rw [hT]) ?_
  intro p e s m args below meth c s₁ B hml htab hv
  obtain ⟨rfl, ⟨hbase, hP, hD, hK, hJ⟩, hsc⟩ := hv
  have hl := lv_entry (vs.map (tv ad)) (n := mN M) (by rw [lg_sl_tv, gEn_len]; exact hn)
  have hts := atoms_spec (ws := gws M) B.pre
  have ht : c.exceptionTable.toList = tableOf (mT M) := by
    rw [hT]
    cases hc : c.exceptionTable.toList with
    | nil => rfl
    | cons x r => exact absurd (htab x (by rw [hc]; exact List.mem_cons_self)) id
  rw [lg_entry_eq]
  subst hls
  exact k p l e s m _ below meth c base D E st av L f ad s.heap [] _ L f ad ⟨B.exec, B.bytes, B.returns, hml, findClass_of_methodNamed B.named, fun w hw => hts w (List.mem_cons_of_mem _ hw), B.notSynchronized, (name_of_methodNamed B.named B.method).1, ht, hst⟩ ⟨hJ, hbase, hK, va_S.rf, hP, hD, hR, hst2, gFr.rf, hsc⟩ (gLv_entry hn hl)
/-- .. of a method with handlers -/
theorem gCt_ofH {M : gM} {d mc ms : Nat} {vs : List Value} {h : gH} {Q : Option Value → gH → Prop} {QX : String → gH → Prop} {ls : List (Option Value)} {x0 : Nat × Nat × Nat × Nat} {r0 : List (Nat × Nat × Nat × Nat)} (hy : plainName (mY M).cls = true) (hT : mT M = x0 :: r0) (hS : mN M = mN M) (hn : (gEn vs).length ≤ mN M) (hls : gEn vs ++ List.replicate (mN M - (gEn vs).length) none = ls)
    (k : G M d mc ms h Q QX 0 0 0 ls [] h) : gCt M d mc ms vs h Q QX := by
  intro l hst base D E st av L f ad hR hst2
  refine vx_ofWH (cc := mC M) (maxL := mN M) (ret := mR M) (hh := mT M) (ws' := gG) hy (by unfold gws gCode; rw [hT]) ?_
  intro p e s m args below meth c s₁ B hml hv
  obtain ⟨rfl, ⟨hbase, hP, hD, hK, hJ⟩, hsc⟩ := hv
  have hl := lv_entry (vs.map (tv ad)) (n := mN M) (by rw [lg_sl_tv, gEn_len]; exact hn)
  have hts := atoms_spec (ws := gws M) B.pre
  have ht : c.exceptionTable.toList = tableOf (mT M) := by
    have h9 := hts (gCode M) List.mem_cons_self
    unfold gCode at h9
    rw [hT] at h9 ⊢
    exact vx_table (x := mY M) (y := mY M) B h9
  rw [lg_entry_eq]
  subst hls
  exact k p l e s m _ below meth c base D E st av L f ad s.heap [] _ L f ad ⟨B.exec, B.bytes, B.returns, hml, findClass_of_methodNamed B.named, fun w hw => hts w (List.mem_cons_of_mem _ hw), B.notSynchronized, (name_of_methodNamed B.named B.method).1, ht, hst⟩ ⟨hJ, hbase, hK, va_S.rf, hP, hD, hR, hst2, gFr.rf, hsc⟩ (gLv_entry hn hl)
/-! ### the world's steps -/
theorem gGet {L : List Nat} {f : Nat → va_E} {a : Nat} (h : a ∈ L) : ∃ k : Nat, (va_pl L f)[k]? = some (a, f a) := va_pl_get (X := []) h
section GW
variable {M : gM} {base : Nat} {D : va_G} {E : Nat → ClassId} {st av : Nat → Nat} {s : State} {h0 : gH} {L0 : List Nat} {f0 : Nat → va_E} {ad0 : Nat → Nat} {H : Heap} {locs : List Loc} {L : List Nat} {f : Nat → va_E} {ad : Nat → Nat} {h : gH}
theorem gWd.at (w : gWd M base D E st av s h0 L0 f0 ad0 H locs L f ad h) {k : Nat} {c : gC} (hk : h[k]? = some (some c)) : ∃ q : Nat, (va_pl L f)[q]? = some (ad k, tc E ad c) := by
  obtain ⟨-, -, -, -, -, -, hR, -, -⟩ := w
  obtain ⟨h1, h2⟩ := hR.1 k c hk
  obtain ⟨q, hq⟩ := gGet (f := f) h1
  exact ⟨q, by rw [hq, h2]⟩
/-- a cell is written -/
theorem gWd.set (w : gWd M base D E st av s h0 L0 f0 ad0 H locs L f ad h) {k q : Nat} {c c' : gC} (hk : h[k]? = some (some c)) (hq : (va_pl L f)[q]? = some (ad k, tc E ad c)) {H1 : Heap} {locs1 : List Loc}
    (hP1 : va_P D vwCl ((va_pl L f).set q (ad k, tc E ad c')) H1) (hD1 : va_D (gA base) ((va_pl L f).set q (ad k, tc E ad c'))) (hS1 : va_S (gA base) s.heap H1 locs1) :
    gWd M base D E st av s h0 L0 f0 ad0 H1 locs1 L (va_up f (ad k) (tc E ad c')) ad (h.set k (some c')) := by
  obtain ⟨hJ, hb, hK, hS, hP, hD, hR, hst, hF, hsc⟩ := w
  obtain ⟨h1, h2⟩ := hR.1 k c hk
  have hq' : ([] ++ va_pl L f)[q]? = some (ad k, f (ad k)) := by rw [h2]; exact hq
  have e := va_pl_set (X := []) (e := tc E ad c') hD h1 hq'
  have e : (va_pl L f).set q (ad k, tc E ad c') = va_pl L (va_up f (ad k) (tc E ad c')) := e
  rw [e] at hP1 hD1
  have hlt : k < h.length := (List.getElem?_eq_some_iff.mp hk).1
  refine ⟨hJ, hb, hK, hS1, hP1, hD1, ⟨fun j cj hj => ?_, fun i j ci cj hi hj hij => ?_⟩, hst, ?_⟩
  · by_cases hjk : j = k
    · subst hjk
      rw [List.getElem?_set_self hlt] at hj
      cases hj
      exact ⟨h1, va_up_self _ _ _⟩
    · rw [List.getElem?_set_ne (fun z => hjk z.symm)] at hj
      obtain ⟨g1, g2⟩ := hR.1 j cj hj
      refine ⟨g1, ?_⟩
      rw [va_up_ne _ _ (fun z => hjk (hR.2 j k cj c hj hk z))]
      exact g2
  · have back : ∀ (j : Nat) (cj : gC), (h.set k (some c'))[j]? = some (some cj) → ∃ c9, h[j]? = some (some c9) := by
      intro j cj hj
      by_cases hjk : j = k
      · subst hjk; exact ⟨c, hk⟩
      · rw [List.getElem?_set_ne (fun z => hjk z.symm)] at hj
        exact ⟨cj, hj⟩
    obtain ⟨c1, hc1⟩ := back i ci hi
    obtain ⟨c2, hc2⟩ := back j cj hj
    exact hR.2 i j c1 c2 hc1 hc2 hij
  · refine ⟨?_, hsc⟩
    obtain ⟨a1, a2, a3, a4, a5, a6⟩ := hF
    refine ⟨a1, a2, fun a ha hn => ?_, fun j cj hj0 hj => ?_, by rw [List.length_set]; exact a5, fun j cj hj0 hj => ?_⟩
    · rw [va_up_ne _ _ (fun z => ?_)]
      · exact a3 a ha hn
      · cases h9 : h0[k]? with
        | none =>
          have := List.getElem?_eq_none_iff.mp h9
          omega
        | some o =>
          cases o with
          | none => exact a4 k c h9 hk (z ▸ ha)
          | some c9 => exact hn k c9 h9 (by rw [← a1 k (by rw [h9]; intro z9; cases z9)]; exact z.symm)
    · by_cases hjk : j = k
      · subst hjk; exact a4 j c hj0 hk
      · rw [List.getElem?_set_ne (fun z => hjk z.symm)] at hj
        exact a4 j cj hj0 hj
    · by_cases hjk : j = k
      · subst hjk
        rw [List.getElem?_set_self hlt] at hj
        cases hj
      · rw [List.getElem?_set_ne (fun z => hjk z.symm)] at hj
        exact a6 j cj hj0 hj
end GW
