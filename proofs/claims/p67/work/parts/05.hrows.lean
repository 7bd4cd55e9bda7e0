/-! the rows of the layer that touch cells -/
section GHROWS
variable {M : gM} {d mc ms : Nat} {h0 : gH} {Q : Option Value → gH → Prop} {QX : String → gH → Prop} {c n pc : Nat} {ls : List (Option Value)} {sk : List Value} {h : gH}
theorem g_get {ci k0 idx a : Nat} {fs : List Value} {v : Value} (hd : decode (mC M) pc = .ok (.getfield idx, 3)) (hf : gFok (mY M).cls idx ci k0) (hp : h[a]? = some (some (.inl (ci, fs)))) (hv : fs[k0]? = some v)
    (k : G M d mc ms h0 Q QX c n (pc + 3) ls (v :: sk) h) : G M d mc ms h0 Q QX c n pc ls (.ref a :: sk) h := by
  intro p l e s m args below meth cd base D E st av L0 f0 ad0 H locs lsA L f ad X w hl
  obtain ⟨C, T, N, hc, hk, hw⟩ := hf
  obtain ⟨q, hq⟩ := w.at hp
  exact va_get (D := D) (cl := vwCl) (C := C) (T := T) (N := N) (ref := (T k0).1) X.1 X.2.1 X.2.2.2.2.2.1 (gCls ci _ hc).1 X.2.2.2.2.1 w.2.2.1 w.2.2.2.2.1 q hq hc k0 hk (X.2.2.2.2.2.1 _ hw) (fun x hx => hx) (v := tv ad v) (by rw [List.getElem?_map, hv]; rfl) hd (k p l e s m args below meth cd base D E st av L0 f0 ad0 H locs lsA L f ad X w hl)
/-- the value fits the field's type -/
def gFit (ci k : Nat) (v : Value) : Prop := ∃ r ty, vwCl[ci]? = some r ∧ parseFieldDescriptor (r.2.1 k).2.2.1 = some ty ∧ narrow ty v = v ∧ fits ty v = true ∧ ∀ ad, narrow ty (tv ad v) = tv ad v ∧ fits ty (tv ad v) = true
theorem g_put {ci k0 idx a : Nat} {fs : List Value} {v : Value} (hd : decode (mC M) pc = .ok (.putfield idx, 3)) (hf : gFok (mY M).cls idx ci k0) (hfin : ∀ r, vwCl[ci]? = some r → (r.2.1 k0).2.2.2 = true → (mY M).name = "<init>" ∧ (mY M).cls = (r.2.1 k0).1) (hp : h[a]? = some (some (.inl (ci, fs)))) (hfit : gFit ci k0 v) (hl9 : k0 < fs.length)
    (k : G M d mc ms h0 Q QX c n (pc + 3) ls sk (h.set a (some (.inl (ci, fs.set k0 v))))) : G M d mc ms h0 Q QX c n pc ls (v :: .ref a :: sk) h := by
  intro p l e s m args below meth cd base D E st av L0 f0 ad0 H locs lsA L f ad X w hl
  obtain ⟨C, T, N, hc, hk, hw⟩ := hf
  obtain ⟨r, ty, hr, hty, -, -, had⟩ := hfit
  cases hc.symm.trans hr
  obtain ⟨q, hq⟩ := w.at hp
  obtain ⟨g1, ⟨ty0, g2⟩, g3⟩ := gCls ci _ hc
  have hlen : k0 < (fs.map (tv ad)).length := by rw [List.length_map]; exact hl9
  have hset : (fs.map (tv ad)).set k0 (tv ad v) = (fs.set k0 v).map (tv ad) := by rw [List.map_set]
  cases hb : (T k0).2.2.2 with
  | false =>
    refine va_put (D := D) (cl := vwCl) (C := C) (T := T) (N := N) (ref := (T k0).1) X.1 X.2.1 X.2.2.2.2.2.1 g1 ty0 g2 g3 X.2.2.2.2.1 w.2.2.1 w.2.2.2.2.1 w.2.2.2.2.2.1 w.2.2.2.1 q hq hc k0 hk (X.2.2.2.2.2.1 _ hw) (fun x hx => hx) hb hty (had ad).1 (had ad).2 hlen hd (fun H1 locs1 hP1 hD1 hS1 => ?_)
    rw [hset] at hP1 hD1
    exact k p l e s m args below meth cd base D E st av L0 f0 ad0 H1 locs1 lsA L _ ad X (w.set hp hq hP1 hD1 hS1) hl
  | true =>
    obtain ⟨e1, e2⟩ := hfin _ hc hb
    refine va_putF (D := D) (cl := vwCl) (C := C) (T := T) (N := N) (ref := (T k0).1) (own := (mY M).cls) X.1 X.2.1 X.2.2.2.2.2.1 g1 ty0 g2 g3 X.2.2.2.2.1 w.2.2.1 w.2.2.2.2.1 w.2.2.2.2.2.1 w.2.2.2.1 q hq hc k0 hk (X.2.2.2.2.2.1 _ hw) (fun x hx => hx) hb (by rw [X.2.2.2.2.2.2.2.1]; exact e1) e2.symm hty (had ad).1 (had ad).2 hlen hd (fun H1 locs1 hP1 hD1 hS1 => ?_)
    rw [hset] at hP1 hD1
    exact k p l e s m args below meth cd base D E st av L0 f0 ad0 H1 locs1 lsA L _ ad X (w.set hp hq hP1 hD1 hS1) hl
theorem g_iald {a : Nat} {l0 : List Int32} {i : Int32} (hd : decode (mC M) pc = .ok (.iaload, 1)) (hp : h[a]? = some (some (.inr (.inl (0, l0))))) (hi : vp_in i l0.length)
    (k : G M d mc ms h0 Q QX c n (pc + 1) ls (.int (l0.getD i.toNatClampNeg 0) :: sk) h) : G M d mc ms h0 Q QX c n pc ls (.int i :: .ref a :: sk) h := by
  intro p l e s m args below meth cd base D E st av L0 f0 ad0 H locs lsA L f ad X w hl
  obtain ⟨q, hq⟩ := w.at hp
  exact va_iald (D := D) (cl := vwCl) (tys := gTys E) X.1 X.2.1 w.2.2.1 w.2.2.2.2.1 q 0 hq rfl hi hd (k p l e s m args below meth cd base D E st av L0 f0 ad0 H locs lsA L f ad X w hl)
theorem g_bald {a : Nat} {l0 : List Int32} {i : Int32} (hd : decode (mC M) pc = .ok (.baload, 1)) (hp : h[a]? = some (some (.inr (.inl (1, l0))))) (hi : vp_in i l0.length)
    (k : G M d mc ms h0 Q QX c n (pc + 1) ls (.int (l0.getD i.toNatClampNeg 0) :: sk) h) : G M d mc ms h0 Q QX c n pc ls (.int i :: .ref a :: sk) h := by
  intro p l e s m args below meth cd base D E st av L0 f0 ad0 H locs lsA L f ad X w hl
  obtain ⟨q, hq⟩ := w.at hp
  exact va_bald (D := D) (cl := vwCl) (tys := gTys E) X.1 X.2.1 w.2.2.1 w.2.2.2.2.1 q 1 hq rfl hi hd (k p l e s m args below meth cd base D E st av L0 f0 ad0 H locs lsA L f ad X w hl)
def gRf (o : Option Nat) : Value := match o with
  | none => .null
  | some a => .ref a
theorem g_aald {a : Nat} {l0 : List (Option Nat)} {i : Int32} (hd : decode (mC M) pc = .ok (.aaload, 1)) (hp : h[a]? = some (some (.inr (.inr (.inl l0))))) (hi : vp_in i l0.length)
    (k : G M d mc ms h0 Q QX c n (pc + 1) ls (gRf (l0.getD i.toNatClampNeg none) :: sk) h) : G M d mc ms h0 Q QX c n pc ls (.int i :: .ref a :: sk) h := by
  intro p l e s m args below meth cd base D E st av L0 f0 ad0 H locs lsA L f ad X w hl
  obtain ⟨q, hq⟩ := w.at hp
  refine va_aldq (D := D) (cl := vwCl) (tys := gTys E) X.1 X.2.1 w.2.2.1 w.2.2.2.2.1 q 2 hq rfl hi hd ?_
  have e9 : va_rf ((l0.getD i.toNatClampNeg none).map ad) = tv ad (gRf (l0.getD i.toNatClampNeg none)) := by
    cases l0.getD i.toNatClampNeg none <;> rfl
  rw [e9]
  exact k p l e s m args below meth cd base D E st av L0 f0 ad0 H locs lsA L f ad X w hl
theorem g_aaldA {a : Nat} {l0 : List (Option Nat)} {i : Int32} (hd : decode (mC M) pc = .ok (.aaload, 1)) (hp : h[a]? = some (some (.inr (.inr (.inr l0))))) (hi : vp_in i l0.length)
    (k : G M d mc ms h0 Q QX c n (pc + 1) ls (gRf (l0.getD i.toNatClampNeg none) :: sk) h) : G M d mc ms h0 Q QX c n pc ls (.int i :: .ref a :: sk) h := by
  intro p l e s m args below meth cd base D E st av L0 f0 ad0 H locs lsA L f ad X w hl
  obtain ⟨q, hq⟩ := w.at hp
  have hlt : i.toNatClampNeg < l0.length := Nat.not_le.mp fun q => hi (Or.inr q)
  have e9 : va_rf ((l0.getD i.toNatClampNeg none).map ad) = tv ad (gRf (l0.getD i.toNatClampNeg none)) := by
    cases l0.getD i.toNatClampNeg none <;> rfl
  refine W.aald (v := va_rf ((l0.getD i.toNatClampNeg none).map ad)) (ty := .array .int) X.1 X.2.1 (w.2.2.2.2.1 q _ hq) ((w.2.2.1.2 3 _ rfl).1 l0.length (fun j => va_rf ((l0.getD j none).map ad))) rfl (fun q => by cases q) (by show ¬ (i < 0 ∨ (arrV _ _ _).slots.size ≤ _); rw [arrV_size]; exact hi) (by show (arrV _ _ _).slots[_]? = _; rw [arrV_read _ _ hlt]) rfl rfl hd ?_
  rw [e9]
  exact k p l e s m args below meth cd base D E st av L0 f0 ad0 H locs lsA L f ad X w hl
theorem gUpd {α : Type} (l0 : List α) (z : α) (i : Nat) (x : α) (hi : i < l0.length) : (fun j => if j = i then x else l0.getD j z) = fun j => (l0.set i x).getD j z := by
  funext j
  by_cases hj : j = i
  · subst hj
    rw [if_pos rfl, List.getD_eq_getElem?_getD, List.getElem?_set_self hi]; rfl
  · rw [if_neg hj, List.getD_eq_getElem?_getD, List.getD_eq_getElem?_getD, List.getElem?_set_ne (fun z => hj z.symm)]
theorem gIn_lt {i : Int32} {n : Nat} (h : vp_in i n) : i.toNatClampNeg < n := Nat.not_le.mp fun q => h (Or.inr q)
theorem g_iast {a : Nat} {l0 : List Int32} {i x : Int32} (hd : decode (mC M) pc = .ok (.iastore, 1)) (hp : h[a]? = some (some (.inr (.inl (0, l0))))) (hi : vp_in i l0.length)
    (k : G M d mc ms h0 Q QX c n (pc + 1) ls sk (h.set a (some (.inr (.inl (0, l0.set i.toNatClampNeg x)))))) : G M d mc ms h0 Q QX c n pc ls (.int x :: .int i :: .ref a :: sk) h := by
  intro p l e s m args below meth cd base D E st av L0 f0 ad0 H locs lsA L f ad X w hl
  obtain ⟨q, hq⟩ := w.at hp
  refine va_iast (D := D) (cl := vwCl) (tys := gTys E) X.1 X.2.1 w.2.2.1 w.2.2.2.2.1 w.2.2.2.2.2.1 w.2.2.2.1 q 0 hq rfl hi hd (fun H1 locs1 hP1 hD1 hS1 => ?_)
  have e9 : (.inl (E 0, l0.length, .inl (upd (fun j => l0.getD j 0) i.toNatClampNeg x)) : va_E) = tc E ad (.inr (.inl (0, l0.set i.toNatClampNeg x))) := by
    show _ = (.inl (E 0, (l0.set i.toNatClampNeg x).length, .inl (fun j => (l0.set i.toNatClampNeg x).getD j 0)) : va_E)
    rw [List.length_set, ← gUpd l0 0 _ x (gIn_lt hi)]
    rfl
  rw [e9] at hP1 hD1
  exact k p l e s m args below meth cd base D E st av L0 f0 ad0 H1 locs1 lsA L _ ad X (w.set hp hq hP1 hD1 hS1) hl
theorem g_bast {a : Nat} {l0 : List Int32} {i x : Int32} (hd : decode (mC M) pc = .ok (.bastore, 1)) (hp : h[a]? = some (some (.inr (.inl (1, l0))))) (hi : vp_in i l0.length)
    (k : G M d mc ms h0 Q QX c n (pc + 1) ls sk (h.set a (some (.inr (.inl (1, l0.set i.toNatClampNeg x.toInt8.toInt32)))))) : G M d mc ms h0 Q QX c n pc ls (.int x :: .int i :: .ref a :: sk) h := by
  intro p l e s m args below meth cd base D E st av L0 f0 ad0 H locs lsA L f ad X w hl
  obtain ⟨q, hq⟩ := w.at hp
  refine va_bast (D := D) (cl := vwCl) (tys := gTys E) X.1 X.2.1 w.2.2.1 w.2.2.2.2.1 w.2.2.2.2.2.1 w.2.2.2.1 q 1 hq rfl hi hd (fun H1 locs1 hP1 hD1 hS1 => ?_)
  have e9 : (.inl (E 1, l0.length, .inl (upd (fun j => l0.getD j 0) i.toNatClampNeg (vp_nar .byte x))) : va_E) = tc E ad (.inr (.inl (1, l0.set i.toNatClampNeg x.toInt8.toInt32))) := by
    show _ = (.inl (E 1, (l0.set i.toNatClampNeg x.toInt8.toInt32).length, .inl (fun j => (l0.set i.toNatClampNeg x.toInt8.toInt32).getD j 0)) : va_E)
    rw [List.length_set, ← gUpd l0 0 _ _ (gIn_lt hi), vp_nar_byte]
    rfl
  rw [e9] at hP1 hD1
  exact k p l e s m args below meth cd base D E st av L0 f0 ad0 H1 locs1 lsA L _ ad X (w.set hp hq hP1 hD1 hS1) hl
theorem g_aast {a v : Nat} {l0 : List (Option Nat)} {fs : List Value} {i : Int32} (hd : decode (mC M) pc = .ok (.aastore, 1)) (hp : h[a]? = some (some (.inr (.inr (.inl l0))))) (hv : h[v]? = some (some (.inl (3, fs)))) (hi : vp_in i l0.length)
    (k : G M d mc ms h0 Q QX c n (pc + 1) ls sk (h.set a (some (.inr (.inr (.inl (l0.set i.toNatClampNeg (some v)))))))) : G M d mc ms h0 Q QX c n pc ls (.ref v :: .int i :: .ref a :: sk) h := by
  intro p l e s m args below meth cd base D E st av L0 f0 ad0 H locs lsA L f ad X w hl
  obtain ⟨q, hq⟩ := w.at hp
  obtain ⟨q2, hq2⟩ := w.at hv
  refine va_astq (D := D) (cl := vwCl) (tys := gTys E) X.1 X.2.1 w.2.2.1 w.2.2.2.2.1 w.2.2.2.2.2.1 w.2.2.2.1 q 2 q2 3 hq rfl hq2 rfl hi hd (fun H1 locs1 hP1 hD1 hS1 => ?_)
  have e9 : (.inl (E 2, l0.length, .inr (.inr (.inr (.inr (va_up (fun j => (l0.getD j none).map ad) i.toNatClampNeg (some (ad v))))))) : va_E) = tc E ad (.inr (.inr (.inl (l0.set i.toNatClampNeg (some v))))) := by
    show _ = (.inl (E 2, (l0.set i.toNatClampNeg (some v)).length, .inr (.inr (.inr (.inr (fun j => ((l0.set i.toNatClampNeg (some v)).getD j none).map ad))))) : va_E)
    rw [List.length_set]
    congr 7
    funext j
    have e8 := congrFun (gUpd l0 none i.toNatClampNeg (some v) (gIn_lt hi)) j
    simp only [va_up] at e8 ⊢
    rw [← e8]
    split <;> rfl
  rw [e9] at hP1 hD1
  exact k p l e s m args below meth cd base D E st av L0 f0 ad0 H1 locs1 lsA L _ ad X (w.set hp hq hP1 hD1 hS1) hl
/-! the script -/
theorem g_sld {b L0' : Nat} {xs : Nat → Int32} {i : Int32} (hd : decode (mC M) pc = .ok (.iaload, 1)) (hS : mS M = some (b, L0', xs)) (hi : vp_in i L0')
    (k : G M d mc ms h0 Q QX c n (pc + 1) ls (.int (xs i.toNatClampNeg) :: sk) h) : G M d mc ms h0 Q QX c n pc ls (.int i :: .ref 2000 :: sk) h := by
  intro p l e s m args below meth cd base D E st av L0 f0 ad0 H locs lsA L f ad X w hl
  obtain ⟨e1, e2, e3, e4⟩ := w.2.2.2.2.2.2.2.2.2 b L0' xs hS
  have k' := k p l e s m args below meth cd base D E st av L0 f0 ad0 H locs lsA L f ad X w hl
  show W p l e (grm d mc ms) s m args below meth cd H locs c n _ (F0 m pc lsA (.int i :: .ref (ad 2000) :: sk.map (tv ad)))
  rw [e1]
  exact va_sld X.1 X.2.1 e2 e3 e4 w.2.2.2.1 hi hd k'
theorem g_slen {b L0' : Nat} {xs : Nat → Int32} (hd : decode (mC M) pc = .ok (.arraylength, 1)) (hS : mS M = some (b, L0', xs))
    (k : G M d mc ms h0 Q QX c n (pc + 1) ls (.int (Int32.ofNat L0') :: sk) h) : G M d mc ms h0 Q QX c n pc ls (.ref 2000 :: sk) h := by
  intro p l e s m args below meth cd base D E st av L0 f0 ad0 H locs lsA L f ad X w hl
  obtain ⟨e1, e2, e3, e4⟩ := w.2.2.2.2.2.2.2.2.2 b L0' xs hS
  have k' := k p l e s m args below meth cd base D E st av L0 f0 ad0 H locs lsA L f ad X w hl
  show W p l e (grm d mc ms) s m args below meth cd H locs c n _ (F0 m pc lsA (.ref (ad 2000) :: sk.map (tv ad)))
  rw [e1]
  exact va_slen X.1 X.2.1 e2 e3 e4 w.2.2.2.1 hd k'
/-! constants -/
theorem g_ldc {idx : Nat} {v : Int32} (hd : decode (mC M) pc = .ok (.ldc idx, 2)) (hc : ((mY M).cls, idx, v) ∈ gCI) (k : G M d mc ms h0 Q QX c n (pc + 2) ls (.int v :: sk) h) : G M d mc ms h0 Q QX c n pc ls sk h := by
  intro p l e s m args below meth cd base D E st av L0 f0 ad0 H locs lsA L f ad X w hl
  exact lv_ldc X.1 X.2.1 X.2.2.2.2.1 (X.2.2.2.2.2.1 _ (gCI_ok _ hc)) hd (k p l e s m args below meth cd base D E st av L0 f0 ad0 H locs lsA L f ad X w hl)
theorem g_ldcw {idx : Nat} {v : Int32} (hd : decode (mC M) pc = .ok (.ldc_w idx, 3)) (hc : ((mY M).cls, idx, v) ∈ gCI) (k : G M d mc ms h0 Q QX c n (pc + 3) ls (.int v :: sk) h) : G M d mc ms h0 Q QX c n pc ls sk h := by
  intro p l e s m args below meth cd base D E st av L0 f0 ad0 H locs lsA L f ad X w hl
  exact lv_ldcw X.1 X.2.1 X.2.2.2.2.1 (X.2.2.2.2.2.1 _ (gCI_ok _ hc)) hd (k p l e s m args below meth cd base D E st av L0 f0 ad0 H locs lsA L f ad X w hl)
theorem g_ldc2 {idx : Nat} {v : Int64} (hd : decode (mC M) pc = .ok (.ldc2_w idx, 3)) (hc : ((mY M).cls, idx, v) ∈ gCL) (k : G M d mc ms h0 Q QX c n (pc + 3) ls (.long v :: sk) h) : G M d mc ms h0 Q QX c n pc ls sk h := by
  intro p l e s m args below meth cd base D E st av L0 f0 ad0 H locs lsA L f ad X w hl
  exact lv_ldc2 X.1 X.2.1 X.2.2.2.2.1 (X.2.2.2.2.2.1 _ (gCL_ok _ hc)) hd (k p l e s m args below meth cd base D E st av L0 f0 ad0 H locs lsA L f ad X w hl)
theorem g_ldcs {idx i : Nat} {t : String × Nat × String × List Int32} (hd : decode (mC M) pc = .ok (.ldc idx, 2)) (hc : gStr[i]? = some t) (h1 : t.1 = (mY M).cls) (h2 : t.2.1 = idx) (k : G M d mc ms h0 Q QX c n (pc + 2) ls (.ref (1000 + i) :: sk) h) : G M d mc ms h0 Q QX c n pc ls sk h := by
  intro p l e s m args below meth cd base D E st av L0 f0 ad0 H locs lsA L f ad X w hl
  have k' := k p l e s m args below meth cd base D E st av L0 f0 ad0 H locs lsA L f ad X w hl
  have k' : W p l e (grm d mc ms) s m args below meth cd H locs c n _ (F0 m (pc + 2) lsA (.ref (ad (1000 + i)) :: sk.map (tv ad))) := k'
  rw [w.2.2.2.2.2.2.2.1 i] at k'
  have hz := (w.1.2.2.2.2.2.2.2.2.2 i t hc).1
  rw [h1, h2] at hz
  exact va_ldcS X.1 X.2.1 X.2.2.2.2.1 hz hd k'
/-! ends -/
theorem g_end (hq9 : c ≤ mc) (hn9 : n ≤ ms) {p : Program} {l : Launch} {e : Env} {s : State} {m : MethodId} {args : Array Value} {below : List Frame} {meth : Method} {cd : Code} {H : Heap} {locs : List Loc} {Qc : Array Value → State → Outcome → State → Prop} {XC : String → State → State → Prop} {free : Addr → Prop} {R : Room} {g : JFrame}
    (k : W p l e R s m args below meth cd H locs mc ms (MQ below Qc args s mc ms free) g) : W p l e R s m args below meth cd H locs c n (vx_MQ below Qc XC args s mc ms free) g :=
  vx_ret (W.widen hq9 hn9 k)
theorem gWd.gB {M : gM} {base : Nat} {D : va_G} {E : Nat → ClassId} {st av : Nat → Nat} {s t : State} {h0 : gH} {L0 : List Nat} {f0 : Nat → va_E} {ad0 : Nat → Nat} {H : Heap} {locs : List Loc} {L : List Nat} {f : Nat → va_E} {ad : Nat → Nat} {h : gH} (w : gWd M base D E st av s h0 L0 f0 ad0 H locs L f ad h) (ht : t.heap = H) (hW : s.WarmedH t.vm) : gB base D E (h, L, f, ad) t :=
  ⟨w.2.2.2.2.2.2.1, by rw [ht]; exact w.2.2.2.2.1, w.2.2.2.2.2.1, va_K.moved hW.alike w.2.2.1⟩
theorem g_iret {v : Int32} (hd : decode (mC M) pc = .ok (.ireturn, 1)) (hr : mR M = some .int) (hc : c ≤ mc) (hn : n ≤ ms) (hQ : Q (some (.int v)) h) : G M d mc ms h0 Q QX c n pc ls [.int v] h := by
  intro p l e s m args below meth cd base D E st av L0 f0 ad0 H locs lsA L f ad X w hl
  refine g_end hc hn ?_
  rw [hr]
  exact W.iret (v := v) X.1 X.2.1 (X.2.2.1.trans hr) (fun t ht hW => ⟨⟨v, (h, L, f, ad), rfl, ⟨hQ, w.2.2.2.2.2.2.2.2.1⟩, w.gB ht hW⟩, w.2.2.2.1.F ht⟩) w.2.2.2.1.2.2 hd X.2.2.2.2.2.2.1
theorem g_zret {v : Int32} (hd : decode (mC M) pc = .ok (.ireturn, 1)) (hr : mR M = some .boolean) (hv : v = 0 ∨ v = 1) (hc : c ≤ mc) (hn : n ≤ ms) (hQ : Q (some (.int v)) h) : G M d mc ms h0 Q QX c n pc ls [.int v] h := by
  intro p l e s m args below meth cd base D E st av L0 f0 ad0 H locs lsA L f ad X w hl
  refine g_end hc hn ?_
  rw [hr]
  exact W.zret (v := v) (ty := .boolean) X.1 X.2.1 (X.2.2.1.trans hr) (by rcases hv with rfl | rfl <;> decide) (fun t ht hW => ⟨⟨v, (h, L, f, ad), rfl, ⟨hQ, w.2.2.2.2.2.2.2.2.1⟩, w.gB ht hW⟩, w.2.2.2.1.F ht⟩) w.2.2.2.1.2.2 hd X.2.2.2.2.2.2.1
theorem g_vret (hd : decode (mC M) pc = .ok (.return_, 1)) (hr : mR M = none) (hc : c ≤ mc) (hn : n ≤ ms) (hQ : Q none h) : G M d mc ms h0 Q QX c n pc ls [] h := by
  intro p l e s m args below meth cd base D E st av L0 f0 ad0 H locs lsA L f ad X w hl
  refine g_end hc hn ?_
  rw [hr]
  exact W.vret X.1 X.2.1 (X.2.2.1.trans hr) (fun t ht hW => ⟨⟨(h, L, f, ad), rfl, ⟨hQ, w.2.2.2.2.2.2.2.2.1⟩, w.gB ht hW⟩, w.2.2.2.1.F ht⟩) w.2.2.2.1.2.2 hd X.2.2.2.2.2.2.1
theorem g_lret {v : Int64} (hd : decode (mC M) pc = .ok (.lreturn, 1)) (hr : mR M = some .long) (hc : c ≤ mc) (hn : n ≤ ms) (hQ : Q (some (.long v)) h) : G M d mc ms h0 Q QX c n pc ls [.long v] h := by
  intro p l e s m args below meth cd base D E st av L0 f0 ad0 H locs lsA L f ad X w hl
  refine g_end hc hn ?_
  rw [hr]
  exact W.lret (v := v) X.1 X.2.1 (X.2.2.1.trans hr) (fun t ht hW => ⟨⟨v, (h, L, f, ad), rfl, ⟨hQ, w.2.2.2.2.2.2.2.2.1⟩, w.gB ht hW⟩, w.2.2.2.1.F ht⟩) w.2.2.2.1.2.2 hd X.2.2.2.2.2.2.1
theorem g_fret {v : UInt32} (hd : decode (mC M) pc = .ok (.freturn, 1)) (hr : mR M = some .float) (hc : c ≤ mc) (hn : n ≤ ms) (hQ : Q (some (.float v)) h) : G M d mc ms h0 Q QX c n pc ls [.float v] h := by
  intro p l e s m args below meth cd base D E st av L0 f0 ad0 H locs lsA L f ad X w hl
  refine g_end hc hn ?_
  rw [hr]
  exact W.fret (v := v) X.1 X.2.1 (X.2.2.1.trans hr) (fun t ht hW => ⟨⟨v, (h, L, f, ad), rfl, ⟨hQ, w.2.2.2.2.2.2.2.2.1⟩, w.gB ht hW⟩, w.2.2.2.1.F ht⟩) w.2.2.2.1.2.2 hd X.2.2.2.2.2.2.1
theorem g_dret {v : UInt64} (hd : decode (mC M) pc = .ok (.dreturn, 1)) (hr : mR M = some .double) (hc : c ≤ mc) (hn : n ≤ ms) (hQ : Q (some (.double v)) h) : G M d mc ms h0 Q QX c n pc ls [.double v] h := by
  intro p l e s m args below meth cd base D E st av L0 f0 ad0 H locs lsA L f ad X w hl
  refine g_end hc hn ?_
  rw [hr]
  exact W.dret (v := v) X.1 X.2.1 (X.2.2.1.trans hr) (fun t ht hW => ⟨⟨v, (h, L, f, ad), rfl, ⟨hQ, w.2.2.2.2.2.2.2.2.1⟩, w.gB ht hW⟩, w.2.2.2.1.F ht⟩) w.2.2.2.1.2.2 hd X.2.2.2.2.2.2.1
end GHROWS
