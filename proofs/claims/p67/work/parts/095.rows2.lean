/-! rows of this claim: answers that are references, static rows of the start, calls up, copies, arrays of arrays -/
section GR2
variable {M : gM} {d mc ms : Nat} {h0 : gH} {Q : Option Value → gH → Prop} {QX : String → gH → Prop} {c n pc : Nat} {ls : List (Option Value)} {sk : List Value} {h : gH}
def gRr (o : Option FieldType) : Bool := match o with
  | some (.array _) => true
  | some (.object _) => true
  | _ => false
theorem g_aret {k0 : Nat} (hd : decode (mC M) pc = .ok (.areturn, 1)) (hr : gRr (mR M) = true) (hk : k0 < h.length) (hc : c ≤ mc) (hn : n ≤ ms) (hQ : Q (some (.ref k0)) h) : G M d mc ms h0 Q QX c n pc ls [.ref k0] h := by
  intro p l e s m args below meth cd base D E st av L0 f0 ad0 H locs lsA L f ad X w hl
  refine g_end hc hn ?_
  have go : ∀ {rt : FieldType}, mR M = some rt → ((∃ n, rt = .object n) ∨ ∃ t, rt = .array t) → (gQc (some rt) base D E h0 L0 f0 ad0 Q = va_Qr (fun u : gU × Nat => (u.2 < u.1.1.length ∧ Q (some (.ref u.2)) u.1.1) ∧ gFu h0 L0 f0 ad0 u.1) (fun u a t => gB base D E u.1 t ∧ a = u.1.2.2.2 u.2) (gA base)) →
      W p l e (grm d mc ms) s m args below meth cd H locs mc ms (MQ below (gQc (mR M) base D E h0 L0 f0 ad0 Q) args s mc ms (gA base)) (F0 m pc lsA [.ref (ad k0)]) := by
    intro rt h1 h2 h3
    rw [h1, h3]
    exact W.aret (v := .ref (ad k0)) X.1 X.2.1 (X.2.2.1.trans h1) h2 (Or.inr ⟨_, rfl⟩) (fun t ht hW => ⟨⟨((h, L, f, ad), k0), ad k0, rfl, ⟨⟨hk, hQ⟩, w.2.2.2.2.2.2.2.2.1⟩, w.gB ht hW, rfl⟩, w.2.2.2.1.F ht⟩) w.2.2.2.1.2.2 hd X.2.2.2.2.2.2.1
  cases hR : mR M with
  | none => rw [hR] at hr; cases hr
  | some ty =>
    cases ty with
    | array t => rw [← hR]; exact go hR (Or.inr ⟨t, rfl⟩) rfl
    | object t => rw [← hR]; exact go hR (Or.inl ⟨t, rfl⟩) rfl
    | _ => rw [hR] at hr; cases hr
end GR2
section GR3
/-! calls of a static method of another class, of an inherited or private method of the superclass, of the superclass's own -/
def gLkT (own : String) (idx : Nat) (M' : gM) (na : Nat) : Prop :=
  (∀ w ∈ [Cond.methodLink own idx (mY M'), .static (mY M'), .initialized (mY M').cls, .code (mY M') (mC M') (mN M') (mR M')], w ∈ gG) ∧ mT M' = [] ∧ mN M' ≤ 17 ∧
  (mY M').cls ≠ "java/lang/invoke/MethodHandle" ∧ (mY M').cls ≠ "java/lang/invoke/VarHandle" ∧ (parseMethodDescriptor (mY M').desc).map (fun d => d.parameters.length) = some na
def gLkU (own : String) (idx : Nat) (C : String) (x : MethodName) (M' : gM) (na : Nat) : Prop :=
  (∀ w ∈ [Cond.methodLink own idx x, .sameMethod x.cls x.cls x.name x.desc, .instanceMethod x, .instanceMethod (mY M'), .initialized (mY M').cls, .code (mY M') (mC M') (mN M') (mR M')], w ∈ gG) ∧ (∃ b k r, Cond.code x b k r ∈ gG) ∧
  (Cond.selects C x (mY M') ∈ gG ∨ (x = mY M' ∧ C = "java/lang/StringBuilder" ∧ x ∈ gPrv)) ∧ mT M' = [] ∧ mN M' ≤ 17 ∧
  x.cls ≠ "java/lang/invoke/MethodHandle" ∧ x.cls ≠ "java/lang/invoke/VarHandle" ∧ (parseMethodDescriptor x.desc).map (fun d => d.parameters.length) = some na
def gLkP (own : String) (idx : Nat) (M' : gM) (na : Nat) : Prop :=
  (∀ w ∈ [Cond.methodLink own idx (mY M'), .sameMethod (mY M').cls (mY M').cls (mY M').name (mY M').desc, .superclass own (mY M').cls, .instanceMethod (mY M'), .initialized (mY M').cls, .code (mY M') (mC M') (mN M') (mR M')], w ∈ gG) ∧ mT M' = [] ∧ mN M' ≤ 17 ∧
  (mY M').name ≠ "<init>" ∧ (parseMethodDescriptor (mY M').desc).map (fun d => d.parameters.length) = some na
theorem g_selP {C : String} {y z : MethodName} {s : State} {args : Array Value} (hy : y.cls ≠ "java/lang/invoke/MethodHandle" ∧ y.cls ≠ "java/lang/invoke/VarHandle")
    (hz : z.cls = y.cls) (hsel0 : (Cond.selects C z z).before args s = true) (hpriv : (Cond.privateMethod y).before args s = true) (hinst : (Cond.instanceMethod y).before args s = true) : (Cond.selects C y y).before args s = true := by
  obtain ⟨mk, methM, hnamed, hmethM, -, -⟩ := Cond.instanceMethod_spec hinst
  have hfound : s.methodFound? y.cls y.name y.desc = some mk := State.methodFound?_of_named hnamed hy
  simp only [Cond.before, Cond.holds, Cond.value] at hsel0 ⊢
  cases hc : s.vm.findClass C with
  | none => rw [hc] at hsel0; cases hsel0
  | some c =>
    cases hf : s.methodFound? z.cls z.name z.desc with
    | none => rw [hc, hf] at hsel0; cases hsel0
    | some r =>
      cases hn : s.methodNamed? z with
      | none => rw [hc, hf, hn] at hsel0; cases hsel0
      | some m =>
        rw [hc, hf, hn] at hsel0
        have hcls : mk.cls = m.cls := Option.some.inj ((findClass_of_methodNamed hnamed).symm.trans (by rw [← hz]; exact findClass_of_methodNamed hn))
        have hsel : selectMethod {} s.vm c mk = .method mk := selectMethod_private hmethM (Cond.privateMethod_at hpriv mk methM hnamed hmethM)
        simp only [hfound, hnamed, hsel, hcls]
        simp only at hsel0
        revert hsel0
        cases selectMethod {} s.vm c r <;> simp
end GR3
section GCALL3
variable {M : gM} {d mc ms : Nat} {h0 : gH} {Q : Option Value → gH → Prop} {QX : String → gH → Prop} {c n pc : Nat} {ls : List (Option Value)} {h : gH}
theorem g_callT {M' : gM} {d' mc' ms' idx na : Nat} {vs rest sk : List Value} {h' : gH} {Q' : Option Value → gH → Prop} {QX' : String → gH → Prop} (ρ : List Nat)
    (hC : gCt M' d' mc' ms' vs h' Q' QX') (hd : decode (mC M) pc = .ok (.invokestatic idx, 3)) (hlk : gLkT (mY M).cls idx M' na) (hna : vs.length = na)
    (hsk : sk = (vs.map (tv (gRen ρ))).reverse ++ rest) (hs : gSub ρ h h') (hN : gNn ρ ls rest h h' Q' QX') (hT : mT M = []) (hdd : d' + 1 ≤ d) (hcat : (rest.map fun v => v.category).sum ≤ 8) (hc : c + mc' ≤ mc) (hn : n + ms' ≤ ms)
    (hX : ∀ X h1, QX' X h1 → QX X (gPb ρ ρ h1 h))
    (k : ∀ (v : Option Value) (h1 : gH), Q' v h1 → G M d mc ms h0 Q QX (c + mc') (n + ms') (pc + 3) ls ((v.map (tv (gRen ρ))).toList ++ rest) (gPb ρ ρ h1 h)) (hms : mS M' = none ∨ mS M' = mS M := by exact Or.inl rfl) : G M d mc ms h0 Q QX c n pc ls sk h := by
  intro p l e s m args below meth cd base D E st av L0 f0 ad0 H locs lsA L f ad X w hl
  obtain ⟨hw, hT', hN9, hy1, hy2, hy3⟩ := hlk
  obtain ⟨hsub, hstr⟩ := w.sub hs
  have hM := hC l X.2.2.2.2.2.2.2.2.2 base D E st av L f _ hsub hstr
  have hb : (sk.map (tv ad)) = (vs.map (tv (fun k => ad (gRen ρ k)))).reverse ++ rest.map (tv ad) := by
    rw [hsk, List.map_append, List.map_reverse, gMapR]
  refine g_run (M' := M') (vs := vs.map (tv (fun k => ad (gRen ρ k)))) hs hN hT hc hn hX k X w hl ?_
  exact vx_runS (bytes := mC M') (maxL := mN M') (ret := mR M') (n := na) (Ts := gG) (own := (mY M).cls) (index := idx) ⟨X.1, X.2.1, X.2.2.2.1, X.2.2.2.2.1, X.2.2.2.2.2.1⟩ hM
    (va_cwS (ws' := gG) na X.2.2.2.2.2.1 (by
      unfold va_wsS
      refine goodIn_app (gGood (fun w hw' => hw w ?_)) ?_
      · simp only [List.mem_cons, List.not_mem_nil, or_false] at hw' ⊢
        rcases hw' with h9 | h9 | h9
        · exact Or.inl h9
        · exact Or.inr (Or.inl h9)
        · exact Or.inr (Or.inr (Or.inl h9))
      · rw [gws_of hT']
        refine gGood (fun w hw' => ?_)
        rcases List.mem_cons.mp hw' with h9 | h9
        · rw [h9]; exact hw _ (by simp)
        · exact h9) (gws_of hT') rfl rfl ⟨hy1, hy2, hy3⟩ ⟨hdd, by show 8 + (mN M' + 11) + 36 * d' ≤ 36 * d; omega⟩)
    ⟨gPre_blind, fun U hU hW => ⟨rfl, gPre_at w hU hW, gSc_at w hs hms hU hW⟩⟩ rfl (by rw [List.length_map]; exact hna) hl.2.1 hb (lv_room (by rw [gCat]; exact hcat)) hd ⟨hc, hn⟩
theorem g_callU {M' : gM} {C : String} {x : MethodName} {d' mc' ms' idx na ci k0 : Nat} {vs rest sk : List Value} {fs : List Value} {h' : gH} {Q' : Option Value → gH → Prop} (ρ : List Nat)
    (hC : gCt M' d' mc' ms' (.ref k0 :: vs) h' Q' (fun _ _ => False)) (hd : decode (mC M) pc = .ok (.invokevirtual idx, 3)) (hlk : gLkU (mY M).cls idx C x M' na) (hna : vs.length = na) (hk0 : h'[k0]? = some (some (.inl (ci, fs)))) (hci : (vwCl[ci]?).map (fun r => r.1) = some C)
    (hsk : sk = (vs.map (tv (gRen ρ))).reverse ++ .ref (gRen ρ k0) :: rest) (hs : gSub ρ h h') (hN : gNn ρ ls rest h h' Q' (fun _ _ => False)) (hT : mT M = []) (hdd : d' + 1 ≤ d) (hcat : (rest.map fun v => v.category).sum ≤ 8) (hc : c + mc' ≤ mc) (hn : n + ms' ≤ ms)
    (k : ∀ (v : Option Value) (h1 : gH), Q' v h1 → G M d mc ms h0 Q QX (c + mc') (n + ms') (pc + 3) ls ((v.map (tv (gRen ρ))).toList ++ rest) (gPb ρ ρ h1 h)) (hms : mS M' = none ∨ mS M' = mS M := by exact Or.inl rfl) : G M d mc ms h0 Q QX c n pc ls sk h := by
  intro p l e s m args below meth cd base D E st av L0 f0 ad0 H locs lsA L f ad X w hl
  obtain ⟨hw, ⟨b0, k9, r0, hx0⟩, hsel, hT', hN9, hy1, hy2, hy3⟩ := hlk
  obtain ⟨hsub, hstr⟩ := w.sub hs
  have hM := gMet (hC l X.2.2.2.2.2.2.2.2.2 base D E st av L f _ hsub hstr) (fun E s t hx => by obtain ⟨u, hu, -⟩ := hx; exact hu.1)
  have hb : (sk.map (tv ad)) = (vs.map (tv (fun k => ad (gRen ρ k)))).reverse ++ .ref (ad (gRen ρ k0)) :: rest.map (tv ad) := by
    rw [hsk, List.map_append, List.map_reverse, gMapR]; rfl
  obtain ⟨j, q1, q2⟩ := hs.at hk0
  obtain ⟨qq, hqq⟩ := w.at q2
  have ok : ∀ w ∈ gG, w.before args s = true := X.2.2.2.2.2.1
  have hselS : (Cond.selects C x (mY M')).before args s = true := by
    rcases hsel with z | ⟨z1, z2, z3⟩
    · exact ok _ z
    · rw [← z1, z2]
      exact va_Nw.use rfl (w.1.2.2.2.2.2.2.2.2.1.2.2.2.1 _ z3)
  refine g_run (M' := M') (vs := .ref (ad (gRen ρ k0)) :: vs.map (tv (fun k => ad (gRen ρ k)))) hs hN hT hc hn (fun _ _ z => z.elim) k X w hl (gRunX ?_)
  cases hcl : vwCl[ci]? with
  | none => rw [hcl] at hci; cases hci
  | some r =>
    rw [hcl] at hci
    have hcn : r.1 = C := Option.some.inj hci
    have hrecv := va_recv (cl := vwCl) (a := ad j) w.2.2.1 w.2.2.2.2.1 (ci := ci) (q0 := qq) hcl hqq
    rw [hcn, ← gRen_at q1] at hrecv
    have hGood : GoodIn gG (gws M') := by
      rw [gws_of hT']
      refine gGood (fun w hw' => ?_)
      rcases List.mem_cons.mp hw' with h9 | h9
      · rw [h9]; exact hw _ (by simp)
      · exact h9
    have hcin : Cond.code (mY M') (mC M') (mN M') (mR M') ∈ gws M' := by rw [gws_of hT']; exact List.mem_cons_self
    exact va_runU (C := C) (x := x) (y := mY M') (owner := x.cls) (bytes := mC M') (maxL := mN M') (ret := mR M') (n := na) (Ts := gG) (own := (mY M).cls) (index := idx) ⟨X.1, X.2.1, X.2.2.2.1, X.2.2.2.2.1, X.2.2.2.2.2.1⟩ hM
      ⟨⟨rfl, rfl, hdd, by show 8 + (mN M' + 11) + 36 * d' ≤ 36 * d; omega, pay_in ok hGood, hcin⟩, ok _ (hw _ (by simp)), ok _ (hw _ (by simp)), ⟨hy1, hy2⟩, fun sig hsig => (by rw [hsig] at hy3; exact (Option.some.inj hy3).symm), ok _ (hw _ (by simp)), ok _ (hw _ (by simp)), va_Decl.of (x := x) (ok _ (hw _ (by simp))) (ok _ hx0), hselS, ok _ (hw _ (by simp))⟩
      ⟨gPre_blind, hrecv, fun U hU hW => ⟨rfl, gPre_at w hU hW, gSc_at w hs hms hU hW⟩⟩ rfl (by rw [List.length_map]; exact hna) hl.2.1 hb (lv_room (by rw [gCat]; exact hcat)) hd ⟨hc, hn⟩
theorem g_callP {M' : gM} {C : String} {d' mc' ms' idx na ci k0 : Nat} {vs rest sk : List Value} {fs : List Value} {h' : gH} {Q' : Option Value → gH → Prop} (ρ : List Nat)
    (hC : gCt M' d' mc' ms' (.ref k0 :: vs) h' Q' (fun _ _ => False)) (hd : decode (mC M) pc = .ok (.invokespecial idx, 3)) (hlk : gLkP (mY M).cls idx M' na) (hna : vs.length = na) (hk0 : h'[k0]? = some (some (.inl (ci, fs)))) (hci : (vwCl[ci]?).map (fun r => r.1) = some C)
    (hsk : sk = (vs.map (tv (gRen ρ))).reverse ++ .ref (gRen ρ k0) :: rest) (hs : gSub ρ h h') (hN : gNn ρ ls rest h h' Q' (fun _ _ => False)) (hT : mT M = []) (hdd : d' + 1 ≤ d) (hcat : (rest.map fun v => v.category).sum ≤ 8) (hc : c + mc' ≤ mc) (hn : n + ms' ≤ ms)
    (k : ∀ (v : Option Value) (h1 : gH), Q' v h1 → G M d mc ms h0 Q QX (c + mc') (n + ms') (pc + 3) ls ((v.map (tv (gRen ρ))).toList ++ rest) (gPb ρ ρ h1 h)) (hms : mS M' = none ∨ mS M' = mS M := by exact Or.inl rfl) : G M d mc ms h0 Q QX c n pc ls sk h := by
  intro p l e s m args below meth cd base D E st av L0 f0 ad0 H locs lsA L f ad X w hl
  obtain ⟨hw, hT', hN9, hy1, hy3⟩ := hlk
  obtain ⟨hsub, hstr⟩ := w.sub hs
  have hM := gMet (hC l X.2.2.2.2.2.2.2.2.2 base D E st av L f _ hsub hstr) (fun E s t hx => by obtain ⟨u, hu, -⟩ := hx; exact hu.1)
  have hb : (sk.map (tv ad)) = (vs.map (tv (fun k => ad (gRen ρ k)))).reverse ++ .ref (ad (gRen ρ k0)) :: rest.map (tv ad) := by
    rw [hsk, List.map_append, List.map_reverse, gMapR]; rfl
  obtain ⟨j, q1, q2⟩ := hs.at hk0
  obtain ⟨qq, hqq⟩ := w.at q2
  have ok : ∀ w ∈ gG, w.before args s = true := X.2.2.2.2.2.1
  refine g_run (M' := M') (vs := .ref (ad (gRen ρ k0)) :: vs.map (tv (fun k => ad (gRen ρ k)))) hs hN hT hc hn (fun _ _ z => z.elim) k X w hl (gRunX ?_)
  cases hcl : vwCl[ci]? with
  | none => rw [hcl] at hci; cases hci
  | some r =>
    rw [hcl] at hci
    have hcn : r.1 = C := Option.some.inj hci
    have hrecv := va_recv (cl := vwCl) (a := ad j) w.2.2.1 w.2.2.2.2.1 (ci := ci) (q0 := qq) hcl hqq
    rw [hcn, ← gRen_at q1] at hrecv
    have hat : ClassAt s C (D.1 ci) := by rw [← hcn]; exact (w.2.2.1.1 ci r hcl).2
    have hGood : GoodIn gG (gws M') := by
      rw [gws_of hT']
      refine gGood (fun w hw' => ?_)
      rcases List.mem_cons.mp hw' with h9 | h9
      · rw [h9]; exact hw _ (by simp)
      · exact h9
    have hcin : Cond.code (mY M') (mC M') (mN M') (mR M') ∈ gws M' := by rw [gws_of hT']; exact List.mem_cons_self
    exact va_runSU (C := C) (y := mY M') (bytes := mC M') (maxL := mN M') (ret := mR M') (n := na) (Ts := gG) (own := (mY M).cls) (index := idx) hat ⟨X.1, X.2.1, X.2.2.2.1, X.2.2.2.2.1, X.2.2.2.2.2.1⟩ hM
      ⟨⟨rfl, rfl, hdd, by show 8 + (mN M' + 11) + 36 * d' ≤ 36 * d; omega, pay_in ok hGood, hcin⟩, ok _ (hw _ (by simp)), ok _ (hw _ (by simp)), ok _ (hw _ (by simp)), ok _ (hw _ (by simp)), ok _ (hw _ (by simp)), ok _ (hw _ (by simp)), hy1, fun sig hsig => (by rw [hsig] at hy3; exact (Option.some.inj hy3).symm)⟩
      ⟨gPre_blind, hrecv, fun U hU hW => ⟨rfl, gPre_at w hU hW, gSc_at w hs hms hU hW⟩⟩ rfl (by rw [List.length_map]; exact hna) hl.2.1 hb (lv_room (by rw [gCat]; exact hcat)) hd ⟨hc, hn⟩
end GCALL3
section GSH
def gLkSH (own : String) (idx : Nat) (M' : gM) (na : Nat) : Prop :=
  (∀ w ∈ [Cond.methodLink own idx (mY M'), .static (mY M'), .initialized own, .codeWith (mY M') (mC M') (mN M') (mR M') (mT M')], w ∈ gG) ∧ mT M' ≠ [] ∧ mN M' ≤ 17 ∧ (mY M').cls = own ∧
  (mY M').cls ≠ "java/lang/invoke/MethodHandle" ∧ (mY M').cls ≠ "java/lang/invoke/VarHandle" ∧ (parseMethodDescriptor (mY M').desc).map (fun d => d.parameters.length) = some na
theorem gws_ofH {M' : gM} (h : mT M' ≠ []) : gws M' = .codeWith (mY M') (mC M') (mN M') (mR M') (mT M') :: gG := by
  unfold gws gCode
  cases hT : mT M' with
  | nil => exact absurd hT h
  | cons x r => rfl
section
variable {M : gM} {d mc ms : Nat} {h0 : gH} {Q : Option Value → gH → Prop} {QX : String → gH → Prop} {c n pc : Nat} {ls : List (Option Value)} {h : gH}
theorem g_callSH {M' : gM} {d' mc' ms' idx na : Nat} {vs rest sk : List Value} {h' : gH} {Q' : Option Value → gH → Prop} {QX' : String → gH → Prop} (ρ : List Nat)
    (hC : gCt M' d' mc' ms' vs h' Q' QX') (hd : decode (mC M) pc = .ok (.invokestatic idx, 3)) (hlk : gLkSH (mY M).cls idx M' na) (hna : vs.length = na)
    (hsk : sk = (vs.map (tv (gRen ρ))).reverse ++ rest) (hs : gSub ρ h h') (hN : gNn ρ ls rest h h' Q' QX') (hT : mT M = []) (hdd : d' + 1 ≤ d) (hcat : (rest.map fun v => v.category).sum ≤ 8) (hc : c + mc' ≤ mc) (hn : n + ms' ≤ ms)
    (hX : ∀ X h1, QX' X h1 → QX X (gPb ρ ρ h1 h))
    (k : ∀ (v : Option Value) (h1 : gH), Q' v h1 → G M d mc ms h0 Q QX (c + mc') (n + ms') (pc + 3) ls ((v.map (tv (gRen ρ))).toList ++ rest) (gPb ρ ρ h1 h)) (hms : mS M' = none ∨ mS M' = mS M := by exact Or.inl rfl) : G M d mc ms h0 Q QX c n pc ls sk h := by
  intro p l e s m args below meth cd base D E st av L0 f0 ad0 H locs lsA L f ad X w hl
  obtain ⟨hw, hT', hN9, hy0, hy1, hy2, hy3⟩ := hlk
  obtain ⟨hsub, hstr⟩ := w.sub hs
  have hM := hC l X.2.2.2.2.2.2.2.2.2 base D E st av L f _ hsub hstr
  have hb : (sk.map (tv ad)) = (vs.map (tv (fun k => ad (gRen ρ k)))).reverse ++ rest.map (tv ad) := by
    rw [hsk, List.map_append, List.map_reverse, gMapR]
  refine g_run (M' := M') (vs := vs.map (tv (fun k => ad (gRen ρ k)))) hs hN hT hc hn hX k X w hl ?_
  exact vx_runSX (hh := mT M') (bytes := mC M') (maxL := mN M') (ret := mR M') (n := na) (Ts := gG) (own := (mY M).cls) (index := idx) ⟨X.1, X.2.1, X.2.2.2.1, X.2.2.2.2.1, X.2.2.2.2.2.1⟩ hM
    (vx_cwSW (ws' := gG) na X.2.2.2.2.2.1 (by
      unfold va_wsS
      refine goodIn_app (gGood (fun w hw' => hw w ?_)) ?_
      · simp only [List.mem_cons, List.not_mem_nil, or_false] at hw' ⊢
        rcases hw' with h9 | h9 | h9
        · exact Or.inl h9
        · exact Or.inr (Or.inl h9)
        · exact Or.inr (Or.inr (Or.inl (by rw [h9, hy0])))
      · rw [gws_ofH hT']
        refine gGood (fun w hw' => ?_)
        rcases List.mem_cons.mp hw' with h9 | h9
        · rw [h9]; exact hw _ (by simp)
        · exact h9) (gws_ofH hT') rfl rfl ⟨hy1, hy2, hy3⟩ ⟨hdd, by show 8 + (mN M' + 11) + 36 * d' ≤ 36 * d; omega⟩)
    ⟨gPre_blind, fun U hU hW => ⟨rfl, gPre_at w hU hW, gSc_at w hs hms hU hW⟩⟩ rfl (by rw [List.length_map]; exact hna) hl.2.1 hb (lv_room (by rw [gCat]; exact hcat)) hd ⟨hc, hn⟩
/-- the handler of this method that takes X at pc: it puts it by, and answers a number of one byte -/
def gHd2 (M : gM) (pc : Nat) (Q : Option Value → gH → Prop) (X : String) (h2 : gH) : Prop :=
  ∃ (pre : List ExceptionTableEntry) (x : ExceptionTableEntry) (suf : List ExceptionTableEntry) (nm : String) (kk : Nat) (z : Int) (v : Int32) (len : Nat), tableOf (mT M) = pre ++ x :: suf ∧ mR M = some .int ∧
    (∀ y ∈ pre, y.catchType ≠ 0 ∧ ∃ nm' : String, Cond.classLink (mY M).cls y.catchType nm' ∈ gG ∧ (X, nm') ∈ gNcs) ∧ covers x pc = true ∧ x.catchType ≠ 0 ∧ Cond.classLink (mY M).cls x.catchType nm ∈ gG ∧ X = nm ∧ X ∈ gCast ∧ kk < mN M ∧
    ((decode (mC M) x.handlerPc = .ok (.astore kk, 2) ∧ len = 2) ∨ (∃ kf : Fin 4, (kf : Nat) = kk ∧ decode (mC M) x.handlerPc = .ok (.astore_n kf, 1) ∧ len = 1)) ∧ decode (mC M) (x.handlerPc + len) = .ok (.bipush z, 2) ∧ (Int8.ofInt z).toInt32 = v ∧ decode (mC M) (x.handlerPc + len + 2) = .ok (.ireturn, 1) ∧ Q (some (.int v)) h2
theorem g_callVC2 {M' : gM} {d' mc' ms' idx na ci k0 : Nat} {vs rest sk : List Value} {fs : List Value} {h' : gH} {Q' : Option Value → gH → Prop} {QX' : String → gH → Prop} (ρ : List Nat)
    (hC : gCt M' d' mc' ms' (.ref k0 :: vs) h' Q' QX') (hd : decode (mC M) pc = .ok (.invokevirtual idx, 3)) (hlk : gLkV (mY M).cls idx M' na) (hna : vs.length = na) (hk0 : h'[k0]? = some (some (.inl (ci, fs)))) (hci : (vwCl[ci]?).map (fun r => r.1) = some (mY M').cls)
    (hsk : sk = (vs.map (tv (gRen ρ))).reverse ++ .ref (gRen ρ k0) :: rest) (hs : gSub ρ h h') (hN : gNn ρ ls rest h h' Q' QX') (hdd : d' + 1 ≤ d) (hcat : (rest.map fun v => v.category).sum ≤ 8) (hc : c + mc' ≤ mc) (hn : n + ms' ≤ ms)
    (hX : ∀ X h1, QX' X h1 → gHd2 M pc Q X (gPb ρ ρ h1 h))
    (k : ∀ (v : Option Value) (h1 : gH), Q' v h1 → G M d mc ms h0 Q QX (c + mc') (n + ms') (pc + 3) ls ((v.map (tv (gRen ρ))).toList ++ rest) (gPb ρ ρ h1 h)) (hms : mS M' = none ∨ mS M' = mS M := by exact Or.inl rfl) : G M d mc ms h0 Q QX c n pc ls sk h := by
  intro p l e s m args below meth cd base D E st av L0 f0 ad0 H locs lsA L f ad X w hl
  refine g_runK (M' := M') hs hN hc hn k X w hl (g_vrun ρ hC hd hlk hna hk0 hci hsk hs hdd hcat hc hn X w hl hms) (fun X9 ce q9 t H1 locs1 h1 L1 f1 ad2 hQ ht hvm w' hl' hce hcv hcl => ?_)
  obtain ⟨pre, x, suf, nm, kk, z, v, len, hT, hR, hpre, hcov, hct, hlk, hcast, hXc, hkk, d1, d2, hv, d3, hq⟩ := hX X9 h1 hQ
  have cast : ∀ q ∈ gNcs, va_Nc q.1 q.2 s := w.1.2.2.2.1
  refine vx_catch (name := nm) (own := (mY M).cls) X.2.2.2.2.1 pre x suf (by rw [X.2.2.2.2.2.2.2.2.1]; exact hT) (fun y hy => Or.inr ?_) hcov hct (X.2.2.2.2.2.1 _ hlk) (by rw [← hcast]; exact va_Nw.use rfl (w.1.2.1 _ hXc)) hce hcv hcl ?_
  · obtain ⟨y1, nm', y2, y3⟩ := hpre y hy
    exact ⟨y1, nm', X.2.2.2.2.2.1 _ y2, cast _ y3⟩
  · have fin : ∀ lsB : Array Slot, W p l e (grm d mc ms) s m args below meth cd H1 locs1 (c + mc') (n + ms') (vx_MQ below (gQc (mR M) base D E h0 L0 f0 ad0 Q) (gXc base D E h0 L0 f0 ad0 QX) args s mc ms (gA base)) (F0 m (x.handlerPc + len) lsB []) := by
      intro lsB
      refine lv_bipush X.1 X.2.1 d2 hv ?_
      refine g_end hc hn ?_
      rw [hR]
      exact W.iret (v := v) X.1 X.2.1 (X.2.2.1.trans hR) (fun t ht hW => ⟨⟨v, (gPb ρ ρ h1 h, L1, f1, ad2), rfl, ⟨hq, w'.2.2.2.2.2.2.2.2.1⟩, w'.gB ht hW⟩, w'.2.2.2.1.F ht⟩) w'.2.2.2.1.2.2 d3 X.2.2.2.2.2.2.1
    rcases d1 with ⟨d1, rfl⟩ | ⟨kf, hkf, d1, rfl⟩
    · exact lv_astore (i := kk) X.1 X.2.1 d1 hl'.2 hkk rfl (fun lsB hB => fin lsB)
    · exact lv_astore_n (i := kf) X.1 X.2.1 d1 rfl hl'.2 (by rw [hkf]; exact hkk) rfl (fun lsB hB => fin lsB)
end
end GSH
