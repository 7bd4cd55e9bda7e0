/-! the call rows -/
/-- the words of a virtual call out of a class -/
def gLkV (own : String) (idx : Nat) (M' : gM) (na : Nat) : Prop :=
  (∀ w ∈ [Cond.methodLink own idx (mY M'), .instanceMethod (mY M'), .selects (mY M').cls (mY M') (mY M'), .initialized (mY M').cls, .code (mY M') (mC M') (mN M') (mR M')], w ∈ gG) ∧ mT M' = [] ∧ mN M' ≤ 17 ∧
  (mY M').cls ≠ "java/lang/invoke/MethodHandle" ∧ (mY M').cls ≠ "java/lang/invoke/VarHandle" ∧ (parseMethodDescriptor (mY M').desc).map (fun d => d.parameters.length) = some na
def gLkS (own : String) (idx : Nat) (M' : gM) (na : Nat) : Prop :=
  (∀ w ∈ [Cond.methodLink own idx (mY M'), .static (mY M'), .initialized own, .code (mY M') (mC M') (mN M') (mR M')], w ∈ gG) ∧ mT M' = [] ∧ mN M' ≤ 17 ∧ (mY M').cls = own ∧
  (mY M').cls ≠ "java/lang/invoke/MethodHandle" ∧ (mY M').cls ≠ "java/lang/invoke/VarHandle" ∧ (parseMethodDescriptor (mY M').desc).map (fun d => d.parameters.length) = some na
/-- .. of a constructor of a nest mate -/
def gLkN (own : String) (idx : Nat) (M' : gM) (host : String) (na : Nat) : Prop :=
  (∀ w ∈ [Cond.instanceMethod (mY M'), .initialized (mY M').cls, .code (mY M') (mC M') (mN M') (mR M')], w ∈ gG) ∧ (own, idx, mY M', host) ∈ gNM ∧ (mY M').name = "<init>" ∧ mR M' = none ∧ mT M' = [] ∧ mN M' ≤ 17 ∧
  (mY M').cls ≠ "java/lang/invoke/MethodHandle" ∧ (mY M').cls ≠ "java/lang/invoke/VarHandle" ∧ (parseMethodDescriptor (mY M').desc).map (fun d => d.parameters.length) = some na
/-- .. of a public constructor -/
def gLkI (own : String) (idx : Nat) (M' : gM) (na : Nat) : Prop :=
  (∀ w ∈ [Cond.methodLink own idx (mY M'), .instanceMethod (mY M'), .initialized (mY M').cls, .code (mY M') (mC M') (mN M') (mR M')], w ∈ gG) ∧ (mY M').name = "<init>" ∧ mR M' = none ∧ mT M' = [] ∧ mN M' ≤ 17 ∧
  (mY M').cls ≠ "java/lang/invoke/MethodHandle" ∧ (mY M').cls ≠ "java/lang/invoke/VarHandle" ∧ (parseMethodDescriptor (mY M').desc).map (fun d => d.parameters.length) = some na
theorem gws_of {M' : gM} (h : mT M' = []) : gws M' = .code (mY M') (mC M') (mN M') (mR M') :: gG := by unfold gws gCode; rw [h]
theorem gGood {l : List Cond} (h : ∀ w ∈ l, w ∈ gG) : GoodIn gG l := fun w hw => gG_good w (h w hw)
/-- what the caller owes beside the callee's contract: the callee's cells lie at the places ρ; no cell that the callee may make is in sight -/
def gNn (ρ : List Nat) (ls : List (Option Value)) (rest : List Value) (h h' : gH) (Q' : Option Value → gH → Prop) (QX' : String → gH → Prop) : Prop :=
  (∀ i : Nat, h'[i]? ≠ some none) ∨ ((∀ v h1, Q' v h1 → gClo ρ h1) ∧ (∀ X h1, QX' X h1 → gClo ρ h1) ∧ ∀ i : Nat, h'[i]? = some none → gFree (gRen ρ i) ls rest h)
/-- the handler of this method that takes X at pc: it puts it by and answers z -/
def gHd (M : gM) (pc : Nat) (Q : Option Value → gH → Prop) (X : String) (h2 : gH) : Prop :=
  ∃ (pre : List ExceptionTableEntry) (x : ExceptionTableEntry) (suf : List ExceptionTableEntry) (nm : String) (kk : Fin 4) (z : Int), tableOf (mT M) = pre ++ x :: suf ∧ mR M = some .int ∧
    (∀ y ∈ pre, y.catchType ≠ 0 ∧ ∃ nm' : String, Cond.classLink (mY M).cls y.catchType nm' ∈ gG ∧ (X, nm') ∈ gNcs) ∧ covers x pc = true ∧ x.catchType ≠ 0 ∧ Cond.classLink (mY M).cls x.catchType nm ∈ gG ∧ X = nm ∧ X ∈ gCast ∧ (kk : Nat) < mN M ∧
    decode (mC M) x.handlerPc = .ok (.astore_n kk, 1) ∧ decode (mC M) (x.handlerPc + 1) = .ok (.iconst z, 1) ∧ decode (mC M) (x.handlerPc + 1 + 1) = .ok (.ireturn, 1) ∧ Q (some (.int (Int32.ofInt z))) h2
section GCALL
variable {M : gM} {d mc ms : Nat} {h0 : gH} {Q : Option Value → gH → Prop} {QX : String → gH → Prop} {c n pc : Nat} {ls : List (Option Value)} {h : gH}
theorem gNn_v {ρ : List Nat} {ls : List (Option Value)} {rest : List Value} {h h' : gH} {Q' : Option Value → gH → Prop} {QX' : String → gH → Prop} {ad ad1 : Nat → Nat} (hs : gSub ρ h h') (hN : gNn ρ ls rest h h' Q' QX') (hb : ∀ k : Nat, h'[k]? ≠ some none → ad1 k = ad (gRen ρ k)) :
    (∀ v, some v ∈ ls → tv (gAd ρ ad ad1) v = tv ad v) ∧ ∀ v ∈ rest, tv (gAd ρ ad ad1) v = tv ad v := by
  have key : ∀ r : Nat, (∀ i : Nat, ρ[i]? = some r → h'[i]? ≠ some none) → gAd ρ ad ad1 r = ad r := by
    intro r hr
    unfold gAd
    split
    · rename_i hm
      obtain ⟨i, hi⟩ := List.getElem?_of_mem hm
      rw [idx_of hs.2.1 hi, hb i (hr i hi), gRen_at hi]
    · rfl
  have one : ∀ v : Value, (∀ r, v = .ref r → ∀ i : Nat, ρ[i]? = some r → h'[i]? ≠ some none) → tv (gAd ρ ad ad1) v = tv ad v := by
    intro v hv
    cases v <;> first | rfl | skip
    rename_i r
    exact congrArg Value.ref (key r (hv r rfl))
  rcases hN with hN | ⟨-, -, hN⟩
  · exact ⟨fun v _ => one v (fun r _ i _ => hN i), fun v _ => one v (fun r _ i _ => hN i)⟩
  · refine ⟨fun v hv => one v (fun r hr i hi hz => ?_), fun v hv => one v (fun r hr i hi hz => ?_)⟩
    · exact (hN i hz).2.2.1 v hv (by rw [gRen_at hi]; exact hr)
    · exact (hN i hz).2.2.2.1 v hv (by rw [gRen_at hi]; exact hr)
theorem gLsF_c {a b : Nat → Nat} : ∀ {ls : List (Option Value)} {k : Nat}, (∀ v, some v ∈ ls → tv a v = tv b v) → gLsF a k ls = gLsF b k ls := by
  intro ls
  induction ls with
  | nil => intro k _; rfl
  | cons o r ih =>
    intro k hn
    have hr := ih (k := k + 1) (fun v hv => hn v (List.mem_cons_of_mem _ hv))
    cases o with
    | none => exact hr
    | some v => rw [gLsF, gLsF, hr, hn v List.mem_cons_self]
/-- a call that comes back, or throws (hkx: what then): from vx_Run on -/
theorem g_runK {M' : gM} {mc' ms' : Nat} {h' : gH} {Q' : Option Value → gH → Prop} {QX' : String → gH → Prop} {ρ : List Nat} {rest sk : List Value} {vs : List Value}
    (hs : gSub ρ h h') (hN : gNn ρ ls rest h h' Q' QX') (hc : c + mc' ≤ mc) (hn : n + ms' ≤ ms)
    (k : ∀ (v : Option Value) (h1 : gH), Q' v h1 → G M d mc ms h0 Q QX (c + mc') (n + ms') (pc + 3) ls ((v.map (tv (gRen ρ))).toList ++ rest) (gPb ρ ρ h1 h))
    {p : Program} {l : Launch} {e : Env} {s : State} {m : MethodId} {args : Array Value} {below : List Frame} {meth : Method} {cd : Code} {base : Nat} {D : va_G} {E : Nat → ClassId} {st av : Nat → Nat} {L0 : List Nat} {f0 : Nat → va_E} {ad0 : Nat → Nat} {H : Heap} {locs : List Loc} {lsA : Array Slot} {L : List Nat} {f : Nat → va_E} {ad : Nat → Nat}
    (X : gCx M p l s m args meth cd) (w : gWd M base D E st av s h0 L0 f0 ad0 H locs L f ad h) (hl : gLv lsA (mN M) ad ls)
    (hr : vx_Run p l e (grm d mc ms) s m args below meth cd H locs c n mc' ms' (F0 m pc lsA (sk.map (tv ad))) (rest.map (tv ad)) (gQc (mR M') base D E h' L f (fun k => ad (gRen ρ k)) Q' vs.toArray) (gXc base D E h' L f (fun k => ad (gRen ρ k)) QX') (gA base))
    (hkx : ∀ (X9 : String) (ce : Cell) (q9 : Addr) (t : State) (H1 : Heap) (locs1 : List Loc) (h1 : gH) (L1 : List Nat) (f1 : Nat → va_E) (ad2 : Nat → Nat), QX' X9 h1 → t.heap = H1 → s.vm.Alike t.vm → gWd M base D E st av s h0 L0 f0 ad0 H1 locs1 L1 f1 ad2 (gPb ρ ρ h1 h) → gLv lsA (mN M) ad2 ls → H1[q9]? = some ce → ce.vm = .none → s.vm.findClass X9 = some ce.cls →
      vx_W p l e (grm d mc ms) s m args below meth cd H1 locs1 (c + mc') (n + ms') (vx_MQ below (gQc (mR M) base D E h0 L0 f0 ad0 Q) (gXc base D E h0 L0 f0 ad0 QX) args s mc ms (gA base)) (F0 m pc lsA (rest.map (tv ad))) q9) :
    W p l e (grm d mc ms) s m args below meth cd H locs c n (vx_MQ below (gQc (mR M) base D E h0 L0 f0 ad0 Q) (gXc base D E h0 L0 f0 ad0 QX) args s mc ms (gA base)) (F0 m pc lsA (sk.map (tv ad))) := by
  have hA : ∀ q, q < H.size → gA base q → gA base q := fun _ _ h => h
  have hf : ∀ q, gA base q → gA base q := fun _ h => h
  have hNn : ∀ {u : gU}, gClo ρ u.1 → (∀ i : Nat, h'[i]? ≠ some none) ∨ (gClo ρ u.1 ∧ ∀ i : Nat, h'[i]? = some none → ∀ (k : Nat) (c' : gC), h[k]? = some (some c') → gNo (gRen ρ i) c') := by
    intro u hu
    rcases hN with z | ⟨-, -, z⟩
    · exact Or.inl z
    · exact Or.inr ⟨hu, fun i hi => (z i hi).2.2.2.2⟩
  have wd : ∀ {u : gU} {t : State} {H1 : Heap} {locs1 : List Loc}, ((∀ i : Nat, h'[i]? ≠ some none) ∨ gClo ρ u.1) → gFu h' L f (fun k => ad (gRen ρ k)) u → gB base D E u t → t.heap = H1 → va_S (gA base) s.heap H1 locs1 →
      gWd M base D E st av s h0 L0 f0 ad0 H1 locs1 u.2.1 u.2.2.1 (gAd ρ ad u.2.2.2) (gPb ρ ρ u.1 h) := by
    intro u t H1 locs1 hz hF hB ht hS
    obtain ⟨q1, q2, q3, q4⟩ := hB
    rw [ht] at q2
    refine w.call hs ?_ q1 hF q2 q3 hS
    rcases hz with z | z
    · exact Or.inl z
    · exact hNn z
  have go : ∀ (v v' : Option Value) (u : gU) (hv : (v.map (tv (gRen ρ))).map (tv (gAd ρ ad u.2.2.2)) = v') (t : State) (H1 : Heap) (locs1 : List Loc), t.heap = H1 → Q' v u.1 → gFu h' L f (fun k => ad (gRen ρ k)) u → gB base D E u t → va_S (gA base) s.heap H1 locs1 →
      W p l e (grm d mc ms) s m args below meth cd H1 locs1 (c + mc') (n + ms') (vx_MQ below (gQc (mR M) base D E h0 L0 f0 ad0 Q) (gXc base D E h0 L0 f0 ad0 QX) args s mc ms (gA base)) (F0 m (pc + 3) lsA (v'.toList ++ rest.map (tv ad))) := by
    intro v v' u hv t H1 locs1 ht hQ hF hB hS
    have hz : (∀ i : Nat, h'[i]? ≠ some none) ∨ gClo ρ u.1 := by
      rcases hN with z | ⟨z, -, -⟩
      · exact Or.inl z
      · exact Or.inr (z v u.1 hQ)
    obtain ⟨e1, e2⟩ := gNn_v hs hN hF.1
    have k' := k v u.1 hQ p l e s m args below meth cd base D E st av L0 f0 ad0 H1 locs1 lsA _ _ _ X (wd hz hF hB ht hS) (by unfold gLv; rw [gLsF_c e1]; exact hl)
    rw [List.map_append, List.map_congr_left e2, show (v.map (tv (gRen ρ))).toList.map (tv (gAd ρ ad u.2.2.2)) = v'.toList from by rw [← Option.toList_map, hv]] at k'
    exact k'
  have kx : ∀ (X9 : String) (ce : Cell) (q9 : Addr) (u : String × gU) (t : State) (H1 : Heap) (locs1 : List Loc), t.heap = H1 → s.vm.Alike t.vm → (QX' u.1 u.2.1 ∧ gFu h' L f (fun k => ad (gRen ρ k)) u.2) → (X9 = u.1 ∧ gB base D E u.2 t) → va_S (gA base) s.heap H1 locs1 → H1[q9]? = some ce → ce.vm = .none → s.vm.findClass X9 = some ce.cls →
      vx_W p l e (grm d mc ms) s m args below meth cd H1 locs1 (c + mc') (n + ms') (vx_MQ below (gQc (mR M) base D E h0 L0 f0 ad0 Q) (gXc base D E h0 L0 f0 ad0 QX) args s mc ms (gA base)) (F0 m pc lsA (rest.map (tv ad))) q9 := by
    intro X9 ce q9 u t H1 locs1 ht hvm hp hB hS hce hcv hcl
    obtain ⟨hQ, hF⟩ := hp
    obtain ⟨hX9, hB⟩ := hB
    have hz : (∀ i : Nat, h'[i]? ≠ some none) ∨ gClo ρ u.2.1 := by
      rcases hN with z | ⟨-, z, -⟩
      · exact Or.inl z
      · exact Or.inr (z _ _ hQ)
    obtain ⟨e1, e2⟩ := gNn_v hs hN hF.1
    subst hX9
    exact hkx _ ce q9 t H1 locs1 _ _ _ _ hQ ht hvm (wd hz hF hB ht hS) (by unfold gLv; rw [gLsF_c e1]; exact hl) hce hcv hcl
  have kx' : ∀ (X9 : String) (ce : Cell) (q9 : Addr) (u : String × gU) (t : State) (H1 : Heap) (locs1 : List Loc), t.heap = H1 → s.vm.Alike t.vm → (QX' u.1 u.2.1 ∧ gFu h' L f (fun k => ad (gRen ρ k)) u.2) → (X9 = u.1 ∧ gB base D E u.2 t) → H.size ≤ H1.size → (∀ q : Nat, q < H.size → ¬ gA base q → H1[q]? = H[q]?) → va_S (gA base) s.heap H1 locs1 → H1[q9]? = some ce → ce.vm = .none → s.vm.findClass X9 = some ce.cls →
      vx_W p l e (grm d mc ms) s m args below meth cd H1 locs1 (c + mc') (n + ms') (vx_MQ below (gQc (mR M) base D E h0 L0 f0 ad0 Q) (gXc base D E h0 L0 f0 ad0 QX) args s mc ms (gA base)) (F0 m pc lsA (rest.map (tv ad))) q9 :=
    fun X9 ce q9 u t H1 locs1 ht hvm hp hB _ _ hS a1 a2 a3 => kx X9 ce q9 u t H1 locs1 ht hvm hp hB hS a1 a2 a3
  have int : ∀ {ty : FieldType}, (gQc (some ty) base D E h' L f (fun k => ad (gRen ρ k)) Q' = va_Qi (fun r (u : gU) => Q' (some (.int r)) u.1 ∧ gFu h' L f (fun k => ad (gRen ρ k)) u) (gB base D E) (gA base)) → mR M' = some ty →
      W p l e (grm d mc ms) s m args below meth cd H locs c n (vx_MQ below (gQc (mR M) base D E h0 L0 f0 ad0 Q) (gXc base D E h0 L0 f0 ad0 QX) args s mc ms (gA base)) (F0 m pc lsA (sk.map (tv ad))) := by
    intro ty e9 hR
    rw [hR, e9] at hr
    exact vx_calli hr w.2.2.2.1 hA hf hA kx' (fun r u t H1 locs1 ht hvm hp hB _ _ hS => go (some (.int r)) (some (.int r)) u rfl t H1 locs1 ht hp.1 hp.2 hB hS)
  cases hR : mR M' with
  | none =>
    rw [hR] at hr
    exact vx_callv (a := vs.toArray) hr w.2.2.2.1 hA hf hA kx' (fun u t H1 locs1 ht hvm hp hB _ _ hS => go none none u rfl t H1 locs1 ht hp.1 hp.2 hB hS)
  | some ty =>
    cases ty with
    | long =>
      rw [hR] at hr
      exact vx_calll (a := vs.toArray) hr w.2.2.2.1 hA hf hA kx' (fun r u t H1 locs1 ht hvm hp hB _ _ hS => go (some (.long r)) (some (.long r)) u rfl t H1 locs1 ht hp.1 hp.2 hB hS)
    | float =>
      rw [hR] at hr
      exact vx_callf (a := vs.toArray) hr w.2.2.2.1 hA hf hA kx' (fun r u t H1 locs1 ht hvm hp hB _ _ hS => go (some (.float r)) (some (.float r)) u rfl t H1 locs1 ht hp.1 hp.2 hB hS)
    | double =>
      rw [hR] at hr
      exact vx_calld (a := vs.toArray) hr w.2.2.2.1 hA hf hA kx' (fun r u t H1 locs1 ht hvm hp hB _ _ hS => go (some (.double r)) (some (.double r)) u rfl t H1 locs1 ht hp.1 hp.2 hB hS)
    | array ty' =>
      rw [hR] at hr
      exact vx_callr (a := vs.toArray) hr w.2.2.2.1 hA hf hA kx' (fun u ra t H1 locs1 ht hvm hp hB _ _ hS => by
        have e := hp.2.2.2.2.2.1
        have hk : u.2 < ρ.length := by rw [hs.len, ← e]; exact hp.1.1
        exact go (some (.ref u.2)) (some (.ref ra)) u.1 (by
          rw [hB.2]
          show some (Value.ref (gAd ρ ad u.1.2.2.2 (gRen ρ u.2))) = _
          rw [gRen_at (List.getElem?_eq_getElem hk), gAd, if_pos (List.getElem_mem hk), idx_of hs.2.1 (List.getElem?_eq_getElem hk)]) t H1 locs1 ht hp.1.2 hp.2 hB.1 hS)
    | object ty' =>
      rw [hR] at hr
      exact vx_callr (a := vs.toArray) hr w.2.2.2.1 hA hf hA kx' (fun u ra t H1 locs1 ht hvm hp hB _ _ hS => by
        have e := hp.2.2.2.2.2.1
        have hk : u.2 < ρ.length := by rw [hs.len, ← e]; exact hp.1.1
        exact go (some (.ref u.2)) (some (.ref ra)) u.1 (by
          rw [hB.2]
          show some (Value.ref (gAd ρ ad u.1.2.2.2 (gRen ρ u.2))) = _
          rw [gRen_at (List.getElem?_eq_getElem hk), gAd, if_pos (List.getElem_mem hk), idx_of hs.2.1 (List.getElem?_eq_getElem hk)]) t H1 locs1 ht hp.1.2 hp.2 hB.1 hS)
    | _ => exact int rfl hR
/-- a call that comes back or throws through this method: from vx_Run on -/
theorem g_run {M' : gM} {mc' ms' : Nat} {h' : gH} {Q' : Option Value → gH → Prop} {QX' : String → gH → Prop} {ρ : List Nat} {rest sk : List Value} {vs : List Value}
    (hs : gSub ρ h h') (hN : gNn ρ ls rest h h' Q' QX') (hT : mT M = []) (hc : c + mc' ≤ mc) (hn : n + ms' ≤ ms)
    (hX : ∀ X h1, QX' X h1 → QX X (gPb ρ ρ h1 h))
    (k : ∀ (v : Option Value) (h1 : gH), Q' v h1 → G M d mc ms h0 Q QX (c + mc') (n + ms') (pc + 3) ls ((v.map (tv (gRen ρ))).toList ++ rest) (gPb ρ ρ h1 h))
    {p : Program} {l : Launch} {e : Env} {s : State} {m : MethodId} {args : Array Value} {below : List Frame} {meth : Method} {cd : Code} {base : Nat} {D : va_G} {E : Nat → ClassId} {st av : Nat → Nat} {L0 : List Nat} {f0 : Nat → va_E} {ad0 : Nat → Nat} {H : Heap} {locs : List Loc} {lsA : Array Slot} {L : List Nat} {f : Nat → va_E} {ad : Nat → Nat}
    (X : gCx M p l s m args meth cd) (w : gWd M base D E st av s h0 L0 f0 ad0 H locs L f ad h) (hl : gLv lsA (mN M) ad ls)
    (hr : vx_Run p l e (grm d mc ms) s m args below meth cd H locs c n mc' ms' (F0 m pc lsA (sk.map (tv ad))) (rest.map (tv ad)) (gQc (mR M') base D E h' L f (fun k => ad (gRen ρ k)) Q' vs.toArray) (gXc base D E h' L f (fun k => ad (gRen ρ k)) QX') (gA base)) :
    W p l e (grm d mc ms) s m args below meth cd H locs c n (vx_MQ below (gQc (mR M) base D E h0 L0 f0 ad0 Q) (gXc base D E h0 L0 f0 ad0 QX) args s mc ms (gA base)) (F0 m pc lsA (sk.map (tv ad))) := by
  refine g_runK (M' := M') (vs := vs) hs hN hc hn k X w hl hr (fun X9 ce q9 t H1 locs1 h1 L1 f1 ad2 hQ ht hvm w' hl' hce hcv hcl => ?_)
  refine vx_out (E := X9) (fun x hx => ?_) X.2.2.2.2.2.2.1 hce hcv hcl (fun t' ht' hvm' => ?_) w'.2.2.2.1.2.2 hc hn
  · rw [X.2.2.2.2.2.2.2.2.1, hT] at hx
    cases hx
  · exact ⟨(X9, (gPb ρ ρ h1 h, L1, f1, ad2)), ⟨hX _ _ hQ, w'.2.2.2.2.2.2.2.2.1⟩, ⟨rfl, ⟨w'.2.2.2.2.2.2.1, by rw [ht']; exact w'.2.2.2.2.1, w'.2.2.2.2.2.1, va_K.moved hvm' w'.2.2.1⟩⟩, w'.2.2.2.1.F ht'⟩
/-- .. or is caught by the row x of this method's table, whose code puts the thing by and answers v -/
theorem g_runC {M' : gM} {mc' ms' : Nat} {h' : gH} {Q' : Option Value → gH → Prop} {QX' : String → gH → Prop} {ρ : List Nat} {rest sk : List Value} {vs : List Value}
    (hs : gSub ρ h h') (hN : gNn ρ ls rest h h' Q' QX') (hc : c + mc' ≤ mc) (hn : n + ms' ≤ ms)
    (hX : ∀ X h1, QX' X h1 → gHd M pc Q X (gPb ρ ρ h1 h))
    (k : ∀ (v : Option Value) (h1 : gH), Q' v h1 → G M d mc ms h0 Q QX (c + mc') (n + ms') (pc + 3) ls ((v.map (tv (gRen ρ))).toList ++ rest) (gPb ρ ρ h1 h))
    {p : Program} {l : Launch} {e : Env} {s : State} {m : MethodId} {args : Array Value} {below : List Frame} {meth : Method} {cd : Code} {base : Nat} {D : va_G} {E : Nat → ClassId} {st av : Nat → Nat} {L0 : List Nat} {f0 : Nat → va_E} {ad0 : Nat → Nat} {H : Heap} {locs : List Loc} {lsA : Array Slot} {L : List Nat} {f : Nat → va_E} {ad : Nat → Nat}
    (X : gCx M p l s m args meth cd) (w : gWd M base D E st av s h0 L0 f0 ad0 H locs L f ad h) (hl : gLv lsA (mN M) ad ls)
    (hr : vx_Run p l e (grm d mc ms) s m args below meth cd H locs c n mc' ms' (F0 m pc lsA (sk.map (tv ad))) (rest.map (tv ad)) (gQc (mR M') base D E h' L f (fun k => ad (gRen ρ k)) Q' vs.toArray) (gXc base D E h' L f (fun k => ad (gRen ρ k)) QX') (gA base)) :
    W p l e (grm d mc ms) s m args below meth cd H locs c n (vx_MQ below (gQc (mR M) base D E h0 L0 f0 ad0 Q) (gXc base D E h0 L0 f0 ad0 QX) args s mc ms (gA base)) (F0 m pc lsA (sk.map (tv ad))) := by
  refine g_runK (M' := M') (vs := vs) hs hN hc hn k X w hl hr (fun X9 ce q9 t H1 locs1 h1 L1 f1 ad2 hQ ht hvm w' hl' hce hcv hcl => ?_)
  obtain ⟨pre, x, suf, nm, kk, z, hT, hR, hpre, hcov, hct, hlk, hcast, hXc, hkk, d1, d2, d3, hq⟩ := hX X9 h1 hQ
  have cast : ∀ q ∈ gNcs, va_Nc q.1 q.2 s := w.1.2.2.2.1
  refine vx_catch (name := nm) (own := (mY M).cls) X.2.2.2.2.1 pre x suf (by rw [X.2.2.2.2.2.2.2.2.1]; exact hT) (fun y hy => Or.inr ?_) hcov hct (X.2.2.2.2.2.1 _ hlk) (by rw [← hcast]; exact va_Nw.use rfl (w.1.2.1 _ hXc)) hce hcv hcl ?_
  · obtain ⟨y1, nm', y2, y3⟩ := hpre y hy
    exact ⟨y1, nm', X.2.2.2.2.2.1 _ y2, cast _ y3⟩
  · refine lv_astore_n (i := kk) X.1 X.2.1 d1 rfl hl'.2 hkk rfl (fun lsB hB => ?_)
    refine lv_iconst X.1 X.2.1 d2 rfl ?_
    refine g_end hc hn ?_
    rw [hR]
    exact W.iret (v := Int32.ofInt z) X.1 X.2.1 (X.2.2.1.trans hR) (fun t ht hW => ⟨⟨Int32.ofInt z, (gPb ρ ρ h1 h, L1, f1, ad2), rfl, ⟨hq, w'.2.2.2.2.2.2.2.2.1⟩, w'.gB ht hW⟩, w'.2.2.2.1.F ht⟩) w'.2.2.2.1.2.2 d3 X.2.2.2.2.2.2.1
theorem gPre_at {base : Nat} {D : va_G} {E : Nat → ClassId} {st av : Nat → Nat} {s : State} {L0 : List Nat} {f0 : Nat → va_E} {ad0 : Nat → Nat} {H : Heap} {locs : List Loc} {L : List Nat} {f : Nat → va_E} {ad : Nat → Nat} (w : gWd M base D E st av s h0 L0 f0 ad0 H locs L f ad h) {U : State} (hU : U.heap = H) (hW : s.WarmedH U.vm) : gPre base D E st av L f U :=
  ⟨by rw [hU]; exact Nat.le_trans w.2.1 w.2.2.2.1.1, by rw [hU]; exact w.2.2.2.2.1, w.2.2.2.2.2.1, va_K.moved hW.alike w.2.2.1, by rw [hU]; exact gJ.warm hW (w.1.kept w.2.2.2.1.2.1)⟩
theorem gSc_at {M' : gM} {base : Nat} {D : va_G} {E : Nat → ClassId} {st av : Nat → Nat} {s : State} {L0 : List Nat} {f0 : Nat → va_E} {ad0 : Nat → Nat} {H : Heap} {locs : List Loc} {L : List Nat} {f : Nat → va_E} {ad : Nat → Nat} (w : gWd M base D E st av s h0 L0 f0 ad0 H locs L f ad h) {ρ : List Nat} {h' : gH} (hs : gSub ρ h h') (hms : mS M' = none ∨ mS M' = mS M) {U : State} (hU : U.heap = H) (hW : s.WarmedH U.vm) : gSc M' base U (fun k => ad (gRen ρ k)) := by
  intro b L' xs hb
  rcases hms with z | z
  · rw [z] at hb; cases hb
  · rw [z] at hb
    obtain ⟨e1, e2, e3, e4⟩ := w.2.2.2.2.2.2.2.2.2 b L' xs hb
    have hl : ρ.length ≤ 1000 := by
      have := List.Nodup.length_le_of_subset (l₂ := List.range 1000) hs.2.1 (fun k hk => List.mem_range.mpr (hs.2.2 k hk))
      simpa using this
    refine ⟨by show ad (gRen ρ 2000) = b; rw [gRen_out (by omega)]; exact e1, ?_, by rw [hU]; exact Nat.lt_of_lt_of_le e3 w.2.2.2.1.1, e4⟩
    rw [hU]
    exact va_X.moved hW.alike (e2.kept (w.2.2.2.1.2.1 b e3 e4))
theorem gMapR (ad : Nat → Nat) (ρ : List Nat) (vs : List Value) : (vs.map (tv (gRen ρ))).map (tv ad) = vs.map (tv (fun k => ad (gRen ρ k))) := by
  rw [List.map_map]
  exact List.map_congr_left (fun v _ => tv_tv ad (gRen ρ) v)
/-- invokevirtual: the run -/
theorem g_vrun {M' : gM} {d' mc' ms' idx na ci k0 : Nat} {vs rest sk : List Value} {fs : List Value} {h' : gH} {Q' : Option Value → gH → Prop} {QX' : String → gH → Prop} (ρ : List Nat)
    (hC : gCt M' d' mc' ms' (.ref k0 :: vs) h' Q' QX') (hd : decode (mC M) pc = .ok (.invokevirtual idx, 3)) (hlk : gLkV (mY M).cls idx M' na) (hna : vs.length = na) (hk0 : h'[k0]? = some (some (.inl (ci, fs)))) (hci : (vwCl[ci]?).map (fun r => r.1) = some (mY M').cls)
    (hsk : sk = (vs.map (tv (gRen ρ))).reverse ++ .ref (gRen ρ k0) :: rest) (hs : gSub ρ h h') (hdd : d' + 1 ≤ d) (hcat : (rest.map fun v => v.category).sum ≤ 8) (hc : c + mc' ≤ mc) (hn : n + ms' ≤ ms)
    {p : Program} {l : Launch} {e : Env} {s : State} {m : MethodId} {args : Array Value} {below : List Frame} {meth : Method} {cd : Code} {base : Nat} {D : va_G} {E : Nat → ClassId} {st av : Nat → Nat} {L0 : List Nat} {f0 : Nat → va_E} {ad0 : Nat → Nat} {H : Heap} {locs : List Loc} {lsA : Array Slot} {L : List Nat} {f : Nat → va_E} {ad : Nat → Nat}
    (X : gCx M p l s m args meth cd) (w : gWd M base D E st av s h0 L0 f0 ad0 H locs L f ad h) (hl : gLv lsA (mN M) ad ls) (hms : mS M' = none ∨ mS M' = mS M := by exact Or.inl rfl) :
    vx_Run p l e (grm d mc ms) s m args below meth cd H locs c n mc' ms' (F0 m pc lsA (sk.map (tv ad))) (rest.map (tv ad)) (gQc (mR M') base D E h' L f (fun k => ad (gRen ρ k)) Q' (.ref (ad (gRen ρ k0)) :: vs.map (tv (fun k => ad (gRen ρ k)))).toArray) (gXc base D E h' L f (fun k => ad (gRen ρ k)) QX') (gA base) := by
  obtain ⟨hw, hT', hN9, hy1, hy2, hy3⟩ := hlk
  obtain ⟨hsub, hstr⟩ := w.sub hs
  have hM := hC l X.2.2.2.2.2.2.2.2.2 base D E st av L f _ hsub hstr
  have hb : (sk.map (tv ad)) = (vs.map (tv (fun k => ad (gRen ρ k)))).reverse ++ .ref (ad (gRen ρ k0)) :: rest.map (tv ad) := by
    rw [hsk, List.map_append, List.map_reverse, gMapR]; rfl
  obtain ⟨j, q1, q2⟩ := hs.at hk0
  obtain ⟨qq, hqq⟩ := w.at q2
  cases hcl : vwCl[ci]? with
  | none => rw [hcl] at hci; cases hci
  | some r =>
    rw [hcl] at hci
    have hcn : r.1 = (mY M').cls := Option.some.inj hci
    have hrecv := va_recv (cl := vwCl) (a := ad j) w.2.2.1 w.2.2.2.2.1 (ci := ci) (q0 := qq) hcl hqq
    rw [hcn, ← gRen_at q1] at hrecv
    exact vx_runV (C := (mY M').cls) (bytes := mC M') (maxL := mN M') (ret := mR M') (n := na) (Ts := gG) (own := (mY M).cls) (index := idx) ⟨X.1, X.2.1, X.2.2.2.1, X.2.2.2.2.1, X.2.2.2.2.2.1⟩ hM
      (cwV (ws' := gG) na X.2.2.2.2.2.1 (by
        unfold wsV
        refine goodIn_app (gGood (fun w hw' => hw w ?_)) ?_
        · simp only [List.mem_cons, List.not_mem_nil, or_false] at hw' ⊢
          rcases hw' with h9 | h9 | h9 | h9
          · exact Or.inl h9
          · exact Or.inr (Or.inl h9)
          · exact Or.inr (Or.inr (Or.inl h9))
          · exact Or.inr (Or.inr (Or.inr (Or.inl h9)))
        · rw [gws_of hT']
          refine gGood (fun w hw' => ?_)
          rcases List.mem_cons.mp hw' with h9 | h9
          · rw [h9]; exact hw _ (by simp)
          · exact h9) (gws_of hT') rfl rfl ⟨rfl, hy1, hy2, hy3⟩ ⟨hdd, by show 8 + (mN M' + 11) + 36 * d' ≤ 36 * d; omega⟩)
      ⟨gPre_blind, hrecv, fun U hU hW => ⟨rfl, gPre_at w hU hW, gSc_at w hs hms hU hW⟩⟩ rfl (by rw [List.length_map]; exact hna) hl.2.1 hb (lv_room (by rw [gCat]; exact hcat)) hd ⟨hc, hn⟩
/-- invokevirtual -/
theorem g_callV {M' : gM} {d' mc' ms' idx na ci k0 : Nat} {vs rest sk : List Value} {fs : List Value} {h' : gH} {Q' : Option Value → gH → Prop} {QX' : String → gH → Prop} (ρ : List Nat)
    (hC : gCt M' d' mc' ms' (.ref k0 :: vs) h' Q' QX') (hd : decode (mC M) pc = .ok (.invokevirtual idx, 3)) (hlk : gLkV (mY M).cls idx M' na) (hna : vs.length = na) (hk0 : h'[k0]? = some (some (.inl (ci, fs)))) (hci : (vwCl[ci]?).map (fun r => r.1) = some (mY M').cls)
    (hsk : sk = (vs.map (tv (gRen ρ))).reverse ++ .ref (gRen ρ k0) :: rest) (hs : gSub ρ h h') (hN : gNn ρ ls rest h h' Q' QX') (hT : mT M = []) (hdd : d' + 1 ≤ d) (hcat : (rest.map fun v => v.category).sum ≤ 8) (hc : c + mc' ≤ mc) (hn : n + ms' ≤ ms)
    (hX : ∀ X h1, QX' X h1 → QX X (gPb ρ ρ h1 h))
    (k : ∀ (v : Option Value) (h1 : gH), Q' v h1 → G M d mc ms h0 Q QX (c + mc') (n + ms') (pc + 3) ls ((v.map (tv (gRen ρ))).toList ++ rest) (gPb ρ ρ h1 h)) (hms : mS M' = none ∨ mS M' = mS M := by exact Or.inl rfl) : G M d mc ms h0 Q QX c n pc ls sk h := by
  intro p l e s m args below meth cd base D E st av L0 f0 ad0 H locs lsA L f ad X w hl
  exact g_run (M' := M') hs hN hT hc hn hX k X w hl (g_vrun ρ hC hd hlk hna hk0 hci hsk hs hdd hcat hc hn X w hl hms)
/-- invokevirtual, caught here -/
theorem g_callVC {M' : gM} {d' mc' ms' idx na ci k0 : Nat} {vs rest sk : List Value} {fs : List Value} {h' : gH} {Q' : Option Value → gH → Prop} {QX' : String → gH → Prop} (ρ : List Nat)
    (hC : gCt M' d' mc' ms' (.ref k0 :: vs) h' Q' QX') (hd : decode (mC M) pc = .ok (.invokevirtual idx, 3)) (hlk : gLkV (mY M).cls idx M' na) (hna : vs.length = na) (hk0 : h'[k0]? = some (some (.inl (ci, fs)))) (hci : (vwCl[ci]?).map (fun r => r.1) = some (mY M').cls)
    (hsk : sk = (vs.map (tv (gRen ρ))).reverse ++ .ref (gRen ρ k0) :: rest) (hs : gSub ρ h h') (hN : gNn ρ ls rest h h' Q' QX') (hdd : d' + 1 ≤ d) (hcat : (rest.map fun v => v.category).sum ≤ 8) (hc : c + mc' ≤ mc) (hn : n + ms' ≤ ms)
    (hX : ∀ X h1, QX' X h1 → gHd M pc Q X (gPb ρ ρ h1 h))
    (k : ∀ (v : Option Value) (h1 : gH), Q' v h1 → G M d mc ms h0 Q QX (c + mc') (n + ms') (pc + 3) ls ((v.map (tv (gRen ρ))).toList ++ rest) (gPb ρ ρ h1 h)) (hms : mS M' = none ∨ mS M' = mS M := by exact Or.inl rfl) : G M d mc ms h0 Q QX c n pc ls sk h := by
  intro p l e s m args below meth cd base D E st av L0 f0 ad0 H locs lsA L f ad X w hl
  exact g_runC (M' := M') hs hN hc hn hX k X w hl (g_vrun ρ hC hd hlk hna hk0 hci hsk hs hdd hcat hc hn X w hl hms)
/-- invokestatic -/
theorem g_callS {M' : gM} {d' mc' ms' idx na : Nat} {vs rest sk : List Value} {h' : gH} {Q' : Option Value → gH → Prop} {QX' : String → gH → Prop} (ρ : List Nat)
    (hC : gCt M' d' mc' ms' vs h' Q' QX') (hd : decode (mC M) pc = .ok (.invokestatic idx, 3)) (hlk : gLkS (mY M).cls idx M' na) (hna : vs.length = na)
    (hsk : sk = (vs.map (tv (gRen ρ))).reverse ++ rest) (hs : gSub ρ h h') (hN : gNn ρ ls rest h h' Q' QX') (hT : mT M = []) (hdd : d' + 1 ≤ d) (hcat : (rest.map fun v => v.category).sum ≤ 8) (hc : c + mc' ≤ mc) (hn : n + ms' ≤ ms)
    (hX : ∀ X h1, QX' X h1 → QX X (gPb ρ ρ h1 h))
    (k : ∀ (v : Option Value) (h1 : gH), Q' v h1 → G M d mc ms h0 Q QX (c + mc') (n + ms') (pc + 3) ls ((v.map (tv (gRen ρ))).toList ++ rest) (gPb ρ ρ h1 h)) (hms : mS M' = none ∨ mS M' = mS M := by exact Or.inl rfl) : G M d mc ms h0 Q QX c n pc ls sk h := by
  intro p l e s m args below meth cd base D E st av L0 f0 ad0 H locs lsA L f ad X w hl
  obtain ⟨hw, hT', hN9, hy0, hy1, hy2, hy3⟩ := hlk
  obtain ⟨hsub, hstr⟩ := w.sub hs
  have hM := hC l X.2.2.2.2.2.2.2.2.2 base D E st av L f _ hsub hstr
  have hb : (sk.map (tv ad)) = (vs.map (tv (fun k => ad (gRen ρ k)))).reverse ++ rest.map (tv ad) := by
    rw [hsk, List.map_append, List.map_reverse, gMapR]
  refine g_run (M' := M') (vs := vs.map (tv (fun k => ad (gRen ρ k)))) hs hN hT hc hn hX k X w hl ?_
  exact vx_runS (bytes := mC M') (maxL := mN M') (ret := mR M') (n := na) (Ts := gG) (own := (mY M).cls) (index := idx) ⟨X.1, X.2.1, X.2.2.2.1, X.2.2.2.2.1, X.2.2.2.2.2.1⟩ hM
    (cwS (ws' := gG) na X.2.2.2.2.2.1 (by
      unfold wsS
      refine goodIn_app (gGood (fun w hw' => hw w ?_)) ?_
      · simp only [List.mem_cons, List.not_mem_nil, or_false] at hw' ⊢
        rcases hw' with h9 | h9 | h9
        · exact Or.inl h9
        · exact Or.inr (Or.inl h9)
        · exact Or.inr (Or.inr (Or.inl h9))
      · rw [gws_of hT']
        refine gGood (fun w hw' => ?_)
        rcases List.mem_cons.mp hw' with h9 | h9
        · rw [h9]; exact hw _ (by simp)
        · exact h9) (gws_of hT') rfl rfl ⟨hy0, hy1, hy2, hy3⟩ ⟨hdd, by show 8 + (mN M' + 11) + 36 * d' ≤ 36 * d; omega⟩)
    ⟨gPre_blind, fun U hU hW => ⟨rfl, gPre_at w hU hW, gSc_at w hs hms hU hW⟩⟩ rfl (by rw [List.length_map]; exact hna) hl.2.1 hb (lv_room (by rw [gCat]; exact hcat)) hd ⟨hc, hn⟩
/-- a contract without throws -/
theorem gMet {l : Launch} {y : MethodName} {ws : List Cond} {rm : Room} {Pc : Array Value → State → Prop} {Qc : Array Value → State → Outcome → State → Prop} {XC : String → State → State → Prop} {mc ms : Nat} {free : Addr → Prop} (h : vx_Met l y ws rm Pc Qc XC mc ms free) (hX : ∀ E s t, ¬ XC E s t) : Met l y ws rm Pc Qc mc ms free := by
  intro p e a1 a2 a3 s m args below a4 a5 a6 a7
  obtain ⟨n, o, b1, b2, b3, b4⟩ := h p e a1 a2 a3 s m args below a4 a5 a6 a7
  refine ⟨n, o, b1, b2, b3, ?_⟩
  rcases b4 with b4 | ⟨q, -, E, ce, L, hE, -⟩
  · exact b4
  · exact absurd hE (hX _ _ _)
theorem gRunX {p : Program} {l : Launch} {e : Env} {R : Room} {s : State} {m : MethodId} {args : Array Value} {below : List Frame} {meth : Method} {cd : Code} {H : Heap} {locs : List Loc} {cells slots mc ms : Nat} {g : JFrame} {rest : List Value} {Qa : State → Outcome → State → Prop} {XC : String → State → State → Prop} {free : Addr → Prop}
    (h : va_Run p l e R s m args below meth cd H locs cells slots mc ms g rest Qa free) : vx_Run p l e R s m args below meth cd H locs cells slots mc ms g rest Qa XC free := by
  intro T hT X
  obtain ⟨v, st0, t, T', L, q⟩ := h T hT X
  exact Or.inl ⟨v, st0, t, T', L, q⟩
/-- the constructor of a nest mate -/
theorem g_callN {M' : gM} {d' mc' ms' idx na k0 : Nat} {host : String} {vs rest sk : List Value} {h' : gH} {Q' : Option Value → gH → Prop} (ρ : List Nat)
    (hC : gCt M' d' mc' ms' (.ref k0 :: vs) h' Q' (fun _ _ => False)) (hd : decode (mC M) pc = .ok (.invokespecial idx, 3)) (hlk : gLkN (mY M).cls idx M' host na) (hna : vs.length = na)
    (hsk : sk = (vs.map (tv (gRen ρ))).reverse ++ .ref (gRen ρ k0) :: rest) (hs : gSub ρ h h') (hN : gNn ρ ls rest h h' Q' (fun _ _ => False)) (hT : mT M = []) (hdd : d' + 1 ≤ d) (hcat : (rest.map fun v => v.category).sum ≤ 8) (hc : c + mc' ≤ mc) (hn : n + ms' ≤ ms)
    (k : ∀ (v : Option Value) (h1 : gH), Q' v h1 → G M d mc ms h0 Q QX (c + mc') (n + ms') (pc + 3) ls ((v.map (tv (gRen ρ))).toList ++ rest) (gPb ρ ρ h1 h)) (hms : mS M' = none ∨ mS M' = mS M := by exact Or.inl rfl) : G M d mc ms h0 Q QX c n pc ls sk h := by
  intro p l e s m args below meth cd base D E st av L0 f0 ad0 H locs lsA L f ad X w hl
  obtain ⟨hw, hnm, hini, hret, hT', hN9, hy1, hy2, hy3⟩ := hlk
  obtain ⟨hsub, hstr⟩ := w.sub hs
  have hM := gMet (hC l X.2.2.2.2.2.2.2.2.2 base D E st av L f _ hsub hstr) (fun E s t hx => by obtain ⟨u, hu, -⟩ := hx; exact hu.1)
  have hb : (sk.map (tv ad)) = (vs.map (tv (fun k => ad (gRen ρ k)))).reverse ++ .ref (ad (gRen ρ k0)) :: rest.map (tv ad) := by
    rw [hsk, List.map_append, List.map_reverse, gMapR]; rfl
  have hcode : Cond.code (mY M') (mC M') (mN M') none ∈ gG := by rw [← hret]; exact hw _ (by simp)
  have hws : gws M' = Cond.code (mY M') (mC M') (mN M') none :: gG := by rw [gws_of hT', hret]
  refine g_run (M' := M') (vs := .ref (ad (gRen ρ k0)) :: vs.map (tv (fun k => ad (gRen ρ k)))) hs hN hT hc hn (fun _ _ z => z.elim) k X w hl (gRunX ?_)
  exact va_runIN (host := host) (bytes := mC M') (maxL := mN M') (n := na) (Ts := gG) (own := (mY M).cls) (index := idx) ⟨X.1, X.2.1, X.2.2.2.1, X.2.2.2.2.1, X.2.2.2.2.2.1⟩ hM
    ⟨va_cnB (ws' := gG) na X.2.2.2.2.2.1 (by
      rw [hws]
      refine gGood (fun w hw' => ?_)
      rcases List.mem_cons.mp hw' with h9 | h9
      · rw [h9]; exact hcode
      · exact h9) hws rfl rfl (w.1.1 _ hnm) (X.2.2.2.2.2.1 _ (hw _ (by simp))) ⟨hy1, hy2, hy3⟩ ⟨hdd, by show 8 + (mN M' + 11) + 36 * d' ≤ 36 * d; omega⟩, hini, X.2.2.2.2.2.1 _ (hw _ (by simp))⟩
    ⟨gPre_blind, fun U hU hW => ⟨rfl, gPre_at w hU hW, gSc_at w hs hms hU hW⟩⟩ rfl (by rw [List.length_map]; exact hna) hl.2.1 hb (lv_room (by rw [gCat]; exact hcat)) hd ⟨hc, hn⟩
/-- a public constructor -/
theorem g_callI {M' : gM} {d' mc' ms' idx na k0 : Nat} {vs rest sk : List Value} {h' : gH} {Q' : Option Value → gH → Prop} (ρ : List Nat)
    (hC : gCt M' d' mc' ms' (.ref k0 :: vs) h' Q' (fun _ _ => False)) (hd : decode (mC M) pc = .ok (.invokespecial idx, 3)) (hlk : gLkI (mY M).cls idx M' na) (hna : vs.length = na)
    (hsk : sk = (vs.map (tv (gRen ρ))).reverse ++ .ref (gRen ρ k0) :: rest) (hs : gSub ρ h h') (hN : gNn ρ ls rest h h' Q' (fun _ _ => False)) (hT : mT M = []) (hdd : d' + 1 ≤ d) (hcat : (rest.map fun v => v.category).sum ≤ 8) (hc : c + mc' ≤ mc) (hn : n + ms' ≤ ms)
    (k : ∀ (v : Option Value) (h1 : gH), Q' v h1 → G M d mc ms h0 Q QX (c + mc') (n + ms') (pc + 3) ls ((v.map (tv (gRen ρ))).toList ++ rest) (gPb ρ ρ h1 h)) (hms : mS M' = none ∨ mS M' = mS M := by exact Or.inl rfl) : G M d mc ms h0 Q QX c n pc ls sk h := by
  intro p l e s m args below meth cd base D E st av L0 f0 ad0 H locs lsA L f ad X w hl
  obtain ⟨hw, hini, hret, hT', hN9, hy1, hy2, hy3⟩ := hlk
  obtain ⟨hsub, hstr⟩ := w.sub hs
  have hM := gMet (hC l X.2.2.2.2.2.2.2.2.2 base D E st av L f _ hsub hstr) (fun E s t hx => by obtain ⟨u, hu, -⟩ := hx; exact hu.1)
  have hb : (sk.map (tv ad)) = (vs.map (tv (fun k => ad (gRen ρ k)))).reverse ++ .ref (ad (gRen ρ k0)) :: rest.map (tv ad) := by
    rw [hsk, List.map_append, List.map_reverse, gMapR]; rfl
  have hcode : Cond.code (mY M') (mC M') (mN M') none ∈ gG := by rw [← hret]; exact hw _ (by simp)
  have hws : gws M' = Cond.code (mY M') (mC M') (mN M') none :: gG := by rw [gws_of hT', hret]
  refine g_run (M' := M') (vs := .ref (ad (gRen ρ k0)) :: vs.map (tv (fun k => ad (gRen ρ k)))) hs hN hT hc hn (fun _ _ z => z.elim) k X w hl (gRunX ?_)
  exact va_runI (bytes := mC M') (maxL := mN M') (n := na) (Ts := gG) (own := (mY M).cls) (index := idx) ⟨X.1, X.2.1, X.2.2.2.1, X.2.2.2.2.1, X.2.2.2.2.2.1⟩ hM
    (cwI (ws' := gG) na X.2.2.2.2.2.1 (by
      rw [hws]
      refine gGood (fun w hw' => ?_)
      rcases List.mem_cons.mp hw' with h9 | h9
      · rw [h9]; exact hcode
      · exact h9) hws rfl rfl (X.2.2.2.2.2.1 _ (hw _ (by simp))) (X.2.2.2.2.2.1 _ (hw _ (by simp))) (X.2.2.2.2.2.1 _ (hw _ (by simp))) hini ⟨hy1, hy2, hy3⟩ ⟨hdd, by show 8 + (mN M' + 11) + 36 * d' ≤ 36 * d; omega⟩)
    ⟨gPre_blind, fun U hU hW => ⟨rfl, gPre_at w hU hW, gSc_at w hs hms hU hW⟩⟩ rfl (by rw [List.length_map]; exact hna) hl.2.1 hb (lv_room (by rw [gCat]; exact hcat)) hd ⟨hc, hn⟩
end GCALL
