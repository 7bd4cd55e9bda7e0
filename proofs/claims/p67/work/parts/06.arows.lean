/-! the rows of the layer that make cells, and the library's own calls -/
/-- the number p stands nowhere in the cell -/
def gNo (p : Nat) : gC → Prop
  | .inl o => ∀ v ∈ o.2, v ≠ .ref p
  | .inr (.inl _) => True
  | .inr (.inr (.inl l)) => ∀ o ∈ l, o ≠ some p
  | .inr (.inr (.inr l)) => ∀ o ∈ l, o ≠ some p
theorem tv_up {ad : Nat → Nat} {p q : Nat} {v : Value} (h : v ≠ .ref p) : tv (va_up ad p q) v = tv ad v := by
  cases v <;> first | rfl | skip
  rename_i a
  show Value.ref (va_up ad p q a) = .ref (ad a)
  rw [va_up_ne _ _ (fun z => h (by rw [z]))]
theorem tc_up {E : Nat → ClassId} {ad : Nat → Nat} {p q : Nat} {c : gC} (h : gNo p c) : tc E (va_up ad p q) c = tc E ad c := by
  match c, h with
  | .inl o, h =>
    show (.inr (o.1, o.2.map (tv (va_up ad p q))) : va_E) = .inr (o.1, o.2.map (tv ad))
    rw [List.map_congr_left (fun v hv => tv_up (h v hv))]
  | .inr (.inl _), _ => rfl
  | .inr (.inr (.inl l)), h =>
    show (.inl (E 2, l.length, .inr (.inr (.inr (.inr (fun j => (l.getD j none).map (va_up ad p q)))))) : va_E) = .inl (E 2, l.length, .inr (.inr (.inr (.inr (fun j => (l.getD j none).map ad)))))
    congr 7
    funext j
    by_cases hj : j < l.length
    · have hm : l.getD j none ∈ l := by rw [List.getD_eq_getElem?_getD, List.getElem?_eq_getElem hj]; exact List.getElem_mem hj
      cases ho : l.getD j none with
      | none => rfl
      | some a =>
        show some (va_up ad p q a) = some (ad a)
        rw [va_up_ne _ _ (fun z => h _ hm (by rw [ho, z]))]
    · rw [List.getD_eq_getElem?_getD, List.getElem?_eq_none (by omega)]; rfl
  | .inr (.inr (.inr l)), h =>
    show (.inl (E 3, l.length, .inr (.inr (.inr (.inr (fun j => (l.getD j none).map (va_up ad p q)))))) : va_E) = .inl (E 3, l.length, .inr (.inr (.inr (.inr (fun j => (l.getD j none).map ad)))))
    congr 7
    funext j
    by_cases hj : j < l.length
    · have hm : l.getD j none ∈ l := by rw [List.getD_eq_getElem?_getD, List.getElem?_eq_getElem hj]; exact List.getElem_mem hj
      cases ho : l.getD j none with
      | none => rfl
      | some a =>
        show some (va_up ad p q a) = some (ad a)
        rw [va_up_ne _ _ (fun z => h _ hm (by rw [ho, z]))]
    · rw [List.getD_eq_getElem?_getD, List.getElem?_eq_none (by omega)]; rfl
section GW2
variable {M : gM} {base : Nat} {D : va_G} {E : Nat → ClassId} {st av : Nat → Nat} {s : State} {h0 : gH} {L0 : List Nat} {f0 : Nat → va_E} {ad0 : Nat → Nat} {H : Heap} {locs : List Loc} {L : List Nat} {f : Nat → va_E} {ad : Nat → Nat} {h : gH}
/-- a cell is made at the free place p -/
theorem gWd.push (w : gWd M base D E st av s h0 L0 f0 ad0 H locs L f ad h) {p q : Nat} {c : gC} (hp : h[p]? = some none) (hp9 : p < 1000) (hno : ∀ (k : Nat) (c' : gC), h[k]? = some (some c') → gNo p c') (hnc : gNo p c) {H1 : Heap}
    (hP1 : va_P D vwCl (va_pl L f ++ [(q, tc E ad c)]) H1) (hD1 : va_D (gA base) (va_pl L f ++ [(q, tc E ad c)])) (hS1 : va_S (gA base) s.heap H1 locs) :
    gWd M base D E st av s h0 L0 f0 ad0 H1 locs (L ++ [q]) (va_up f q (tc E ad c)) (va_up ad p q) (h.set p (some c)) := by
  obtain ⟨hJ, hb, hK, hS, hP, hD, hR, hst, hF, hsc⟩ := w
  have hq : q ∉ L := va_pl_fresh2 (X := []) (e := tc E ad c) hD1
  rw [va_pl_push hq] at hP1 hD1
  have hlt : p < h.length := (List.getElem?_eq_some_iff.mp hp).1
  have hne : ∀ (k : Nat) (c' : gC), h[k]? = some (some c') → k ≠ p := fun k c' hk z => by rw [z, hp] at hk; cases hk
  have hmem : ∀ (k : Nat) (c' : gC), h[k]? = some (some c') → ad k ≠ q := fun k c' hk z => hq (z ▸ (hR.1 k c' hk).1)
  refine ⟨hJ, hb, hK, hS1, hP1, hD1, ⟨fun k ck hk => ?_, fun j k cj ck hj hk hjk => ?_⟩, fun i => ?_, ?_, ?_⟩
  · by_cases hkp : k = p
    · subst hkp
      rw [List.getElem?_set_self hlt] at hk
      cases hk
      rw [va_up_self, va_up_self, tc_up hnc]
      exact ⟨List.mem_append_right _ List.mem_cons_self, rfl⟩
    · rw [List.getElem?_set_ne (fun z => hkp z.symm)] at hk
      obtain ⟨g1, g2⟩ := hR.1 k ck hk
      rw [va_up_ne _ _ hkp, va_up_ne _ _ (hmem k ck hk), tc_up (hno k ck hk)]
      exact ⟨List.mem_append_left _ g1, g2⟩
  · by_cases hjp : j = p
    · by_cases hkp : k = p
      · rw [hjp, hkp]
      · rw [List.getElem?_set_ne (fun z => hkp z.symm)] at hk
        rw [hjp, va_up_self, va_up_ne _ _ hkp] at hjk
        exact absurd hjk.symm (hmem k ck hk)
    · rw [List.getElem?_set_ne (fun z => hjp z.symm)] at hj
      by_cases hkp : k = p
      · rw [hkp, va_up_self, va_up_ne _ _ hjp] at hjk
        exact absurd hjk (hmem j cj hj)
      · rw [List.getElem?_set_ne (fun z => hkp z.symm)] at hk
        rw [va_up_ne _ _ hjp, va_up_ne _ _ hkp] at hjk
        exact hR.2 j k cj ck hj hk hjk
  · rw [va_up_ne _ _ (show 1000 + i ≠ p by omega)]
    exact hst i
  · obtain ⟨a1, a2, a3, a4, a5, a6⟩ := hF
    have hz : h0[p]? = some none ∨ ∃ c9, h0[p]? = some (some c9) := by
      cases h9 : h0[p]? with
      | none =>
        have := List.getElem?_eq_none_iff.mp h9
        omega
      | some o => cases o with
        | none => exact Or.inl rfl
        | some c9 => exact Or.inr ⟨c9, rfl⟩
    refine ⟨fun k hk => ?_, fun a ha => List.mem_append_left _ (a2 a ha), fun a ha hn => ?_, fun k ck hk0 hk => ?_, by rw [List.length_set]; exact a5, fun k ck hk0 hk => ?_⟩
    · by_cases hkp : k = p
      · subst hkp
        rcases hz with hz | ⟨c9, hz⟩
        · exact absurd hz hk
        · exact absurd hp (a6 k c9 hz)
      · rw [va_up_ne _ _ hkp]; exact a1 k hk
    · rw [va_up_ne _ _ (by rintro rfl; exact hq (a2 _ ha))]
      exact a3 a ha hn
    · by_cases hkp : k = p
      · rw [hkp, va_up_self]
        exact fun z => hq (a2 q z)
      · rw [List.getElem?_set_ne (fun z => hkp z.symm)] at hk
        rw [va_up_ne _ _ hkp]
        exact a4 k ck hk0 hk
    · by_cases hkp : k = p
      · subst hkp
        rw [List.getElem?_set_self hlt] at hk
        cases hk
      · rw [List.getElem?_set_ne (fun z => hkp z.symm)] at hk
        exact a6 k ck hk0 hk
  · intro b L' xs hb'
    obtain ⟨e1, e2⟩ := hsc b L' xs hb'
    exact ⟨by rw [va_up_ne _ _ (show 2000 ≠ p by omega)]; exact e1, e2⟩
end GW2
section GAROWS
variable {M : gM} {d mc ms : Nat} {h0 : gH} {Q : Option Value → gH → Prop} {QX : String → gH → Prop} {c n pc : Nat} {ls : List (Option Value)} {sk : List Value} {h : gH}
theorem gLsF_up {ad : Nat → Nat} {p q : Nat} : ∀ {ls : List (Option Value)} {k : Nat}, (∀ v, some v ∈ ls → v ≠ .ref p) → gLsF (va_up ad p q) k ls = gLsF ad k ls := by
  intro ls
  induction ls with
  | nil => intro k _; rfl
  | cons o r ih =>
    intro k hn
    have hr := ih (k := k + 1) (fun v hv => hn v (List.mem_cons_of_mem _ hv))
    cases o with
    | none => exact hr
    | some v => rw [gLsF, gLsF, hr, tv_up (hn v List.mem_cons_self)]
theorem map_tv_up {ad : Nat → Nat} {p q : Nat} {sk : List Value} (h : ∀ v ∈ sk, v ≠ .ref p) : sk.map (tv (va_up ad p q)) = sk.map (tv ad) := List.map_congr_left (fun v hv => tv_up (h v hv))
/-- nothing in sight bears the number p -/
def gFree (p : Nat) (ls : List (Option Value)) (sk : List Value) (h : gH) : Prop := h[p]? = some none ∧ p < 1000 ∧ (∀ v, some v ∈ ls → v ≠ .ref p) ∧ (∀ v ∈ sk, v ≠ .ref p) ∧ ∀ (k : Nat) (c' : gC), h[k]? = some (some c') → gNo p c'
def gDef (ci : Nat) : List Value := match vwCl[ci]? with
  | some r => (List.range r.2.2).map (fun k => match parseFieldDescriptor (r.2.1 k).2.2.1 with
    | some ty => defaultValue ty
    | none => .null)
  | none => []
theorem gDef_no (p ci : Nat) : gNo p (.inl (ci, gDef ci)) := by
  intro v hv
  unfold gDef at hv
  split at hv
  · obtain ⟨k, -, rfl⟩ := List.mem_map.mp hv
    split
    · rename_i ty _
      cases ty <;> simp [defaultValue]
    · simp
  · cases hv
theorem g_new {ci idx : Nat} (p0 : Nat) (hd : decode (mC M) pc = .ok (.new idx, 3)) (hk : gNewOk (mY M).cls idx ci) (hf : gFree p0 ls sk h) (hc9 : c + 1 ≤ mc) (hn9 : n + (gDef ci).length ≤ ms)
    (k : G M d mc ms h0 Q QX (c + 1) (n + (gDef ci).length) (pc + 3) ls (.ref p0 :: sk) (h.set p0 (some (.inl (ci, gDef ci))))) : G M d mc ms h0 Q QX c n pc ls sk h := by
  intro p l e s m args below meth cd base D E st av L0 f0 ad0 H locs lsA L f ad X w hl
  obtain ⟨C, T, N, hc, hw1, hw2, hw3⟩ := hk
  obtain ⟨g1, ⟨ty0, g2⟩, g3⟩ := gCls ci _ hc
  obtain ⟨f1, f2, f3, f4, f5⟩ := hf
  have hdl : gDef ci = (List.range N).map (fun k => match parseFieldDescriptor (T k).2.2.1 with
    | some ty => defaultValue ty
    | none => .null) := by unfold gDef; rw [hc]
  have hN : (gDef ci).length = N := by rw [hdl, List.length_map, List.length_range]
  have hdv : ∀ j, j < N → defaultValue (ty0 j) = vp_V (gDef ci) j := by
    intro j hj
    rw [hdl]
    unfold vp_V
    rw [List.getD_eq_getElem?_getD, List.getElem?_map, List.getElem?_range hj]
    simp only [Option.map_some, Option.getD_some]
    rw [g2 j hj]
  have htc : ∀ ad, tc E ad (.inl (ci, gDef ci)) = (.inr (ci, gDef ci) : va_E) := by
    intro ad
    show (.inr (ci, (gDef ci).map (tv ad)) : va_E) = _
    have e1 : (gDef ci).map (tv ad) = gDef ci := by
      conv => rhs; rw [← List.map_id (gDef ci)]
      refine List.map_congr_left (fun v hv => ?_)
      rw [hdl] at hv
      obtain ⟨k, -, rfl⟩ := List.mem_map.mp hv
      split
      · rename_i ty _
        cases ty <;> rfl
      · rfl
    rw [e1]
  refine va_new (D := D) (cl := vwCl) (tys := gTys E) (ci := ci) (fs := gDef ci) (C := C) (T := T) (N := N) X.1 X.2.1 X.2.2.2.2.2.1 g1 ty0 g2 X.2.2.2.2.1 (X.2.2.2.2.2.1 _ hw1) (X.2.2.2.2.2.1 _ hw2) (X.2.2.2.2.2.1 _ hw3) w.2.2.1 w.2.2.2.2.1 w.2.2.2.2.2.1 w.2.2.2.1 (fun q hq => Nat.le_trans w.2.1 hq) hc hdv hc9 (by rw [← hN]; exact hn9) hd (fun q H1 hP1 hD1 hS1 => ?_)
  rw [← htc ad] at hP1 hD1
  have w' := w.push f1 f2 f5 (gDef_no p0 ci) hP1 hD1 hS1
  have k' := k p l e s m args below meth cd base D E st av L0 f0 ad0 H1 locs lsA _ _ _ X w' (by unfold gLv; rw [gLsF_up f3]; exact hl)
  rw [List.map_cons, map_tv_up f4, show tv (va_up ad p0 q) (.ref p0) = .ref q from congrArg Value.ref (va_up_self ad p0 q), hN] at k'
  exact k'
theorem gRA_int {D : va_G} {E : Nat → ClassId} {s : State} {cA : ClassId} {ty : FieldType} {j : Nat} (hK : va_K D vwCl (gTys E ++ [(cA, ty)]) s) (hj : (gTys E)[j]? = some (E j, ty)) : cA = E j := by
  have h1 := (hK.2 4 (cA, ty) rfl).2
  have h2 := (hK.2 j (E j, ty) (by rw [List.getElem?_append_left (List.getElem?_eq_some_iff.mp hj).1]; exact hj)).2
  cases ty with
  | object C =>
    obtain ⟨-, -, -, -, -, h1⟩ := h1
    obtain ⟨-, -, -, -, -, h2⟩ := h2
    exact Option.some.inj (h1.symm.trans h2)
  | _ => exact Option.some.inj (h1.symm.trans h2)
theorem g_newI {z : Int32} {N : Nat} (p0 : Nat) (hd : decode (mC M) pc = .ok (.newarray .int, 2)) (hz : vp_in z (N + 1)) (hzN : z.toNatClampNeg = N) (hN : N ≤ 100000) (hf : gFree p0 ls sk h) (hc9 : c + 1 ≤ mc) (hn9 : n + N ≤ ms)
    (k : G M d mc ms h0 Q QX (c + 1) (n + N) (pc + 2) ls (.ref p0 :: sk) (h.set p0 (some (.inr (.inl (0, List.replicate N 0)))))) : G M d mc ms h0 Q QX c n pc ls (.int z :: sk) h := by
  intro p l e s m args below meth cd base D E st av L0 f0 ad0 H locs lsA L f ad X w hl
  obtain ⟨f1, f2, f3, f4, f5⟩ := hf
  refine va_newa (D := D) (cl := vwCl) (tys := gTys E) (atype := .int) (ty := .int) (a0 := (N, .inl (fun _ => 0))) X.1 X.2.1 (X.2.2.2.2.2.1 _ gAcI) rfl w.2.2.1 w.2.2.2.2.1 w.2.2.2.2.2.1 w.2.2.2.1 (fun q hq => Nat.le_trans w.2.1 hq) (fun cA => rfl) (fun q => hz (Or.inl q)) hzN (by show N * 4 ≤ _; omega) hc9 hn9 hd (fun q cA H1 hK1 hP1 hD1 hS1 => ?_)
  have hcA := gRA_int (j := 0) hK1 rfl
  have htc : tc E ad (.inr (.inl (0, List.replicate N 0))) = (.inl (cA, N, .inl (fun _ => 0)) : va_E) := by
    show (.inl (E 0, (List.replicate N (0 : Int32)).length, .inl (fun j => (List.replicate N (0 : Int32)).getD j 0)) : va_E) = _
    rw [hcA, List.length_replicate]
    congr 4
    funext j
    rw [List.getD_eq_getElem?_getD, List.getElem?_replicate]
    split <;> rfl
  rw [← htc] at hP1 hD1
  have w' := w.push f1 f2 f5 (show gNo p0 (.inr (.inl (0, List.replicate N 0))) from trivial) hP1 hD1 hS1
  have k' := k p l e s m args below meth cd base D E st av L0 f0 ad0 H1 locs lsA _ _ _ X w' (by unfold gLv; rw [gLsF_up f3]; exact hl)
  rw [List.map_cons, map_tv_up f4, show tv (va_up ad p0 q) (.ref p0) = .ref q from congrArg Value.ref (va_up_self ad p0 q)] at k'
  exact k'
theorem g_newB {z : Int32} {N : Nat} (p0 : Nat) (hd : decode (mC M) pc = .ok (.newarray .byte, 2)) (hz : vp_in z (N + 1)) (hzN : z.toNatClampNeg = N) (hN : N ≤ 100000) (hf : gFree p0 ls sk h) (hc9 : c + 1 ≤ mc) (hn9 : n + N ≤ ms)
    (k : G M d mc ms h0 Q QX (c + 1) (n + N) (pc + 2) ls (.ref p0 :: sk) (h.set p0 (some (.inr (.inl (1, List.replicate N 0)))))) : G M d mc ms h0 Q QX c n pc ls (.int z :: sk) h := by
  intro p l e s m args below meth cd base D E st av L0 f0 ad0 H locs lsA L f ad X w hl
  obtain ⟨f1, f2, f3, f4, f5⟩ := hf
  refine va_newa (D := D) (cl := vwCl) (tys := gTys E) (atype := .byte) (ty := .byte) (a0 := (N, .inl (fun _ => 0))) X.1 X.2.1 (X.2.2.2.2.2.1 _ gAcB) rfl w.2.2.1 w.2.2.2.2.1 w.2.2.2.2.2.1 w.2.2.2.1 (fun q hq => Nat.le_trans w.2.1 hq) (fun cA => rfl) (fun q => hz (Or.inl q)) hzN (by show N * 1 ≤ _; omega) hc9 hn9 hd (fun q cA H1 hK1 hP1 hD1 hS1 => ?_)
  have hcA := gRA_int (j := 1) hK1 rfl
  have htc : tc E ad (.inr (.inl (1, List.replicate N 0))) = (.inl (cA, N, .inl (fun _ => 0)) : va_E) := by
    show (.inl (E 1, (List.replicate N (0 : Int32)).length, .inl (fun j => (List.replicate N (0 : Int32)).getD j 0)) : va_E) = _
    rw [hcA, List.length_replicate]
    congr 4
    funext j
    rw [List.getD_eq_getElem?_getD, List.getElem?_replicate]
    split <;> rfl
  rw [← htc] at hP1 hD1
  have w' := w.push f1 f2 f5 (show gNo p0 (.inr (.inl (1, List.replicate N 0))) from trivial) hP1 hD1 hS1
  have k' := k p l e s m args below meth cd base D E st av L0 f0 ad0 H1 locs lsA _ _ _ X w' (by unfold gLv; rw [gLsF_up f3]; exact hl)
  rw [List.map_cons, map_tv_up f4, show tv (va_up ad p0 q) (.ref p0) = .ref q from congrArg Value.ref (va_up_self ad p0 q)] at k'
  exact k'
theorem g_newQ {z : Int32} {N idx : Nat} (p0 : Nat) (hd : decode (mC M) pc = .ok (.anewarray idx, 3)) (hk : Cond.classLink (mY M).cls idx RX3 ∈ gG) (hz : vp_in z (N + 1)) (hzN : z.toNatClampNeg = N) (hN : N ≤ 100000) (hf : gFree p0 ls sk h) (hc9 : c + 1 ≤ mc) (hn9 : n + N ≤ ms)
    (k : G M d mc ms h0 Q QX (c + 1) (n + N) (pc + 3) ls (.ref p0 :: sk) (h.set p0 (some (.inr (.inr (.inl (List.replicate N none))))))) : G M d mc ms h0 Q QX c n pc ls (.int z :: sk) h := by
  intro p l e s m args below meth cd base D E st av L0 f0 ad0 H locs lsA L f ad X w hl
  obtain ⟨f1, f2, f3, f4, f5⟩ := hf
  refine va_newq (D := D) (cl := vwCl) (tys := gTys E) (C := RX3) X.1 X.2.1 X.2.2.2.2.1 (X.2.2.2.2.2.1 _ hk) w.1.2.2.2.2.2.2.2.2.1.1 w.2.2.1 w.2.2.2.2.1 w.2.2.2.2.2.1 w.2.2.2.1 (fun q hq => Nat.le_trans w.2.1 hq) (fun q => hz (Or.inl q)) hzN (by omega) hc9 hn9 hd (fun q cA H1 hK1 hP1 hD1 hS1 => ?_)
  have hcA := gRA_int (j := 2) hK1 rfl
  have htc : tc E ad (.inr (.inr (.inl (List.replicate N none)))) = (.inl (cA, N, .inr (.inr (.inr (.inr (fun _ => none))))) : va_E) := by
    show (.inl (E 2, (List.replicate N (none : Option Nat)).length, .inr (.inr (.inr (.inr (fun j => ((List.replicate N (none : Option Nat)).getD j none).map ad))))) : va_E) = _
    rw [hcA, List.length_replicate]
    congr 7
    funext j
    rw [List.getD_eq_getElem?_getD, List.getElem?_replicate]
    split <;> rfl
  rw [← htc] at hP1 hD1
  have w' := w.push f1 f2 f5 (show gNo p0 (.inr (.inr (.inl (List.replicate N none)))) from fun o ho => by rw [(List.mem_replicate.mp ho).2]; simp) hP1 hD1 hS1
  have k' := k p l e s m args below meth cd base D E st av L0 f0 ad0 H1 locs lsA _ _ _ X w' (by unfold gLv; rw [gLsF_up f3]; exact hl)
  rw [List.map_cons, map_tv_up f4, show tv (va_up ad p0 q) (.ref p0) = .ref q from congrArg Value.ref (va_up_self ad p0 q)] at k'
  exact k'
/-! the library's own -/
theorem g_obj {idx a : Nat} (hd : decode (mC M) pc = .ok (.invokespecial idx, 3)) (hw : Cond.methodLink (mY M).cls idx objectInit ∈ gG) (hcat : (sk.map fun v => v.category).sum + 12 ≤ 36 * d) (hd1 : 1 ≤ d)
    (k : G M d mc ms h0 Q QX c n (pc + 3) ls sk h) : G M d mc ms h0 Q QX c n pc ls (.ref a :: sk) h := by
  intro p l e s m args below meth cd base D E st av L0 f0 ad0 H locs lsA L f ad X w hl
  refine W.objInit X.1 X.2.1 X.2.2.2.2.1 (X.2.2.2.2.2.1 _ hw) (X.2.2.2.2.2.1 _ gObjI) (X.2.2.2.2.2.1 _ gObjC) (a := ad a) (rest := sk.map (tv ad)) rfl ?_ rfl hd hd1 ?_ (k p l e s m args below meth cd base D E st av L0 f0 ad0 H locs lsA L f ad X w hl)
  · exact hl.2.1.trans X.2.2.2.1.symm
  · show 2 * 0 + ((sk.map (tv ad)).map fun v => v.category).sum + 12 ≤ 36 * d
    rw [List.map_map, show ((fun v : Value => v.category) ∘ tv ad) = fun v => v.category from funext (tv_cat ad)]
    omega
theorem gCat (ad : Nat → Nat) (sk : List Value) : ((sk.map (tv ad)).map fun v => v.category).sum = (sk.map fun v => v.category).sum := by
  rw [List.map_map, show ((fun v : Value => v.category) ∘ tv ad) = fun v => v.category from funext (tv_cat ad)]
theorem g_max {idx : Nat} {x y : Int32} (hd : decode (mC M) pc = .ok (.invokestatic idx, 3)) (hw : Cond.methodLink (mY M).cls idx Lib.Math.max.name ∈ gG) (hcat : (sk.map fun v => v.category).sum + 13 ≤ 36 * d) (hd1 : 1 ≤ d) (hc : c ≤ mc) (hn : n ≤ ms)
    (k : G M d mc ms h0 Q QX c n (pc + 3) ls (.int (if x < y then y else x) :: sk) h) : G M d mc ms h0 Q QX c n pc ls (.int y :: .int x :: sk) h := by
  intro p l e s m args below meth cd base D E st av L0 f0 ad0 H locs lsA L f ad X w hl
  exact va_mmax X.1 X.2.1 (X.2.2.2.1.trans hl.2.1.symm) X.2.2.2.2.1 (X.2.2.2.2.2.1 _ hw) (X.2.2.2.2.2.1 _ gMaxS) (X.2.2.2.2.2.1 _ gMathI) (X.2.2.2.2.2.1 _ gMaxC) hd1 (by rw [gCat]; exact hcat) hc hn hd (k p l e s m args below meth cd base D E st av L0 f0 ad0 H locs lsA L f ad X w hl)
theorem g_min {idx : Nat} {x y : Int32} (hd : decode (mC M) pc = .ok (.invokestatic idx, 3)) (hw : Cond.methodLink (mY M).cls idx Lib.Math.min.name ∈ gG) (hcat : (sk.map fun v => v.category).sum + 13 ≤ 36 * d) (hd1 : 1 ≤ d) (hc : c ≤ mc) (hn : n ≤ ms)
    (k : G M d mc ms h0 Q QX c n (pc + 3) ls (.int (if y < x then y else x) :: sk) h) : G M d mc ms h0 Q QX c n pc ls (.int y :: .int x :: sk) h := by
  intro p l e s m args below meth cd base D E st av L0 f0 ad0 H locs lsA L f ad X w hl
  exact va_mmin X.1 X.2.1 (X.2.2.2.1.trans hl.2.1.symm) X.2.2.2.2.1 (X.2.2.2.2.2.1 _ hw) (X.2.2.2.2.2.1 _ gMinS) (X.2.2.2.2.2.1 _ gMathI) (X.2.2.2.2.2.1 _ gMinC) hd1 (by rw [gCat]; exact hcat) hc hn hd (k p l e s m args below meth cd base D E st av L0 f0 ad0 H locs lsA L f ad X w hl)
theorem g_abs {idx : Nat} {x : Int32} (hd : decode (mC M) pc = .ok (.invokestatic idx, 3)) (hw : Cond.methodLink (mY M).cls idx Lib.Math.abs.name ∈ gG) (hcat : (sk.map fun v => v.category).sum + 13 ≤ 36 * d) (hd1 : 1 ≤ d) (hc : c ≤ mc) (hn : n ≤ ms)
    (k : G M d mc ms h0 Q QX c n (pc + 3) ls (.int (if 0 ≤ x then x else 0 - x) :: sk) h) : G M d mc ms h0 Q QX c n pc ls (.int x :: sk) h := by
  intro p l e s m args below meth cd base D E st av L0 f0 ad0 H locs lsA L f ad X w hl
  exact va_mabs X.1 X.2.1 (X.2.2.2.1.trans hl.2.1.symm) X.2.2.2.2.1 (X.2.2.2.2.2.1 _ hw) (X.2.2.2.2.2.1 _ gAbsS) (X.2.2.2.2.2.1 _ gMathI) (X.2.2.2.2.2.1 _ gAbsC) hd1 (by rw [gCat]; exact hcat) hc hn hd (k p l e s m args below meth cd base D E st av L0 f0 ad0 H locs lsA L f ad X w hl)
end GAROWS
