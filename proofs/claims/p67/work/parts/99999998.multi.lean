section MULTI
abbrev cIA (z : List Int32) : gC := .inr (.inl (0, z))
/-! ### new int[n][k]: the rows at p, p + 1, .., the outer one at p0 -/
def mF (e : va_E) (r : Nat → Nat) (f : Nat → va_E) : Nat → Nat → va_E
  | 0 => f
  | i + 1 => va_up (mF e r f i) (r i) e
def mA (p : Nat) (r ad : Nat → Nat) : Nat → Nat → Nat
  | 0 => ad
  | i + 1 => va_up (mA p r ad i) (p + i) (r i)
def mH (p : Nat) (c : gC) (h : gH) : Nat → gH
  | 0 => h
  | i + 1 => (mH p c h i).set (p + i) (some c)
theorem va_P_of {D : va_G} {cl : List vw_C} {ws : va_W} {H : Heap} (h : ∀ q ∈ ws, va_at D cl q H) : va_P D cl ws H := fun _ q hk => h q (List.mem_of_getElem? hk)
theorem va_P_in {D : va_G} {cl : List vw_C} {ws : va_W} {H : Heap} (h : va_P D cl ws H) {q : Nat × va_E} (hq : q ∈ ws) : va_at D cl q H := by
  obtain ⟨k, hk⟩ := List.getElem?_of_mem hq
  exact h k q hk
theorem va_D_of {A : Nat → Prop} {ws : va_W} (h : (ws.map Prod.fst).Nodup) (hA : ∀ a ∈ ws.map Prod.fst, A a) : va_D A ws := by
  refine ⟨fun i j p q hi hj hpq => ?_, fun k q hk => hA _ (List.mem_map.mpr ⟨q, List.mem_of_getElem? hk, rfl⟩)⟩
  have h1 : (ws.map Prod.fst)[i]? = some p.1 := by rw [List.getElem?_map, hi]; rfl
  have h2 : (ws.map Prod.fst)[j]? = some q.1 := by rw [List.getElem?_map, hj]; rfl
  rw [hpq] at h1
  exact (List.getElem?_inj (List.getElem?_eq_some_iff.mp h1).1 h).mp (h1.trans h2.symm)
theorem va_D_nd {A : Nat → Prop} {ws : va_W} (h : va_D A ws) : (ws.map Prod.fst).Nodup ∧ ∀ a ∈ ws.map Prod.fst, A a := by
  constructor
  · refine List.pairwise_iff_getElem.mpr (fun i j hi hj hij hq => ?_)
    rw [List.getElem_map, List.getElem_map] at hq
    have hj' : j < ws.length := by simpa using hj
    have := h.1 i j _ _ (List.getElem?_eq_getElem (show i < ws.length by omega)) (List.getElem?_eq_getElem hj') hq
    omega
  · intro a ha
    obtain ⟨q, hq, rfl⟩ := List.mem_map.mp ha
    obtain ⟨k, hk⟩ := List.getElem?_of_mem hq
    exact h.2 k q hk
theorem va_pl_fst {L : List Nat} {f : Nat → va_E} : (va_pl L f).map Prod.fst = L := by
  unfold va_pl
  rw [List.map_map]
  exact List.map_id' L
theorem mF_out {e : va_E} {r : Nat → Nat} {f : Nat → va_E} {a : Nat} : ∀ i, (∀ j, j < i → r j ≠ a) → mF e r f i a = f a := by
  intro i
  induction i with
  | zero => intro _; rfl
  | succ i ih =>
    intro h
    show va_up (mF e r f i) (r i) e a = _
    rw [va_up_ne _ _ (fun z => h i (by omega) z.symm), ih (fun j hj => h j (by omega))]
theorem mF_in {e : va_E} {r : Nat → Nat} {f : Nat → va_E} : ∀ i j, j < i → mF e r f i (r j) = e := by
  intro i
  induction i with
  | zero => intro j hj; omega
  | succ i ih =>
    intro j hj
    show va_up (mF e r f i) (r i) e (r j) = _
    by_cases h : r j = r i
    · rw [h, va_up_self]
    · rw [va_up_ne _ _ h]
      exact ih j (by rcases Nat.lt_succ_iff_lt_or_eq.mp hj with q | q; exact q; exact absurd (by rw [q]) h)
theorem mA_out {p k : Nat} {r ad : Nat → Nat} : ∀ i, (k < p ∨ p + i ≤ k) → mA p r ad i k = ad k := by
  intro i
  induction i with
  | zero => intro _; rfl
  | succ i ih =>
    intro h
    show va_up (mA p r ad i) (p + i) (r i) k = _
    rw [va_up_ne _ _ (by omega), ih (by omega)]
theorem mA_in {p : Nat} {r ad : Nat → Nat} : ∀ i j, j < i → mA p r ad i (p + j) = r j := by
  intro i
  induction i with
  | zero => intro j hj; omega
  | succ i ih =>
    intro j hj
    show va_up (mA p r ad i) (p + i) (r i) (p + j) = _
    by_cases h : j = i
    · subst h; exact va_up_self _ _ _
    · rw [va_up_ne _ _ (by omega), ih j (by omega)]
theorem mH_len {p : Nat} {c : gC} {h : gH} : ∀ i, (mH p c h i).length = h.length := by
  intro i
  induction i with
  | zero => rfl
  | succ i ih => show ((mH p c h i).set _ _).length = _; rw [List.length_set, ih]
theorem mH_out {p k : Nat} {c : gC} {h : gH} : ∀ i, (k < p ∨ p + i ≤ k) → (mH p c h i)[k]? = h[k]? := by
  intro i
  induction i with
  | zero => intro _; rfl
  | succ i ih =>
    intro hk
    show ((mH p c h i).set (p + i) (some c))[k]? = _
    rw [List.getElem?_set_ne (by omega), ih (by omega)]
theorem mH_in {p : Nat} {c : gC} {h : gH} : ∀ i j, j < i → p + j < h.length → (mH p c h i)[p + j]? = some (some c) := by
  intro i
  induction i with
  | zero => intro j hj; omega
  | succ i ih =>
    intro j hj hl
    show ((mH p c h i).set (p + i) (some c))[p + j]? = _
    by_cases e : j = i
    · subst e
      rw [List.getElem?_set_self (by rw [mH_len]; exact hl)]
    · rw [List.getElem?_set_ne (by omega), ih j (by omega) hl]
theorem gWd.rows {M : gM} {base : Nat} {D : va_G} {E : Nat → ClassId} {st av : Nat → Nat} {s : State} {h0 : gH} {L0 : List Nat} {f0 : Nat → va_E} {ad0 : Nat → Nat} {H1 : Heap} {locs : List Loc} {L : List Nat} {f : Nat → va_E} {ad : Nat → Nat} {h : gH}
    (w : gWd M base D E st av s h0 L0 f0 ad0 H1 locs L f ad h) {p N : Nat} {z : List Int32} {r : Nat → Nat} (hp9 : p + N ≤ 1000) (hfr : ∀ i, i < N → h[p + i]? = some none) (hno : ∀ (k : Nat) (c' : gC), h[k]? = some (some c') → ∀ i, i < N → gNo (p + i) c')
    (hr : ∀ i, i < N → va_at D vwCl (r i, tc E ad (cIA z)) H1) (hrA : ∀ i, i < N → gA base (r i)) (hrL : ∀ i, i < N → r i ∉ L) (hri : ∀ i j, i < N → j < N → r i = r j → i = j) :
    ∀ i, i ≤ N → gWd M base D E st av s h0 L0 f0 ad0 H1 locs (L ++ (List.range i).map r) (mF (tc E ad (cIA z)) r f i) (mA p r ad i) (mH p (cIA z) h i) := by
  intro i
  induction i with
  | zero =>
    intro _
    rw [List.range_zero, List.map_nil, List.append_nil]
    exact w
  | succ i ih =>
    intro hi
    have w1 := ih (by omega)
    have hn : r i ∉ L ++ (List.range i).map r := by
      intro hm
      rcases List.mem_append.mp hm with q | q
      · exact hrL i (by omega) q
      · obtain ⟨j, hj, e⟩ := List.mem_map.mp q
        have hj := List.mem_range.mp hj
        have := hri j i (by omega) (by omega) e
        omega
    have hP := w1.2.2.2.2.1
    have hD := w1.2.2.2.2.2.1
    have hP1 : va_P D vwCl (va_pl (L ++ (List.range i).map r) (mF (tc E ad (cIA z)) r f i) ++ [(r i, tc E (mA p r ad i) (cIA z))]) H1 := by
      refine va_P_of (fun q hq => ?_)
      rcases List.mem_append.mp hq with hq | hq
      · exact va_P_in hP hq
      · rw [List.mem_singleton.mp hq]; exact hr i (by omega)
    have hD1 : va_D (gA base) (va_pl (L ++ (List.range i).map r) (mF (tc E ad (cIA z)) r f i) ++ [(r i, tc E (mA p r ad i) (cIA z))]) := by
      obtain ⟨d1, d2⟩ := va_D_nd hD
      rw [va_pl_fst] at d1 d2
      refine va_D_of ?_ ?_
      · rw [List.map_append, va_pl_fst, List.nodup_append]
        refine ⟨d1, by simp, fun a ha b hb e => hn ?_⟩
        have : b = r i := by simpa using hb
        rw [← this, ← e]; exact ha
      · intro a ha
        rw [List.map_append, va_pl_fst] at ha
        rcases List.mem_append.mp ha with ha | ha
        · exact d2 a ha
        · have : a = r i := by simpa using ha
          rw [this]; exact hrA i (by omega)
    have w2 := w1.push (p := p + i) (q := r i) (c := cIA z) (by rw [mH_out i (by omega)]; exact hfr i (by omega)) (by omega) (fun k c' hk => by
      by_cases hk1 : p ≤ k ∧ k < p + i
      · obtain ⟨j, rfl⟩ : ∃ j, k = p + j := ⟨k - p, by omega⟩
        have hlt : p + j < h.length := by
          have := (List.getElem?_eq_some_iff.mp hk).1
          rw [mH_len] at this; exact this
        rw [mH_in i j (by omega) hlt] at hk
        cases hk
        trivial
      · rw [mH_out i (by omega)] at hk
        exact hno k c' hk i (by omega)) trivial hP1 hD1 w1.2.2.2.1
    have e1 : L ++ (List.range (i + 1)).map r = L ++ (List.range i).map r ++ [r i] := by rw [List.range_succ, List.map_append, List.append_assoc]; rfl
    rw [e1]
    exact w2
theorem g_multi {M : gM} {d mc ms : Nat} {h0 : gH} {Q : Option Value → gH → Prop} {QX : String → gH → Prop} {c n pc : Nat} {ls : List (Option Value)} {sk : List Value} {h : gH} {idx N K : Nat} {nn kk : Int32} (p0 p : Nat) (hd : decode (mC M) pc = .ok (.multianewarray idx 2, 4)) (hk : Cond.classLink (mY M).cls idx "[[I" ∈ gG)
    (hn : ¬ nn < 0) (hkk : ¬ kk < 0) (hN : nn.toNatClampNeg = N) (hK : kk.toNatClampNeg = K) (hNb : N ≤ 1000) (hKb : K ≤ 1000) (hc9 : c + (1 + N) ≤ mc) (hn9 : n + (N + N * K) ≤ ms) (hp9 : p + N ≤ 1000) (hp0 : p0 < p)
    (hf : gFree p0 ls sk h) (hfr : ∀ i, i < N → gFree (p + i) ls sk h)
    (k : G M d mc ms h0 Q QX (c + 1 + N) (n + N + N * K) (pc + 4) ls (.ref p0 :: sk) ((mH p (cIA (List.replicate K 0)) h N).set p0 (some (.inr (.inr (.inr ((List.range N).map (fun i => some (p + i))))))))) : G M d mc ms h0 Q QX c n pc ls (.int kk :: .int nn :: sk) h := by
  intro P l e s m args below meth cd base D E st av L0 f0 ad0 H locs lsA L f ad X w hl
  obtain ⟨f1, f2, f3, f4, f5⟩ := hf
  have hcy : s.vm.findClass (FieldType.array .int).toString = some (E 0) := (w.2.2.1.2 0 (E 0, .int) rfl).2
  refine va_mna (X := []) (D := D) (cl := vwCl) (tys := gTys E) (ty := .int) (cy := E 0) (N' := N) (K' := K) (z := (K, .inl (fun _ => 0))) X.1 X.2.1 X.2.2.2.2.1 (X.2.2.2.2.2.1 _ hk) w.1.2.2.2.2.2.2.2.2.1.2.1 (X.2.2.2.2.2.1 _ gAcI) hcy w.2.2.1 w.2.2.2.2.1 w.2.2.2.2.2.1 w.2.2.2.1 (fun q hq => Nat.le_trans w.2.1 hq) hn hkk hN hK (by omega) (by show K * 4 ≤ _; omega) (by omega) rfl rfl hc9 hn9 (fun cA => ?_) hd (fun q r cA H1 hri hrL hK1 hP1 hD1 hS1 => ?_)
  · first
      | rfl
      | (show ({ cls := cA, slots := Array.replicate K (.int 0), vm := .none } : Cell) = _
         rw [arrV_new]; rfl)
      | (unfold Jvm.Free.Multi.innerC
         trace_state
         exact arrV_new)
  · have hcA := gRA_int (j := 3) hK1 rfl
    have hrow : ∀ ad' : Nat → Nat, tc E ad' (cIA (List.replicate K 0)) = (.inl (E 0, K, .inl (fun _ => 0)) : va_E) := by
      intro ad'
      show (.inl (E 0, (List.replicate K (0 : Int32)).length, .inl (fun j => (List.replicate K (0 : Int32)).getD j 0)) : va_E) = _
      rw [List.length_replicate]
      congr 4
      funext j
      rw [List.getD_eq_getElem?_getD, List.getElem?_replicate]
      split <;> rfl
    have hfst : ((([] : va_W) ++ [(q, (.inl (cA, N, .inr (.inr (.inr (.inr (fun i => if i < N then some (r i) else none))))) : va_E))]) ++ va_pl (L ++ (List.range N).map r) (vr_up f ((List.range N).map r) (.inl (E 0, (K, .inl (fun _ => 0)))))).map Prod.fst = q :: (L ++ (List.range N).map r) := by
      rw [List.map_append, va_pl_fst]; rfl
    obtain ⟨d1, d2⟩ := va_D_nd hD1
    rw [hfst] at d1 d2
    have hqL : q ∉ L ++ (List.range N).map r := (List.nodup_cons.mp d1).1
    have hLr : (L ++ (List.range N).map r).Nodup := (List.nodup_cons.mp d1).2
    have hPL : va_P D vwCl (va_pl L f) H1 := by
      refine va_P_of (fun x hx => ?_)
      obtain ⟨a, ha, rfl⟩ := List.mem_map.mp hx
      refine va_P_in hP1 (List.mem_append_right _ (List.mem_map.mpr ⟨a, List.mem_append_left _ ha, ?_⟩))
      rw [vr_up_ne (fun z => by
        obtain ⟨j, hj, e⟩ := List.mem_map.mp z
        exact hrL j (List.mem_range.mp hj) (e ▸ ha))]
    have hPr : ∀ i, i < N → va_at D vwCl (r i, tc E ad (cIA (List.replicate K 0))) H1 := by
      intro i hi
      have hm : r i ∈ (List.range N).map r := List.mem_map.mpr ⟨i, List.mem_range.mpr hi, rfl⟩
      refine va_P_in hP1 (List.mem_append_right _ (List.mem_map.mpr ⟨r i, List.mem_append_right _ hm, ?_⟩))
      rw [vr_up_in hm, hrow]
    have hPq : va_at D vwCl (q, (.inl (cA, N, .inr (.inr (.inr (.inr (fun i => if i < N then some (r i) else none))))) : va_E)) H1 := va_P_in hP1 (List.mem_append_left _ (by simp))
    have w1 : gWd M base D E st av s h0 L0 f0 ad0 H1 locs L f ad h := ⟨w.1, w.2.1, w.2.2.1, hS1, hPL, w.2.2.2.2.2⟩
    have w2 := w1.rows (p := p) (N := N) (z := List.replicate K 0) (r := r) hp9 (fun i hi => (hfr i hi).1) (fun k9 c' hk9 i hi => (hfr i hi).2.2.2.2 k9 c' hk9) hPr (fun i hi => d2 _ (List.mem_cons_of_mem _ (List.mem_append_right _ (List.mem_map.mpr ⟨i, List.mem_range.mpr hi, rfl⟩)))) (fun i hi => hrL i hi) (fun i j hi hj => hri i j hi hj) N (Nat.le_refl N)
    have htc : tc E (mA p r ad N) (.inr (.inr (.inr ((List.range N).map (fun i => some (p + i)))))) = (.inl (cA, N, .inr (.inr (.inr (.inr (fun i => if i < N then some (r i) else none))))) : va_E) := by
      show (.inl (E 3, ((List.range N).map (fun i => some (p + i))).length, .inr (.inr (.inr (.inr (fun j => (((List.range N).map (fun i => some (p + i))).getD j none).map (mA p r ad N)))))) : va_E) = _
      rw [hcA, List.length_map, List.length_range]
      congr 7
      funext j
      rw [List.getD_eq_getElem?_getD, List.getElem?_map]
      by_cases hj : j < N
      · rw [List.getElem?_range hj, if_pos hj]
        show some (mA p r ad N (p + j)) = _
        rw [mA_in N j hj]
      · rw [List.getElem?_eq_none (by rw [List.length_range]; omega), if_neg hj]; rfl
    have hP2 : va_P D vwCl (va_pl (L ++ (List.range N).map r) (mF (tc E ad (cIA (List.replicate K 0))) r f N) ++ [(q, tc E (mA p r ad N) (.inr (.inr (.inr ((List.range N).map (fun i => some (p + i)))))))]) H1 := by
      refine va_P_of (fun x hx => ?_)
      rcases List.mem_append.mp hx with hx | hx
      · exact va_P_in w2.2.2.2.2.1 hx
      · rw [List.mem_singleton.mp hx, htc]; exact hPq
    have hD2 : va_D (gA base) (va_pl (L ++ (List.range N).map r) (mF (tc E ad (cIA (List.replicate K 0))) r f N) ++ [(q, tc E (mA p r ad N) (.inr (.inr (.inr ((List.range N).map (fun i => some (p + i)))))))]) := by
      refine va_D_of ?_ ?_
      · rw [List.map_append, va_pl_fst, List.nodup_append]
        refine ⟨hLr, by simp, fun a ha b hb e => hqL ?_⟩
        have : b = q := by simpa using hb
        rw [← this, ← e]; exact ha
      · intro a ha
        rw [List.map_append, va_pl_fst] at ha
        rcases List.mem_append.mp ha with ha | ha
        · exact d2 a (List.mem_cons_of_mem _ ha)
        · have : a = q := by simpa using ha
          rw [this]; exact d2 q List.mem_cons_self
    have w3 := w2.push (p := p0) (q := q) (c := .inr (.inr (.inr ((List.range N).map (fun i => some (p + i)))))) (by rw [mH_out N (Or.inl hp0)]; exact f1) f2 (fun k9 c' hk9 => by
      by_cases hk1 : p ≤ k9 ∧ k9 < p + N
      · obtain ⟨j, rfl⟩ : ∃ j, k9 = p + j := ⟨k9 - p, by omega⟩
        have hlt : p + j < h.length := by
          have := (List.getElem?_eq_some_iff.mp hk9).1
          rw [mH_len] at this; exact this
        rw [mH_in N j (by omega) hlt] at hk9
        cases hk9
        trivial
      · rw [mH_out N (by omega)] at hk9
        exact f5 k9 c' hk9) (fun o ho z => by
          obtain ⟨j, -, e⟩ := List.mem_map.mp ho
          rw [z] at e
          have := Option.some.inj e
          omega) hP2 hD2 w2.2.2.2.1
    have hls : ∀ i, i ≤ N → gLsF (mA p r ad i) 0 ls = gLsF ad 0 ls := by
      intro i
      induction i with
      | zero => intro _; rfl
      | succ i ih =>
        intro hi
        show gLsF (va_up (mA p r ad i) (p + i) (r i)) 0 ls = _
        rw [gLsF_up (hfr i (by omega)).2.2.1, ih (by omega)]
    have hsk : ∀ i, i ≤ N → sk.map (tv (mA p r ad i)) = sk.map (tv ad) := by
      intro i
      induction i with
      | zero => intro _; rfl
      | succ i ih =>
        intro hi
        show sk.map (tv (va_up (mA p r ad i) (p + i) (r i))) = _
        rw [map_tv_up (hfr i (by omega)).2.2.2.1, ih (by omega)]
    have k' := k P l e s m args below meth cd base D E st av L0 f0 ad0 H1 locs lsA _ _ _ X w3 (by unfold gLv; rw [gLsF_up f3, hls N (Nat.le_refl N)]; exact hl)
    rw [List.map_cons, map_tv_up f4, hsk N (Nat.le_refl N), show tv (va_up (mA p r ad N) p0 q) (.ref p0) = .ref q from congrArg Value.ref (va_up_self _ p0 q)] at k'
    exact k'
end MULTI
