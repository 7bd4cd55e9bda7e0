/-! throws, and the library's Strings -/
section GTHR
variable {M : gM} {d mc ms : Nat} {h0 : gH} {Q : Option Value → gH → Prop} {QX : String → gH → Prop} {c n pc : Nat} {ls : List (Option Value)} {sk : List Value} {h : gH}
def gNames : List String := ["java/lang/RuntimeException", "java/lang/Exception"]
def gBad (E : String) : List Cond := .castable E E :: gDecl.map Cond.declares
def gThr (own : String) (ik ic : Nat) (E : String) : Prop :=
  (∀ w ∈ (vx_atS own ic E gNames).filter goodWord, w ∈ gG) ∧ (∀ w ∈ (vx_atS own ic E gNames).filter (fun w => !goodWord w), w ∈ gBad E) ∧ (∀ w ∈ Cond.classLink own ik E :: Cond.initialized E :: vx_atS own ic E gNames, vx_ot w = true) ∧ E ∈ gCast ∧ Bundle.fit E = true ∧ Cond.classLink own ik E ∈ gG ∧ Cond.initialized E ∈ gG
theorem g_throw {ik is ic i : Nat} {X : String} {t : String × Nat × String × List Int32} (hth : gThr (mY M).cls ik ic X) (hi : gStr[i]? = some t) (h1 : t.1 = (mY M).cls) (h2 : t.2.1 = is)
    (d0 : decode (mC M) pc = .ok (.new ik, 3)) (d3 : decode (mC M) (pc + 3) = .ok (.dup, 1)) (d4 : decode (mC M) (pc + 4) = .ok (.ldc is, 2)) (d6 : decode (mC M) (pc + 6) = .ok (.invokespecial ic, 3)) (d9 : decode (mC M) (pc + 9) = .ok (.athrow, 1))
    (hT : mT M = []) (hd6 : 6 ≤ d) (hcat : (sk.map fun v => v.category).sum ≤ 8) (hc : c + 1 ≤ mc) (hn : n + 6 ≤ ms) (hq : QX X h) : G M d mc ms h0 Q QX c n pc ls sk h := by
  intro p l e s m args below meth cd base D E st av L0 f0 ad0 H locs lsA L f ad Y w hl
  obtain ⟨a1, a2, a3, a4, a5, a6, a7⟩ := hth
  have hJ := w.1
  have hstr := (hJ.2.2.2.2.2.2.2.2.2 i t hi).1
  rw [h1, h2] at hstr
  refine vx_throwS (own := (mY M).cls) (cls := X) (names := gNames) (A := gA base) (text := t.2.2.1) Y.1 Y.2.1 Y.2.2.2.2.2.2.2.2.2 Y.2.2.2.2.1 a5 (by decide +kernel) (Y.2.2.2.2.2.1 _ a6) (Y.2.2.2.2.2.1 _ a7) hstr ?_ a3 hJ.2.2.2.2.1 hJ.2.2.2.2.2.1 w.2.2.2.1 (hl.2.1.trans Y.2.2.2.1.symm) d0 d3 d4 d6 d9 (fun x hx => ?_) ?_ ?_ hc hn Y.2.2.2.2.2.2.1 (fun t' hvm hz hk => ?_) w.2.2.2.1.2.2 hc hn
  · refine vx_hat (fun w' hw' => Y.2.2.2.2.2.1 _ (a1 w' hw')) a2 (vx_c (va_Nw.use rfl (hJ.2.1 _ a4)) (fun w' hw' => ?_))
    obtain ⟨y, hy, rfl⟩ := List.mem_map.mp hw'
    exact va_Nw.use rfl (hJ.2.2.1 y hy)
  · rw [Y.2.2.2.2.2.2.2.2.1, hT] at hx
    cases hx
  · show 2 + 3 < d
    omega
  · show ((sk.map (tv ad)).map fun v => v.category).sum + (13 * (2 + 1) + 43) ≤ 36 * d
    rw [gCat]
    omega
  · refine ⟨(X, (h, L, f, ad)), ⟨hq, w.2.2.2.2.2.2.2.2.1⟩, ⟨rfl, w.2.2.2.2.2.2.1, w.2.2.2.2.1.kept (fun k q hkq => hk q.1 ((w.2.2.2.2.1 k q hkq).lt)), w.2.2.2.2.2.1, va_K.moved hvm w.2.2.1⟩, ⟨Nat.le_trans w.2.2.2.1.1 hz, fun q hq1 hq2 => (hk q (Nat.lt_of_lt_of_le hq1 w.2.2.2.1.1)).trans (w.2.2.2.1.2.1 q hq1 hq2)⟩⟩
theorem g_throwW {ik is ic i : Nat} {X : String} {t : String × Nat × String × List Int32} (hth : gThr (mY M).cls ik ic X) (hi : gStr[i]? = some t) (h1 : t.1 = (mY M).cls) (h2 : t.2.1 = is)
    (d0 : decode (mC M) pc = .ok (.new ik, 3)) (d3 : decode (mC M) (pc + 3) = .ok (.dup, 1)) (d4 : decode (mC M) (pc + 4) = .ok (.ldc_w is, 3)) (d6 : decode (mC M) (pc + 7) = .ok (.invokespecial ic, 3)) (d9 : decode (mC M) (pc + 10) = .ok (.athrow, 1))
    (hT : mT M = []) (hd6 : 6 ≤ d) (hcat : (sk.map fun v => v.category).sum ≤ 8) (hc : c + 1 ≤ mc) (hn : n + 6 ≤ ms) (hq : QX X h) : G M d mc ms h0 Q QX c n pc ls sk h := by
  intro p l e s m args below meth cd base D E st av L0 f0 ad0 H locs lsA L f ad Y w hl
  obtain ⟨a1, a2, a3, a4, a5, a6, a7⟩ := hth
  have hJ := w.1
  have hstr := (hJ.2.2.2.2.2.2.2.2.2 i t hi).1
  rw [h1, h2] at hstr
  refine vx_throwSW (own := (mY M).cls) (cls := X) (names := gNames) (A := gA base) (text := t.2.2.1) Y.1 Y.2.1 Y.2.2.2.2.2.2.2.2.2 Y.2.2.2.2.1 a5 (by decide +kernel) (Y.2.2.2.2.2.1 _ a6) (Y.2.2.2.2.2.1 _ a7) hstr ?_ a3 hJ.2.2.2.2.1 hJ.2.2.2.2.2.1 w.2.2.2.1 (hl.2.1.trans Y.2.2.2.1.symm) d0 d3 d4 d6 d9 (fun x hx => ?_) ?_ ?_ hc hn Y.2.2.2.2.2.2.1 (fun t' hvm hz hk => ?_) w.2.2.2.1.2.2 hc hn
  · refine vx_hat (fun w' hw' => Y.2.2.2.2.2.1 _ (a1 w' hw')) a2 (vx_c (va_Nw.use rfl (hJ.2.1 _ a4)) (fun w' hw' => ?_))
    obtain ⟨y, hy, rfl⟩ := List.mem_map.mp hw'
    exact va_Nw.use rfl (hJ.2.2.1 y hy)
  · rw [Y.2.2.2.2.2.2.2.2.1, hT] at hx
    cases hx
  · show 2 + 3 < d
    omega
  · show ((sk.map (tv ad)).map fun v => v.category).sum + (13 * (2 + 1) + 43) ≤ 36 * d
    rw [gCat]
    omega
  · refine ⟨(X, (h, L, f, ad)), ⟨hq, w.2.2.2.2.2.2.2.2.1⟩, ⟨rfl, w.2.2.2.2.2.2.1, w.2.2.2.2.1.kept (fun k q hkq => hk q.1 ((w.2.2.2.2.1 k q hkq).lt)), w.2.2.2.2.2.1, va_K.moved hvm w.2.2.1⟩, ⟨Nat.le_trans w.2.2.2.1.1 hz, fun q hq1 hq2 => (hk q (Nat.lt_of_lt_of_le hq1 w.2.2.2.1.1)).trans (w.2.2.2.1.2.1 q hq1 hq2)⟩⟩
theorem g_tret {v : Int32} {ty : FieldType} (hd : decode (mC M) pc = .ok (.ireturn, 1)) (hr : mR M = some ty) (hty : ty = .byte ∨ ty = .char) (hv : narrow ty (.int v) = .int v) (hc : c ≤ mc) (hn : n ≤ ms) (hQ : Q (some (.int v)) h) : G M d mc ms h0 Q QX c n pc ls [.int v] h := by
  intro p l e s m args below meth cd base D E st av L0 f0 ad0 H locs lsA L f ad X w hl
  refine g_end hc hn ?_
  rw [hr]
  rcases hty with rfl | rfl
  · exact W.zret (v := v) (ty := .byte) X.1 X.2.1 (X.2.2.1.trans hr) hv (fun t ht hW => ⟨⟨v, (h, L, f, ad), rfl, ⟨hQ, w.2.2.2.2.2.2.2.2.1⟩, w.gB ht hW⟩, w.2.2.2.1.F ht⟩) w.2.2.2.1.2.2 hd X.2.2.2.2.2.2.1
  · exact W.zret (v := v) (ty := .char) X.1 X.2.1 (X.2.2.1.trans hr) hv (fun t ht hW => ⟨⟨v, (h, L, f, ad), rfl, ⟨hQ, w.2.2.2.2.2.2.2.2.1⟩, w.gB ht hW⟩, w.2.2.2.1.F ht⟩) w.2.2.2.1.2.2 hd X.2.2.2.2.2.2.1
theorem g_i2c {x : Int32} (hd : decode (mC M) pc = .ok (.i2c, 1)) (k : G M d mc ms h0 Q QX c n (pc + 1) ls (.int (x.toUInt32 % 65536).toInt32 :: sk) h) : G M d mc ms h0 Q QX c n pc ls (.int x :: sk) h := by
  intro p l e s m args below meth cd base D E st av L0 f0 ad0 H locs lsA L f ad X w hl
  exact lv_i2c X.1 X.2.1 hd rfl (k p l e s m args below meth cd base D E st av L0 f0 ad0 H locs lsA L f ad X w hl)
theorem g_strV {i idx : Nat} {t : String × Nat × String × List Int32} (hi : gStr[i]? = some t) (hd : decode (mC M) pc = .ok (.getfield idx, 3)) (hw : Cond.fieldLink (mY M).cls idx "java/lang/String" "value" "[B" ∈ gG)
    (k : G M d mc ms h0 Q QX c n (pc + 3) ls (.ref (1500 + i) :: sk) h) : G M d mc ms h0 Q QX c n pc ls (.ref (1000 + i) :: sk) h := by
  intro p l e s m args below meth cd base D E st av L0 f0 ad0 H locs lsA L f ad X w hl
  have k' := k p l e s m args below meth cd base D E st av L0 f0 ad0 H locs lsA L f ad X w hl
  have e1 : ad (1500 + i) = st (500 + i) := by rw [show 1500 + i = 1000 + (500 + i) by omega]; exact w.2.2.2.2.2.2.2.1 (500 + i)
  have k' : W p l e (grm d mc ms) s m args below meth cd H locs c n _ (F0 m (pc + 3) lsA (.ref (ad (1500 + i)) :: sk.map (tv ad))) := k'
  rw [e1] at k'
  show W p l e (grm d mc ms) s m args below meth cd H locs c n _ (F0 m pc lsA (.ref (ad (1000 + i)) :: sk.map (tv ad)))
  rw [w.2.2.2.2.2.2.2.1 i]
  exact vk_getf X.1 X.2.1 (w.1.2.2.2.2.2.2.2.2.2 i t hi).2.2.2.1 w.2.2.2.1 X.2.2.2.2.1 (X.2.2.2.2.2.1 _ hw) (fun _ z => z) hd k'
theorem g_strC {i idx : Nat} {t : String × Nat × String × List Int32} (hi : gStr[i]? = some t) (hd : decode (mC M) pc = .ok (.getfield idx, 3)) (hw : Cond.fieldLink (mY M).cls idx "java/lang/String" "coder" "B" ∈ gG)
    (k : G M d mc ms h0 Q QX c n (pc + 3) ls (.int 0 :: sk) h) : G M d mc ms h0 Q QX c n pc ls (.ref (1000 + i) :: sk) h := by
  intro p l e s m args below meth cd base D E st av L0 f0 ad0 H locs lsA L f ad X w hl
  have k' := k p l e s m args below meth cd base D E st av L0 f0 ad0 H locs lsA L f ad X w hl
  show W p l e (grm d mc ms) s m args below meth cd H locs c n _ (F0 m pc lsA (.ref (ad (1000 + i)) :: sk.map (tv ad)))
  rw [w.2.2.2.2.2.2.2.1 i]
  exact vk_getf X.1 X.2.1 (w.1.2.2.2.2.2.2.2.2.2 i t hi).2.2.1 w.2.2.2.1 X.2.2.2.2.1 (X.2.2.2.2.2.1 _ hw) (fun _ z => z) hd k'
theorem g_strS {idx : Nat} (hd : decode (mC M) pc = .ok (.getstatic idx, 3)) (hw : Cond.fieldLink (mY M).cls idx "java/lang/String" "COMPACT_STRINGS" "Z" ∈ gG)
    (k : G M d mc ms h0 Q QX c n (pc + 3) ls (.int 1 :: sk) h) : G M d mc ms h0 Q QX c n pc ls sk h := by
  intro p l e s m args below meth cd base D E st av L0 f0 ad0 H locs lsA L f ad X w hl
  have k' := k p l e s m args below meth cd base D E st av L0 f0 ad0 H locs lsA L f ad X w hl
  exact va_gets X.1 X.2.1 w.1.2.2.2.2.2.2.1 w.2.2.2.1 X.2.2.2.2.1 (X.2.2.2.2.2.1 _ hw) (fun _ z => z) hd k'
theorem g_strF {idx : Nat} (hd : decode (mC M) pc = .ok (.getstatic idx, 3)) (hw : Cond.fieldLink (mY M).cls idx "jdk/internal/util/Preconditions" "SIOOBE_FORMATTER" "Ljava/util/function/BiFunction;" ∈ gG)
    (k : ∀ v : Value, v = .null ∨ v = .ref 1900 → G M d mc ms h0 Q QX c n (pc + 3) ls (v :: sk) h) : G M d mc ms h0 Q QX c n pc ls sk h := by
  intro p l e s m args below meth cd base D E st av L0 f0 ad0 H locs lsA L f ad X w hl
  rcases w.1.2.2.2.2.2.2.2.1 with z | z
  · exact va_gets X.1 X.2.1 z w.2.2.2.1 X.2.2.2.2.1 (X.2.2.2.2.2.1 _ hw) (fun _ z => z) hd (k .null (Or.inl rfl) p l e s m args below meth cd base D E st av L0 f0 ad0 H locs lsA L f ad X w hl)
  · have k' := k (.ref 1900) (Or.inr rfl) p l e s m args below meth cd base D E st av L0 f0 ad0 H locs lsA L f ad X w hl
    have e1 : ad 1900 = st 900 := w.2.2.2.2.2.2.2.1 900
    have k' : W p l e (grm d mc ms) s m args below meth cd H locs c n _ (F0 m (pc + 3) lsA (.ref (ad 1900) :: sk.map (tv ad))) := k'
    rw [e1] at k'
    exact va_gets X.1 X.2.1 z w.2.2.2.1 X.2.2.2.2.1 (X.2.2.2.2.2.1 _ hw) (fun _ z => z) hd k'
theorem g_strL {i : Nat} {t : String × Nat × String × List Int32} (hi : gStr[i]? = some t) (hd : decode (mC M) pc = .ok (.arraylength, 1))
    (k : G M d mc ms h0 Q QX c n (pc + 1) ls (.int (Int32.ofNat t.2.2.2.length) :: sk) h) : G M d mc ms h0 Q QX c n pc ls (.ref (1500 + i) :: sk) h := by
  intro p l e s m args below meth cd base D E st av L0 f0 ad0 H locs lsA L f ad X w hl
  have k' := k p l e s m args below meth cd base D E st av L0 f0 ad0 H locs lsA L f ad X w hl
  have e1 : ad (1500 + i) = st (500 + i) := by rw [show 1500 + i = 1000 + (500 + i) by omega]; exact w.2.2.2.2.2.2.2.1 (500 + i)
  show W p l e (grm d mc ms) s m args below meth cd H locs c n _ (F0 m pc lsA (.ref (ad (1500 + i)) :: sk.map (tv ad)))
  rw [e1]
  exact va_tlen X.1 X.2.1 (w.1.2.2.2.2.2.2.2.2.2 i t hi).2.2.2.2 w.2.2.2.1 rfl hd k'
theorem g_strB {i : Nat} {x : Int32} {t : String × Nat × String × List Int32} (hi : gStr[i]? = some t) (hd : decode (mC M) pc = .ok (.baload, 1)) (hin : vp_in x t.2.2.2.length)
    (k : G M d mc ms h0 Q QX c n (pc + 1) ls (.int (t.2.2.2.getD x.toNatClampNeg 0) :: sk) h) : G M d mc ms h0 Q QX c n pc ls (.int x :: .ref (1500 + i) :: sk) h := by
  intro p l e s m args below meth cd base D E st av L0 f0 ad0 H locs lsA L f ad X w hl
  have k' := k p l e s m args below meth cd base D E st av L0 f0 ad0 H locs lsA L f ad X w hl
  have e1 : ad (1500 + i) = st (500 + i) := by rw [show 1500 + i = 1000 + (500 + i) by omega]; exact w.2.2.2.2.2.2.2.1 (500 + i)
  show W p l e (grm d mc ms) s m args below meth cd H locs c n _ (F0 m pc lsA (.int x :: .ref (ad (1500 + i)) :: sk.map (tv ad)))
  rw [e1]
  exact va_tb X.1 X.2.1 (w.1.2.2.2.2.2.2.2.2.2 i t hi).2.2.2.2 w.2.2.2.1 hin rfl hd k'
/-- .. of a String constant's method -/
theorem g_callVs {M' : gM} {d' mc' ms' idx na i : Nat} {t : String × Nat × String × List Int32} {vs rest sk : List Value} {h' : gH} {Q' : Option Value → gH → Prop} {QX' : String → gH → Prop} (ρ : List Nat)
    (hC : gCt M' d' mc' ms' (.ref (1000 + i) :: vs) h' Q' QX') (hd : decode (mC M) pc = .ok (.invokevirtual idx, 3)) (hlk : gLkV (mY M).cls idx M' na) (hna : vs.length = na) (hi : gStr[i]? = some t) (hcls : (mY M').cls = "java/lang/String")
    (hsk : sk = (vs.map (tv (gRen ρ))).reverse ++ .ref (1000 + i) :: rest) (hs : gSub ρ h h') (hN : gNn ρ ls rest h h' Q' QX') (hT : mT M = []) (hdd : d' + 1 ≤ d) (hcat : (rest.map fun v => v.category).sum ≤ 8) (hc : c + mc' ≤ mc) (hn : n + ms' ≤ ms)
    (hX : ∀ X h1, QX' X h1 → QX X (gPb ρ ρ h1 h))
    (k : ∀ (v : Option Value) (h1 : gH), Q' v h1 → G M d mc ms h0 Q QX (c + mc') (n + ms') (pc + 3) ls ((v.map (tv (gRen ρ))).toList ++ rest) (gPb ρ ρ h1 h)) (hms : mS M' = none ∨ mS M' = mS M := by exact Or.inl rfl) : G M d mc ms h0 Q QX c n pc ls sk h := by
  intro p l e s m args below meth cd base D E st av L0 f0 ad0 H locs lsA L f ad X w hl
  obtain ⟨hw, hT', hN9, hy1, hy2, hy3⟩ := hlk
  have hsub := w.sub hs
  have hM := hC l X.2.2.2.2.2.2.2.2.2 base D E st av L f _ hsub.1 hsub.2
  have hb : (sk.map (tv ad)) = (vs.map (tv (fun k => ad (gRen ρ k)))).reverse ++ .ref (ad (gRen ρ (1000 + i))) :: rest.map (tv ad) := by
    rw [hsk, List.map_append, List.map_reverse, gMapR, hsub.2]; rw [show List.map (tv ad) (Value.ref (1000 + i) :: rest) = .ref (ad (1000 + i)) :: rest.map (tv ad) from rfl, w.2.2.2.2.2.2.2.1 i]
  have hrecv : ∃ cellB : Cell, H[ad (gRen ρ (1000 + i))]? = some cellB ∧ cellB.vm.isStatics = false ∧ s.vm.findClass (mY M').cls = some cellB.cls := by
    obtain ⟨cell, r1, r2, r3, -⟩ := (w.1.2.2.2.2.2.2.2.2.2 i t hi).2.1.kept w.2.2.2.1.2.1
    rw [hsub.2 i, hcls]
    exact ⟨cell, r1, r2, r3⟩
  refine g_run (M' := M') (vs := .ref (ad (gRen ρ (1000 + i))) :: vs.map (tv (fun k => ad (gRen ρ k)))) hs hN hT hc hn hX k X w hl ?_
  exact vx_runV (C := (mY M').cls) (bytes := mC M') (maxL := mN M') (ret := mR M') (n := na) (Ts := gG) (own := (mY M).cls) (index := idx) ⟨X.1, X.2.1, X.2.2.2.1, X.2.2.2.2.1, X.2.2.2.2.2.1⟩ hM
      (cwV (ws' := gG) na X.2.2.2.2.2.1 (by
        unfold wsV
        refine goodIn_app (gGood (fun w hw' => hw w ?_)) ?_
        · simp only [List.mem_cons, List.not_mem_nil, or_false] at hw' ⊢
          rcases hw' with h9 | h9 | h9 | h9
          · exact Or.inl h9
          · exact Or.inr (Or.inl h9)
          · exact Or.inr (Or.inr (Or.inl h9))
          · exact Or.inr (Or.inr (Or.inr (Or.inl h9)))
        · rw [gws_of hT']
          refine gGood (fun w hw' => ?_)
          rcases List.mem_cons.mp hw' with h9 | h9
          · rw [h9]; exact hw _ (by simp)
          · exact h9) (gws_of hT') rfl rfl ⟨rfl, hy1, hy2, hy3⟩ ⟨hdd, by show 8 + (mN M' + 11) + 36 * d' ≤ 36 * d; omega⟩)
      ⟨gPre_blind, hrecv, fun U hU hW => ⟨rfl, gPre_at w hU hW, gSc_at w hs hms hU hW⟩⟩ rfl (by rw [List.length_map]; exact hna) hl.2.1 hb (lv_room (by rw [gCat]; exact hcat)) hd ⟨hc, hn⟩
end GTHR
