section LAWR
set_option maxRecDepth 100000
/-! a static method that catches, called; a handler whose exception is put by in a far local -/
def gLkSH (own : String) (idx : Nat) (M' : gM) (na : Nat) : Prop :=
  (∀ w ∈ [Cond.methodLink own idx (mY M'), .static (mY M'), .initialized own, .codeWith (mY M') (mC M') (mN M') (mR M') (mT M')], w ∈ gG) ∧ mT M' ≠ [] ∧ mN M' ≤ 9 ∧ (mY M').cls = own ∧
  (mY M').cls ≠ "java/lang/invoke/MethodHandle" ∧ (mY M').cls ≠ "java/lang/invoke/VarHandle" ∧ (parseMethodDescriptor (mY M').desc).map (fun d => d.parameters.length) = some na
theorem gws_ofH {M' : gM} (h : mT M' ≠ []) : gws M' = .codeWith (mY M') (mC M') (mN M') (mR M') (mT M') :: gG := by
  unfold gws gCode
  cases hT : mT M' with
  | nil => exact absurd hT h
  | cons x r => rfl
section
variable {M : gM} {d mc ms : Nat} {h0 : gH} {Q : Option Value → gH → Prop} {QX : String → gH → Prop} {c n pc : Nat} {ls : List (Option Value)} {h : gH}
theorem g_callSH {M' : gM} {d' mc' ms' idx na : Nat} {vs rest sk : List Value} {h' : gH} {Q' : Option Value → gH → Prop} {QX' : String → gH → Prop} (ρ : List Nat)
    (hC : gCt M' d' mc' ms' vs h' Q' QX') (hd : decode (mC M) pc = .ok (.invokestatic idx, 3)) (hlk : gLkSH (mY M).cls idx M' na) (hna : vs.length = na)
    (hsk : sk = (vs.map (tv (gRen ρ))).reverse ++ rest) (hs : gSub ρ h h') (hN : gNn ρ ls rest h h' Q' QX') (hT : mT M = []) (hdd : d' + 1 ≤ d) (hcat : (rest.map fun v => v.category).sum ≤ 8) (hc : c + mc' ≤ mc) (hn : n + ms' ≤ ms)
    (hX : ∀ X h1, QX' X h1 → QX X (gPb ρ ρ h1 h))
    (k : ∀ (v : Option Value) (h1 : gH), Q' v h1 → G M d mc ms h0 Q QX (c + mc') (n + ms') (pc + 3) ls (v.toList ++ rest) (gPb ρ ρ h1 h)) : G M d mc ms h0 Q QX c n pc ls sk h := by
  intro p l e s m args below meth cd base D E st av L0 f0 ad0 H locs lsA L f ad X w hl
  obtain ⟨hw, hT', hN9, hy0, hy1, hy2, hy3⟩ := hlk
  obtain ⟨hsub, hstr⟩ := w.sub hs
  have hM := hC l X.2.2.2.2.2.2.2.2.2 base D E st av L f _ hsub hstr
  have hb : (sk.map (tv ad)) = (vs.map (tv (fun k => ad (gRen ρ k)))).reverse ++ rest.map (tv ad) := by
    rw [hsk, List.map_append, List.map_reverse, gMapR]
  refine g_run (M' := M') (vs := vs.map (tv (fun k => ad (gRen ρ k)))) hs hN hT hc hn hX k X w hl ?_
  exact vx_runSX (hh := mT M') (bytes := mC M') (maxL := mN M') (ret := mR M') (n := na) (Ts := gG) (own := (mY M).cls) (index := idx) ⟨X.1, X.2.1, X.2.2.2.1, X.2.2.2.2.1, X.2.2.2.2.2.1⟩ hM
    (vx_cwSW (ws' := gG) na X.2.2.2.2.2.1 (by
      unfold va_wsS
      refine goodIn_app (gGood (fun w hw' => hw w ?_)) ?_
      · simp only [List.mem_cons, List.not_mem_nil, or_false] at hw' ⊢
        rcases hw' with h9 | h9 | h9
        · exact Or.inl h9
        · exact Or.inr (Or.inl h9)
        · exact Or.inr (Or.inr (Or.inl (by rw [h9, hy0])))
      · rw [gws_ofH hT']
        refine gGood (fun w hw' => ?_)
        rcases List.mem_cons.mp hw' with h9 | h9
        · rw [h9]; exact hw _ (by simp)
        · exact h9) (gws_ofH hT') rfl rfl ⟨hy1, hy2, hy3⟩ ⟨hdd, by show 8 + (mN M' + 11) + 28 * d' ≤ 28 * d; omega⟩)
    ⟨gPre_blind, fun U hU hW => ⟨rfl, gPre_at w hU hW⟩⟩ rfl (by rw [List.length_map]; exact hna) hl.2.1 hb (lv_room (by rw [gCat]; exact hcat)) hd ⟨hc, hn⟩
/-- the handler of this method that takes X at pc: by a short or a long store -/
def gHd2 (M : gM) (pc : Nat) (Q : Option Value → gH → Prop) (X : String) (h2 : gH) : Prop :=
  ∃ (pre : List ExceptionTableEntry) (x : ExceptionTableEntry) (suf : List ExceptionTableEntry) (nm : String) (kk : Nat) (z : Int), tableOf (mT M) = pre ++ x :: suf ∧ mR M = some .int ∧
    (∀ y ∈ pre, y.catchType ≠ 0 ∧ ∃ nm' : String, Cond.classLink (mY M).cls y.catchType nm' ∈ gG ∧ (X, nm') ∈ gNcs) ∧ covers x pc = true ∧ x.catchType ≠ 0 ∧ Cond.classLink (mY M).cls x.catchType nm ∈ gG ∧ X = nm ∧ X ∈ gCast ∧ kk < mN M ∧
    decode (mC M) x.handlerPc = .ok (.astore kk, 2) ∧ decode (mC M) (x.handlerPc + 2) = .ok (.iconst z, 1) ∧ decode (mC M) (x.handlerPc + 2 + 1) = .ok (.ireturn, 1) ∧ Q (some (.int (Int32.ofInt z))) h2
theorem g_callVC2 {M' : gM} {d' mc' ms' idx na ci k0 : Nat} {vs rest sk : List Value} {fs : List Value} {h' : gH} {Q' : Option Value → gH → Prop} {QX' : String → gH → Prop} (ρ : List Nat)
    (hC : gCt M' d' mc' ms' (.ref k0 :: vs) h' Q' QX') (hd : decode (mC M) pc = .ok (.invokevirtual idx, 3)) (hlk : gLkV (mY M).cls idx M' na) (hna : vs.length = na) (hk0 : h'[k0]? = some (some (.inl (ci, fs)))) (hci : (vwCl[ci]?).map (fun r => r.1) = some (mY M').cls)
    (hsk : sk = (vs.map (tv (gRen ρ))).reverse ++ .ref (gRen ρ k0) :: rest) (hs : gSub ρ h h') (hN : gNn ρ ls rest h h' Q' QX') (hdd : d' + 1 ≤ d) (hcat : (rest.map fun v => v.category).sum ≤ 8) (hc : c + mc' ≤ mc) (hn : n + ms' ≤ ms)
    (hX : ∀ X h1, QX' X h1 → gHd2 M pc Q X (gPb ρ ρ h1 h))
    (k : ∀ (v : Option Value) (h1 : gH), Q' v h1 → G M d mc ms h0 Q QX (c + mc') (n + ms') (pc + 3) ls (v.toList ++ rest) (gPb ρ ρ h1 h)) : G M d mc ms h0 Q QX c n pc ls sk h := by
  intro p l e s m args below meth cd base D E st av L0 f0 ad0 H locs lsA L f ad X w hl
  refine g_runK (M' := M') hs hN hc hn k X w hl (g_vrun ρ hC hd hlk hna hk0 hci hsk hs hdd hcat hc hn X w hl) (fun X9 ce q9 t H1 locs1 h1 L1 f1 ad2 hQ ht hvm w' hl' hce hcv hcl => ?_)
  obtain ⟨pre, x, suf, nm, kk, z, hT, hR, hpre, hcov, hct, hlk, hcast, hXc, hkk, d1, d2, d3, hq⟩ := hX X9 h1 hQ
  have cast : ∀ q ∈ gNcs, va_Nc q.1 q.2 s := w.1.2.2.2.1
  refine vx_catch (name := nm) (own := (mY M).cls) X.2.2.2.2.1 pre x suf (by rw [X.2.2.2.2.2.2.2.2.1]; exact hT) (fun y hy => Or.inr ?_) hcov hct (X.2.2.2.2.2.1 _ hlk) (by rw [← hcast]; exact va_Nw.use rfl (w.1.2.1 _ hXc)) hce hcv hcl ?_
  · obtain ⟨y1, nm', y2, y3⟩ := hpre y hy
    exact ⟨y1, nm', X.2.2.2.2.2.1 _ y2, cast _ y3⟩
  · refine lv_astore (i := kk) X.1 X.2.1 d1 hl'.2 hkk rfl (fun lsB hB => ?_)
    refine lv_iconst X.1 X.2.1 d2 rfl ?_
    refine g_end hc hn ?_
    rw [hR]
    exact W.iret (v := Int32.ofInt z) X.1 X.2.1 (X.2.2.1.trans hR) (fun t ht hW => ⟨⟨Int32.ofInt z, (gPb ρ ρ h1 h, L1, f1, ad2), rfl, ⟨hq, w'.2.2.2.2.2.2.2.2.1⟩, w'.gB ht hW⟩, w'.2.2.2.1.F ht⟩) w'.2.2.2.1.2.2 d3 X.2.2.2.2.2.2.1
end
end LAWR
