/-! rows for the JDK's own code and for the law's static rows -/
section JROWS
variable {M : gM} {d mc ms : Nat} {h0 : gH} {Q : Option Value → gH → Prop} {QX : String → gH → Prop} {c n pc : Nat} {ls : List (Option Value)} {sk : List Value} {h : gH}
theorem i10 : ((1 : Int32) = 0) = False := by decide
theorem i00 : ((0 : Int32) = 0) = True := by decide
theorem i01 : ((0 : Int32) = 1) = False := by decide
theorem g_anull (hd : decode (mC M) pc = .ok (.aconst_null, 1)) (k : G M d mc ms h0 Q QX c n (pc + 1) ls (.null :: sk) h) : G M d mc ms h0 Q QX c n pc ls sk h := by
  intro p l e s m args below meth cd base D E st av L0 f0 ad0 H locs lsA L f ad X w hl
  exact lv_null X.1 X.2.1 hd (k p l e s m args below meth cd base D E st av L0 f0 ad0 H locs lsA L f ad X w hl)
theorem g_alenI {kd a : Nat} {l0 : List Int32} (hd : decode (mC M) pc = .ok (.arraylength, 1)) (hp : h[a]? = some (some (.inr (.inl (kd, l0))))) (hkd : kd = 0 ∨ kd = 1)
    (k : G M d mc ms h0 Q QX c n (pc + 1) ls (.int (nI l0.length) :: sk) h) : G M d mc ms h0 Q QX c n pc ls (.ref a :: sk) h := by
  intro p l e s m args below meth cd base D E st av L0 f0 ad0 H locs lsA L f ad X w hl
  obtain ⟨q, hq⟩ := w.at hp
  rcases hkd with rfl | rfl
  · exact va_alen (D := D) (cl := vwCl) (tys := gTys E) X.1 X.2.1 w.2.2.1 w.2.2.2.2.1 q 0 hq rfl rfl hd (k p l e s m args below meth cd base D E st av L0 f0 ad0 H locs lsA L f ad X w hl)
  · exact va_alen (D := D) (cl := vwCl) (tys := gTys E) X.1 X.2.1 w.2.2.1 w.2.2.2.2.1 q 1 hq rfl rfl hd (k p l e s m args below meth cd base D E st av L0 f0 ad0 H locs lsA L f ad X w hl)
theorem g_alenA {a : Nat} {l0 : List (Option Nat)} (hd : decode (mC M) pc = .ok (.arraylength, 1)) (hp : h[a]? = some (some (.inr (.inr (.inr l0)))))
    (k : G M d mc ms h0 Q QX c n (pc + 1) ls (.int (nI l0.length) :: sk) h) : G M d mc ms h0 Q QX c n pc ls (.ref a :: sk) h := by
  intro p l e s m args below meth cd base D E st av L0 f0 ad0 H locs lsA L f ad X w hl
  obtain ⟨q, hq⟩ := w.at hp
  exact va_alen (D := D) (cl := vwCl) (tys := gTys E) X.1 X.2.1 w.2.2.1 w.2.2.2.2.1 q 3 hq rfl rfl hd (k p l e s m args below meth cd base D E st av L0 f0 ad0 H locs lsA L f ad X w hl)
/-- a static row of the start -/
theorem g_gets {i idx : Nat} {t : String × String × String × FieldType × List (Int32 ⊕ Nat)} (hi : gArr[i]? = some t) (hd : decode (mC M) pc = .ok (.getstatic idx, 3)) (hw : Cond.fieldLink (mY M).cls idx t.1 t.2.1 t.2.2.1 ∈ gG)
    (k : G M d mc ms h0 Q QX c n (pc + 3) ls (.ref (1700 + i) :: sk) h) : G M d mc ms h0 Q QX c n pc ls sk h := by
  intro p l e s m args below meth cd base D E st av L0 f0 ad0 H locs lsA L f ad X w hl
  have k' := k p l e s m args below meth cd base D E st av L0 f0 ad0 H locs lsA L f ad X w hl
  have e1 : ad (1700 + i) = st (700 + i) := by rw [show 1700 + i = 1000 + (700 + i) by omega]; exact w.2.2.2.2.2.2.2.1 (700 + i)
  have k' : W p l e (grm d mc ms) s m args below meth cd H locs c n _ (F0 m (pc + 3) lsA (.ref (ad (1700 + i)) :: sk.map (tv ad))) := k'
  rw [e1] at k'
  exact va_gets X.1 X.2.1 (w.1.2.2.2.2.2.2.2.2.1.2.2.2.2 i t hi).1 w.2.2.2.1 X.2.2.2.2.1 (X.2.2.2.2.2.1 _ hw) (fun _ z => z) hd k'
theorem g_sbald {i : Nat} {x v : Int32} {t : String × String × String × FieldType × List (Int32 ⊕ Nat)} (hi : gArr[i]? = some t) (hty : t.2.2.2.1 = .byte) (hd : decode (mC M) pc = .ok (.baload, 1)) (hin : vp_in x t.2.2.2.2.length) (hv : t.2.2.2.2.getD x.toNatClampNeg (.inl 0) = .inl v)
    (k : G M d mc ms h0 Q QX c n (pc + 1) ls (.int v :: sk) h) : G M d mc ms h0 Q QX c n pc ls (.int x :: .ref (1700 + i) :: sk) h := by
  intro p l e s m args below meth cd base D E st av L0 f0 ad0 H locs lsA L f ad X w hl
  have k' := k p l e s m args below meth cd base D E st av L0 f0 ad0 H locs lsA L f ad X w hl
  have e1 : ad (1700 + i) = st (700 + i) := by rw [show 1700 + i = 1000 + (700 + i) by omega]; exact w.2.2.2.2.2.2.2.1 (700 + i)
  show W p l e (grm d mc ms) s m args below meth cd H locs c n _ (F0 m pc lsA (.int x :: .ref (ad (1700 + i)) :: sk.map (tv ad)))
  rw [e1]
  have hT := (w.1.2.2.2.2.2.2.2.2.1.2.2.2.2 i t hi).2
  rw [hty] at hT
  exact va_tb X.1 X.2.1 hT w.2.2.2.1 hin (v := .int v) (by show gAv st (t.2.2.2.2.getD _ _) = _; rw [hv]; rfl) hd k'
theorem g_saald {i q : Nat} {x : Int32} {C : String} {t : String × String × String × FieldType × List (Int32 ⊕ Nat)} (hi : gArr[i]? = some t) (hty : t.2.2.2.1 = .object C) (hd : decode (mC M) pc = .ok (.aaload, 1)) (hin : vp_in x t.2.2.2.2.length) (hv : t.2.2.2.2.getD x.toNatClampNeg (.inl 0) = .inr q)
    (k : G M d mc ms h0 Q QX c n (pc + 1) ls (.ref (1000 + q) :: sk) h) : G M d mc ms h0 Q QX c n pc ls (.int x :: .ref (1700 + i) :: sk) h := by
  intro p l e s m args below meth cd base D E st av L0 f0 ad0 H locs lsA L f ad X w hl
  have k' := k p l e s m args below meth cd base D E st av L0 f0 ad0 H locs lsA L f ad X w hl
  have e1 : ad (1700 + i) = st (700 + i) := by rw [show 1700 + i = 1000 + (700 + i) by omega]; exact w.2.2.2.2.2.2.2.1 (700 + i)
  have k' : W p l e (grm d mc ms) s m args below meth cd H locs c n _ (F0 m (pc + 1) lsA (.ref (ad (1000 + q)) :: sk.map (tv ad))) := k'
  rw [w.2.2.2.2.2.2.2.1 q] at k'
  show W p l e (grm d mc ms) s m args below meth cd H locs c n _ (F0 m pc lsA (.int x :: .ref (ad (1700 + i)) :: sk.map (tv ad)))
  rw [e1]
  have hT := (w.1.2.2.2.2.2.2.2.2.1.2.2.2.2 i t hi).2
  rw [hty] at hT
  exact vb_tq X.1 X.2.1 hT w.2.2.2.1 hin (v := .ref (st q)) (by show gAv st (t.2.2.2.2.getD _ _) = _; rw [hv]; rfl) hd k'
/-- a field of one byte gets 0 -/
theorem g_putB {ci k0 idx a : Nat} {fs : List Value} (hd : decode (mC M) pc = .ok (.putfield idx, 3)) (hf : gFok (mY M).cls idx ci k0) (hfin : gFi M ci k0 = true) (hp : h[a]? = some (some (.inl (ci, fs)))) (hty : ∃ r, vwCl[ci]? = some r ∧ parseFieldDescriptor (r.2.1 k0).2.2.1 = some .byte) (hl9 : k0 < fs.length)
    (k : G M d mc ms h0 Q QX c n (pc + 3) ls sk (h.set a (some (.inl (ci, fs.set k0 (.int 0)))))) : G M d mc ms h0 Q QX c n pc ls (.int 0 :: .ref a :: sk) h := by
  obtain ⟨r, h1, h2⟩ := hty
  exact g_put hd hf (gFi_s hfin) hp ⟨r, .byte, h1, h2, rfl, rfl, fun _ => ⟨rfl, rfl⟩⟩ hl9 k
/-- bytes copied -/
def cpyL (f g : List Int32) (sp dp n : Nat) : List Int32 := (List.range g.length).map (va_cpy (fun j => f.getD j 0) (fun j => g.getD j 0) sp dp n)
theorem cpyL_len {f g : List Int32} {sp dp n : Nat} : (cpyL f g sp dp n).length = g.length := by unfold cpyL; rw [List.length_map, List.length_range]
theorem cpyL_at {f g : List Int32} {sp dp n : Nat} (hdp : dp + n ≤ g.length) (j : Nat) : (cpyL f g sp dp n).getD j 0 = va_cpy (fun j => f.getD j 0) (fun j => g.getD j 0) sp dp n j := by
  unfold cpyL
  rw [List.getD_eq_getElem?_getD, List.getElem?_map]
  by_cases hj : j < g.length
  · rw [List.getElem?_range hj]; rfl
  · rw [List.getElem?_eq_none (by rw [List.length_range]; omega)]
    unfold va_cpy
    rw [if_neg (by omega)]
    show (0 : Int32) = g.getD j 0
    rw [List.getD_eq_getElem?_getD, List.getElem?_eq_none (by omega)]; rfl
theorem cpyL_tc {E : Nat → ClassId} {ad : Nat → Nat} {l0 : Nat → Int32} {g f : List Int32} {sp dp n : Nat} (hdp : dp + n ≤ g.length) (hf : l0 = fun j => f.getD j 0) : (.inl (E 1, g.length, .inl (va_cpy l0 (fun j => g.getD j 0) sp dp n)) : va_E) = tc E ad (.inr (.inl (1, cpyL f g sp dp n))) := by
  subst hf
  show _ = (.inl (E 1, (cpyL f g sp dp n).length, .inl (fun j => (cpyL f g sp dp n).getD j 0)) : va_E)
  rw [cpyL_len]
  congr 4
  funext j
  exact (cpyL_at hdp j).symm
theorem g_copyB {a a0 idx : Nat} {l0 l1 : List Int32} {sp dp nn : Int32} (hd : decode (mC M) pc = .ok (.invokestatic idx, 3)) (hlk : Cond.methodLink (mY M).cls idx arraycopyName ∈ gG) (h1 : h[a0]? = some (some (.inr (.inl (1, l0))))) (h2 : h[a]? = some (some (.inr (.inl (1, l1)))))
    (hsp : ¬ sp < 0) (hdp : ¬ dp < 0) (hn0 : ¬ nn < 0) (hb1 : sp.toNatClampNeg + nn.toNatClampNeg ≤ l0.length) (hb2 : dp.toNatClampNeg + nn.toNatClampNeg ≤ l1.length) (hfit : ∀ i, i < nn.toNatClampNeg → fits .byte (.int (l0.getD (sp.toNatClampNeg + i) 0)) = true)
    (hd1 : 1 ≤ d) (hcat : (sk.map fun v => v.category).sum + (nativeFrameWords "java/lang/System" "arraycopy" 5 + 11) ≤ 36 * d)
    (k : G M d mc ms h0 Q QX c n (pc + 3) ls sk (h.set a (some (.inr (.inl (1, cpyL l0 l1 sp.toNatClampNeg dp.toNatClampNeg nn.toNatClampNeg)))))) : G M d mc ms h0 Q QX c n pc ls (.int nn :: .int dp :: .ref a :: .int sp :: .ref a0 :: sk) h := by
  intro p l e s m args below meth cd base D E st av L0 f0 ad0 H locs lsA L f ad X w hl
  obtain ⟨q0, hq0⟩ := w.at h1
  obtain ⟨q1, hq1⟩ := w.at h2
  refine va_copyi (D := D) (cl := vwCl) (tys := gTys E) (ty := .byte) X.1 X.2.1 (X.2.2.2.1.trans hl.2.1.symm) X.2.2.2.2.1 (X.2.2.2.2.2.1 _ hlk) (X.2.2.2.2.2.1 _ gCpN) (X.2.2.2.2.2.1 _ gCpS) (X.2.2.2.2.2.1 _ gCpI) w.2.2.1 w.2.2.2.2.1 w.2.2.2.2.2.1 w.2.2.2.1 q0 q1 1 1 hq0 hq1 rfl rfl rfl hsp hdp hn0 hb1 hb2 hfit hd1 (by rw [gCat]; exact hcat) hd (fun H1 locs1 hP1 hD1 hS1 => ?_)
  rw [cpyL_tc (ad := ad) hb2 rfl] at hP1 hD1
  exact k p l e s m args below meth cd base D E st av L0 f0 ad0 H1 locs1 lsA L _ ad X (w.set h2 hq1 hP1 hD1 hS1) hl
/-- .. of a String constant -/
theorem g_copyS {a i idx : Nat} {l1 : List Int32} {t : String × Nat × String × List Int32} {sp dp nn : Int32} (hi : gStr[i]? = some t) (hd : decode (mC M) pc = .ok (.invokestatic idx, 3)) (hlk : Cond.methodLink (mY M).cls idx arraycopyName ∈ gG) (h2 : h[a]? = some (some (.inr (.inl (1, l1)))))
    (hsp : ¬ sp < 0) (hdp : ¬ dp < 0) (hn0 : ¬ nn < 0) (hb1 : sp.toNatClampNeg + nn.toNatClampNeg ≤ t.2.2.2.length) (hb2 : dp.toNatClampNeg + nn.toNatClampNeg ≤ l1.length) (hfit : ∀ i, i < nn.toNatClampNeg → fits .byte (.int (t.2.2.2.getD (sp.toNatClampNeg + i) 0)) = true)
    (hd1 : 1 ≤ d) (hcat : (sk.map fun v => v.category).sum + (nativeFrameWords "java/lang/System" "arraycopy" 5 + 11) ≤ 36 * d)
    (k : G M d mc ms h0 Q QX c n (pc + 3) ls sk (h.set a (some (.inr (.inl (1, cpyL t.2.2.2 l1 sp.toNatClampNeg dp.toNatClampNeg nn.toNatClampNeg)))))) : G M d mc ms h0 Q QX c n pc ls (.int nn :: .int dp :: .ref a :: .int sp :: .ref (1500 + i) :: sk) h := by
  intro p l e s m args below meth cd base D E st av L0 f0 ad0 H locs lsA L f ad X w hl
  obtain ⟨q1, hq1⟩ := w.at h2
  have e1 : ad (1500 + i) = st (500 + i) := by rw [show 1500 + i = 1000 + (500 + i) by omega]; exact w.2.2.2.2.2.2.2.1 (500 + i)
  show W p l e (grm d mc ms) s m args below meth cd H locs c n _ (F0 m pc lsA (.int nn :: .int dp :: .ref (ad a) :: .int sp :: .ref (ad (1500 + i)) :: sk.map (tv ad)))
  rw [e1]
  refine vk_copyt (D := D) (cl := vwCl) (tys := gTys E) X.1 X.2.1 (X.2.2.2.1.trans hl.2.1.symm) X.2.2.2.2.1 (X.2.2.2.2.2.1 _ hlk) (X.2.2.2.2.2.1 _ gCpN) (X.2.2.2.2.2.1 _ gCpS) (X.2.2.2.2.2.1 _ gCpI) w.2.2.1 w.2.2.2.2.1 w.2.2.2.2.2.1 w.2.2.2.1 (f := fun j => t.2.2.2.getD j 0) (w.1.2.2.2.2.2.2.2.2.2 i t hi).2.2.2.2 q1 1 hq1 rfl hsp hdp hn0 hb1 hb2 hfit hd1 (by rw [gCat]; exact hcat) hd (fun H1 locs1 hP1 hD1 hS1 => ?_)
  rw [cpyL_tc (ad := ad) hb2 rfl] at hP1 hD1
  exact k p l e s m args below meth cd base D E st av L0 f0 ad0 H1 locs1 lsA L _ ad X (w.set h2 hq1 hP1 hD1 hS1) hl
/-- bytes cloned -/
theorem g_clone {a : Nat} {l0 : List Int32} (p0 : Nat) (hown : (mY M).cls = RJ7) (hd : decode (mC M) pc = .ok (.invokevirtual 310, 3)) (h1 : h[a]? = some (some (.inr (.inl (1, l0))))) (hf : gFree p0 ls sk h) (hfit : ∀ i, i < l0.length → fits .byte (.int (l0.getD i 0)) = true)
    (hd1 : 1 ≤ d) (hcat : (sk.map fun v => v.category).sum + 14 ≤ 36 * d) (hc9 : c + 1 ≤ mc) (hn9 : n + l0.length ≤ ms)
    (k : G M d mc ms h0 Q QX (c + 1) (n + l0.length) (pc + 3) ls (.ref p0 :: sk) (h.set p0 (some (.inr (.inl (1, l0)))))) : G M d mc ms h0 Q QX c n pc ls (.ref a :: sk) h := by
  intro p l e s m args below meth cd base D E st av L0 f0 ad0 H locs lsA L f ad X w hl
  obtain ⟨f1, f2, f3, f4, f5⟩ := hf
  obtain ⟨q0, hq0⟩ := w.at h1
  have hnm : s.vm.findClass "[B" = some (E 1) := va_nm_byte (w.2.2.1.2 1 _ rfl).2
  have ok := X.2.2.2.2.2.1
  refine va_clone (D := D) (cl := vwCl) (tys := gTys E) (own := RJ7) (ad := "[B") (ty := .byte) (x := (l0.length, .inl (fun j => l0.getD j 0))) X.1 X.2.1 (X.2.2.2.1.trans hl.2.1.symm) (by rw [← hown]; exact X.2.2.2.2.1) (ok _ gClL) (ok _ gClM) (ok _ gClN) (ok _ gClI) (ok _ gClS) w.1.2.2.2.2.2.2.2.2.1.2.2.1 w.2.2.1 w.2.2.2.2.1 w.2.2.2.2.2.1 w.2.2.2.1 (fun q hq => Nat.le_trans w.2.1 hq) q0 1 hq0 rfl hnm (fun i v hv => ?_) hd1 (by rw [gCat]; exact hcat) hc9 hn9 hd (fun q H1 hK1 hP1 hD1 hS1 => ?_)
  · exact va_fit (cA := E 1) (n := l0.length) (F := fun j => .int (l0.getD j 0)) hfit i v hv
  · have htc : tc E ad (.inr (.inl (1, l0))) = (.inl (E 1, l0.length, .inl (fun j => l0.getD j 0)) : va_E) := rfl
    rw [← htc] at hP1 hD1
    have w' := w.push f1 f2 f5 (show gNo p0 (.inr (.inl (1, l0))) from trivial) hP1 hD1 hS1
    have k' := k p l e s m args below meth cd base D E st av L0 f0 ad0 H1 locs lsA _ _ _ X w' (by unfold gLv; rw [gLsF_up f3]; exact hl)
    rw [List.map_cons, map_tv_up f4, show tv (va_up ad p0 q) (.ref p0) = .ref q from congrArg Value.ref (va_up_self ad p0 q)] at k'
    exact k'
theorem g_castB {a : Nat} {l0 : List Int32} (hown : (mY M).cls = RJ7) (hd : decode (mC M) pc = .ok (.checkcast 311, 3)) (h1 : h[a]? = some (some (.inr (.inl (1, l0)))))
    (k : G M d mc ms h0 Q QX c n (pc + 3) ls (.ref a :: sk) h) : G M d mc ms h0 Q QX c n pc ls (.ref a :: sk) h := by
  intro p l e s m args below meth cd base D E st av L0 f0 ad0 H locs lsA L f ad X w hl
  obtain ⟨q0, hq0⟩ := w.at h1
  have hnm : s.vm.findClass "[B" = some (E 1) := va_nm_byte (w.2.2.1.2 1 _ rfl).2
  exact va_castA (own := RJ7) (nm := "[B") X.1 X.2.1 (by rw [← hown]; exact X.2.2.2.2.1) (X.2.2.2.2.2.1 _ gClC) w.2.2.2.2.1 q0 hq0 hnm hd (k p l e s m args below meth cd base D E st av L0 f0 ad0 H locs lsA L f ad X w hl)
end JROWS
