section CX9
set_option maxRecDepth 100000
def FiR (t : List Int32) (f : Nat → Nat) (n : Nat) : Prop := ∀ i, i < n → t.getD i 0 = nI (f i)
/-- the crossing with other fills -/
def crF (C : CrT) (t : List Int32) : CrT := (C.1, C.2.1, C.2.2.1, C.2.2.2.1, C.2.2.2.2.1, C.2.2.2.2.2.1, C.2.2.2.2.2.2.1, C.2.2.2.2.2.2.2.1, t, C.2.2.2.2.2.2.2.2.2)
theorem CrR_f {C : CrT} {os : List Od} {t : List Int32} (h : CrR C os) (ht : t.length = 21) : CrR (crF C t) os := by
  obtain ⟨b1, b2, ⟨c1, c2, c3, c4, c5⟩, b3, b4⟩ := h
  exact ⟨b1, b2, ⟨c1, c2, c3, ht, c5⟩, b3, b4⟩
/-- l is the line in C -/
def LnR (C : CrT) (os : List Od) (l : List Nat) : Prop := Hd C.2.2.2.2.2.2.2.2.2 l ∧ l.length ≤ 21 ∧ (∀ y ∈ l, y < os.length) ∧ l.Nodup
theorem Hd_at {t : List Int32} {A B : List Nat} {y : Nat} (h : Hd t (A ++ y :: B)) : t.getD A.length 0 = nI y := h A.length y (by simp)
theorem qa_le {C : CrT} {os : List Od} (hC : CrR C os) {y : Nat} (hy : y < os.length) : qa os y ≤ 99 := by
  obtain ⟨o, ho, -, o1, o2, o3, o4⟩ := cr_row hC hy
  rw [qa, oa_s ho]; exact o4
theorem sumQ_le {C : CrT} {os : List Od} (hC : CrR C os) : ∀ l : List Nat, (∀ y ∈ l, y < os.length) → sumQ os l ≤ 99 * l.length := by
  intro l
  induction l with
  | nil => intro _; simp [sumQ]
  | cons x r ih =>
    intro h
    have h1 := ih (fun y hy => h y (List.mem_cons_of_mem _ hy))
    have h2 := qa_le hC (h x List.mem_cons_self)
    simp only [sumQ, List.length_cons]; omega
theorem l1_grpA {os : List Od} {C : CrT} {l B : List Nat} {left : Nat} {h0 : gH} {Q : Option Value → gH → Prop} {QX : String → gH → Prop} {fr en : Int32} (hC : CrR C os) (hl : LnR C os l) (hen : en = nI (l.length - B.length))
    (tot : Nat) (hQ : ∀ l5, G m1_fillGroup 1 0 0 h0 Q QX 0 0 35 [some (.ref 0), some (.int fr), some (.int en), some (.int (nI left)), some (.int (nI tot)), l5, none, none, none] [] (hCr C)) :
    ∀ (g A : List Nat) (s : Nat), l = A ++ g ++ B → s + sumQ os g = tot → G m1_fillGroup 1 0 0 h0 Q QX 0 0 6 [some (.ref 0), some (.int fr), some (.int en), some (.int (nI left)), some (.int (nI s)), some (.int (nI A.length)), none, none, none] [] (hCr C) := by
  intro g
  induction g with
  | nil =>
    intro A s hlA hs
    have e : l.length - B.length = A.length := by rw [hlA]; simp
    have hen' : en = nI A.length := by rw [hen, e]
    subst hen'
    refine wpb_t 3 rfl (by decide) (by decide) _ k1_fillGroup_6 ?_
    simp only [List.take_succ_cons, List.take_zero, w_nil, w_iadd, w_isub, w_imul, w_iand, w_ior, w_ishl, w_ishr, w_idiv, w_irem, w_ladd, w_lsub, w_lmul, w_lcmp, w_fdiv, w_ddiv, w_ineg, w_i2l, w_l2i, w_i2b, w_i2c, w_i2f, w_i2d, w_l2d, w_f2d, w_dcmp, w_iconst, w_bipush, w_sipush, w_lconst, w_fconst, w_dconst, w_iload_n0, w_iload_n1, w_iload_n2, w_iload_n3, w_iload, w_lload_n0, w_lload_n1, w_lload_n2, w_lload_n3, w_lload, w_aload_n0, w_aload_n1, w_aload_n2, w_aload_n3, w_aload, w_dload, w_istore_n0, w_istore_n1, w_istore_n2, w_istore_n3, w_istore, w_lstore_n0, w_lstore_n1, w_lstore_n2, w_lstore_n3, w_lstore, w_astore_n0, w_astore_n1, w_astore_n2, w_astore_n3, w_astore, w_dstore, w_iinc, w_dup, w_pop, w_dup2, w_getfield, w_putfield0, w_putfield1, w_putfield2, w_iaload, w_baload, w_aaload0, w_aaload1, w_iastore, w_bastore, w_aastore, w_ldc0, w_ldc1, w_ldc_w, w_ldc2_w, w_ifCond_eq, w_ifCond_ne, w_ifCond_lt, w_ifCond_ge, w_ifCond_gt, w_ifCond_le, w_if_icmp_eq, w_if_icmp_ne, w_if_icmp_lt, w_if_icmp_ge, w_if_icmp_gt, w_if_icmp_le, w_goto, w_ireturn, w_areturn, w_return_, w_lreturn, w_freturn, w_dreturn, Int32.reduceOfInt, List.getElem?_cons_succ, List.getElem?_cons_zero, List.set_cons_succ, List.set_cons_zero, Nat.reduceAdd, Nat.reduceLT, Option.some.injEq, and_true, ↓cI_cq, ↓cL_cq, ↓cO_cq, ↓cQ_cq, false_implies, fin0_4, fin1_4, fin2_4, fin3_4, gSet1_0, gSet1_1, gSet1_2, gSet2_0, gSet2_1, gSet2_2, gUp_0, gUp_c, gW1_0, gW1_d, gW1_i, gW1_l, gW1_r, gW1_u, ↓lD_cq, ↓lI_cq, ↓lL_cq, ↓lR_cq, mR, not_false_eq_true, not_true_eq_false, ↓oV_cq, or_true, ↓p1_iq, ↓p1_nq, ↓p1_rq, ↓pD_cq, ↓pF_cq, ↓pI_cq, ↓pL_cq, ↓pN_nq, ↓pN_rq, ↓pR_cq, reduceCtorEq, true_and, true_implies, true_or, ↓lI_at0, ↓lI_at1, ↓lI_at2, ↓lI_at3, ↓lI_at4, ↓lI_at5, ↓lI_at6, ↓lI_at7, ↓lI_at8, ↓lI_at9, ↓lL_at0, ↓lL_at1, ↓lL_at2, ↓lL_at3, ↓lL_at4, ↓lL_at5, ↓lL_at6, ↓lL_at7, ↓lL_at8, ↓lL_at9, ↓lD_at0, ↓lD_at1, ↓lD_at2, ↓lD_at3, ↓lD_at4, ↓lD_at5, ↓lD_at6, ↓lD_at7, ↓lD_at8, ↓lD_at9, ↓lR_at0, ↓lR_at1, ↓lR_at2, ↓lR_at3, ↓lR_at4, ↓lR_at5, ↓lR_at6, ↓lR_at7, ↓lR_at8, ↓lR_at9, ↓oV_at0, ↓oV_at1, ↓oV_at2, ↓oV_at3, ↓oV_at4, ↓oV_at5, ↓oV_at6, ↓oV_at7, ↓oV_at8, ↓oV_at9, ↓oV_at10, ↓oV_at11, ↓oV_at12, ↓oV_at13, ↓oV_at14, ↓oV_at15, ↓oV_at16, ↓oV_at17, ↓oV_at18, ↓oV_at19, ↓oV_at20, ↓oV_at21, ↓oV_at22, ↓oV_at23, ↓oV_at24, ↓oV_at25, ↓oV_at26, ↓oV_at27, ↓oV_at28, ↓oV_at29, ↓oV_at30, ↓oV_at31, ↓oV_at32, ↓oV_at33, ↓oV_at34, ↓oV_at35, ↓oV_at36, ↓oV_at37, ↓oV_at38, ↓oV_at39, ↓gLt_0, ↓gLt_1, ↓gLt_2, ↓gLt_3, ↓gLt_4, ↓gLt_5, ↓gLt_6, ↓gLt_7, ↓gLt_8, ↓gLt_9, ↓gLt_10, ↓gLt_11, ↓gLt_12, ↓gLt_13, ↓gLt_14, ↓gLt_15, ↓gLt_16, ↓gLt_17, ↓gLt_18, ↓gLt_19, ↓gLt_20, ↓gLt_21, ↓gLt_22, ↓gLt_23, ↓gLt_24, ↓gLt_25, ↓gLt_26, ↓gLt_27, ↓gLt_28, ↓gLt_29, ↓gLt_30, ↓gLt_31, ↓gLt_32, ↓gLt_33, ↓gLt_34, ↓gLt_35, ↓gLt_36, ↓gLt_37, ↓gLt_38, ↓gLt_39, hCr_len, ↓hCr_c0, hCr_s0_0, hCr_s0_1, hCr_s0_2, hCr_s0_3, hCr_s0_4, ↓hCr_c1, hCr_s1, ↓hCr_c2, hCr_s2, ↓hCr_c3, hCr_s3, ↓hCr_c4, hCr_s4, ↓hCr_c5, hCr_s5]
    refine ⟨fun _ => ?_, fun h => absurd (Int32.le_refl _) h⟩
    have : s = tot := by simpa [sumQ] using hs
    subst this
    exact hQ _
  | cons y g ih =>
    intro A s hlA hs
    have hy : y < os.length := hl.2.2.1 y (by rw [hlA]; simp)
    obtain ⟨b1, b2, ⟨c1, c2, c3, c4, c5⟩, b3, b4⟩ := id hC
    obtain ⟨o, ho, ⟨r1, r2, r3⟩, o1, o2, o3, o4⟩ := cr_row hC hy
    have hqa : qa os y = oQ o := by rw [qa, oa_s ho]
    have e : l.length - B.length = A.length + 1 + g.length := by rw [hlA]; simp; omega
    have e2 : l.length = A.length + 1 + g.length + B.length := by rw [hlA]; simp; omega
    have e3 := hl.2.1
    have hat : C.2.2.2.2.2.2.2.2.2.getD A.length 0 = nI y := by
      have := hl.1
      rw [hlA, List.append_assoc] at this
      exact Hd_at this
    have hih := ih (A ++ [y]) (s + qa os y) (by rw [hlA]; simp) (by rw [sumQ] at hs; omega)
    rw [hqa, show (A ++ [y]).length = A.length + 1 by simp] at hih
    refine wpb_s rfl (by decide) (by decide) _ k1_fillGroup_6 ?_
    simp only [w_nil, w_iadd, w_isub, w_imul, w_iand, w_ior, w_ishl, w_ishr, w_idiv, w_irem, w_ladd, w_lsub, w_lmul, w_lcmp, w_fdiv, w_ddiv, w_ineg, w_i2l, w_l2i, w_i2b, w_i2c, w_i2f, w_i2d, w_l2d, w_f2d, w_dcmp, w_iconst, w_bipush, w_sipush, w_lconst, w_fconst, w_dconst, w_iload_n0, w_iload_n1, w_iload_n2, w_iload_n3, w_iload, w_lload_n0, w_lload_n1, w_lload_n2, w_lload_n3, w_lload, w_aload_n0, w_aload_n1, w_aload_n2, w_aload_n3, w_aload, w_dload, w_istore_n0, w_istore_n1, w_istore_n2, w_istore_n3, w_istore, w_lstore_n0, w_lstore_n1, w_lstore_n2, w_lstore_n3, w_lstore, w_astore_n0, w_astore_n1, w_astore_n2, w_astore_n3, w_astore, w_dstore, w_iinc, w_dup, w_pop, w_dup2, w_getfield, w_putfield0, w_putfield1, w_putfield2, w_iaload, w_baload, w_aaload0, w_aaload1, w_iastore, w_bastore, w_aastore, w_ldc0, w_ldc1, w_ldc_w, w_ldc2_w, w_ifCond_eq, w_ifCond_ne, w_ifCond_lt, w_ifCond_ge, w_ifCond_gt, w_ifCond_le, w_if_icmp_eq, w_if_icmp_ne, w_if_icmp_lt, w_if_icmp_ge, w_if_icmp_gt, w_if_icmp_le, w_goto, w_ireturn, w_areturn, w_return_, w_lreturn, w_freturn, w_dreturn, Int32.reduceOfInt, List.getElem?_cons_succ, List.getElem?_cons_zero, List.set_cons_succ, List.set_cons_zero, Nat.reduceAdd, Nat.reduceLT, Option.some.injEq, and_true, ↓cI_cq, ↓cL_cq, ↓cO_cq, ↓cQ_cq, false_implies, fin0_4, fin1_4, fin2_4, fin3_4, gSet1_0, gSet1_1, gSet1_2, gSet2_0, gSet2_1, gSet2_2, gUp_0, gUp_c, gW1_0, gW1_d, gW1_i, gW1_l, gW1_r, gW1_u, ↓lD_cq, ↓lI_cq, ↓lL_cq, ↓lR_cq, mR, not_false_eq_true, not_true_eq_false, ↓oV_cq, or_true, ↓p1_iq, ↓p1_nq, ↓p1_rq, ↓pD_cq, ↓pF_cq, ↓pI_cq, ↓pL_cq, ↓pN_nq, ↓pN_rq, ↓pR_cq, reduceCtorEq, true_and, true_implies, true_or, ↓lI_at0, ↓lI_at1, ↓lI_at2, ↓lI_at3, ↓lI_at4, ↓lI_at5, ↓lI_at6, ↓lI_at7, ↓lI_at8, ↓lI_at9, ↓lL_at0, ↓lL_at1, ↓lL_at2, ↓lL_at3, ↓lL_at4, ↓lL_at5, ↓lL_at6, ↓lL_at7, ↓lL_at8, ↓lL_at9, ↓lD_at0, ↓lD_at1, ↓lD_at2, ↓lD_at3, ↓lD_at4, ↓lD_at5, ↓lD_at6, ↓lD_at7, ↓lD_at8, ↓lD_at9, ↓lR_at0, ↓lR_at1, ↓lR_at2, ↓lR_at3, ↓lR_at4, ↓lR_at5, ↓lR_at6, ↓lR_at7, ↓lR_at8, ↓lR_at9, ↓oV_at0, ↓oV_at1, ↓oV_at2, ↓oV_at3, ↓oV_at4, ↓oV_at5, ↓oV_at6, ↓oV_at7, ↓oV_at8, ↓oV_at9, ↓oV_at10, ↓oV_at11, ↓oV_at12, ↓oV_at13, ↓oV_at14, ↓oV_at15, ↓oV_at16, ↓oV_at17, ↓oV_at18, ↓oV_at19, ↓oV_at20, ↓oV_at21, ↓oV_at22, ↓oV_at23, ↓oV_at24, ↓oV_at25, ↓oV_at26, ↓oV_at27, ↓oV_at28, ↓oV_at29, ↓oV_at30, ↓oV_at31, ↓oV_at32, ↓oV_at33, ↓oV_at34, ↓oV_at35, ↓oV_at36, ↓oV_at37, ↓oV_at38, ↓oV_at39, ↓gLt_0, ↓gLt_1, ↓gLt_2, ↓gLt_3, ↓gLt_4, ↓gLt_5, ↓gLt_6, ↓gLt_7, ↓gLt_8, ↓gLt_9, ↓gLt_10, ↓gLt_11, ↓gLt_12, ↓gLt_13, ↓gLt_14, ↓gLt_15, ↓gLt_16, ↓gLt_17, ↓gLt_18, ↓gLt_19, ↓gLt_20, ↓gLt_21, ↓gLt_22, ↓gLt_23, ↓gLt_24, ↓gLt_25, ↓gLt_26, ↓gLt_27, ↓gLt_28, ↓gLt_29, ↓gLt_30, ↓gLt_31, ↓gLt_32, ↓gLt_33, ↓gLt_34, ↓gLt_35, ↓gLt_36, ↓gLt_37, ↓gLt_38, ↓gLt_39, hCr_len, ↓hCr_c0, hCr_s0_0, hCr_s0_1, hCr_s0_2, hCr_s0_3, hCr_s0_4, ↓hCr_c1, hCr_s1, ↓hCr_c2, hCr_s2, ↓hCr_c3, hCr_s3, ↓hCr_c4, hCr_s4, ↓hCr_c5, hCr_s5, nIc (show A.length < 1000000 by omega), nIc (show y < 1000000 by omega), hat, r3, c5, c3, nI_1, hen, e]
    rw [hen, e] at hih
    simp (disch := omega) only [nIc, nI_ltI, nI_leI, nI_eq, nI_z, nI_o, ge_iff_le, gt_iff_lt, nI_1, nI_add, pk_mul, vp_in_nI, true_and, and_true, true_implies]
    exact ⟨fun h => absurd h (by omega), fun _ => hih⟩
end CX9
