section CRE
set_option maxRecDepth 100000
/-! ### Book's lowestSupplying and highestDemanding -/
theorem sup_le {os : List Od} (h : ∀ o ∈ os, OdOk o) (p : Nat) : sup os p ≤ 99 * os.length := by
  induction os with
  | nil => simp [sup]
  | cons o r ih =>
    have h1 := ih (fun x hx => h x (List.mem_cons_of_mem _ hx))
    have h2 := (h o List.mem_cons_self).2.2.2.2
    simp only [sup, List.length_cons]
    split <;> omega
theorem dem_le {os : List Od} (h : ∀ o ∈ os, OdOk o) (p : Nat) : dem os p ≤ 99 * os.length := by
  induction os with
  | nil => simp [dem]
  | cons o r ih =>
    have h1 := ih (fun x hx => h x (List.mem_cons_of_mem _ hx))
    have h2 := (h o List.mem_cons_self).2.2.2.2
    simp only [dem, List.length_cons]
    split <;> omega
theorem sup_lt {B : BkT} {os : List Od} (hB : BkR B os) (p : Nat) : sup os p < 1000000 := by
  have := sup_le hB.2.2.2.1 p
  have := hB.2.1
  omega
theorem dem_lt {B : BkT} {os : List Od} (hB : BkR B os) (p : Nat) : dem os p < 1000000 := by
  have := dem_le hB.2.2.2.1 p
  have := hB.2.1
  omega
def LoI (os : List Od) (q k : Nat) (r : Int32) : Prop :=
  (r = -1 ∧ ∀ i o, i < k → os[i]? = some o → oS o = 1 → sup os (oL o) < q) ∨
  (∃ o ∈ os, r = nI (oL o) ∧ oS o = 1 ∧ q ≤ sup os (oL o) ∧ ∀ i o', i < k → os[i]? = some o' → oS o' = 1 → q ≤ sup os (oL o') → oL o ≤ oL o')
theorem LoI_n {os : List Od} {q k : Nat} {r : Int32} {o : Od} (h : LoI os q k r) (ho : os[k]? = some o) (hn : oS o = 1 → q ≤ sup os (oL o) → ∃ L, r = nI L ∧ L ≤ oL o ∧ L < 1000000) (hos : ∀ o ∈ os, OdOk o) : LoI os q (k + 1) r := by
  rcases h with ⟨h1, h2⟩ | ⟨o1, h1, h2, h3, h4, h5⟩
  · left
    refine ⟨h1, fun i o' hi ho' hs => ?_⟩
    by_cases hk : i = k
    · subst hk
      rw [ho] at ho'; cases ho'
      by_cases hq : q ≤ sup os (oL o)
      · obtain ⟨L, e1, e2, e3⟩ := hn hs hq
        rw [h1] at e1
        exact absurd (e1 ▸ neg1.2) (nI_nneg e3)
      · omega
    · exact h2 i o' (by omega) ho' hs
  · right
    refine ⟨o1, h1, h2, h3, h4, fun i o' hi ho' hs hq => ?_⟩
    by_cases hk : i = k
    · subst hk
      rw [ho] at ho'; cases ho'
      obtain ⟨L, e1, e2, e3⟩ := hn hs hq
      rw [h2] at e1
      have := (nI_eq (by have := (hos o1 h1).2.2.2.1; omega) (by omega)).mp e1
      omega
    · exact h5 i o' (by omega) ho' hs hq
theorem LoI_y {os : List Od} {q k : Nat} {r : Int32} {o : Od} (h : LoI os q k r) (ho : os[k]? = some o) (hs : oS o = 1) (hq : q ≤ sup os (oL o)) (hb : r = -1 ∨ ∀ L, L < 1000000 → r = nI L → oL o < L) (hos : ∀ o ∈ os, OdOk o) : LoI os q (k + 1) (nI (oL o)) := by
  refine Or.inr ⟨o, List.mem_of_getElem? ho, rfl, hs, hq, fun i o' hi ho' hs' hq' => ?_⟩
  by_cases hk : i = k
  · subst hk
    rw [ho] at ho'; cases ho'
    exact Nat.le_refl _
  · rcases h with ⟨h1, h2⟩ | ⟨o1, h1, h2, h3, h4, h5⟩
    · have := h2 i o' (by omega) ho' hs'
      omega
    · have e1 := h5 i o' (by omega) ho' hs' hq'
      have hl := (hos o1 h1).2.2.2.1
      rcases hb with hb | hb
      · rw [h2] at hb
        exact absurd (hb ▸ neg1.2) (nI_nneg (by omega))
      · have := hb (oL o1) (by omega) h2
        omega
theorem l0_lowestSupplying {B : BkT} {os : List Od} {q : Nat} {Q : Option Value → gH → Prop} {QX : String → gH → Prop} (hB : BkR B os) (hq : q < 1000000) (hQ : ∀ r, LoI os q os.length r → Q (some (.int r)) (hBk B)) :
    ∀ (j k : Nat) (r : Int32) (b : Option Value), k + j = os.length → LoI os q k r → G m0_lowestSupplying 2 0 0 (hBk B) Q QX 0 0 4 [some (.ref 0), some (.int (nI q)), some (.int r), some (.int (nI k)), b] [] (hBk B) := by
  obtain ⟨b1, b2, ⟨c1, c2, c3, c4, c5, c6⟩, b3, b4⟩ := id hB
  intro j
  induction j with
  | zero =>
    intro k r b hk hr
    have hk : k = os.length := by omega
    subst hk
    refine wpb_t 4 rfl (by decide) (by decide) _ k0_lowestSupplying_4 ?_
    simp only [List.take_succ_cons, List.take_zero, w_nil, w_iadd, w_isub, w_imul, w_iand, w_ior, w_ishl, w_ishr, w_idiv, w_irem, w_ladd, w_lsub, w_lmul, w_lcmp, w_fdiv, w_ddiv, w_ineg, w_i2l, w_l2i, w_i2b, w_i2c, w_i2f, w_i2d, w_l2d, w_f2d, w_dcmp, w_iconst, w_bipush, w_sipush, w_lconst, w_fconst, w_dconst, w_iload_n0, w_iload_n1, w_iload_n2, w_iload_n3, w_iload, w_lload_n0, w_lload_n1, w_lload_n2, w_lload_n3, w_lload, w_aload_n0, w_aload_n1, w_aload_n2, w_aload_n3, w_aload, w_dload, w_istore_n0, w_istore_n1, w_istore_n2, w_istore_n3, w_istore, w_lstore_n0, w_lstore_n1, w_lstore_n2, w_lstore_n3, w_lstore, w_astore_n0, w_astore_n1, w_astore_n2, w_astore_n3, w_astore, w_dstore, w_iinc, w_dup, w_pop, w_dup2, w_getfield, w_putfield0, w_putfield1, w_putfield2, w_iaload, w_baload, w_aaload0, w_aaload1, w_iastore, w_bastore, w_aastore, w_ldc0, w_ldc1, w_ldc_w, w_ldc2_w, w_ifCond_eq, w_ifCond_ne, w_ifCond_lt, w_ifCond_ge, w_ifCond_gt, w_ifCond_le, w_if_icmp_eq, w_if_icmp_ne, w_if_icmp_lt, w_if_icmp_ge, w_if_icmp_gt, w_if_icmp_le, w_goto, w_ireturn, w_areturn, w_return_, w_lreturn, w_freturn, w_dreturn, Int32.reduceOfInt, List.getElem?_cons_succ, List.getElem?_cons_zero, List.set_cons_succ, List.set_cons_zero, Nat.reduceAdd, Nat.reduceLT, Option.some.injEq, and_true, ↓cI_cq, ↓cL_cq, ↓cO_cq, ↓cQ_cq, false_implies, fin0_4, fin1_4, fin2_4, fin3_4, gSet1_0, gSet1_1, gSet1_2, gSet2_0, gSet2_1, gSet2_2, gUp_0, gUp_c, gW1_0, gW1_d, gW1_i, gW1_l, gW1_r, gW1_u, ↓lD_cq, ↓lI_cq, ↓lL_cq, ↓lR_cq, mR, not_false_eq_true, not_true_eq_false, ↓oV_cq, or_true, ↓p1_iq, ↓p1_nq, ↓p1_rq, ↓pD_cq, ↓pF_cq, ↓pI_cq, ↓pL_cq, ↓pN_nq, ↓pN_rq, ↓pR_cq, reduceCtorEq, true_and, true_implies, true_or, ↓lI_at0, ↓lI_at1, ↓lI_at2, ↓lI_at3, ↓lI_at4, ↓lI_at5, ↓lI_at6, ↓lI_at7, ↓lI_at8, ↓lI_at9, ↓lL_at0, ↓lL_at1, ↓lL_at2, ↓lL_at3, ↓lL_at4, ↓lL_at5, ↓lL_at6, ↓lL_at7, ↓lL_at8, ↓lL_at9, ↓lD_at0, ↓lD_at1, ↓lD_at2, ↓lD_at3, ↓lD_at4, ↓lD_at5, ↓lD_at6, ↓lD_at7, ↓lD_at8, ↓lD_at9, ↓lR_at0, ↓lR_at1, ↓lR_at2, ↓lR_at3, ↓lR_at4, ↓lR_at5, ↓lR_at6, ↓lR_at7, ↓lR_at8, ↓lR_at9, ↓oV_at0, ↓oV_at1, ↓oV_at2, ↓oV_at3, ↓oV_at4, ↓oV_at5, ↓oV_at6, ↓oV_at7, ↓oV_at8, ↓oV_at9, ↓oV_at10, ↓oV_at11, ↓oV_at12, ↓oV_at13, ↓oV_at14, ↓oV_at15, ↓oV_at16, ↓oV_at17, ↓oV_at18, ↓oV_at19, ↓oV_at20, ↓oV_at21, ↓oV_at22, ↓oV_at23, ↓oV_at24, ↓oV_at25, ↓oV_at26, ↓oV_at27, ↓oV_at28, ↓oV_at29, ↓oV_at30, ↓oV_at31, ↓oV_at32, ↓oV_at33, ↓oV_at34, ↓oV_at35, ↓oV_at36, ↓oV_at37, ↓oV_at38, ↓oV_at39, ↓gLt_0, ↓gLt_1, ↓gLt_2, ↓gLt_3, ↓gLt_4, ↓gLt_5, ↓gLt_6, ↓gLt_7, ↓gLt_8, ↓gLt_9, ↓gLt_10, ↓gLt_11, ↓gLt_12, ↓gLt_13, ↓gLt_14, ↓gLt_15, ↓gLt_16, ↓gLt_17, ↓gLt_18, ↓gLt_19, ↓gLt_20, ↓gLt_21, ↓gLt_22, ↓gLt_23, ↓gLt_24, ↓gLt_25, ↓gLt_26, ↓gLt_27, ↓gLt_28, ↓gLt_29, ↓gLt_30, ↓gLt_31, ↓gLt_32, ↓gLt_33, ↓gLt_34, ↓gLt_35, ↓gLt_36, ↓gLt_37, ↓gLt_38, ↓gLt_39, hBk_len, ↓hBk_c0, hBk_s0_0, hBk_s0_1, ↓hBk_c1, hBk_s1, ↓hBk_c2, hBk_s2, ↓hBk_c3, hBk_s3, ↓hBk_c4, hBk_s4, ↓hBk_c5, hBk_s5, ↓hBk_c6, hBk_s6, b1]
    refine ⟨fun _ => ?_, fun h => absurd (Int32.le_refl _) h⟩
    refine wpb_s rfl (by decide) (by decide) _ k0_lowestSupplying_76 ?_
    simp only [w_nil, w_iadd, w_isub, w_imul, w_iand, w_ior, w_ishl, w_ishr, w_idiv, w_irem, w_ladd, w_lsub, w_lmul, w_lcmp, w_fdiv, w_ddiv, w_ineg, w_i2l, w_l2i, w_i2b, w_i2c, w_i2f, w_i2d, w_l2d, w_f2d, w_dcmp, w_iconst, w_bipush, w_sipush, w_lconst, w_fconst, w_dconst, w_iload_n0, w_iload_n1, w_iload_n2, w_iload_n3, w_iload, w_lload_n0, w_lload_n1, w_lload_n2, w_lload_n3, w_lload, w_aload_n0, w_aload_n1, w_aload_n2, w_aload_n3, w_aload, w_dload, w_istore_n0, w_istore_n1, w_istore_n2, w_istore_n3, w_istore, w_lstore_n0, w_lstore_n1, w_lstore_n2, w_lstore_n3, w_lstore, w_astore_n0, w_astore_n1, w_astore_n2, w_astore_n3, w_astore, w_dstore, w_iinc, w_dup, w_pop, w_dup2, w_getfield, w_putfield0, w_putfield1, w_putfield2, w_iaload, w_baload, w_aaload0, w_aaload1, w_iastore, w_bastore, w_aastore, w_ldc0, w_ldc1, w_ldc_w, w_ldc2_w, w_ifCond_eq, w_ifCond_ne, w_ifCond_lt, w_ifCond_ge, w_ifCond_gt, w_ifCond_le, w_if_icmp_eq, w_if_icmp_ne, w_if_icmp_lt, w_if_icmp_ge, w_if_icmp_gt, w_if_icmp_le, w_goto, w_ireturn, w_areturn, w_return_, w_lreturn, w_freturn, w_dreturn, Int32.reduceOfInt, List.getElem?_cons_succ, List.getElem?_cons_zero, List.set_cons_succ, List.set_cons_zero, Nat.reduceAdd, Nat.reduceLT, Option.some.injEq, and_true, ↓cI_cq, ↓cL_cq, ↓cO_cq, ↓cQ_cq, false_implies, fin0_4, fin1_4, fin2_4, fin3_4, gSet1_0, gSet1_1, gSet1_2, gSet2_0, gSet2_1, gSet2_2, gUp_0, gUp_c, gW1_0, gW1_d, gW1_i, gW1_l, gW1_r, gW1_u, ↓lD_cq, ↓lI_cq, ↓lL_cq, ↓lR_cq, mR, not_false_eq_true, not_true_eq_false, ↓oV_cq, or_true, ↓p1_iq, ↓p1_nq, ↓p1_rq, ↓pD_cq, ↓pF_cq, ↓pI_cq, ↓pL_cq, ↓pN_nq, ↓pN_rq, ↓pR_cq, reduceCtorEq, true_and, true_implies, true_or, ↓lI_at0, ↓lI_at1, ↓lI_at2, ↓lI_at3, ↓lI_at4, ↓lI_at5, ↓lI_at6, ↓lI_at7, ↓lI_at8, ↓lI_at9, ↓lL_at0, ↓lL_at1, ↓lL_at2, ↓lL_at3, ↓lL_at4, ↓lL_at5, ↓lL_at6, ↓lL_at7, ↓lL_at8, ↓lL_at9, ↓lD_at0, ↓lD_at1, ↓lD_at2, ↓lD_at3, ↓lD_at4, ↓lD_at5, ↓lD_at6, ↓lD_at7, ↓lD_at8, ↓lD_at9, ↓lR_at0, ↓lR_at1, ↓lR_at2, ↓lR_at3, ↓lR_at4, ↓lR_at5, ↓lR_at6, ↓lR_at7, ↓lR_at8, ↓lR_at9, ↓oV_at0, ↓oV_at1, ↓oV_at2, ↓oV_at3, ↓oV_at4, ↓oV_at5, ↓oV_at6, ↓oV_at7, ↓oV_at8, ↓oV_at9, ↓oV_at10, ↓oV_at11, ↓oV_at12, ↓oV_at13, ↓oV_at14, ↓oV_at15, ↓oV_at16, ↓oV_at17, ↓oV_at18, ↓oV_at19, ↓oV_at20, ↓oV_at21, ↓oV_at22, ↓oV_at23, ↓oV_at24, ↓oV_at25, ↓oV_at26, ↓oV_at27, ↓oV_at28, ↓oV_at29, ↓oV_at30, ↓oV_at31, ↓oV_at32, ↓oV_at33, ↓oV_at34, ↓oV_at35, ↓oV_at36, ↓oV_at37, ↓oV_at38, ↓oV_at39, ↓gLt_0, ↓gLt_1, ↓gLt_2, ↓gLt_3, ↓gLt_4, ↓gLt_5, ↓gLt_6, ↓gLt_7, ↓gLt_8, ↓gLt_9, ↓gLt_10, ↓gLt_11, ↓gLt_12, ↓gLt_13, ↓gLt_14, ↓gLt_15, ↓gLt_16, ↓gLt_17, ↓gLt_18, ↓gLt_19, ↓gLt_20, ↓gLt_21, ↓gLt_22, ↓gLt_23, ↓gLt_24, ↓gLt_25, ↓gLt_26, ↓gLt_27, ↓gLt_28, ↓gLt_29, ↓gLt_30, ↓gLt_31, ↓gLt_32, ↓gLt_33, ↓gLt_34, ↓gLt_35, ↓gLt_36, ↓gLt_37, ↓gLt_38, ↓gLt_39, hBk_len, ↓hBk_c0, hBk_s0_0, hBk_s0_1, ↓hBk_c1, hBk_s1, ↓hBk_c2, hBk_s2, ↓hBk_c3, hBk_s3, ↓hBk_c4, hBk_s4, ↓hBk_c5, hBk_s5, ↓hBk_c6, hBk_s6]
    exact hQ r hr
  | succ j ih =>
    intro k r b hk hr
    obtain ⟨o, ho, ⟨r1, r2, r3, r4, r5, r6⟩, o1, o2, o3, o4, o5⟩ := bk_row hB (show k < os.length by omega)
    have h70 : ∀ r' b', LoI os q (k + 1) r' → G m0_lowestSupplying 2 0 0 (hBk B) Q QX 0 0 70 [some (.ref 0), some (.int (nI q)), some (.int r'), some (.int (nI k)), b'] [] (hBk B) := by
      intro r' b' h'
      refine wpb_s rfl (by decide) (by decide) _ k0_lowestSupplying_70 ?_
      simp only [w_nil, w_iadd, w_isub, w_imul, w_iand, w_ior, w_ishl, w_ishr, w_idiv, w_irem, w_ladd, w_lsub, w_lmul, w_lcmp, w_fdiv, w_ddiv, w_ineg, w_i2l, w_l2i, w_i2b, w_i2c, w_i2f, w_i2d, w_l2d, w_f2d, w_dcmp, w_iconst, w_bipush, w_sipush, w_lconst, w_fconst, w_dconst, w_iload_n0, w_iload_n1, w_iload_n2, w_iload_n3, w_iload, w_lload_n0, w_lload_n1, w_lload_n2, w_lload_n3, w_lload, w_aload_n0, w_aload_n1, w_aload_n2, w_aload_n3, w_aload, w_dload, w_istore_n0, w_istore_n1, w_istore_n2, w_istore_n3, w_istore, w_lstore_n0, w_lstore_n1, w_lstore_n2, w_lstore_n3, w_lstore, w_astore_n0, w_astore_n1, w_astore_n2, w_astore_n3, w_astore, w_dstore, w_iinc, w_dup, w_pop, w_dup2, w_getfield, w_putfield0, w_putfield1, w_putfield2, w_iaload, w_baload, w_aaload0, w_aaload1, w_iastore, w_bastore, w_aastore, w_ldc0, w_ldc1, w_ldc_w, w_ldc2_w, w_ifCond_eq, w_ifCond_ne, w_ifCond_lt, w_ifCond_ge, w_ifCond_gt, w_ifCond_le, w_if_icmp_eq, w_if_icmp_ne, w_if_icmp_lt, w_if_icmp_ge, w_if_icmp_gt, w_if_icmp_le, w_goto, w_ireturn, w_areturn, w_return_, w_lreturn, w_freturn, w_dreturn, Int32.reduceOfInt, List.getElem?_cons_succ, List.getElem?_cons_zero, List.set_cons_succ, List.set_cons_zero, Nat.reduceAdd, Nat.reduceLT, Option.some.injEq, and_true, ↓cI_cq, ↓cL_cq, ↓cO_cq, ↓cQ_cq, false_implies, fin0_4, fin1_4, fin2_4, fin3_4, gSet1_0, gSet1_1, gSet1_2, gSet2_0, gSet2_1, gSet2_2, gUp_0, gUp_c, gW1_0, gW1_d, gW1_i, gW1_l, gW1_r, gW1_u, ↓lD_cq, ↓lI_cq, ↓lL_cq, ↓lR_cq, mR, not_false_eq_true, not_true_eq_false, ↓oV_cq, or_true, ↓p1_iq, ↓p1_nq, ↓p1_rq, ↓pD_cq, ↓pF_cq, ↓pI_cq, ↓pL_cq, ↓pN_nq, ↓pN_rq, ↓pR_cq, reduceCtorEq, true_and, true_implies, true_or, ↓lI_at0, ↓lI_at1, ↓lI_at2, ↓lI_at3, ↓lI_at4, ↓lI_at5, ↓lI_at6, ↓lI_at7, ↓lI_at8, ↓lI_at9, ↓lL_at0, ↓lL_at1, ↓lL_at2, ↓lL_at3, ↓lL_at4, ↓lL_at5, ↓lL_at6, ↓lL_at7, ↓lL_at8, ↓lL_at9, ↓lD_at0, ↓lD_at1, ↓lD_at2, ↓lD_at3, ↓lD_at4, ↓lD_at5, ↓lD_at6, ↓lD_at7, ↓lD_at8, ↓lD_at9, ↓lR_at0, ↓lR_at1, ↓lR_at2, ↓lR_at3, ↓lR_at4, ↓lR_at5, ↓lR_at6, ↓lR_at7, ↓lR_at8, ↓lR_at9, ↓oV_at0, ↓oV_at1, ↓oV_at2, ↓oV_at3, ↓oV_at4, ↓oV_at5, ↓oV_at6, ↓oV_at7, ↓oV_at8, ↓oV_at9, ↓oV_at10, ↓oV_at11, ↓oV_at12, ↓oV_at13, ↓oV_at14, ↓oV_at15, ↓oV_at16, ↓oV_at17, ↓oV_at18, ↓oV_at19, ↓oV_at20, ↓oV_at21, ↓oV_at22, ↓oV_at23, ↓oV_at24, ↓oV_at25, ↓oV_at26, ↓oV_at27, ↓oV_at28, ↓oV_at29, ↓oV_at30, ↓oV_at31, ↓oV_at32, ↓oV_at33, ↓oV_at34, ↓oV_at35, ↓oV_at36, ↓oV_at37, ↓oV_at38, ↓oV_at39, ↓gLt_0, ↓gLt_1, ↓gLt_2, ↓gLt_3, ↓gLt_4, ↓gLt_5, ↓gLt_6, ↓gLt_7, ↓gLt_8, ↓gLt_9, ↓gLt_10, ↓gLt_11, ↓gLt_12, ↓gLt_13, ↓gLt_14, ↓gLt_15, ↓gLt_16, ↓gLt_17, ↓gLt_18, ↓gLt_19, ↓gLt_20, ↓gLt_21, ↓gLt_22, ↓gLt_23, ↓gLt_24, ↓gLt_25, ↓gLt_26, ↓gLt_27, ↓gLt_28, ↓gLt_29, ↓gLt_30, ↓gLt_31, ↓gLt_32, ↓gLt_33, ↓gLt_34, ↓gLt_35, ↓gLt_36, ↓gLt_37, ↓gLt_38, ↓gLt_39, hBk_len, ↓hBk_c0, hBk_s0_0, hBk_s0_1, ↓hBk_c1, hBk_s1, ↓hBk_c2, hBk_s2, ↓hBk_c3, hBk_s3, ↓hBk_c4, hBk_s4, ↓hBk_c5, hBk_s5, ↓hBk_c6, hBk_s6, nI_1]
      exact ih (k + 1) r' b' (by omega) h'
    have h32 : ∀ z : Nat, z ≤ 1 → (z = 1 ↔ (r = -1 ∨ nI (oL o) < r)) → G m0_lowestSupplying 2 0 0 (hBk B) Q QX 0 0 32 [some (.ref 0), some (.int (nI q)), some (.int r), some (.int (nI k)), b] [.int (nI z)] (hBk B) := by
      intro z hz hz1
      refine wpb_s rfl (by decide) (by decide) _ k0_lowestSupplying_32 ?_
      simp only [w_nil, w_iadd, w_isub, w_imul, w_iand, w_ior, w_ishl, w_ishr, w_idiv, w_irem, w_ladd, w_lsub, w_lmul, w_lcmp, w_fdiv, w_ddiv, w_ineg, w_i2l, w_l2i, w_i2b, w_i2c, w_i2f, w_i2d, w_l2d, w_f2d, w_dcmp, w_iconst, w_bipush, w_sipush, w_lconst, w_fconst, w_dconst, w_iload_n0, w_iload_n1, w_iload_n2, w_iload_n3, w_iload, w_lload_n0, w_lload_n1, w_lload_n2, w_lload_n3, w_lload, w_aload_n0, w_aload_n1, w_aload_n2, w_aload_n3, w_aload, w_dload, w_istore_n0, w_istore_n1, w_istore_n2, w_istore_n3, w_istore, w_lstore_n0, w_lstore_n1, w_lstore_n2, w_lstore_n3, w_lstore, w_astore_n0, w_astore_n1, w_astore_n2, w_astore_n3, w_astore, w_dstore, w_iinc, w_dup, w_pop, w_dup2, w_getfield, w_putfield0, w_putfield1, w_putfield2, w_iaload, w_baload, w_aaload0, w_aaload1, w_iastore, w_bastore, w_aastore, w_ldc0, w_ldc1, w_ldc_w, w_ldc2_w, w_ifCond_eq, w_ifCond_ne, w_ifCond_lt, w_ifCond_ge, w_ifCond_gt, w_ifCond_le, w_if_icmp_eq, w_if_icmp_ne, w_if_icmp_lt, w_if_icmp_ge, w_if_icmp_gt, w_if_icmp_le, w_goto, w_ireturn, w_areturn, w_return_, w_lreturn, w_freturn, w_dreturn, Int32.reduceOfInt, List.getElem?_cons_succ, List.getElem?_cons_zero, List.set_cons_succ, List.set_cons_zero, Nat.reduceAdd, Nat.reduceLT, Option.some.injEq, and_true, ↓cI_cq, ↓cL_cq, ↓cO_cq, ↓cQ_cq, false_implies, fin0_4, fin1_4, fin2_4, fin3_4, gSet1_0, gSet1_1, gSet1_2, gSet2_0, gSet2_1, gSet2_2, gUp_0, gUp_c, gW1_0, gW1_d, gW1_i, gW1_l, gW1_r, gW1_u, ↓lD_cq, ↓lI_cq, ↓lL_cq, ↓lR_cq, mR, not_false_eq_true, not_true_eq_false, ↓oV_cq, or_true, ↓p1_iq, ↓p1_nq, ↓p1_rq, ↓pD_cq, ↓pF_cq, ↓pI_cq, ↓pL_cq, ↓pN_nq, ↓pN_rq, ↓pR_cq, reduceCtorEq, true_and, true_implies, true_or, ↓lI_at0, ↓lI_at1, ↓lI_at2, ↓lI_at3, ↓lI_at4, ↓lI_at5, ↓lI_at6, ↓lI_at7, ↓lI_at8, ↓lI_at9, ↓lL_at0, ↓lL_at1, ↓lL_at2, ↓lL_at3, ↓lL_at4, ↓lL_at5, ↓lL_at6, ↓lL_at7, ↓lL_at8, ↓lL_at9, ↓lD_at0, ↓lD_at1, ↓lD_at2, ↓lD_at3, ↓lD_at4, ↓lD_at5, ↓lD_at6, ↓lD_at7, ↓lD_at8, ↓lD_at9, ↓lR_at0, ↓lR_at1, ↓lR_at2, ↓lR_at3, ↓lR_at4, ↓lR_at5, ↓lR_at6, ↓lR_at7, ↓lR_at8, ↓lR_at9, ↓oV_at0, ↓oV_at1, ↓oV_at2, ↓oV_at3, ↓oV_at4, ↓oV_at5, ↓oV_at6, ↓oV_at7, ↓oV_at8, ↓oV_at9, ↓oV_at10, ↓oV_at11, ↓oV_at12, ↓oV_at13, ↓oV_at14, ↓oV_at15, ↓oV_at16, ↓oV_at17, ↓oV_at18, ↓oV_at19, ↓oV_at20, ↓oV_at21, ↓oV_at22, ↓oV_at23, ↓oV_at24, ↓oV_at25, ↓oV_at26, ↓oV_at27, ↓oV_at28, ↓oV_at29, ↓oV_at30, ↓oV_at31, ↓oV_at32, ↓oV_at33, ↓oV_at34, ↓oV_at35, ↓oV_at36, ↓oV_at37, ↓oV_at38, ↓oV_at39, ↓gLt_0, ↓gLt_1, ↓gLt_2, ↓gLt_3, ↓gLt_4, ↓gLt_5, ↓gLt_6, ↓gLt_7, ↓gLt_8, ↓gLt_9, ↓gLt_10, ↓gLt_11, ↓gLt_12, ↓gLt_13, ↓gLt_14, ↓gLt_15, ↓gLt_16, ↓gLt_17, ↓gLt_18, ↓gLt_19, ↓gLt_20, ↓gLt_21, ↓gLt_22, ↓gLt_23, ↓gLt_24, ↓gLt_25, ↓gLt_26, ↓gLt_27, ↓gLt_28, ↓gLt_29, ↓gLt_30, ↓gLt_31, ↓gLt_32, ↓gLt_33, ↓gLt_34, ↓gLt_35, ↓gLt_36, ↓gLt_37, ↓gLt_38, ↓gLt_39, hBk_len, ↓hBk_c0, hBk_s0_0, hBk_s0_1, ↓hBk_c1, hBk_s1, ↓hBk_c2, hBk_s2, ↓hBk_c3, hBk_s3, ↓hBk_c4, hBk_s4, ↓hBk_c5, hBk_s5, ↓hBk_c6, hBk_s6, nIc (show k < 1000000 by omega), r3, r4, c3, c4]
      simp (disch := omega) only [nIc, nI_ltI, nI_leI, nI_eq, nI_z, nI_o, ge_iff_le, gt_iff_lt, nI_1, nI_add, pk_mul, vp_in_nI, true_and, and_true, true_implies]
      refine ⟨fun h => h70 _ _ (LoI_n hr ho (fun hs => absurd hs h) b3), fun hs => ⟨fun h => h70 _ _ (LoI_n hr ho (fun _ hq' => ?_) b3), fun h => ?_⟩⟩
      · rcases hr with ⟨e1, e2⟩ | ⟨oo, e1, e2, e3, e4, e5⟩
        · have := hz1.mpr (Or.inl e1)
          omega
        · have hl := (b3 oo e1).2.2.2.1
          refine ⟨oL oo, e2, ?_, by omega⟩
          by_cases hlt : oL o < oL oo
          · have := hz1.mpr (Or.inr (by rw [e2]; exact (nI_ltI (by omega) (by omega)).mpr hlt))
            omega
          · omega
      · refine g_callV [0, 1, 2, 3, 4, 5, 6] (c0_offeredAt hB (p := oL o) (by omega)) (by decide +kernel) lk0_45 rfl rfl rfl rfl ⟨rfl, by decide, by decide⟩ (Or.inl (gAllS rfl)) rfl (by decide) (Nat.le_of_ble_eq_true rfl) (by decide) (by decide) (fun _ _ z => z.elim) ?_
        rintro v h1 ⟨rfl, rfl⟩
        show G _ _ _ _ _ _ _ 0 0 59 _ [.int (nI (sup os (oL o)))] (hBk B)
        have hsb : sup os (oL o) < 1000000 := sup_lt hB _
        refine wpb_s rfl (by decide) (by decide) _ k0_lowestSupplying_59 ?_
        simp only [w_nil, w_iadd, w_isub, w_imul, w_iand, w_ior, w_ishl, w_ishr, w_idiv, w_irem, w_ladd, w_lsub, w_lmul, w_lcmp, w_fdiv, w_ddiv, w_ineg, w_i2l, w_l2i, w_i2b, w_i2c, w_i2f, w_i2d, w_l2d, w_f2d, w_dcmp, w_iconst, w_bipush, w_sipush, w_lconst, w_fconst, w_dconst, w_iload_n0, w_iload_n1, w_iload_n2, w_iload_n3, w_iload, w_lload_n0, w_lload_n1, w_lload_n2, w_lload_n3, w_lload, w_aload_n0, w_aload_n1, w_aload_n2, w_aload_n3, w_aload, w_dload, w_istore_n0, w_istore_n1, w_istore_n2, w_istore_n3, w_istore, w_lstore_n0, w_lstore_n1, w_lstore_n2, w_lstore_n3, w_lstore, w_astore_n0, w_astore_n1, w_astore_n2, w_astore_n3, w_astore, w_dstore, w_iinc, w_dup, w_pop, w_dup2, w_getfield, w_putfield0, w_putfield1, w_putfield2, w_iaload, w_baload, w_aaload0, w_aaload1, w_iastore, w_bastore, w_aastore, w_ldc0, w_ldc1, w_ldc_w, w_ldc2_w, w_ifCond_eq, w_ifCond_ne, w_ifCond_lt, w_ifCond_ge, w_ifCond_gt, w_ifCond_le, w_if_icmp_eq, w_if_icmp_ne, w_if_icmp_lt, w_if_icmp_ge, w_if_icmp_gt, w_if_icmp_le, w_goto, w_ireturn, w_areturn, w_return_, w_lreturn, w_freturn, w_dreturn, Int32.reduceOfInt, List.getElem?_cons_succ, List.getElem?_cons_zero, List.set_cons_succ, List.set_cons_zero, Nat.reduceAdd, Nat.reduceLT, Option.some.injEq, and_true, ↓cI_cq, ↓cL_cq, ↓cO_cq, ↓cQ_cq, false_implies, fin0_4, fin1_4, fin2_4, fin3_4, gSet1_0, gSet1_1, gSet1_2, gSet2_0, gSet2_1, gSet2_2, gUp_0, gUp_c, gW1_0, gW1_d, gW1_i, gW1_l, gW1_r, gW1_u, ↓lD_cq, ↓lI_cq, ↓lL_cq, ↓lR_cq, mR, not_false_eq_true, not_true_eq_false, ↓oV_cq, or_true, ↓p1_iq, ↓p1_nq, ↓p1_rq, ↓pD_cq, ↓pF_cq, ↓pI_cq, ↓pL_cq, ↓pN_nq, ↓pN_rq, ↓pR_cq, reduceCtorEq, true_and, true_implies, true_or, ↓lI_at0, ↓lI_at1, ↓lI_at2, ↓lI_at3, ↓lI_at4, ↓lI_at5, ↓lI_at6, ↓lI_at7, ↓lI_at8, ↓lI_at9, ↓lL_at0, ↓lL_at1, ↓lL_at2, ↓lL_at3, ↓lL_at4, ↓lL_at5, ↓lL_at6, ↓lL_at7, ↓lL_at8, ↓lL_at9, ↓lD_at0, ↓lD_at1, ↓lD_at2, ↓lD_at3, ↓lD_at4, ↓lD_at5, ↓lD_at6, ↓lD_at7, ↓lD_at8, ↓lD_at9, ↓lR_at0, ↓lR_at1, ↓lR_at2, ↓lR_at3, ↓lR_at4, ↓lR_at5, ↓lR_at6, ↓lR_at7, ↓lR_at8, ↓lR_at9, ↓oV_at0, ↓oV_at1, ↓oV_at2, ↓oV_at3, ↓oV_at4, ↓oV_at5, ↓oV_at6, ↓oV_at7, ↓oV_at8, ↓oV_at9, ↓oV_at10, ↓oV_at11, ↓oV_at12, ↓oV_at13, ↓oV_at14, ↓oV_at15, ↓oV_at16, ↓oV_at17, ↓oV_at18, ↓oV_at19, ↓oV_at20, ↓oV_at21, ↓oV_at22, ↓oV_at23, ↓oV_at24, ↓oV_at25, ↓oV_at26, ↓oV_at27, ↓oV_at28, ↓oV_at29, ↓oV_at30, ↓oV_at31, ↓oV_at32, ↓oV_at33, ↓oV_at34, ↓oV_at35, ↓oV_at36, ↓oV_at37, ↓oV_at38, ↓oV_at39, ↓gLt_0, ↓gLt_1, ↓gLt_2, ↓gLt_3, ↓gLt_4, ↓gLt_5, ↓gLt_6, ↓gLt_7, ↓gLt_8, ↓gLt_9, ↓gLt_10, ↓gLt_11, ↓gLt_12, ↓gLt_13, ↓gLt_14, ↓gLt_15, ↓gLt_16, ↓gLt_17, ↓gLt_18, ↓gLt_19, ↓gLt_20, ↓gLt_21, ↓gLt_22, ↓gLt_23, ↓gLt_24, ↓gLt_25, ↓gLt_26, ↓gLt_27, ↓gLt_28, ↓gLt_29, ↓gLt_30, ↓gLt_31, ↓gLt_32, ↓gLt_33, ↓gLt_34, ↓gLt_35, ↓gLt_36, ↓gLt_37, ↓gLt_38, ↓gLt_39, hBk_len, ↓hBk_c0, hBk_s0_0, hBk_s0_1, ↓hBk_c1, hBk_s1, ↓hBk_c2, hBk_s2, ↓hBk_c3, hBk_s3, ↓hBk_c4, hBk_s4, ↓hBk_c5, hBk_s5, ↓hBk_c6, hBk_s6, nIc (show k < 1000000 by omega), r4, c4]
        simp (disch := omega) only [nIc, nI_ltI, nI_leI, nI_eq, nI_z, nI_o, ge_iff_le, gt_iff_lt, nI_1, nI_add, pk_mul, vp_in_nI, true_and, and_true, true_implies]
        refine ⟨fun h' => h70 _ _ (LoI_n hr ho (fun _ hq' => absurd h' (by omega)) b3), fun h' => h70 _ _ (LoI_y hr ho hs (by omega) ?_ b3)⟩
        rcases hz1.mp (by omega) with e | e
        · exact Or.inl e
        · refine Or.inr fun L hL hrL => ?_
          rw [hrL] at e
          exact (nI_ltI (by omega) (by omega)).mp e
    refine wpb_s rfl (by decide) (by decide) _ k0_lowestSupplying_4 ?_
    simp only [w_nil, w_iadd, w_isub, w_imul, w_iand, w_ior, w_ishl, w_ishr, w_idiv, w_irem, w_ladd, w_lsub, w_lmul, w_lcmp, w_fdiv, w_ddiv, w_ineg, w_i2l, w_l2i, w_i2b, w_i2c, w_i2f, w_i2d, w_l2d, w_f2d, w_dcmp, w_iconst, w_bipush, w_sipush, w_lconst, w_fconst, w_dconst, w_iload_n0, w_iload_n1, w_iload_n2, w_iload_n3, w_iload, w_lload_n0, w_lload_n1, w_lload_n2, w_lload_n3, w_lload, w_aload_n0, w_aload_n1, w_aload_n2, w_aload_n3, w_aload, w_dload, w_istore_n0, w_istore_n1, w_istore_n2, w_istore_n3, w_istore, w_lstore_n0, w_lstore_n1, w_lstore_n2, w_lstore_n3, w_lstore, w_astore_n0, w_astore_n1, w_astore_n2, w_astore_n3, w_astore, w_dstore, w_iinc, w_dup, w_pop, w_dup2, w_getfield, w_putfield0, w_putfield1, w_putfield2, w_iaload, w_baload, w_aaload0, w_aaload1, w_iastore, w_bastore, w_aastore, w_ldc0, w_ldc1, w_ldc_w, w_ldc2_w, w_ifCond_eq, w_ifCond_ne, w_ifCond_lt, w_ifCond_ge, w_ifCond_gt, w_ifCond_le, w_if_icmp_eq, w_if_icmp_ne, w_if_icmp_lt, w_if_icmp_ge, w_if_icmp_gt, w_if_icmp_le, w_goto, w_ireturn, w_areturn, w_return_, w_lreturn, w_freturn, w_dreturn, Int32.reduceOfInt, List.getElem?_cons_succ, List.getElem?_cons_zero, List.set_cons_succ, List.set_cons_zero, Nat.reduceAdd, Nat.reduceLT, Option.some.injEq, and_true, ↓cI_cq, ↓cL_cq, ↓cO_cq, ↓cQ_cq, false_implies, fin0_4, fin1_4, fin2_4, fin3_4, gSet1_0, gSet1_1, gSet1_2, gSet2_0, gSet2_1, gSet2_2, gUp_0, gUp_c, gW1_0, gW1_d, gW1_i, gW1_l, gW1_r, gW1_u, ↓lD_cq, ↓lI_cq, ↓lL_cq, ↓lR_cq, mR, not_false_eq_true, not_true_eq_false, ↓oV_cq, or_true, ↓p1_iq, ↓p1_nq, ↓p1_rq, ↓pD_cq, ↓pF_cq, ↓pI_cq, ↓pL_cq, ↓pN_nq, ↓pN_rq, ↓pR_cq, reduceCtorEq, true_and, true_implies, true_or, ↓lI_at0, ↓lI_at1, ↓lI_at2, ↓lI_at3, ↓lI_at4, ↓lI_at5, ↓lI_at6, ↓lI_at7, ↓lI_at8, ↓lI_at9, ↓lL_at0, ↓lL_at1, ↓lL_at2, ↓lL_at3, ↓lL_at4, ↓lL_at5, ↓lL_at6, ↓lL_at7, ↓lL_at8, ↓lL_at9, ↓lD_at0, ↓lD_at1, ↓lD_at2, ↓lD_at3, ↓lD_at4, ↓lD_at5, ↓lD_at6, ↓lD_at7, ↓lD_at8, ↓lD_at9, ↓lR_at0, ↓lR_at1, ↓lR_at2, ↓lR_at3, ↓lR_at4, ↓lR_at5, ↓lR_at6, ↓lR_at7, ↓lR_at8, ↓lR_at9, ↓oV_at0, ↓oV_at1, ↓oV_at2, ↓oV_at3, ↓oV_at4, ↓oV_at5, ↓oV_at6, ↓oV_at7, ↓oV_at8, ↓oV_at9, ↓oV_at10, ↓oV_at11, ↓oV_at12, ↓oV_at13, ↓oV_at14, ↓oV_at15, ↓oV_at16, ↓oV_at17, ↓oV_at18, ↓oV_at19, ↓oV_at20, ↓oV_at21, ↓oV_at22, ↓oV_at23, ↓oV_at24, ↓oV_at25, ↓oV_at26, ↓oV_at27, ↓oV_at28, ↓oV_at29, ↓oV_at30, ↓oV_at31, ↓oV_at32, ↓oV_at33, ↓oV_at34, ↓oV_at35, ↓oV_at36, ↓oV_at37, ↓oV_at38, ↓oV_at39, ↓gLt_0, ↓gLt_1, ↓gLt_2, ↓gLt_3, ↓gLt_4, ↓gLt_5, ↓gLt_6, ↓gLt_7, ↓gLt_8, ↓gLt_9, ↓gLt_10, ↓gLt_11, ↓gLt_12, ↓gLt_13, ↓gLt_14, ↓gLt_15, ↓gLt_16, ↓gLt_17, ↓gLt_18, ↓gLt_19, ↓gLt_20, ↓gLt_21, ↓gLt_22, ↓gLt_23, ↓gLt_24, ↓gLt_25, ↓gLt_26, ↓gLt_27, ↓gLt_28, ↓gLt_29, ↓gLt_30, ↓gLt_31, ↓gLt_32, ↓gLt_33, ↓gLt_34, ↓gLt_35, ↓gLt_36, ↓gLt_37, ↓gLt_38, ↓gLt_39, hBk_len, ↓hBk_c0, hBk_s0_0, hBk_s0_1, ↓hBk_c1, hBk_s1, ↓hBk_c2, hBk_s2, ↓hBk_c3, hBk_s3, ↓hBk_c4, hBk_s4, ↓hBk_c5, hBk_s5, ↓hBk_c6, hBk_s6, b1, nIc (show k < 1000000 by omega), r4, c4]
    simp (disch := omega) only [nIc, nI_ltI, nI_leI, nI_eq, nI_z, nI_o, ge_iff_le, gt_iff_lt, nI_1, nI_add, pk_mul, vp_in_nI, true_and, and_true, true_implies]
    refine ⟨fun h => absurd h (by omega), fun _ => ⟨fun h => ?_, fun h => ⟨fun h' => ?_, fun h' => ?_⟩⟩⟩
    · refine wpb_s rfl (by decide) (by decide) _ k0_lowestSupplying_27 ?_
      simp only [w_nil, w_iadd, w_isub, w_imul, w_iand, w_ior, w_ishl, w_ishr, w_idiv, w_irem, w_ladd, w_lsub, w_lmul, w_lcmp, w_fdiv, w_ddiv, w_ineg, w_i2l, w_l2i, w_i2b, w_i2c, w_i2f, w_i2d, w_l2d, w_f2d, w_dcmp, w_iconst, w_bipush, w_sipush, w_lconst, w_fconst, w_dconst, w_iload_n0, w_iload_n1, w_iload_n2, w_iload_n3, w_iload, w_lload_n0, w_lload_n1, w_lload_n2, w_lload_n3, w_lload, w_aload_n0, w_aload_n1, w_aload_n2, w_aload_n3, w_aload, w_dload, w_istore_n0, w_istore_n1, w_istore_n2, w_istore_n3, w_istore, w_lstore_n0, w_lstore_n1, w_lstore_n2, w_lstore_n3, w_lstore, w_astore_n0, w_astore_n1, w_astore_n2, w_astore_n3, w_astore, w_dstore, w_iinc, w_dup, w_pop, w_dup2, w_getfield, w_putfield0, w_putfield1, w_putfield2, w_iaload, w_baload, w_aaload0, w_aaload1, w_iastore, w_bastore, w_aastore, w_ldc0, w_ldc1, w_ldc_w, w_ldc2_w, w_ifCond_eq, w_ifCond_ne, w_ifCond_lt, w_ifCond_ge, w_ifCond_gt, w_ifCond_le, w_if_icmp_eq, w_if_icmp_ne, w_if_icmp_lt, w_if_icmp_ge, w_if_icmp_gt, w_if_icmp_le, w_goto, w_ireturn, w_areturn, w_return_, w_lreturn, w_freturn, w_dreturn, Int32.reduceOfInt, List.getElem?_cons_succ, List.getElem?_cons_zero, List.set_cons_succ, List.set_cons_zero, Nat.reduceAdd, Nat.reduceLT, Option.some.injEq, and_true, ↓cI_cq, ↓cL_cq, ↓cO_cq, ↓cQ_cq, false_implies, fin0_4, fin1_4, fin2_4, fin3_4, gSet1_0, gSet1_1, gSet1_2, gSet2_0, gSet2_1, gSet2_2, gUp_0, gUp_c, gW1_0, gW1_d, gW1_i, gW1_l, gW1_r, gW1_u, ↓lD_cq, ↓lI_cq, ↓lL_cq, ↓lR_cq, mR, not_false_eq_true, not_true_eq_false, ↓oV_cq, or_true, ↓p1_iq, ↓p1_nq, ↓p1_rq, ↓pD_cq, ↓pF_cq, ↓pI_cq, ↓pL_cq, ↓pN_nq, ↓pN_rq, ↓pR_cq, reduceCtorEq, true_and, true_implies, true_or, ↓lI_at0, ↓lI_at1, ↓lI_at2, ↓lI_at3, ↓lI_at4, ↓lI_at5, ↓lI_at6, ↓lI_at7, ↓lI_at8, ↓lI_at9, ↓lL_at0, ↓lL_at1, ↓lL_at2, ↓lL_at3, ↓lL_at4, ↓lL_at5, ↓lL_at6, ↓lL_at7, ↓lL_at8, ↓lL_at9, ↓lD_at0, ↓lD_at1, ↓lD_at2, ↓lD_at3, ↓lD_at4, ↓lD_at5, ↓lD_at6, ↓lD_at7, ↓lD_at8, ↓lD_at9, ↓lR_at0, ↓lR_at1, ↓lR_at2, ↓lR_at3, ↓lR_at4, ↓lR_at5, ↓lR_at6, ↓lR_at7, ↓lR_at8, ↓lR_at9, ↓oV_at0, ↓oV_at1, ↓oV_at2, ↓oV_at3, ↓oV_at4, ↓oV_at5, ↓oV_at6, ↓oV_at7, ↓oV_at8, ↓oV_at9, ↓oV_at10, ↓oV_at11, ↓oV_at12, ↓oV_at13, ↓oV_at14, ↓oV_at15, ↓oV_at16, ↓oV_at17, ↓oV_at18, ↓oV_at19, ↓oV_at20, ↓oV_at21, ↓oV_at22, ↓oV_at23, ↓oV_at24, ↓oV_at25, ↓oV_at26, ↓oV_at27, ↓oV_at28, ↓oV_at29, ↓oV_at30, ↓oV_at31, ↓oV_at32, ↓oV_at33, ↓oV_at34, ↓oV_at35, ↓oV_at36, ↓oV_at37, ↓oV_at38, ↓oV_at39, ↓gLt_0, ↓gLt_1, ↓gLt_2, ↓gLt_3, ↓gLt_4, ↓gLt_5, ↓gLt_6, ↓gLt_7, ↓gLt_8, ↓gLt_9, ↓gLt_10, ↓gLt_11, ↓gLt_12, ↓gLt_13, ↓gLt_14, ↓gLt_15, ↓gLt_16, ↓gLt_17, ↓gLt_18, ↓gLt_19, ↓gLt_20, ↓gLt_21, ↓gLt_22, ↓gLt_23, ↓gLt_24, ↓gLt_25, ↓gLt_26, ↓gLt_27, ↓gLt_28, ↓gLt_29, ↓gLt_30, ↓gLt_31, ↓gLt_32, ↓gLt_33, ↓gLt_34, ↓gLt_35, ↓gLt_36, ↓gLt_37, ↓gLt_38, ↓gLt_39, hBk_len, ↓hBk_c0, hBk_s0_0, hBk_s0_1, ↓hBk_c1, hBk_s1, ↓hBk_c2, hBk_s2, ↓hBk_c3, hBk_s3, ↓hBk_c4, hBk_s4, ↓hBk_c5, hBk_s5, ↓hBk_c6, hBk_s6]
      exact h32 1 (by omega) ⟨fun _ => Or.inl h, fun _ => rfl⟩
    · refine wpb_s rfl (by decide) (by decide) _ k0_lowestSupplying_31 ?_
      simp only [w_nil, w_iadd, w_isub, w_imul, w_iand, w_ior, w_ishl, w_ishr, w_idiv, w_irem, w_ladd, w_lsub, w_lmul, w_lcmp, w_fdiv, w_ddiv, w_ineg, w_i2l, w_l2i, w_i2b, w_i2c, w_i2f, w_i2d, w_l2d, w_f2d, w_dcmp, w_iconst, w_bipush, w_sipush, w_lconst, w_fconst, w_dconst, w_iload_n0, w_iload_n1, w_iload_n2, w_iload_n3, w_iload, w_lload_n0, w_lload_n1, w_lload_n2, w_lload_n3, w_lload, w_aload_n0, w_aload_n1, w_aload_n2, w_aload_n3, w_aload, w_dload, w_istore_n0, w_istore_n1, w_istore_n2, w_istore_n3, w_istore, w_lstore_n0, w_lstore_n1, w_lstore_n2, w_lstore_n3, w_lstore, w_astore_n0, w_astore_n1, w_astore_n2, w_astore_n3, w_astore, w_dstore, w_iinc, w_dup, w_pop, w_dup2, w_getfield, w_putfield0, w_putfield1, w_putfield2, w_iaload, w_baload, w_aaload0, w_aaload1, w_iastore, w_bastore, w_aastore, w_ldc0, w_ldc1, w_ldc_w, w_ldc2_w, w_ifCond_eq, w_ifCond_ne, w_ifCond_lt, w_ifCond_ge, w_ifCond_gt, w_ifCond_le, w_if_icmp_eq, w_if_icmp_ne, w_if_icmp_lt, w_if_icmp_ge, w_if_icmp_gt, w_if_icmp_le, w_goto, w_ireturn, w_areturn, w_return_, w_lreturn, w_freturn, w_dreturn, Int32.reduceOfInt, List.getElem?_cons_succ, List.getElem?_cons_zero, List.set_cons_succ, List.set_cons_zero, Nat.reduceAdd, Nat.reduceLT, Option.some.injEq, and_true, ↓cI_cq, ↓cL_cq, ↓cO_cq, ↓cQ_cq, false_implies, fin0_4, fin1_4, fin2_4, fin3_4, gSet1_0, gSet1_1, gSet1_2, gSet2_0, gSet2_1, gSet2_2, gUp_0, gUp_c, gW1_0, gW1_d, gW1_i, gW1_l, gW1_r, gW1_u, ↓lD_cq, ↓lI_cq, ↓lL_cq, ↓lR_cq, mR, not_false_eq_true, not_true_eq_false, ↓oV_cq, or_true, ↓p1_iq, ↓p1_nq, ↓p1_rq, ↓pD_cq, ↓pF_cq, ↓pI_cq, ↓pL_cq, ↓pN_nq, ↓pN_rq, ↓pR_cq, reduceCtorEq, true_and, true_implies, true_or, ↓lI_at0, ↓lI_at1, ↓lI_at2, ↓lI_at3, ↓lI_at4, ↓lI_at5, ↓lI_at6, ↓lI_at7, ↓lI_at8, ↓lI_at9, ↓lL_at0, ↓lL_at1, ↓lL_at2, ↓lL_at3, ↓lL_at4, ↓lL_at5, ↓lL_at6, ↓lL_at7, ↓lL_at8, ↓lL_at9, ↓lD_at0, ↓lD_at1, ↓lD_at2, ↓lD_at3, ↓lD_at4, ↓lD_at5, ↓lD_at6, ↓lD_at7, ↓lD_at8, ↓lD_at9, ↓lR_at0, ↓lR_at1, ↓lR_at2, ↓lR_at3, ↓lR_at4, ↓lR_at5, ↓lR_at6, ↓lR_at7, ↓lR_at8, ↓lR_at9, ↓oV_at0, ↓oV_at1, ↓oV_at2, ↓oV_at3, ↓oV_at4, ↓oV_at5, ↓oV_at6, ↓oV_at7, ↓oV_at8, ↓oV_at9, ↓oV_at10, ↓oV_at11, ↓oV_at12, ↓oV_at13, ↓oV_at14, ↓oV_at15, ↓oV_at16, ↓oV_at17, ↓oV_at18, ↓oV_at19, ↓oV_at20, ↓oV_at21, ↓oV_at22, ↓oV_at23, ↓oV_at24, ↓oV_at25, ↓oV_at26, ↓oV_at27, ↓oV_at28, ↓oV_at29, ↓oV_at30, ↓oV_at31, ↓oV_at32, ↓oV_at33, ↓oV_at34, ↓oV_at35, ↓oV_at36, ↓oV_at37, ↓oV_at38, ↓oV_at39, ↓gLt_0, ↓gLt_1, ↓gLt_2, ↓gLt_3, ↓gLt_4, ↓gLt_5, ↓gLt_6, ↓gLt_7, ↓gLt_8, ↓gLt_9, ↓gLt_10, ↓gLt_11, ↓gLt_12, ↓gLt_13, ↓gLt_14, ↓gLt_15, ↓gLt_16, ↓gLt_17, ↓gLt_18, ↓gLt_19, ↓gLt_20, ↓gLt_21, ↓gLt_22, ↓gLt_23, ↓gLt_24, ↓gLt_25, ↓gLt_26, ↓gLt_27, ↓gLt_28, ↓gLt_29, ↓gLt_30, ↓gLt_31, ↓gLt_32, ↓gLt_33, ↓gLt_34, ↓gLt_35, ↓gLt_36, ↓gLt_37, ↓gLt_38, ↓gLt_39, hBk_len, ↓hBk_c0, hBk_s0_0, hBk_s0_1, ↓hBk_c1, hBk_s1, ↓hBk_c2, hBk_s2, ↓hBk_c3, hBk_s3, ↓hBk_c4, hBk_s4, ↓hBk_c5, hBk_s5, ↓hBk_c6, hBk_s6]
      exact h32 0 (by omega) ⟨fun z => absurd z (by omega), fun z => z.elim (fun z => absurd z h) (fun z => absurd z (Int32.not_lt.mpr h'))⟩
    · refine wpb_s rfl (by decide) (by decide) _ k0_lowestSupplying_27 ?_
      simp only [w_nil, w_iadd, w_isub, w_imul, w_iand, w_ior, w_ishl, w_ishr, w_idiv, w_irem, w_ladd, w_lsub, w_lmul, w_lcmp, w_fdiv, w_ddiv, w_ineg, w_i2l, w_l2i, w_i2b, w_i2c, w_i2f, w_i2d, w_l2d, w_f2d, w_dcmp, w_iconst, w_bipush, w_sipush, w_lconst, w_fconst, w_dconst, w_iload_n0, w_iload_n1, w_iload_n2, w_iload_n3, w_iload, w_lload_n0, w_lload_n1, w_lload_n2, w_lload_n3, w_lload, w_aload_n0, w_aload_n1, w_aload_n2, w_aload_n3, w_aload, w_dload, w_istore_n0, w_istore_n1, w_istore_n2, w_istore_n3, w_istore, w_lstore_n0, w_lstore_n1, w_lstore_n2, w_lstore_n3, w_lstore, w_astore_n0, w_astore_n1, w_astore_n2, w_astore_n3, w_astore, w_dstore, w_iinc, w_dup, w_pop, w_dup2, w_getfield, w_putfield0, w_putfield1, w_putfield2, w_iaload, w_baload, w_aaload0, w_aaload1, w_iastore, w_bastore, w_aastore, w_ldc0, w_ldc1, w_ldc_w, w_ldc2_w, w_ifCond_eq, w_ifCond_ne, w_ifCond_lt, w_ifCond_ge, w_ifCond_gt, w_ifCond_le, w_if_icmp_eq, w_if_icmp_ne, w_if_icmp_lt, w_if_icmp_ge, w_if_icmp_gt, w_if_icmp_le, w_goto, w_ireturn, w_areturn, w_return_, w_lreturn, w_freturn, w_dreturn, Int32.reduceOfInt, List.getElem?_cons_succ, List.getElem?_cons_zero, List.set_cons_succ, List.set_cons_zero, Nat.reduceAdd, Nat.reduceLT, Option.some.injEq, and_true, ↓cI_cq, ↓cL_cq, ↓cO_cq, ↓cQ_cq, false_implies, fin0_4, fin1_4, fin2_4, fin3_4, gSet1_0, gSet1_1, gSet1_2, gSet2_0, gSet2_1, gSet2_2, gUp_0, gUp_c, gW1_0, gW1_d, gW1_i, gW1_l, gW1_r, gW1_u, ↓lD_cq, ↓lI_cq, ↓lL_cq, ↓lR_cq, mR, not_false_eq_true, not_true_eq_false, ↓oV_cq, or_true, ↓p1_iq, ↓p1_nq, ↓p1_rq, ↓pD_cq, ↓pF_cq, ↓pI_cq, ↓pL_cq, ↓pN_nq, ↓pN_rq, ↓pR_cq, reduceCtorEq, true_and, true_implies, true_or, ↓lI_at0, ↓lI_at1, ↓lI_at2, ↓lI_at3, ↓lI_at4, ↓lI_at5, ↓lI_at6, ↓lI_at7, ↓lI_at8, ↓lI_at9, ↓lL_at0, ↓lL_at1, ↓lL_at2, ↓lL_at3, ↓lL_at4, ↓lL_at5, ↓lL_at6, ↓lL_at7, ↓lL_at8, ↓lL_at9, ↓lD_at0, ↓lD_at1, ↓lD_at2, ↓lD_at3, ↓lD_at4, ↓lD_at5, ↓lD_at6, ↓lD_at7, ↓lD_at8, ↓lD_at9, ↓lR_at0, ↓lR_at1, ↓lR_at2, ↓lR_at3, ↓lR_at4, ↓lR_at5, ↓lR_at6, ↓lR_at7, ↓lR_at8, ↓lR_at9, ↓oV_at0, ↓oV_at1, ↓oV_at2, ↓oV_at3, ↓oV_at4, ↓oV_at5, ↓oV_at6, ↓oV_at7, ↓oV_at8, ↓oV_at9, ↓oV_at10, ↓oV_at11, ↓oV_at12, ↓oV_at13, ↓oV_at14, ↓oV_at15, ↓oV_at16, ↓oV_at17, ↓oV_at18, ↓oV_at19, ↓oV_at20, ↓oV_at21, ↓oV_at22, ↓oV_at23, ↓oV_at24, ↓oV_at25, ↓oV_at26, ↓oV_at27, ↓oV_at28, ↓oV_at29, ↓oV_at30, ↓oV_at31, ↓oV_at32, ↓oV_at33, ↓oV_at34, ↓oV_at35, ↓oV_at36, ↓oV_at37, ↓oV_at38, ↓oV_at39, ↓gLt_0, ↓gLt_1, ↓gLt_2, ↓gLt_3, ↓gLt_4, ↓gLt_5, ↓gLt_6, ↓gLt_7, ↓gLt_8, ↓gLt_9, ↓gLt_10, ↓gLt_11, ↓gLt_12, ↓gLt_13, ↓gLt_14, ↓gLt_15, ↓gLt_16, ↓gLt_17, ↓gLt_18, ↓gLt_19, ↓gLt_20, ↓gLt_21, ↓gLt_22, ↓gLt_23, ↓gLt_24, ↓gLt_25, ↓gLt_26, ↓gLt_27, ↓gLt_28, ↓gLt_29, ↓gLt_30, ↓gLt_31, ↓gLt_32, ↓gLt_33, ↓gLt_34, ↓gLt_35, ↓gLt_36, ↓gLt_37, ↓gLt_38, ↓gLt_39, hBk_len, ↓hBk_c0, hBk_s0_0, hBk_s0_1, ↓hBk_c1, hBk_s1, ↓hBk_c2, hBk_s2, ↓hBk_c3, hBk_s3, ↓hBk_c4, hBk_s4, ↓hBk_c5, hBk_s5, ↓hBk_c6, hBk_s6]
      exact h32 1 (by omega) ⟨fun _ => Or.inr (Int32.not_le.mp h'), fun _ => rfl⟩
/-- the supply is least at p that reaches q -/
def ReS (os : List Od) (q : Nat) (r : Int32) : Prop := (r = -1 ∧ ∀ p, p ≤ 999 → sup os p < q) ∨ ∃ p, r = nI p ∧ 1 ≤ p ∧ p ≤ 999 ∧ q ≤ sup os p ∧ ∀ p', p' < p → sup os p' < q
def ReD (os : List Od) (q : Nat) (r : Int32) : Prop := (r = -1 ∧ ∀ p, 1 ≤ p → dem os p < q) ∨ ∃ p, r = nI p ∧ 1 ≤ p ∧ p ≤ 999 ∧ q ≤ dem os p ∧ ∀ p', p < p' → dem os p' < q
theorem sup_at {os : List Od} (h : ∀ o ∈ os, OdOk o) : ∀ p, sup os p = 0 ∨ ∃ o ∈ os, oS o = 1 ∧ oL o ≤ p ∧ sup os (oL o) = sup os p := by
  intro p
  induction p with
  | zero =>
    left
    induction os with
    | nil => rfl
    | cons o r ih =>
      have h1 := ih (fun x hx => h x (List.mem_cons_of_mem _ hx))
      have h2 := (h o List.mem_cons_self).2.2.1
      rw [sup, h1, if_neg (by omega)]
  | succ p ih =>
    by_cases he : ∃ o ∈ os, oS o = 1 ∧ oL o = p + 1
    · obtain ⟨o, h1, h2, h3⟩ := he
      exact Or.inr ⟨o, h1, h2, by omega, by rw [h3]⟩
    · have e : ∀ l : List Od, (∀ o ∈ l, ¬ (oS o = 1 ∧ oL o = p + 1)) → sup l (p + 1) = sup l p := by
        intro l
        induction l with
        | nil => intro _; rfl
        | cons o r ih2 =>
          intro hl
          have h1 := ih2 (fun x hx => hl x (List.mem_cons_of_mem _ hx))
          have h2 := hl o List.mem_cons_self
          rw [sup, sup, h1]
          by_cases hs : oS o = 1
          · by_cases hp : oL o ≤ p
            · rw [if_pos ⟨hs, by omega⟩, if_pos ⟨hs, hp⟩]
            · rw [if_neg (by omega), if_neg (by omega)]
          · rw [if_neg (by omega), if_neg (by omega)]
      rw [e os (fun o ho hh => he ⟨o, ho, hh⟩)]
      rcases ih with ih | ⟨o, h1, h2, h3, h4⟩
      · exact Or.inl ih
      · exact Or.inr ⟨o, h1, h2, by omega, h4⟩
theorem dem_at {os : List Od} (h : ∀ o ∈ os, OdOk o) : ∀ j p, 1000 ≤ p + j → dem os p = 0 ∨ ∃ o ∈ os, oS o = 0 ∧ p ≤ oL o ∧ dem os (oL o) = dem os p := by
  intro j
  induction j with
  | zero =>
    intro p hp
    left
    induction os with
    | nil => rfl
    | cons o r ih =>
      have h1 := ih (fun x hx => h x (List.mem_cons_of_mem _ hx))
      have h2 := (h o List.mem_cons_self).2.2.2.1
      rw [dem, h1, if_neg (by omega)]
  | succ j ih =>
    intro p hp
    by_cases he : ∃ o ∈ os, oS o = 0 ∧ oL o = p
    · obtain ⟨o, h1, h2, h3⟩ := he
      exact Or.inr ⟨o, h1, h2, by omega, by rw [h3]⟩
    · have e : ∀ l : List Od, (∀ o ∈ l, ¬ (oS o = 0 ∧ oL o = p)) → dem l p = dem l (p + 1) := by
        intro l
        induction l with
        | nil => intro _; rfl
        | cons o r ih2 =>
          intro hl
          have h1 := ih2 (fun x hx => hl x (List.mem_cons_of_mem _ hx))
          have h2 := hl o List.mem_cons_self
          rw [dem, dem, h1]
          by_cases hs : oS o = 0
          · by_cases hp : p + 1 ≤ oL o
            · rw [if_pos ⟨hs, by omega⟩, if_pos ⟨hs, hp⟩]
            · rw [if_neg (by omega), if_neg (by omega)]
          · rw [if_neg (by omega), if_neg (by omega)]
      rw [e os (fun o ho hh => he ⟨o, ho, hh⟩)]
      rcases ih (p + 1) (by omega) with ih | ⟨o, h1, h2, h3, h4⟩
      · exact Or.inl ih
      · exact Or.inr ⟨o, h1, h2, by omega, h4⟩
theorem LoI_end {os : List Od} {q : Nat} {r : Int32} (h : LoI os q os.length r) (hq : 1 ≤ q) (hos : ∀ o ∈ os, OdOk o) : ReS os q r := by
  rcases h with ⟨h1, h2⟩ | ⟨o, h1, h2, h3, h4, h5⟩
  · refine Or.inl ⟨h1, fun p hp => ?_⟩
    rcases sup_at hos p with e | ⟨o, e1, e2, e3, e4⟩
    · omega
    · obtain ⟨i, hi⟩ := List.getElem?_of_mem e1
      have := h2 i o (List.getElem?_eq_some_iff.mp hi).1 hi e2
      omega
  · have := hos o h1
    refine Or.inr ⟨oL o, h2, this.2.2.1, this.2.2.2.1, h4, fun p hp => ?_⟩
    rcases sup_at hos p with e | ⟨o', e1, e2, e3, e4⟩
    · omega
    · obtain ⟨i, hi⟩ := List.getElem?_of_mem e1
      by_cases hz : q ≤ sup os (oL o')
      · have := h5 i o' (List.getElem?_eq_some_iff.mp hi).1 hi e2 hz
        omega
      · omega
theorem c0_lowestSupplying {B : BkT} {os : List Od} {q : Nat} (hB : BkR B os) (hq : q < 1000000) (hq1 : 1 ≤ q) : gCt m0_lowestSupplying 2 0 0 [.ref 0, .int (nI q)] (hBk B) (fun v h => ∃ r, v = some (.int r) ∧ ReS os q r ∧ h = hBk B) (fun _ _ => False) := by
  refine gCt_of (ls := [some (.ref 0), some (.int (nI q)), none, none, none]) rfl rfl rfl (Nat.le_of_ble_eq_true rfl) rfl ?_
  refine wpb_s rfl (by decide) (by decide) _ k0_lowestSupplying_0 ?_
  simp only [w_nil, w_iadd, w_isub, w_imul, w_iand, w_ior, w_ishl, w_ishr, w_idiv, w_irem, w_ladd, w_lsub, w_lmul, w_lcmp, w_fdiv, w_ddiv, w_ineg, w_i2l, w_l2i, w_i2b, w_i2c, w_i2f, w_i2d, w_l2d, w_f2d, w_dcmp, w_iconst, w_bipush, w_sipush, w_lconst, w_fconst, w_dconst, w_iload_n0, w_iload_n1, w_iload_n2, w_iload_n3, w_iload, w_lload_n0, w_lload_n1, w_lload_n2, w_lload_n3, w_lload, w_aload_n0, w_aload_n1, w_aload_n2, w_aload_n3, w_aload, w_dload, w_istore_n0, w_istore_n1, w_istore_n2, w_istore_n3, w_istore, w_lstore_n0, w_lstore_n1, w_lstore_n2, w_lstore_n3, w_lstore, w_astore_n0, w_astore_n1, w_astore_n2, w_astore_n3, w_astore, w_dstore, w_iinc, w_dup, w_pop, w_dup2, w_getfield, w_putfield0, w_putfield1, w_putfield2, w_iaload, w_baload, w_aaload0, w_aaload1, w_iastore, w_bastore, w_aastore, w_ldc0, w_ldc1, w_ldc_w, w_ldc2_w, w_ifCond_eq, w_ifCond_ne, w_ifCond_lt, w_ifCond_ge, w_ifCond_gt, w_ifCond_le, w_if_icmp_eq, w_if_icmp_ne, w_if_icmp_lt, w_if_icmp_ge, w_if_icmp_gt, w_if_icmp_le, w_goto, w_ireturn, w_areturn, w_return_, w_lreturn, w_freturn, w_dreturn, Int32.reduceOfInt, List.getElem?_cons_succ, List.getElem?_cons_zero, List.set_cons_succ, List.set_cons_zero, Nat.reduceAdd, Nat.reduceLT, Option.some.injEq, and_true, ↓cI_cq, ↓cL_cq, ↓cO_cq, ↓cQ_cq, false_implies, fin0_4, fin1_4, fin2_4, fin3_4, gSet1_0, gSet1_1, gSet1_2, gSet2_0, gSet2_1, gSet2_2, gUp_0, gUp_c, gW1_0, gW1_d, gW1_i, gW1_l, gW1_r, gW1_u, ↓lD_cq, ↓lI_cq, ↓lL_cq, ↓lR_cq, mR, not_false_eq_true, not_true_eq_false, ↓oV_cq, or_true, ↓p1_iq, ↓p1_nq, ↓p1_rq, ↓pD_cq, ↓pF_cq, ↓pI_cq, ↓pL_cq, ↓pN_nq, ↓pN_rq, ↓pR_cq, reduceCtorEq, true_and, true_implies, true_or, ↓lI_at0, ↓lI_at1, ↓lI_at2, ↓lI_at3, ↓lI_at4, ↓lI_at5, ↓lI_at6, ↓lI_at7, ↓lI_at8, ↓lI_at9, ↓lL_at0, ↓lL_at1, ↓lL_at2, ↓lL_at3, ↓lL_at4, ↓lL_at5, ↓lL_at6, ↓lL_at7, ↓lL_at8, ↓lL_at9, ↓lD_at0, ↓lD_at1, ↓lD_at2, ↓lD_at3, ↓lD_at4, ↓lD_at5, ↓lD_at6, ↓lD_at7, ↓lD_at8, ↓lD_at9, ↓lR_at0, ↓lR_at1, ↓lR_at2, ↓lR_at3, ↓lR_at4, ↓lR_at5, ↓lR_at6, ↓lR_at7, ↓lR_at8, ↓lR_at9, ↓oV_at0, ↓oV_at1, ↓oV_at2, ↓oV_at3, ↓oV_at4, ↓oV_at5, ↓oV_at6, ↓oV_at7, ↓oV_at8, ↓oV_at9, ↓oV_at10, ↓oV_at11, ↓oV_at12, ↓oV_at13, ↓oV_at14, ↓oV_at15, ↓oV_at16, ↓oV_at17, ↓oV_at18, ↓oV_at19, ↓oV_at20, ↓oV_at21, ↓oV_at22, ↓oV_at23, ↓oV_at24, ↓oV_at25, ↓oV_at26, ↓oV_at27, ↓oV_at28, ↓oV_at29, ↓oV_at30, ↓oV_at31, ↓oV_at32, ↓oV_at33, ↓oV_at34, ↓oV_at35, ↓oV_at36, ↓oV_at37, ↓oV_at38, ↓oV_at39, ↓gLt_0, ↓gLt_1, ↓gLt_2, ↓gLt_3, ↓gLt_4, ↓gLt_5, ↓gLt_6, ↓gLt_7, ↓gLt_8, ↓gLt_9, ↓gLt_10, ↓gLt_11, ↓gLt_12, ↓gLt_13, ↓gLt_14, ↓gLt_15, ↓gLt_16, ↓gLt_17, ↓gLt_18, ↓gLt_19, ↓gLt_20, ↓gLt_21, ↓gLt_22, ↓gLt_23, ↓gLt_24, ↓gLt_25, ↓gLt_26, ↓gLt_27, ↓gLt_28, ↓gLt_29, ↓gLt_30, ↓gLt_31, ↓gLt_32, ↓gLt_33, ↓gLt_34, ↓gLt_35, ↓gLt_36, ↓gLt_37, ↓gLt_38, ↓gLt_39, hBk_len, ↓hBk_c0, hBk_s0_0, hBk_s0_1, ↓hBk_c1, hBk_s1, ↓hBk_c2, hBk_s2, ↓hBk_c3, hBk_s3, ↓hBk_c4, hBk_s4, ↓hBk_c5, hBk_s5, ↓hBk_c6, hBk_s6]
  exact l0_lowestSupplying hB hq (fun r hr => ⟨r, rfl, LoI_end hr hq1 hB.2.2.2.1, rfl⟩) os.length 0 (-1) none (by omega) (Or.inl ⟨rfl, fun i o hi => absurd hi (by omega)⟩)
def HiI (os : List Od) (q k : Nat) (r : Int32) : Prop :=
  (r = -1 ∧ ∀ i o, i < k → os[i]? = some o → oS o = 0 → dem os (oL o) < q) ∨
  (∃ o ∈ os, r = nI (oL o) ∧ oS o = 0 ∧ q ≤ dem os (oL o) ∧ ∀ i o', i < k → os[i]? = some o' → oS o' = 0 → q ≤ dem os (oL o') → oL o' ≤ oL o)
theorem m1_lt {m : Nat} (h : m < 1000000) : (-1 : Int32) < nI m := by
  have h1 := nI_nneg h
  rw [Int32.not_lt] at h1
  exact Int32.lt_of_lt_of_le neg1.2 h1
theorem HiI_n {os : List Od} {q k : Nat} {r : Int32} {o : Od} (h : HiI os q k r) (ho : os[k]? = some o) (hn : oS o = 0 → q ≤ dem os (oL o) → nI (oL o) ≤ r) (hos : ∀ o ∈ os, OdOk o) : HiI os q (k + 1) r := by
  have hol := (hos o (List.mem_of_getElem? ho)).2.2.2.1
  rcases h with ⟨h1, h2⟩ | ⟨o1, h1, h2, h3, h4, h5⟩
  · left
    refine ⟨h1, fun i o' hi ho' hs => ?_⟩
    by_cases hk : i = k
    · subst hk
      rw [ho] at ho'; cases ho'
      by_cases hq : q ≤ dem os (oL o)
      · have := hn hs hq
        rw [h1] at this
        exact absurd (m1_lt (m := oL o) (by omega)) (Int32.not_lt.mpr this)
      · omega
    · exact h2 i o' (by omega) ho' hs
  · right
    refine ⟨o1, h1, h2, h3, h4, fun i o' hi ho' hs hq => ?_⟩
    by_cases hk : i = k
    · subst hk
      rw [ho] at ho'; cases ho'
      have := hn hs hq
      rw [h2] at this
      have h9 := (hos o1 h1).2.2.2.1
      exact (nI_leI (by omega) (by omega)).mp this
    · exact h5 i o' (by omega) ho' hs hq
theorem HiI_y {os : List Od} {q k : Nat} {r : Int32} {o : Od} (h : HiI os q k r) (ho : os[k]? = some o) (hs : oS o = 0) (hq : q ≤ dem os (oL o)) (hb : r < nI (oL o)) (hos : ∀ o ∈ os, OdOk o) : HiI os q (k + 1) (nI (oL o)) := by
  have hol := (hos o (List.mem_of_getElem? ho)).2.2.2.1
  refine Or.inr ⟨o, List.mem_of_getElem? ho, rfl, hs, hq, fun i o' hi ho' hs' hq' => ?_⟩
  by_cases hk : i = k
  · subst hk
    rw [ho] at ho'; cases ho'
    exact Nat.le_refl _
  · rcases h with ⟨h1, h2⟩ | ⟨o1, h1, h2, h3, h4, h5⟩
    · have := h2 i o' (by omega) ho' hs'
      omega
    · have e1 := h5 i o' (by omega) ho' hs' hq'
      have hl := (hos o1 h1).2.2.2.1
      rw [h2] at hb
      have := (nI_ltI (by omega) (by omega)).mp hb
      omega
theorem l0_highestDemanding {B : BkT} {os : List Od} {q : Nat} {Q : Option Value → gH → Prop} {QX : String → gH → Prop} (hB : BkR B os) (hq : q < 1000000) (hQ : ∀ r, HiI os q os.length r → Q (some (.int r)) (hBk B)) :
    ∀ (j k : Nat) (r : Int32), k + j = os.length → HiI os q k r → G m0_highestDemanding 2 0 0 (hBk B) Q QX 0 0 4 [some (.ref 0), some (.int (nI q)), some (.int r), some (.int (nI k))] [] (hBk B) := by
  obtain ⟨b1, b2, ⟨c1, c2, c3, c4, c5, c6⟩, b3, b4⟩ := id hB
  intro j
  induction j with
  | zero =>
    intro k r hk hr
    have hk : k = os.length := by omega
    subst hk
    refine wpb_t 4 rfl (by decide) (by decide) _ k0_highestDemanding_4 ?_
    simp only [List.take_succ_cons, List.take_zero, w_nil, w_iadd, w_isub, w_imul, w_iand, w_ior, w_ishl, w_ishr, w_idiv, w_irem, w_ladd, w_lsub, w_lmul, w_lcmp, w_fdiv, w_ddiv, w_ineg, w_i2l, w_l2i, w_i2b, w_i2c, w_i2f, w_i2d, w_l2d, w_f2d, w_dcmp, w_iconst, w_bipush, w_sipush, w_lconst, w_fconst, w_dconst, w_iload_n0, w_iload_n1, w_iload_n2, w_iload_n3, w_iload, w_lload_n0, w_lload_n1, w_lload_n2, w_lload_n3, w_lload, w_aload_n0, w_aload_n1, w_aload_n2, w_aload_n3, w_aload, w_dload, w_istore_n0, w_istore_n1, w_istore_n2, w_istore_n3, w_istore, w_lstore_n0, w_lstore_n1, w_lstore_n2, w_lstore_n3, w_lstore, w_astore_n0, w_astore_n1, w_astore_n2, w_astore_n3, w_astore, w_dstore, w_iinc, w_dup, w_pop, w_dup2, w_getfield, w_putfield0, w_putfield1, w_putfield2, w_iaload, w_baload, w_aaload0, w_aaload1, w_iastore, w_bastore, w_aastore, w_ldc0, w_ldc1, w_ldc_w, w_ldc2_w, w_ifCond_eq, w_ifCond_ne, w_ifCond_lt, w_ifCond_ge, w_ifCond_gt, w_ifCond_le, w_if_icmp_eq, w_if_icmp_ne, w_if_icmp_lt, w_if_icmp_ge, w_if_icmp_gt, w_if_icmp_le, w_goto, w_ireturn, w_areturn, w_return_, w_lreturn, w_freturn, w_dreturn, Int32.reduceOfInt, List.getElem?_cons_succ, List.getElem?_cons_zero, List.set_cons_succ, List.set_cons_zero, Nat.reduceAdd, Nat.reduceLT, Option.some.injEq, and_true, ↓cI_cq, ↓cL_cq, ↓cO_cq, ↓cQ_cq, false_implies, fin0_4, fin1_4, fin2_4, fin3_4, gSet1_0, gSet1_1, gSet1_2, gSet2_0, gSet2_1, gSet2_2, gUp_0, gUp_c, gW1_0, gW1_d, gW1_i, gW1_l, gW1_r, gW1_u, ↓lD_cq, ↓lI_cq, ↓lL_cq, ↓lR_cq, mR, not_false_eq_true, not_true_eq_false, ↓oV_cq, or_true, ↓p1_iq, ↓p1_nq, ↓p1_rq, ↓pD_cq, ↓pF_cq, ↓pI_cq, ↓pL_cq, ↓pN_nq, ↓pN_rq, ↓pR_cq, reduceCtorEq, true_and, true_implies, true_or, ↓lI_at0, ↓lI_at1, ↓lI_at2, ↓lI_at3, ↓lI_at4, ↓lI_at5, ↓lI_at6, ↓lI_at7, ↓lI_at8, ↓lI_at9, ↓lL_at0, ↓lL_at1, ↓lL_at2, ↓lL_at3, ↓lL_at4, ↓lL_at5, ↓lL_at6, ↓lL_at7, ↓lL_at8, ↓lL_at9, ↓lD_at0, ↓lD_at1, ↓lD_at2, ↓lD_at3, ↓lD_at4, ↓lD_at5, ↓lD_at6, ↓lD_at7, ↓lD_at8, ↓lD_at9, ↓lR_at0, ↓lR_at1, ↓lR_at2, ↓lR_at3, ↓lR_at4, ↓lR_at5, ↓lR_at6, ↓lR_at7, ↓lR_at8, ↓lR_at9, ↓oV_at0, ↓oV_at1, ↓oV_at2, ↓oV_at3, ↓oV_at4, ↓oV_at5, ↓oV_at6, ↓oV_at7, ↓oV_at8, ↓oV_at9, ↓oV_at10, ↓oV_at11, ↓oV_at12, ↓oV_at13, ↓oV_at14, ↓oV_at15, ↓oV_at16, ↓oV_at17, ↓oV_at18, ↓oV_at19, ↓oV_at20, ↓oV_at21, ↓oV_at22, ↓oV_at23, ↓oV_at24, ↓oV_at25, ↓oV_at26, ↓oV_at27, ↓oV_at28, ↓oV_at29, ↓oV_at30, ↓oV_at31, ↓oV_at32, ↓oV_at33, ↓oV_at34, ↓oV_at35, ↓oV_at36, ↓oV_at37, ↓oV_at38, ↓oV_at39, ↓gLt_0, ↓gLt_1, ↓gLt_2, ↓gLt_3, ↓gLt_4, ↓gLt_5, ↓gLt_6, ↓gLt_7, ↓gLt_8, ↓gLt_9, ↓gLt_10, ↓gLt_11, ↓gLt_12, ↓gLt_13, ↓gLt_14, ↓gLt_15, ↓gLt_16, ↓gLt_17, ↓gLt_18, ↓gLt_19, ↓gLt_20, ↓gLt_21, ↓gLt_22, ↓gLt_23, ↓gLt_24, ↓gLt_25, ↓gLt_26, ↓gLt_27, ↓gLt_28, ↓gLt_29, ↓gLt_30, ↓gLt_31, ↓gLt_32, ↓gLt_33, ↓gLt_34, ↓gLt_35, ↓gLt_36, ↓gLt_37, ↓gLt_38, ↓gLt_39, hBk_len, ↓hBk_c0, hBk_s0_0, hBk_s0_1, ↓hBk_c1, hBk_s1, ↓hBk_c2, hBk_s2, ↓hBk_c3, hBk_s3, ↓hBk_c4, hBk_s4, ↓hBk_c5, hBk_s5, ↓hBk_c6, hBk_s6, b1]
    refine ⟨fun _ => ?_, fun h => absurd (Int32.le_refl _) h⟩
    refine wpb_s rfl (by decide) (by decide) _ k0_highestDemanding_58 ?_
    simp only [w_nil, w_iadd, w_isub, w_imul, w_iand, w_ior, w_ishl, w_ishr, w_idiv, w_irem, w_ladd, w_lsub, w_lmul, w_lcmp, w_fdiv, w_ddiv, w_ineg, w_i2l, w_l2i, w_i2b, w_i2c, w_i2f, w_i2d, w_l2d, w_f2d, w_dcmp, w_iconst, w_bipush, w_sipush, w_lconst, w_fconst, w_dconst, w_iload_n0, w_iload_n1, w_iload_n2, w_iload_n3, w_iload, w_lload_n0, w_lload_n1, w_lload_n2, w_lload_n3, w_lload, w_aload_n0, w_aload_n1, w_aload_n2, w_aload_n3, w_aload, w_dload, w_istore_n0, w_istore_n1, w_istore_n2, w_istore_n3, w_istore, w_lstore_n0, w_lstore_n1, w_lstore_n2, w_lstore_n3, w_lstore, w_astore_n0, w_astore_n1, w_astore_n2, w_astore_n3, w_astore, w_dstore, w_iinc, w_dup, w_pop, w_dup2, w_getfield, w_putfield0, w_putfield1, w_putfield2, w_iaload, w_baload, w_aaload0, w_aaload1, w_iastore, w_bastore, w_aastore, w_ldc0, w_ldc1, w_ldc_w, w_ldc2_w, w_ifCond_eq, w_ifCond_ne, w_ifCond_lt, w_ifCond_ge, w_ifCond_gt, w_ifCond_le, w_if_icmp_eq, w_if_icmp_ne, w_if_icmp_lt, w_if_icmp_ge, w_if_icmp_gt, w_if_icmp_le, w_goto, w_ireturn, w_areturn, w_return_, w_lreturn, w_freturn, w_dreturn, Int32.reduceOfInt, List.getElem?_cons_succ, List.getElem?_cons_zero, List.set_cons_succ, List.set_cons_zero, Nat.reduceAdd, Nat.reduceLT, Option.some.injEq, and_true, ↓cI_cq, ↓cL_cq, ↓cO_cq, ↓cQ_cq, false_implies, fin0_4, fin1_4, fin2_4, fin3_4, gSet1_0, gSet1_1, gSet1_2, gSet2_0, gSet2_1, gSet2_2, gUp_0, gUp_c, gW1_0, gW1_d, gW1_i, gW1_l, gW1_r, gW1_u, ↓lD_cq, ↓lI_cq, ↓lL_cq, ↓lR_cq, mR, not_false_eq_true, not_true_eq_false, ↓oV_cq, or_true, ↓p1_iq, ↓p1_nq, ↓p1_rq, ↓pD_cq, ↓pF_cq, ↓pI_cq, ↓pL_cq, ↓pN_nq, ↓pN_rq, ↓pR_cq, reduceCtorEq, true_and, true_implies, true_or, ↓lI_at0, ↓lI_at1, ↓lI_at2, ↓lI_at3, ↓lI_at4, ↓lI_at5, ↓lI_at6, ↓lI_at7, ↓lI_at8, ↓lI_at9, ↓lL_at0, ↓lL_at1, ↓lL_at2, ↓lL_at3, ↓lL_at4, ↓lL_at5, ↓lL_at6, ↓lL_at7, ↓lL_at8, ↓lL_at9, ↓lD_at0, ↓lD_at1, ↓lD_at2, ↓lD_at3, ↓lD_at4, ↓lD_at5, ↓lD_at6, ↓lD_at7, ↓lD_at8, ↓lD_at9, ↓lR_at0, ↓lR_at1, ↓lR_at2, ↓lR_at3, ↓lR_at4, ↓lR_at5, ↓lR_at6, ↓lR_at7, ↓lR_at8, ↓lR_at9, ↓oV_at0, ↓oV_at1, ↓oV_at2, ↓oV_at3, ↓oV_at4, ↓oV_at5, ↓oV_at6, ↓oV_at7, ↓oV_at8, ↓oV_at9, ↓oV_at10, ↓oV_at11, ↓oV_at12, ↓oV_at13, ↓oV_at14, ↓oV_at15, ↓oV_at16, ↓oV_at17, ↓oV_at18, ↓oV_at19, ↓oV_at20, ↓oV_at21, ↓oV_at22, ↓oV_at23, ↓oV_at24, ↓oV_at25, ↓oV_at26, ↓oV_at27, ↓oV_at28, ↓oV_at29, ↓oV_at30, ↓oV_at31, ↓oV_at32, ↓oV_at33, ↓oV_at34, ↓oV_at35, ↓oV_at36, ↓oV_at37, ↓oV_at38, ↓oV_at39, ↓gLt_0, ↓gLt_1, ↓gLt_2, ↓gLt_3, ↓gLt_4, ↓gLt_5, ↓gLt_6, ↓gLt_7, ↓gLt_8, ↓gLt_9, ↓gLt_10, ↓gLt_11, ↓gLt_12, ↓gLt_13, ↓gLt_14, ↓gLt_15, ↓gLt_16, ↓gLt_17, ↓gLt_18, ↓gLt_19, ↓gLt_20, ↓gLt_21, ↓gLt_22, ↓gLt_23, ↓gLt_24, ↓gLt_25, ↓gLt_26, ↓gLt_27, ↓gLt_28, ↓gLt_29, ↓gLt_30, ↓gLt_31, ↓gLt_32, ↓gLt_33, ↓gLt_34, ↓gLt_35, ↓gLt_36, ↓gLt_37, ↓gLt_38, ↓gLt_39, hBk_len, ↓hBk_c0, hBk_s0_0, hBk_s0_1, ↓hBk_c1, hBk_s1, ↓hBk_c2, hBk_s2, ↓hBk_c3, hBk_s3, ↓hBk_c4, hBk_s4, ↓hBk_c5, hBk_s5, ↓hBk_c6, hBk_s6]
    exact hQ r hr
  | succ j ih =>
    intro k r hk hr
    obtain ⟨o, ho, ⟨r1, r2, r3, r4, r5, r6⟩, o1, o2, o3, o4, o5⟩ := bk_row hB (show k < os.length by omega)
    have h52 : ∀ r', HiI os q (k + 1) r' → G m0_highestDemanding 2 0 0 (hBk B) Q QX 0 0 52 [some (.ref 0), some (.int (nI q)), some (.int r'), some (.int (nI k))] [] (hBk B) := by
      intro r' h'
      refine wpb_s rfl (by decide) (by decide) _ k0_highestDemanding_52 ?_
      simp only [w_nil, w_iadd, w_isub, w_imul, w_iand, w_ior, w_ishl, w_ishr, w_idiv, w_irem, w_ladd, w_lsub, w_lmul, w_lcmp, w_fdiv, w_ddiv, w_ineg, w_i2l, w_l2i, w_i2b, w_i2c, w_i2f, w_i2d, w_l2d, w_f2d, w_dcmp, w_iconst, w_bipush, w_sipush, w_lconst, w_fconst, w_dconst, w_iload_n0, w_iload_n1, w_iload_n2, w_iload_n3, w_iload, w_lload_n0, w_lload_n1, w_lload_n2, w_lload_n3, w_lload, w_aload_n0, w_aload_n1, w_aload_n2, w_aload_n3, w_aload, w_dload, w_istore_n0, w_istore_n1, w_istore_n2, w_istore_n3, w_istore, w_lstore_n0, w_lstore_n1, w_lstore_n2, w_lstore_n3, w_lstore, w_astore_n0, w_astore_n1, w_astore_n2, w_astore_n3, w_astore, w_dstore, w_iinc, w_dup, w_pop, w_dup2, w_getfield, w_putfield0, w_putfield1, w_putfield2, w_iaload, w_baload, w_aaload0, w_aaload1, w_iastore, w_bastore, w_aastore, w_ldc0, w_ldc1, w_ldc_w, w_ldc2_w, w_ifCond_eq, w_ifCond_ne, w_ifCond_lt, w_ifCond_ge, w_ifCond_gt, w_ifCond_le, w_if_icmp_eq, w_if_icmp_ne, w_if_icmp_lt, w_if_icmp_ge, w_if_icmp_gt, w_if_icmp_le, w_goto, w_ireturn, w_areturn, w_return_, w_lreturn, w_freturn, w_dreturn, Int32.reduceOfInt, List.getElem?_cons_succ, List.getElem?_cons_zero, List.set_cons_succ, List.set_cons_zero, Nat.reduceAdd, Nat.reduceLT, Option.some.injEq, and_true, ↓cI_cq, ↓cL_cq, ↓cO_cq, ↓cQ_cq, false_implies, fin0_4, fin1_4, fin2_4, fin3_4, gSet1_0, gSet1_1, gSet1_2, gSet2_0, gSet2_1, gSet2_2, gUp_0, gUp_c, gW1_0, gW1_d, gW1_i, gW1_l, gW1_r, gW1_u, ↓lD_cq, ↓lI_cq, ↓lL_cq, ↓lR_cq, mR, not_false_eq_true, not_true_eq_false, ↓oV_cq, or_true, ↓p1_iq, ↓p1_nq, ↓p1_rq, ↓pD_cq, ↓pF_cq, ↓pI_cq, ↓pL_cq, ↓pN_nq, ↓pN_rq, ↓pR_cq, reduceCtorEq, true_and, true_implies, true_or, ↓lI_at0, ↓lI_at1, ↓lI_at2, ↓lI_at3, ↓lI_at4, ↓lI_at5, ↓lI_at6, ↓lI_at7, ↓lI_at8, ↓lI_at9, ↓lL_at0, ↓lL_at1, ↓lL_at2, ↓lL_at3, ↓lL_at4, ↓lL_at5, ↓lL_at6, ↓lL_at7, ↓lL_at8, ↓lL_at9, ↓lD_at0, ↓lD_at1, ↓lD_at2, ↓lD_at3, ↓lD_at4, ↓lD_at5, ↓lD_at6, ↓lD_at7, ↓lD_at8, ↓lD_at9, ↓lR_at0, ↓lR_at1, ↓lR_at2, ↓lR_at3, ↓lR_at4, ↓lR_at5, ↓lR_at6, ↓lR_at7, ↓lR_at8, ↓lR_at9, ↓oV_at0, ↓oV_at1, ↓oV_at2, ↓oV_at3, ↓oV_at4, ↓oV_at5, ↓oV_at6, ↓oV_at7, ↓oV_at8, ↓oV_at9, ↓oV_at10, ↓oV_at11, ↓oV_at12, ↓oV_at13, ↓oV_at14, ↓oV_at15, ↓oV_at16, ↓oV_at17, ↓oV_at18, ↓oV_at19, ↓oV_at20, ↓oV_at21, ↓oV_at22, ↓oV_at23, ↓oV_at24, ↓oV_at25, ↓oV_at26, ↓oV_at27, ↓oV_at28, ↓oV_at29, ↓oV_at30, ↓oV_at31, ↓oV_at32, ↓oV_at33, ↓oV_at34, ↓oV_at35, ↓oV_at36, ↓oV_at37, ↓oV_at38, ↓oV_at39, ↓gLt_0, ↓gLt_1, ↓gLt_2, ↓gLt_3, ↓gLt_4, ↓gLt_5, ↓gLt_6, ↓gLt_7, ↓gLt_8, ↓gLt_9, ↓gLt_10, ↓gLt_11, ↓gLt_12, ↓gLt_13, ↓gLt_14, ↓gLt_15, ↓gLt_16, ↓gLt_17, ↓gLt_18, ↓gLt_19, ↓gLt_20, ↓gLt_21, ↓gLt_22, ↓gLt_23, ↓gLt_24, ↓gLt_25, ↓gLt_26, ↓gLt_27, ↓gLt_28, ↓gLt_29, ↓gLt_30, ↓gLt_31, ↓gLt_32, ↓gLt_33, ↓gLt_34, ↓gLt_35, ↓gLt_36, ↓gLt_37, ↓gLt_38, ↓gLt_39, hBk_len, ↓hBk_c0, hBk_s0_0, hBk_s0_1, ↓hBk_c1, hBk_s1, ↓hBk_c2, hBk_s2, ↓hBk_c3, hBk_s3, ↓hBk_c4, hBk_s4, ↓hBk_c5, hBk_s5, ↓hBk_c6, hBk_s6, nI_1]
      exact ih (k + 1) r' (by omega) h'
    refine wpb_s rfl (by decide) (by decide) _ k0_highestDemanding_4 ?_
    simp only [w_nil, w_iadd, w_isub, w_imul, w_iand, w_ior, w_ishl, w_ishr, w_idiv, w_irem, w_ladd, w_lsub, w_lmul, w_lcmp, w_fdiv, w_ddiv, w_ineg, w_i2l, w_l2i, w_i2b, w_i2c, w_i2f, w_i2d, w_l2d, w_f2d, w_dcmp, w_iconst, w_bipush, w_sipush, w_lconst, w_fconst, w_dconst, w_iload_n0, w_iload_n1, w_iload_n2, w_iload_n3, w_iload, w_lload_n0, w_lload_n1, w_lload_n2, w_lload_n3, w_lload, w_aload_n0, w_aload_n1, w_aload_n2, w_aload_n3, w_aload, w_dload, w_istore_n0, w_istore_n1, w_istore_n2, w_istore_n3, w_istore, w_lstore_n0, w_lstore_n1, w_lstore_n2, w_lstore_n3, w_lstore, w_astore_n0, w_astore_n1, w_astore_n2, w_astore_n3, w_astore, w_dstore, w_iinc, w_dup, w_pop, w_dup2, w_getfield, w_putfield0, w_putfield1, w_putfield2, w_iaload, w_baload, w_aaload0, w_aaload1, w_iastore, w_bastore, w_aastore, w_ldc0, w_ldc1, w_ldc_w, w_ldc2_w, w_ifCond_eq, w_ifCond_ne, w_ifCond_lt, w_ifCond_ge, w_ifCond_gt, w_ifCond_le, w_if_icmp_eq, w_if_icmp_ne, w_if_icmp_lt, w_if_icmp_ge, w_if_icmp_gt, w_if_icmp_le, w_goto, w_ireturn, w_areturn, w_return_, w_lreturn, w_freturn, w_dreturn, Int32.reduceOfInt, List.getElem?_cons_succ, List.getElem?_cons_zero, List.set_cons_succ, List.set_cons_zero, Nat.reduceAdd, Nat.reduceLT, Option.some.injEq, and_true, ↓cI_cq, ↓cL_cq, ↓cO_cq, ↓cQ_cq, false_implies, fin0_4, fin1_4, fin2_4, fin3_4, gSet1_0, gSet1_1, gSet1_2, gSet2_0, gSet2_1, gSet2_2, gUp_0, gUp_c, gW1_0, gW1_d, gW1_i, gW1_l, gW1_r, gW1_u, ↓lD_cq, ↓lI_cq, ↓lL_cq, ↓lR_cq, mR, not_false_eq_true, not_true_eq_false, ↓oV_cq, or_true, ↓p1_iq, ↓p1_nq, ↓p1_rq, ↓pD_cq, ↓pF_cq, ↓pI_cq, ↓pL_cq, ↓pN_nq, ↓pN_rq, ↓pR_cq, reduceCtorEq, true_and, true_implies, true_or, ↓lI_at0, ↓lI_at1, ↓lI_at2, ↓lI_at3, ↓lI_at4, ↓lI_at5, ↓lI_at6, ↓lI_at7, ↓lI_at8, ↓lI_at9, ↓lL_at0, ↓lL_at1, ↓lL_at2, ↓lL_at3, ↓lL_at4, ↓lL_at5, ↓lL_at6, ↓lL_at7, ↓lL_at8, ↓lL_at9, ↓lD_at0, ↓lD_at1, ↓lD_at2, ↓lD_at3, ↓lD_at4, ↓lD_at5, ↓lD_at6, ↓lD_at7, ↓lD_at8, ↓lD_at9, ↓lR_at0, ↓lR_at1, ↓lR_at2, ↓lR_at3, ↓lR_at4, ↓lR_at5, ↓lR_at6, ↓lR_at7, ↓lR_at8, ↓lR_at9, ↓oV_at0, ↓oV_at1, ↓oV_at2, ↓oV_at3, ↓oV_at4, ↓oV_at5, ↓oV_at6, ↓oV_at7, ↓oV_at8, ↓oV_at9, ↓oV_at10, ↓oV_at11, ↓oV_at12, ↓oV_at13, ↓oV_at14, ↓oV_at15, ↓oV_at16, ↓oV_at17, ↓oV_at18, ↓oV_at19, ↓oV_at20, ↓oV_at21, ↓oV_at22, ↓oV_at23, ↓oV_at24, ↓oV_at25, ↓oV_at26, ↓oV_at27, ↓oV_at28, ↓oV_at29, ↓oV_at30, ↓oV_at31, ↓oV_at32, ↓oV_at33, ↓oV_at34, ↓oV_at35, ↓oV_at36, ↓oV_at37, ↓oV_at38, ↓oV_at39, ↓gLt_0, ↓gLt_1, ↓gLt_2, ↓gLt_3, ↓gLt_4, ↓gLt_5, ↓gLt_6, ↓gLt_7, ↓gLt_8, ↓gLt_9, ↓gLt_10, ↓gLt_11, ↓gLt_12, ↓gLt_13, ↓gLt_14, ↓gLt_15, ↓gLt_16, ↓gLt_17, ↓gLt_18, ↓gLt_19, ↓gLt_20, ↓gLt_21, ↓gLt_22, ↓gLt_23, ↓gLt_24, ↓gLt_25, ↓gLt_26, ↓gLt_27, ↓gLt_28, ↓gLt_29, ↓gLt_30, ↓gLt_31, ↓gLt_32, ↓gLt_33, ↓gLt_34, ↓gLt_35, ↓gLt_36, ↓gLt_37, ↓gLt_38, ↓gLt_39, hBk_len, ↓hBk_c0, hBk_s0_0, hBk_s0_1, ↓hBk_c1, hBk_s1, ↓hBk_c2, hBk_s2, ↓hBk_c3, hBk_s3, ↓hBk_c4, hBk_s4, ↓hBk_c5, hBk_s5, ↓hBk_c6, hBk_s6, b1, nIc (show k < 1000000 by omega), r3, r4, c3, c4]
    simp (disch := omega) only [nIc, nI_ltI, nI_leI, nI_eq, nI_z, nI_o, ge_iff_le, gt_iff_lt, nI_1, nI_add, pk_mul, vp_in_nI, true_and, and_true, true_implies]
    refine ⟨fun h => absurd h (by omega), fun _ => ⟨fun h => h52 _ (HiI_n hr ho (fun hs => absurd hs h) b3), fun hs => ⟨fun h => h52 _ (HiI_n hr ho (fun _ _ => h) b3), fun hlt => ?_⟩⟩⟩
    refine g_callV [0, 1, 2, 3, 4, 5, 6] (c0_wantedAt hB (p := oL o) (by omega)) (by decide +kernel) lk0_49 rfl rfl rfl rfl ⟨rfl, by decide, by decide⟩ (Or.inl (gAllS rfl)) rfl (by decide) (Nat.le_of_ble_eq_true rfl) (by decide) (by decide) (fun _ _ z => z.elim) ?_
    rintro v h1 ⟨rfl, rfl⟩
    show G _ _ _ _ _ _ _ 0 0 41 _ [.int (nI (dem os (oL o)))] (hBk B)
    have hsb : dem os (oL o) < 1000000 := dem_lt hB _
    refine wpb_s rfl (by decide) (by decide) _ k0_highestDemanding_41 ?_
    simp only [w_nil, w_iadd, w_isub, w_imul, w_iand, w_ior, w_ishl, w_ishr, w_idiv, w_irem, w_ladd, w_lsub, w_lmul, w_lcmp, w_fdiv, w_ddiv, w_ineg, w_i2l, w_l2i, w_i2b, w_i2c, w_i2f, w_i2d, w_l2d, w_f2d, w_dcmp, w_iconst, w_bipush, w_sipush, w_lconst, w_fconst, w_dconst, w_iload_n0, w_iload_n1, w_iload_n2, w_iload_n3, w_iload, w_lload_n0, w_lload_n1, w_lload_n2, w_lload_n3, w_lload, w_aload_n0, w_aload_n1, w_aload_n2, w_aload_n3, w_aload, w_dload, w_istore_n0, w_istore_n1, w_istore_n2, w_istore_n3, w_istore, w_lstore_n0, w_lstore_n1, w_lstore_n2, w_lstore_n3, w_lstore, w_astore_n0, w_astore_n1, w_astore_n2, w_astore_n3, w_astore, w_dstore, w_iinc, w_dup, w_pop, w_dup2, w_getfield, w_putfield0, w_putfield1, w_putfield2, w_iaload, w_baload, w_aaload0, w_aaload1, w_iastore, w_bastore, w_aastore, w_ldc0, w_ldc1, w_ldc_w, w_ldc2_w, w_ifCond_eq, w_ifCond_ne, w_ifCond_lt, w_ifCond_ge, w_ifCond_gt, w_ifCond_le, w_if_icmp_eq, w_if_icmp_ne, w_if_icmp_lt, w_if_icmp_ge, w_if_icmp_gt, w_if_icmp_le, w_goto, w_ireturn, w_areturn, w_return_, w_lreturn, w_freturn, w_dreturn, Int32.reduceOfInt, List.getElem?_cons_succ, List.getElem?_cons_zero, List.set_cons_succ, List.set_cons_zero, Nat.reduceAdd, Nat.reduceLT, Option.some.injEq, and_true, ↓cI_cq, ↓cL_cq, ↓cO_cq, ↓cQ_cq, false_implies, fin0_4, fin1_4, fin2_4, fin3_4, gSet1_0, gSet1_1, gSet1_2, gSet2_0, gSet2_1, gSet2_2, gUp_0, gUp_c, gW1_0, gW1_d, gW1_i, gW1_l, gW1_r, gW1_u, ↓lD_cq, ↓lI_cq, ↓lL_cq, ↓lR_cq, mR, not_false_eq_true, not_true_eq_false, ↓oV_cq, or_true, ↓p1_iq, ↓p1_nq, ↓p1_rq, ↓pD_cq, ↓pF_cq, ↓pI_cq, ↓pL_cq, ↓pN_nq, ↓pN_rq, ↓pR_cq, reduceCtorEq, true_and, true_implies, true_or, ↓lI_at0, ↓lI_at1, ↓lI_at2, ↓lI_at3, ↓lI_at4, ↓lI_at5, ↓lI_at6, ↓lI_at7, ↓lI_at8, ↓lI_at9, ↓lL_at0, ↓lL_at1, ↓lL_at2, ↓lL_at3, ↓lL_at4, ↓lL_at5, ↓lL_at6, ↓lL_at7, ↓lL_at8, ↓lL_at9, ↓lD_at0, ↓lD_at1, ↓lD_at2, ↓lD_at3, ↓lD_at4, ↓lD_at5, ↓lD_at6, ↓lD_at7, ↓lD_at8, ↓lD_at9, ↓lR_at0, ↓lR_at1, ↓lR_at2, ↓lR_at3, ↓lR_at4, ↓lR_at5, ↓lR_at6, ↓lR_at7, ↓lR_at8, ↓lR_at9, ↓oV_at0, ↓oV_at1, ↓oV_at2, ↓oV_at3, ↓oV_at4, ↓oV_at5, ↓oV_at6, ↓oV_at7, ↓oV_at8, ↓oV_at9, ↓oV_at10, ↓oV_at11, ↓oV_at12, ↓oV_at13, ↓oV_at14, ↓oV_at15, ↓oV_at16, ↓oV_at17, ↓oV_at18, ↓oV_at19, ↓oV_at20, ↓oV_at21, ↓oV_at22, ↓oV_at23, ↓oV_at24, ↓oV_at25, ↓oV_at26, ↓oV_at27, ↓oV_at28, ↓oV_at29, ↓oV_at30, ↓oV_at31, ↓oV_at32, ↓oV_at33, ↓oV_at34, ↓oV_at35, ↓oV_at36, ↓oV_at37, ↓oV_at38, ↓oV_at39, ↓gLt_0, ↓gLt_1, ↓gLt_2, ↓gLt_3, ↓gLt_4, ↓gLt_5, ↓gLt_6, ↓gLt_7, ↓gLt_8, ↓gLt_9, ↓gLt_10, ↓gLt_11, ↓gLt_12, ↓gLt_13, ↓gLt_14, ↓gLt_15, ↓gLt_16, ↓gLt_17, ↓gLt_18, ↓gLt_19, ↓gLt_20, ↓gLt_21, ↓gLt_22, ↓gLt_23, ↓gLt_24, ↓gLt_25, ↓gLt_26, ↓gLt_27, ↓gLt_28, ↓gLt_29, ↓gLt_30, ↓gLt_31, ↓gLt_32, ↓gLt_33, ↓gLt_34, ↓gLt_35, ↓gLt_36, ↓gLt_37, ↓gLt_38, ↓gLt_39, hBk_len, ↓hBk_c0, hBk_s0_0, hBk_s0_1, ↓hBk_c1, hBk_s1, ↓hBk_c2, hBk_s2, ↓hBk_c3, hBk_s3, ↓hBk_c4, hBk_s4, ↓hBk_c5, hBk_s5, ↓hBk_c6, hBk_s6, nIc (show k < 1000000 by omega), r4, c4]
    simp (disch := omega) only [nIc, nI_ltI, nI_leI, nI_eq, nI_z, nI_o, ge_iff_le, gt_iff_lt, nI_1, nI_add, pk_mul, vp_in_nI, true_and, and_true, true_implies]
    exact ⟨fun h' => h52 _ (HiI_n hr ho (fun _ hq' => absurd h' (by omega)) b3), fun h' => h52 _ (HiI_y hr ho hs (by omega) (Int32.not_le.mp hlt) b3)⟩
theorem HiI_end {os : List Od} {q : Nat} {r : Int32} (h : HiI os q os.length r) (hq : 1 ≤ q) (hos : ∀ o ∈ os, OdOk o) : ReD os q r := by
  rcases h with ⟨h1, h2⟩ | ⟨o, h1, h2, h3, h4, h5⟩
  · refine Or.inl ⟨h1, fun p hp => ?_⟩
    rcases dem_at hos 1000 p (by omega) with e | ⟨o, e1, e2, e3, e4⟩
    · omega
    · obtain ⟨i, hi⟩ := List.getElem?_of_mem e1
      have := h2 i o (List.getElem?_eq_some_iff.mp hi).1 hi e2
      omega
  · have := hos o h1
    refine Or.inr ⟨oL o, h2, this.2.2.1, this.2.2.2.1, h4, fun p hp => ?_⟩
    rcases dem_at hos 1000 p (by omega) with e | ⟨o', e1, e2, e3, e4⟩
    · omega
    · obtain ⟨i, hi⟩ := List.getElem?_of_mem e1
      by_cases hz : q ≤ dem os (oL o')
      · have := h5 i o' (List.getElem?_eq_some_iff.mp hi).1 hi e2 hz
        omega
      · omega
theorem c0_highestDemanding {B : BkT} {os : List Od} {q : Nat} (hB : BkR B os) (hq : q < 1000000) (hq1 : 1 ≤ q) : gCt m0_highestDemanding 2 0 0 [.ref 0, .int (nI q)] (hBk B) (fun v h => ∃ r, v = some (.int r) ∧ ReD os q r ∧ h = hBk B) (fun _ _ => False) := by
  refine gCt_of (ls := [some (.ref 0), some (.int (nI q)), none, none]) rfl rfl rfl (Nat.le_of_ble_eq_true rfl) rfl ?_
  refine wpb_s rfl (by decide) (by decide) _ k0_highestDemanding_0 ?_
  simp only [w_nil, w_iadd, w_isub, w_imul, w_iand, w_ior, w_ishl, w_ishr, w_idiv, w_irem, w_ladd, w_lsub, w_lmul, w_lcmp, w_fdiv, w_ddiv, w_ineg, w_i2l, w_l2i, w_i2b, w_i2c, w_i2f, w_i2d, w_l2d, w_f2d, w_dcmp, w_iconst, w_bipush, w_sipush, w_lconst, w_fconst, w_dconst, w_iload_n0, w_iload_n1, w_iload_n2, w_iload_n3, w_iload, w_lload_n0, w_lload_n1, w_lload_n2, w_lload_n3, w_lload, w_aload_n0, w_aload_n1, w_aload_n2, w_aload_n3, w_aload, w_dload, w_istore_n0, w_istore_n1, w_istore_n2, w_istore_n3, w_istore, w_lstore_n0, w_lstore_n1, w_lstore_n2, w_lstore_n3, w_lstore, w_astore_n0, w_astore_n1, w_astore_n2, w_astore_n3, w_astore, w_dstore, w_iinc, w_dup, w_pop, w_dup2, w_getfield, w_putfield0, w_putfield1, w_putfield2, w_iaload, w_baload, w_aaload0, w_aaload1, w_iastore, w_bastore, w_aastore, w_ldc0, w_ldc1, w_ldc_w, w_ldc2_w, w_ifCond_eq, w_ifCond_ne, w_ifCond_lt, w_ifCond_ge, w_ifCond_gt, w_ifCond_le, w_if_icmp_eq, w_if_icmp_ne, w_if_icmp_lt, w_if_icmp_ge, w_if_icmp_gt, w_if_icmp_le, w_goto, w_ireturn, w_areturn, w_return_, w_lreturn, w_freturn, w_dreturn, Int32.reduceOfInt, List.getElem?_cons_succ, List.getElem?_cons_zero, List.set_cons_succ, List.set_cons_zero, Nat.reduceAdd, Nat.reduceLT, Option.some.injEq, and_true, ↓cI_cq, ↓cL_cq, ↓cO_cq, ↓cQ_cq, false_implies, fin0_4, fin1_4, fin2_4, fin3_4, gSet1_0, gSet1_1, gSet1_2, gSet2_0, gSet2_1, gSet2_2, gUp_0, gUp_c, gW1_0, gW1_d, gW1_i, gW1_l, gW1_r, gW1_u, ↓lD_cq, ↓lI_cq, ↓lL_cq, ↓lR_cq, mR, not_false_eq_true, not_true_eq_false, ↓oV_cq, or_true, ↓p1_iq, ↓p1_nq, ↓p1_rq, ↓pD_cq, ↓pF_cq, ↓pI_cq, ↓pL_cq, ↓pN_nq, ↓pN_rq, ↓pR_cq, reduceCtorEq, true_and, true_implies, true_or, ↓lI_at0, ↓lI_at1, ↓lI_at2, ↓lI_at3, ↓lI_at4, ↓lI_at5, ↓lI_at6, ↓lI_at7, ↓lI_at8, ↓lI_at9, ↓lL_at0, ↓lL_at1, ↓lL_at2, ↓lL_at3, ↓lL_at4, ↓lL_at5, ↓lL_at6, ↓lL_at7, ↓lL_at8, ↓lL_at9, ↓lD_at0, ↓lD_at1, ↓lD_at2, ↓lD_at3, ↓lD_at4, ↓lD_at5, ↓lD_at6, ↓lD_at7, ↓lD_at8, ↓lD_at9, ↓lR_at0, ↓lR_at1, ↓lR_at2, ↓lR_at3, ↓lR_at4, ↓lR_at5, ↓lR_at6, ↓lR_at7, ↓lR_at8, ↓lR_at9, ↓oV_at0, ↓oV_at1, ↓oV_at2, ↓oV_at3, ↓oV_at4, ↓oV_at5, ↓oV_at6, ↓oV_at7, ↓oV_at8, ↓oV_at9, ↓oV_at10, ↓oV_at11, ↓oV_at12, ↓oV_at13, ↓oV_at14, ↓oV_at15, ↓oV_at16, ↓oV_at17, ↓oV_at18, ↓oV_at19, ↓oV_at20, ↓oV_at21, ↓oV_at22, ↓oV_at23, ↓oV_at24, ↓oV_at25, ↓oV_at26, ↓oV_at27, ↓oV_at28, ↓oV_at29, ↓oV_at30, ↓oV_at31, ↓oV_at32, ↓oV_at33, ↓oV_at34, ↓oV_at35, ↓oV_at36, ↓oV_at37, ↓oV_at38, ↓oV_at39, ↓gLt_0, ↓gLt_1, ↓gLt_2, ↓gLt_3, ↓gLt_4, ↓gLt_5, ↓gLt_6, ↓gLt_7, ↓gLt_8, ↓gLt_9, ↓gLt_10, ↓gLt_11, ↓gLt_12, ↓gLt_13, ↓gLt_14, ↓gLt_15, ↓gLt_16, ↓gLt_17, ↓gLt_18, ↓gLt_19, ↓gLt_20, ↓gLt_21, ↓gLt_22, ↓gLt_23, ↓gLt_24, ↓gLt_25, ↓gLt_26, ↓gLt_27, ↓gLt_28, ↓gLt_29, ↓gLt_30, ↓gLt_31, ↓gLt_32, ↓gLt_33, ↓gLt_34, ↓gLt_35, ↓gLt_36, ↓gLt_37, ↓gLt_38, ↓gLt_39, hBk_len, ↓hBk_c0, hBk_s0_0, hBk_s0_1, ↓hBk_c1, hBk_s1, ↓hBk_c2, hBk_s2, ↓hBk_c3, hBk_s3, ↓hBk_c4, hBk_s4, ↓hBk_c5, hBk_s5, ↓hBk_c6, hBk_s6]
  exact l0_highestDemanding hB hq (fun r hr => ⟨r, rfl, HiI_end hr hq1 hB.2.2.2.1, rfl⟩) os.length 0 (-1) (by omega) (Or.inl ⟨rfl, fun i o hi => absurd hi (by omega)⟩)
end CRE
