section CX10
set_option maxRecDepth 100000
theorem FiR_s {t : List Int32} {f : Nat → Nat} {n y v : Nat} (h : FiR t f n) (hy : y < t.length) : FiR (t.set y (nI v)) (fun j => if j = y then v else f j) n := by
  intro i hi
  by_cases hiy : i = y
  · subst hiy
    rw [gD_eq hy]; simp
  · rw [gD_ne (fun z => hiy z.symm), h i hi]; simp [hiy]
theorem FiR_c {t : List Int32} {f g : Nat → Nat} {n : Nat} (h : FiR t f n) (e : ∀ i, i < n → f i = g i) : FiR t g n := fun i hi => by rw [h i hi, e i hi]
theorem sh_le (left all : Nat) : (if left < all then left else all) ≤ all := by split <;> omega
theorem l1_grpB {os : List Od} {C : CrT} {l B : List Nat} {left all : Nat} {h0 : gH} {Q : Option Value → gH → Prop} {QX : String → gH → Prop} {fr en : Int32} (hC : CrR C os) (hl : LnR C os l) (hen : en = nI (l.length - B.length)) (hall : 0 < all) (hall2 : all < 10000) :
    ∀ (g A : List Nat) (r : Nat) (t : List Int32) (f : Nat → Nat) (l8 : Option Value), l = A ++ g ++ B → t.length = 21 → FiR t f os.length → sumP os left all g ≤ r → r < 1000000 →
      (∀ (t' : List Int32) (l8 : Option Value), t'.length = 21 → FiR t' (fun j => if j ∈ g then prt os left all j else f j) os.length → G m1_fillGroup 1 0 0 h0 Q QX 0 0 116 [some (.ref 0), some (.int fr), some (.int en), some (.int (nI left)), some (.int (nI all)), some (.int (nI (if left < all then left else all))), some (.int (nI (r - sumP os left all g))), some (.int en), l8] [] (hCr (crF C t'))) →
      G m1_fillGroup 1 0 0 h0 Q QX 0 0 63 [some (.ref 0), some (.int fr), some (.int en), some (.int (nI left)), some (.int (nI all)), some (.int (nI (if left < all then left else all))), some (.int (nI r)), some (.int (nI A.length)), l8] [] (hCr (crF C t)) := by
  intro g
  induction g with
  | nil =>
    intro A r t f l8 hlA ht hf hr hr2 hQ
    have e : l.length - B.length = A.length := by rw [hlA]; simp
    have hen' : en = nI A.length := by rw [hen, e]
    subst hen'
    refine wpb_t 3 rfl (by decide) (by decide) _ k1_fillGroup_63 ?_
    simp only [List.take_succ_cons, List.take_zero, w_nil, w_iadd, w_isub, w_imul, w_iand, w_ior, w_ishl, w_ishr, w_idiv, w_irem, w_ladd, w_lsub, w_lmul, w_lcmp, w_fdiv, w_ddiv, w_ineg, w_i2l, w_l2i, w_i2b, w_i2c, w_i2f, w_i2d, w_l2d, w_f2d, w_dcmp, w_iconst, w_bipush, w_sipush, w_lconst, w_fconst, w_dconst, w_iload_n0, w_iload_n1, w_iload_n2, w_iload_n3, w_iload, w_lload_n0, w_lload_n1, w_lload_n2, w_lload_n3, w_lload, w_aload_n0, w_aload_n1, w_aload_n2, w_aload_n3, w_aload, w_dload, w_istore_n0, w_istore_n1, w_istore_n2, w_istore_n3, w_istore, w_lstore_n0, w_lstore_n1, w_lstore_n2, w_lstore_n3, w_lstore, w_astore_n0, w_astore_n1, w_astore_n2, w_astore_n3, w_astore, w_dstore, w_iinc, w_dup, w_pop, w_dup2, w_getfield, w_putfield0, w_putfield1, w_putfield2, w_iaload, w_baload, w_aaload0, w_aaload1, w_iastore, w_bastore, w_aastore, w_ldc0, w_ldc1, w_ldc_w, w_ldc2_w, w_ifCond_eq, w_ifCond_ne, w_ifCond_lt, w_ifCond_ge, w_ifCond_gt, w_ifCond_le, w_if_icmp_eq, w_if_icmp_ne, w_if_icmp_lt, w_if_icmp_ge, w_if_icmp_gt, w_if_icmp_le, w_goto, w_ireturn, w_areturn, w_return_, w_lreturn, w_freturn, w_dreturn, Int32.reduceOfInt, List.getElem?_cons_succ, List.getElem?_cons_zero, List.set_cons_succ, List.set_cons_zero, Nat.reduceAdd, Nat.reduceLT, Option.some.injEq, and_true, ↓cI_cq, ↓cL_cq, ↓cO_cq, ↓cQ_cq, false_implies, fin0_4, fin1_4, fin2_4, fin3_4, gSet1_0, gSet1_1, gSet1_2, gSet2_0, gSet2_1, gSet2_2, gUp_0, gUp_c, gW1_0, gW1_d, gW1_i, gW1_l, gW1_r, gW1_u, ↓lD_cq, ↓lI_cq, ↓lL_cq, ↓lR_cq, mR, not_false_eq_true, not_true_eq_false, ↓oV_cq, or_true, ↓p1_iq, ↓p1_nq, ↓p1_rq, ↓pD_cq, ↓pF_cq, ↓pI_cq, ↓pL_cq, ↓pN_nq, ↓pN_rq, ↓pR_cq, reduceCtorEq, true_and, true_implies, true_or, ↓lI_at0, ↓lI_at1, ↓lI_at2, ↓lI_at3, ↓lI_at4, ↓lI_at5, ↓lI_at6, ↓lI_at7, ↓lI_at8, ↓lI_at9, ↓lL_at0, ↓lL_at1, ↓lL_at2, ↓lL_at3, ↓lL_at4, ↓lL_at5, ↓lL_at6, ↓lL_at7, ↓lL_at8, ↓lL_at9, ↓lD_at0, ↓lD_at1, ↓lD_at2, ↓lD_at3, ↓lD_at4, ↓lD_at5, ↓lD_at6, ↓lD_at7, ↓lD_at8, ↓lD_at9, ↓lR_at0, ↓lR_at1, ↓lR_at2, ↓lR_at3, ↓lR_at4, ↓lR_at5, ↓lR_at6, ↓lR_at7, ↓lR_at8, ↓lR_at9, ↓oV_at0, ↓oV_at1, ↓oV_at2, ↓oV_at3, ↓oV_at4, ↓oV_at5, ↓oV_at6, ↓oV_at7, ↓oV_at8, ↓oV_at9, ↓oV_at10, ↓oV_at11, ↓oV_at12, ↓oV_at13, ↓oV_at14, ↓oV_at15, ↓oV_at16, ↓oV_at17, ↓oV_at18, ↓oV_at19, ↓oV_at20, ↓oV_at21, ↓oV_at22, ↓oV_at23, ↓oV_at24, ↓oV_at25, ↓oV_at26, ↓oV_at27, ↓oV_at28, ↓oV_at29, ↓oV_at30, ↓oV_at31, ↓oV_at32, ↓oV_at33, ↓oV_at34, ↓oV_at35, ↓oV_at36, ↓oV_at37, ↓oV_at38, ↓oV_at39, ↓gLt_0, ↓gLt_1, ↓gLt_2, ↓gLt_3, ↓gLt_4, ↓gLt_5, ↓gLt_6, ↓gLt_7, ↓gLt_8, ↓gLt_9, ↓gLt_10, ↓gLt_11, ↓gLt_12, ↓gLt_13, ↓gLt_14, ↓gLt_15, ↓gLt_16, ↓gLt_17, ↓gLt_18, ↓gLt_19, ↓gLt_20, ↓gLt_21, ↓gLt_22, ↓gLt_23, ↓gLt_24, ↓gLt_25, ↓gLt_26, ↓gLt_27, ↓gLt_28, ↓gLt_29, ↓gLt_30, ↓gLt_31, ↓gLt_32, ↓gLt_33, ↓gLt_34, ↓gLt_35, ↓gLt_36, ↓gLt_37, ↓gLt_38, ↓gLt_39, hCr_len, ↓hCr_c0, hCr_s0_0, hCr_s0_1, hCr_s0_2, hCr_s0_3, hCr_s0_4, ↓hCr_c1, hCr_s1, ↓hCr_c2, hCr_s2, ↓hCr_c3, hCr_s3, ↓hCr_c4, hCr_s4, ↓hCr_c5, hCr_s5]
    refine ⟨fun _ => ?_, fun h => absurd (Int32.le_refl _) h⟩
    exact hQ t l8 ht (FiR_c hf (fun i _ => by simp))
  | cons y g ih =>
    intro A r t f l8 hlA ht hf hr hr2 hQ
    have hy : y < os.length := hl.2.2.1 y (by rw [hlA]; simp)
    have hCf := CrR_f hC ht
    obtain ⟨b1, b2, ⟨c1, c2, c3, c4, c5⟩, b3, b4⟩ := id hC
    obtain ⟨o, ho, ⟨r1, r2, r3⟩, o1, o2, o3, o4⟩ := cr_row hC hy
    have hqa : qa os y = oQ o := by rw [qa, oa_s ho]
    have e : l.length - B.length = A.length + 1 + g.length := by rw [hlA]; simp; omega
    have e2 : l.length = A.length + 1 + g.length + B.length := by rw [hlA]; simp; omega
    have e3 := hl.2.1
    have hnd : y ∉ g := by
      have := hl.2.2.2
      rw [hlA, List.append_assoc] at this
      have := (List.nodup_append.mp this).2.1
      exact fun z => (List.nodup_cons.mp this).1 (List.mem_append_left _ z)
    have hat : C.2.2.2.2.2.2.2.2.2.getD A.length 0 = nI y := by
      have := hl.1
      rw [hlA, List.append_assoc] at this
      exact Hd_at this
    rw [sumP] at hr
    have hsh := sh_le left all
    have hmul : oQ o * (if left < all then left else all) < 2 ^ 31 := Nat.lt_of_le_of_lt (Nat.mul_le_mul o4 hsh) (by omega)
    have hprt : prt os left all y = oQ o * (if left < all then left else all) / all := by rw [prt, hqa]
    have hpl : prt os left all y ≤ 99 := by have := @prt_le os left all y; omega
    have hih := ih (A ++ [y]) (r - prt os left all y) (t.set y (nI (prt os left all y))) _ (some (.int (nI (prt os left all y)))) (by rw [hlA]; simp) (by simpa using ht) (FiR_s hf (by omega)) (by omega) (by omega) (fun t' l8 ht' hf' => ?_)
    · rw [show (A ++ [y]).length = A.length + 1 by simp] at hih
      obtain ⟨nn, p, v, s, d, sd, li, qu, fi, tu⟩ := C
      simp only at b1 c1 c2 c3 c4 c5 r1 r2 r3 hat
      simp only [crF] at hih ⊢
      refine wpb_s rfl (by decide) (by decide) _ k1_fillGroup_63 ?_
      simp only [w_nil, w_iadd, w_isub, w_imul, w_iand, w_ior, w_ishl, w_ishr, w_idiv, w_irem, w_ladd, w_lsub, w_lmul, w_lcmp, w_fdiv, w_ddiv, w_ineg, w_i2l, w_l2i, w_i2b, w_i2c, w_i2f, w_i2d, w_l2d, w_f2d, w_dcmp, w_iconst, w_bipush, w_sipush, w_lconst, w_fconst, w_dconst, w_iload_n0, w_iload_n1, w_iload_n2, w_iload_n3, w_iload, w_lload_n0, w_lload_n1, w_lload_n2, w_lload_n3, w_lload, w_aload_n0, w_aload_n1, w_aload_n2, w_aload_n3, w_aload, w_dload, w_istore_n0, w_istore_n1, w_istore_n2, w_istore_n3, w_istore, w_lstore_n0, w_lstore_n1, w_lstore_n2, w_lstore_n3, w_lstore, w_astore_n0, w_astore_n1, w_astore_n2, w_astore_n3, w_astore, w_dstore, w_iinc, w_dup, w_pop, w_dup2, w_getfield, w_putfield0, w_putfield1, w_putfield2, w_iaload, w_baload, w_aaload0, w_aaload1, w_iastore, w_bastore, w_aastore, w_ldc0, w_ldc1, w_ldc_w, w_ldc2_w, w_ifCond_eq, w_ifCond_ne, w_ifCond_lt, w_ifCond_ge, w_ifCond_gt, w_ifCond_le, w_if_icmp_eq, w_if_icmp_ne, w_if_icmp_lt, w_if_icmp_ge, w_if_icmp_gt, w_if_icmp_le, w_goto, w_ireturn, w_areturn, w_return_, w_lreturn, w_freturn, w_dreturn, Int32.reduceOfInt, List.getElem?_cons_succ, List.getElem?_cons_zero, List.set_cons_succ, List.set_cons_zero, Nat.reduceAdd, Nat.reduceLT, Option.some.injEq, and_true, ↓cI_cq, ↓cL_cq, ↓cO_cq, ↓cQ_cq, false_implies, fin0_4, fin1_4, fin2_4, fin3_4, gSet1_0, gSet1_1, gSet1_2, gSet2_0, gSet2_1, gSet2_2, gUp_0, gUp_c, gW1_0, gW1_d, gW1_i, gW1_l, gW1_r, gW1_u, ↓lD_cq, ↓lI_cq, ↓lL_cq, ↓lR_cq, mR, not_false_eq_true, not_true_eq_false, ↓oV_cq, or_true, ↓p1_iq, ↓p1_nq, ↓p1_rq, ↓pD_cq, ↓pF_cq, ↓pI_cq, ↓pL_cq, ↓pN_nq, ↓pN_rq, ↓pR_cq, reduceCtorEq, true_and, true_implies, true_or, ↓lI_at0, ↓lI_at1, ↓lI_at2, ↓lI_at3, ↓lI_at4, ↓lI_at5, ↓lI_at6, ↓lI_at7, ↓lI_at8, ↓lI_at9, ↓lL_at0, ↓lL_at1, ↓lL_at2, ↓lL_at3, ↓lL_at4, ↓lL_at5, ↓lL_at6, ↓lL_at7, ↓lL_at8, ↓lL_at9, ↓lD_at0, ↓lD_at1, ↓lD_at2, ↓lD_at3, ↓lD_at4, ↓lD_at5, ↓lD_at6, ↓lD_at7, ↓lD_at8, ↓lD_at9, ↓lR_at0, ↓lR_at1, ↓lR_at2, ↓lR_at3, ↓lR_at4, ↓lR_at5, ↓lR_at6, ↓lR_at7, ↓lR_at8, ↓lR_at9, ↓oV_at0, ↓oV_at1, ↓oV_at2, ↓oV_at3, ↓oV_at4, ↓oV_at5, ↓oV_at6, ↓oV_at7, ↓oV_at8, ↓oV_at9, ↓oV_at10, ↓oV_at11, ↓oV_at12, ↓oV_at13, ↓oV_at14, ↓oV_at15, ↓oV_at16, ↓oV_at17, ↓oV_at18, ↓oV_at19, ↓oV_at20, ↓oV_at21, ↓oV_at22, ↓oV_at23, ↓oV_at24, ↓oV_at25, ↓oV_at26, ↓oV_at27, ↓oV_at28, ↓oV_at29, ↓oV_at30, ↓oV_at31, ↓oV_at32, ↓oV_at33, ↓oV_at34, ↓oV_at35, ↓oV_at36, ↓oV_at37, ↓oV_at38, ↓oV_at39, ↓gLt_0, ↓gLt_1, ↓gLt_2, ↓gLt_3, ↓gLt_4, ↓gLt_5, ↓gLt_6, ↓gLt_7, ↓gLt_8, ↓gLt_9, ↓gLt_10, ↓gLt_11, ↓gLt_12, ↓gLt_13, ↓gLt_14, ↓gLt_15, ↓gLt_16, ↓gLt_17, ↓gLt_18, ↓gLt_19, ↓gLt_20, ↓gLt_21, ↓gLt_22, ↓gLt_23, ↓gLt_24, ↓gLt_25, ↓gLt_26, ↓gLt_27, ↓gLt_28, ↓gLt_29, ↓gLt_30, ↓gLt_31, ↓gLt_32, ↓gLt_33, ↓gLt_34, ↓gLt_35, ↓gLt_36, ↓gLt_37, ↓gLt_38, ↓gLt_39, hCr_len, ↓hCr_c0, hCr_s0_0, hCr_s0_1, hCr_s0_2, hCr_s0_3, hCr_s0_4, ↓hCr_c1, hCr_s1, ↓hCr_c2, hCr_s2, ↓hCr_c3, hCr_s3, ↓hCr_c4, hCr_s4, ↓hCr_c5, hCr_s5, nIc (show A.length < 1000000 by omega), nIc (show y < 1000000 by omega), hat, r3, c5, c3, nI_1, hen, e, ht]
      rw [hen, e] at hih
      simp (disch := omega) only [nIc, nI_ltI, nI_leI, nI_eq, nI_z, nI_o, ge_iff_le, gt_iff_lt, nI_1, nI_add, pk_mul, vp_in_nI, true_and, and_true, true_implies]
      rw [pk_div hmul hall (by omega), ← hprt, nI_sub (by omega)]
      exact ⟨fun h => absurd h (by omega), fun _ => ⟨by omega, hih⟩⟩
    · have := hQ t' l8 ht' (FiR_c hf' (fun i _ => ?_))
      · rw [sumP, ← Nat.sub_sub] at this
        exact this
      · by_cases hig : i ∈ g
        · simp [hig]
        · by_cases hiy : i = y
          · simp [hiy, hnd]
          · simp [hig, hiy]
theorem bn_0 {os : List Od} {left all x : Nat} : ∀ g, bn os left all x 0 g = 0 := by
  intro g
  induction g with
  | nil => rfl
  | cons y g ih => simp [bn, ih]
theorem bnR_0 {os : List Od} {left all : Nat} : ∀ g, bnR os left all 0 g = 0 := by
  intro g
  induction g with
  | nil => rfl
  | cons y g ih => simp [bnR, ih]
theorem bn_no {os : List Od} {left all x : Nat} : ∀ g r, x ∉ g → bn os left all x r g = 0 := by
  intro g
  induction g with
  | nil => intro r _; rfl
  | cons y g ih =>
    intro r h
    simp only [List.mem_cons, not_or] at h
    rw [bn, if_neg h.1]
    exact ih _ h.2
theorem l1_grpC {os : List Od} {C : CrT} {l B : List Nat} {left all : Nat} {h0 : gH} {Q : Option Value → gH → Prop} {QX : String → gH → Prop} {fr en l5 : Int32} (hC : CrR C os) (hl : LnR C os l) (hen : en = nI (l.length - B.length)) :
    ∀ (g A : List Nat) (r : Nat) (t : List Int32) (f : Nat → Nat) (l8 : Option Value), l = A ++ g ++ B → t.length = 21 → FiR t f os.length → (∀ y ∈ g, f y = prt os left all y) → r < 1000000 →
      (∀ (t' : List Int32), t'.length = 21 → FiR t' (fun j => if j ∈ g then prt os left all j + bn os left all j r g else f j) os.length → Q (some (.int (nI (bnR os left all r g)))) (hCr (crF C t'))) →
      G m1_fillGroup 1 0 0 h0 Q QX 0 0 119 [some (.ref 0), some (.int fr), some (.int en), some (.int (nI left)), some (.int (nI all)), some (.int l5), some (.int (nI r)), some (.int (nI A.length)), l8] [] (hCr (crF C t)) := by
  intro g
  induction g with
  | nil =>
    intro A r t f l8 hlA ht hf hp hr2 hQ
    have e : l.length - B.length = A.length := by rw [hlA]; simp
    have hen' : en = nI A.length := by rw [hen, e]
    subst hen'
    refine wpb_t 3 rfl (by decide) (by decide) _ k1_fillGroup_119 ?_
    simp only [List.take_succ_cons, List.take_zero, w_nil, w_iadd, w_isub, w_imul, w_iand, w_ior, w_ishl, w_ishr, w_idiv, w_irem, w_ladd, w_lsub, w_lmul, w_lcmp, w_fdiv, w_ddiv, w_ineg, w_i2l, w_l2i, w_i2b, w_i2c, w_i2f, w_i2d, w_l2d, w_f2d, w_dcmp, w_iconst, w_bipush, w_sipush, w_lconst, w_fconst, w_dconst, w_iload_n0, w_iload_n1, w_iload_n2, w_iload_n3, w_iload, w_lload_n0, w_lload_n1, w_lload_n2, w_lload_n3, w_lload, w_aload_n0, w_aload_n1, w_aload_n2, w_aload_n3, w_aload, w_dload, w_istore_n0, w_istore_n1, w_istore_n2, w_istore_n3, w_istore, w_lstore_n0, w_lstore_n1, w_lstore_n2, w_lstore_n3, w_lstore, w_astore_n0, w_astore_n1, w_astore_n2, w_astore_n3, w_astore, w_dstore, w_iinc, w_dup, w_pop, w_dup2, w_getfield, w_putfield0, w_putfield1, w_putfield2, w_iaload, w_baload, w_aaload0, w_aaload1, w_iastore, w_bastore, w_aastore, w_ldc0, w_ldc1, w_ldc_w, w_ldc2_w, w_ifCond_eq, w_ifCond_ne, w_ifCond_lt, w_ifCond_ge, w_ifCond_gt, w_ifCond_le, w_if_icmp_eq, w_if_icmp_ne, w_if_icmp_lt, w_if_icmp_ge, w_if_icmp_gt, w_if_icmp_le, w_goto, w_ireturn, w_areturn, w_return_, w_lreturn, w_freturn, w_dreturn, Int32.reduceOfInt, List.getElem?_cons_succ, List.getElem?_cons_zero, List.set_cons_succ, List.set_cons_zero, Nat.reduceAdd, Nat.reduceLT, Option.some.injEq, and_true, ↓cI_cq, ↓cL_cq, ↓cO_cq, ↓cQ_cq, false_implies, fin0_4, fin1_4, fin2_4, fin3_4, gSet1_0, gSet1_1, gSet1_2, gSet2_0, gSet2_1, gSet2_2, gUp_0, gUp_c, gW1_0, gW1_d, gW1_i, gW1_l, gW1_r, gW1_u, ↓lD_cq, ↓lI_cq, ↓lL_cq, ↓lR_cq, mR, not_false_eq_true, not_true_eq_false, ↓oV_cq, or_true, ↓p1_iq, ↓p1_nq, ↓p1_rq, ↓pD_cq, ↓pF_cq, ↓pI_cq, ↓pL_cq, ↓pN_nq, ↓pN_rq, ↓pR_cq, reduceCtorEq, true_and, true_implies, true_or, ↓lI_at0, ↓lI_at1, ↓lI_at2, ↓lI_at3, ↓lI_at4, ↓lI_at5, ↓lI_at6, ↓lI_at7, ↓lI_at8, ↓lI_at9, ↓lL_at0, ↓lL_at1, ↓lL_at2, ↓lL_at3, ↓lL_at4, ↓lL_at5, ↓lL_at6, ↓lL_at7, ↓lL_at8, ↓lL_at9, ↓lD_at0, ↓lD_at1, ↓lD_at2, ↓lD_at3, ↓lD_at4, ↓lD_at5, ↓lD_at6, ↓lD_at7, ↓lD_at8, ↓lD_at9, ↓lR_at0, ↓lR_at1, ↓lR_at2, ↓lR_at3, ↓lR_at4, ↓lR_at5, ↓lR_at6, ↓lR_at7, ↓lR_at8, ↓lR_at9, ↓oV_at0, ↓oV_at1, ↓oV_at2, ↓oV_at3, ↓oV_at4, ↓oV_at5, ↓oV_at6, ↓oV_at7, ↓oV_at8, ↓oV_at9, ↓oV_at10, ↓oV_at11, ↓oV_at12, ↓oV_at13, ↓oV_at14, ↓oV_at15, ↓oV_at16, ↓oV_at17, ↓oV_at18, ↓oV_at19, ↓oV_at20, ↓oV_at21, ↓oV_at22, ↓oV_at23, ↓oV_at24, ↓oV_at25, ↓oV_at26, ↓oV_at27, ↓oV_at28, ↓oV_at29, ↓oV_at30, ↓oV_at31, ↓oV_at32, ↓oV_at33, ↓oV_at34, ↓oV_at35, ↓oV_at36, ↓oV_at37, ↓oV_at38, ↓oV_at39, ↓gLt_0, ↓gLt_1, ↓gLt_2, ↓gLt_3, ↓gLt_4, ↓gLt_5, ↓gLt_6, ↓gLt_7, ↓gLt_8, ↓gLt_9, ↓gLt_10, ↓gLt_11, ↓gLt_12, ↓gLt_13, ↓gLt_14, ↓gLt_15, ↓gLt_16, ↓gLt_17, ↓gLt_18, ↓gLt_19, ↓gLt_20, ↓gLt_21, ↓gLt_22, ↓gLt_23, ↓gLt_24, ↓gLt_25, ↓gLt_26, ↓gLt_27, ↓gLt_28, ↓gLt_29, ↓gLt_30, ↓gLt_31, ↓gLt_32, ↓gLt_33, ↓gLt_34, ↓gLt_35, ↓gLt_36, ↓gLt_37, ↓gLt_38, ↓gLt_39, hCr_len, ↓hCr_c0, hCr_s0_0, hCr_s0_1, hCr_s0_2, hCr_s0_3, hCr_s0_4, ↓hCr_c1, hCr_s1, ↓hCr_c2, hCr_s2, ↓hCr_c3, hCr_s3, ↓hCr_c4, hCr_s4, ↓hCr_c5, hCr_s5]
    refine ⟨fun _ => ?_, fun h => absurd (Int32.le_refl _) h⟩
    refine wpb_s rfl (by decide) (by decide) _ k1_fillGroup_182 ?_
    simp only [w_nil, w_iadd, w_isub, w_imul, w_iand, w_ior, w_ishl, w_ishr, w_idiv, w_irem, w_ladd, w_lsub, w_lmul, w_lcmp, w_fdiv, w_ddiv, w_ineg, w_i2l, w_l2i, w_i2b, w_i2c, w_i2f, w_i2d, w_l2d, w_f2d, w_dcmp, w_iconst, w_bipush, w_sipush, w_lconst, w_fconst, w_dconst, w_iload_n0, w_iload_n1, w_iload_n2, w_iload_n3, w_iload, w_lload_n0, w_lload_n1, w_lload_n2, w_lload_n3, w_lload, w_aload_n0, w_aload_n1, w_aload_n2, w_aload_n3, w_aload, w_dload, w_istore_n0, w_istore_n1, w_istore_n2, w_istore_n3, w_istore, w_lstore_n0, w_lstore_n1, w_lstore_n2, w_lstore_n3, w_lstore, w_astore_n0, w_astore_n1, w_astore_n2, w_astore_n3, w_astore, w_dstore, w_iinc, w_dup, w_pop, w_dup2, w_getfield, w_putfield0, w_putfield1, w_putfield2, w_iaload, w_baload, w_aaload0, w_aaload1, w_iastore, w_bastore, w_aastore, w_ldc0, w_ldc1, w_ldc_w, w_ldc2_w, w_ifCond_eq, w_ifCond_ne, w_ifCond_lt, w_ifCond_ge, w_ifCond_gt, w_ifCond_le, w_if_icmp_eq, w_if_icmp_ne, w_if_icmp_lt, w_if_icmp_ge, w_if_icmp_gt, w_if_icmp_le, w_goto, w_ireturn, w_areturn, w_return_, w_lreturn, w_freturn, w_dreturn, Int32.reduceOfInt, List.getElem?_cons_succ, List.getElem?_cons_zero, List.set_cons_succ, List.set_cons_zero, Nat.reduceAdd, Nat.reduceLT, Option.some.injEq, and_true, ↓cI_cq, ↓cL_cq, ↓cO_cq, ↓cQ_cq, false_implies, fin0_4, fin1_4, fin2_4, fin3_4, gSet1_0, gSet1_1, gSet1_2, gSet2_0, gSet2_1, gSet2_2, gUp_0, gUp_c, gW1_0, gW1_d, gW1_i, gW1_l, gW1_r, gW1_u, ↓lD_cq, ↓lI_cq, ↓lL_cq, ↓lR_cq, mR, not_false_eq_true, not_true_eq_false, ↓oV_cq, or_true, ↓p1_iq, ↓p1_nq, ↓p1_rq, ↓pD_cq, ↓pF_cq, ↓pI_cq, ↓pL_cq, ↓pN_nq, ↓pN_rq, ↓pR_cq, reduceCtorEq, true_and, true_implies, true_or, ↓lI_at0, ↓lI_at1, ↓lI_at2, ↓lI_at3, ↓lI_at4, ↓lI_at5, ↓lI_at6, ↓lI_at7, ↓lI_at8, ↓lI_at9, ↓lL_at0, ↓lL_at1, ↓lL_at2, ↓lL_at3, ↓lL_at4, ↓lL_at5, ↓lL_at6, ↓lL_at7, ↓lL_at8, ↓lL_at9, ↓lD_at0, ↓lD_at1, ↓lD_at2, ↓lD_at3, ↓lD_at4, ↓lD_at5, ↓lD_at6, ↓lD_at7, ↓lD_at8, ↓lD_at9, ↓lR_at0, ↓lR_at1, ↓lR_at2, ↓lR_at3, ↓lR_at4, ↓lR_at5, ↓lR_at6, ↓lR_at7, ↓lR_at8, ↓lR_at9, ↓oV_at0, ↓oV_at1, ↓oV_at2, ↓oV_at3, ↓oV_at4, ↓oV_at5, ↓oV_at6, ↓oV_at7, ↓oV_at8, ↓oV_at9, ↓oV_at10, ↓oV_at11, ↓oV_at12, ↓oV_at13, ↓oV_at14, ↓oV_at15, ↓oV_at16, ↓oV_at17, ↓oV_at18, ↓oV_at19, ↓oV_at20, ↓oV_at21, ↓oV_at22, ↓oV_at23, ↓oV_at24, ↓oV_at25, ↓oV_at26, ↓oV_at27, ↓oV_at28, ↓oV_at29, ↓oV_at30, ↓oV_at31, ↓oV_at32, ↓oV_at33, ↓oV_at34, ↓oV_at35, ↓oV_at36, ↓oV_at37, ↓oV_at38, ↓oV_at39, ↓gLt_0, ↓gLt_1, ↓gLt_2, ↓gLt_3, ↓gLt_4, ↓gLt_5, ↓gLt_6, ↓gLt_7, ↓gLt_8, ↓gLt_9, ↓gLt_10, ↓gLt_11, ↓gLt_12, ↓gLt_13, ↓gLt_14, ↓gLt_15, ↓gLt_16, ↓gLt_17, ↓gLt_18, ↓gLt_19, ↓gLt_20, ↓gLt_21, ↓gLt_22, ↓gLt_23, ↓gLt_24, ↓gLt_25, ↓gLt_26, ↓gLt_27, ↓gLt_28, ↓gLt_29, ↓gLt_30, ↓gLt_31, ↓gLt_32, ↓gLt_33, ↓gLt_34, ↓gLt_35, ↓gLt_36, ↓gLt_37, ↓gLt_38, ↓gLt_39, hCr_len, ↓hCr_c0, hCr_s0_0, hCr_s0_1, hCr_s0_2, hCr_s0_3, hCr_s0_4, ↓hCr_c1, hCr_s1, ↓hCr_c2, hCr_s2, ↓hCr_c3, hCr_s3, ↓hCr_c4, hCr_s4, ↓hCr_c5, hCr_s5]
    exact hQ t ht (FiR_c hf (fun i _ => by simp))
  | cons y g ih =>
    intro A r t f l8 hlA ht hf hp hr2 hQ
    have hy : y < os.length := hl.2.2.1 y (by rw [hlA]; simp)
    obtain ⟨b1, b2, ⟨c1, c2, c3, c4, c5⟩, b3, b4⟩ := id hC
    obtain ⟨o, ho, ⟨r1, r2, r3⟩, o1, o2, o3, o4⟩ := cr_row hC hy
    have hqa : qa os y = oQ o := by rw [qa, oa_s ho]
    have e : l.length - B.length = A.length + 1 + g.length := by rw [hlA]; simp; omega
    have e2 : l.length = A.length + 1 + g.length + B.length := by rw [hlA]; simp; omega
    have e3 := hl.2.1
    have hnd : y ∉ g := by
      have := hl.2.2.2
      rw [hlA, List.append_assoc] at this
      have := (List.nodup_append.mp this).2.1
      exact fun z => (List.nodup_cons.mp this).1 (List.mem_append_left _ z)
    have hat : C.2.2.2.2.2.2.2.2.2.getD A.length 0 = nI y := by
      have := hl.1
      rw [hlA, List.append_assoc] at this
      exact Hd_at this
    have hpl := @prt_le os left all y
    have hfy : t.getD y 0 = nI (prt os left all y) := by rw [hf y hy, hp y List.mem_cons_self]
    have hp' : ∀ z ∈ g, z ≠ y := fun z hz hzy => hnd (hzy ▸ hz)
    -- on to the next one
    have h176 : ∀ (t' : List Int32) (f' : Nat → Nat) (r' : Nat), t'.length = 21 → FiR t' f' os.length → (∀ z ∈ g, f' z = prt os left all z) → r' < 1000000 → (r' = if 0 < r ∧ prt os left all y < qa os y then r - 1 else r) → (f' y = prt os left all y + if 0 < r ∧ prt os left all y < qa os y then 1 else 0) → (∀ j, j ≠ y → f' j = f j) → G m1_fillGroup 1 0 0 h0 Q QX 0 0 176 [some (.ref 0), some (.int fr), some (.int en), some (.int (nI left)), some (.int (nI all)), some (.int l5), some (.int (nI r')), some (.int (nI A.length)), l8] [] (hCr (crF C t')) := by
      intro t' f' r' ht' hf' hp'' hr' hrr hfy' hfj
      refine wpb_s rfl (by decide) (by decide) _ k1_fillGroup_176 ?_
      simp only [w_nil, w_iadd, w_isub, w_imul, w_iand, w_ior, w_ishl, w_ishr, w_idiv, w_irem, w_ladd, w_lsub, w_lmul, w_lcmp, w_fdiv, w_ddiv, w_ineg, w_i2l, w_l2i, w_i2b, w_i2c, w_i2f, w_i2d, w_l2d, w_f2d, w_dcmp, w_iconst, w_bipush, w_sipush, w_lconst, w_fconst, w_dconst, w_iload_n0, w_iload_n1, w_iload_n2, w_iload_n3, w_iload, w_lload_n0, w_lload_n1, w_lload_n2, w_lload_n3, w_lload, w_aload_n0, w_aload_n1, w_aload_n2, w_aload_n3, w_aload, w_dload, w_istore_n0, w_istore_n1, w_istore_n2, w_istore_n3, w_istore, w_lstore_n0, w_lstore_n1, w_lstore_n2, w_lstore_n3, w_lstore, w_astore_n0, w_astore_n1, w_astore_n2, w_astore_n3, w_astore, w_dstore, w_iinc, w_dup, w_pop, w_dup2, w_getfield, w_putfield0, w_putfield1, w_putfield2, w_iaload, w_baload, w_aaload0, w_aaload1, w_iastore, w_bastore, w_aastore, w_ldc0, w_ldc1, w_ldc_w, w_ldc2_w, w_ifCond_eq, w_ifCond_ne, w_ifCond_lt, w_ifCond_ge, w_ifCond_gt, w_ifCond_le, w_if_icmp_eq, w_if_icmp_ne, w_if_icmp_lt, w_if_icmp_ge, w_if_icmp_gt, w_if_icmp_le, w_goto, w_ireturn, w_areturn, w_return_, w_lreturn, w_freturn, w_dreturn, Int32.reduceOfInt, List.getElem?_cons_succ, List.getElem?_cons_zero, List.set_cons_succ, List.set_cons_zero, Nat.reduceAdd, Nat.reduceLT, Option.some.injEq, and_true, ↓cI_cq, ↓cL_cq, ↓cO_cq, ↓cQ_cq, false_implies, fin0_4, fin1_4, fin2_4, fin3_4, gSet1_0, gSet1_1, gSet1_2, gSet2_0, gSet2_1, gSet2_2, gUp_0, gUp_c, gW1_0, gW1_d, gW1_i, gW1_l, gW1_r, gW1_u, ↓lD_cq, ↓lI_cq, ↓lL_cq, ↓lR_cq, mR, not_false_eq_true, not_true_eq_false, ↓oV_cq, or_true, ↓p1_iq, ↓p1_nq, ↓p1_rq, ↓pD_cq, ↓pF_cq, ↓pI_cq, ↓pL_cq, ↓pN_nq, ↓pN_rq, ↓pR_cq, reduceCtorEq, true_and, true_implies, true_or, ↓lI_at0, ↓lI_at1, ↓lI_at2, ↓lI_at3, ↓lI_at4, ↓lI_at5, ↓lI_at6, ↓lI_at7, ↓lI_at8, ↓lI_at9, ↓lL_at0, ↓lL_at1, ↓lL_at2, ↓lL_at3, ↓lL_at4, ↓lL_at5, ↓lL_at6, ↓lL_at7, ↓lL_at8, ↓lL_at9, ↓lD_at0, ↓lD_at1, ↓lD_at2, ↓lD_at3, ↓lD_at4, ↓lD_at5, ↓lD_at6, ↓lD_at7, ↓lD_at8, ↓lD_at9, ↓lR_at0, ↓lR_at1, ↓lR_at2, ↓lR_at3, ↓lR_at4, ↓lR_at5, ↓lR_at6, ↓lR_at7, ↓lR_at8, ↓lR_at9, ↓oV_at0, ↓oV_at1, ↓oV_at2, ↓oV_at3, ↓oV_at4, ↓oV_at5, ↓oV_at6, ↓oV_at7, ↓oV_at8, ↓oV_at9, ↓oV_at10, ↓oV_at11, ↓oV_at12, ↓oV_at13, ↓oV_at14, ↓oV_at15, ↓oV_at16, ↓oV_at17, ↓oV_at18, ↓oV_at19, ↓oV_at20, ↓oV_at21, ↓oV_at22, ↓oV_at23, ↓oV_at24, ↓oV_at25, ↓oV_at26, ↓oV_at27, ↓oV_at28, ↓oV_at29, ↓oV_at30, ↓oV_at31, ↓oV_at32, ↓oV_at33, ↓oV_at34, ↓oV_at35, ↓oV_at36, ↓oV_at37, ↓oV_at38, ↓oV_at39, ↓gLt_0, ↓gLt_1, ↓gLt_2, ↓gLt_3, ↓gLt_4, ↓gLt_5, ↓gLt_6, ↓gLt_7, ↓gLt_8, ↓gLt_9, ↓gLt_10, ↓gLt_11, ↓gLt_12, ↓gLt_13, ↓gLt_14, ↓gLt_15, ↓gLt_16, ↓gLt_17, ↓gLt_18, ↓gLt_19, ↓gLt_20, ↓gLt_21, ↓gLt_22, ↓gLt_23, ↓gLt_24, ↓gLt_25, ↓gLt_26, ↓gLt_27, ↓gLt_28, ↓gLt_29, ↓gLt_30, ↓gLt_31, ↓gLt_32, ↓gLt_33, ↓gLt_34, ↓gLt_35, ↓gLt_36, ↓gLt_37, ↓gLt_38, ↓gLt_39, hCr_len, ↓hCr_c0, hCr_s0_0, hCr_s0_1, hCr_s0_2, hCr_s0_3, hCr_s0_4, ↓hCr_c1, hCr_s1, ↓hCr_c2, hCr_s2, ↓hCr_c3, hCr_s3, ↓hCr_c4, hCr_s4, ↓hCr_c5, hCr_s5, nI_1]
      have := ih (A ++ [y]) r' t' f' l8 (by rw [hlA]; simp) ht' hf' hp'' hr' (fun t2 ht2 hf2 => ?_)
      · rw [show (A ++ [y]).length = A.length + 1 by simp] at this
        exact this
      · rw [hrr] at hf2 ⊢
        have := hQ t2 ht2 (FiR_c hf2 (fun i _ => ?_))
        · rw [bnR] at this
          exact this
        · by_cases hiy : i = y
          · subst hiy
            simp only [hnd, if_false, List.mem_cons_self, if_true, bn]
            exact hfy'
          · by_cases hig : i ∈ g
            · simp only [hig, if_true, List.mem_cons, hiy, false_or, bn, if_false]
            · simp only [hig, if_false, List.mem_cons, hiy, or_self]
              exact hfj i hiy
    obtain ⟨nn, p, v, s, d, sd, li, qu, fi, tu⟩ := C
    simp only at b1 c1 c2 c3 c4 c5 r1 r2 r3 hat
    simp only [crF] at h176 ⊢ hQ
    refine wpb_s rfl (by decide) (by decide) _ k1_fillGroup_119 ?_
    simp only [w_nil, w_iadd, w_isub, w_imul, w_iand, w_ior, w_ishl, w_ishr, w_idiv, w_irem, w_ladd, w_lsub, w_lmul, w_lcmp, w_fdiv, w_ddiv, w_ineg, w_i2l, w_l2i, w_i2b, w_i2c, w_i2f, w_i2d, w_l2d, w_f2d, w_dcmp, w_iconst, w_bipush, w_sipush, w_lconst, w_fconst, w_dconst, w_iload_n0, w_iload_n1, w_iload_n2, w_iload_n3, w_iload, w_lload_n0, w_lload_n1, w_lload_n2, w_lload_n3, w_lload, w_aload_n0, w_aload_n1, w_aload_n2, w_aload_n3, w_aload, w_dload, w_istore_n0, w_istore_n1, w_istore_n2, w_istore_n3, w_istore, w_lstore_n0, w_lstore_n1, w_lstore_n2, w_lstore_n3, w_lstore, w_astore_n0, w_astore_n1, w_astore_n2, w_astore_n3, w_astore, w_dstore, w_iinc, w_dup, w_pop, w_dup2, w_getfield, w_putfield0, w_putfield1, w_putfield2, w_iaload, w_baload, w_aaload0, w_aaload1, w_iastore, w_bastore, w_aastore, w_ldc0, w_ldc1, w_ldc_w, w_ldc2_w, w_ifCond_eq, w_ifCond_ne, w_ifCond_lt, w_ifCond_ge, w_ifCond_gt, w_ifCond_le, w_if_icmp_eq, w_if_icmp_ne, w_if_icmp_lt, w_if_icmp_ge, w_if_icmp_gt, w_if_icmp_le, w_goto, w_ireturn, w_areturn, w_return_, w_lreturn, w_freturn, w_dreturn, Int32.reduceOfInt, List.getElem?_cons_succ, List.getElem?_cons_zero, List.set_cons_succ, List.set_cons_zero, Nat.reduceAdd, Nat.reduceLT, Option.some.injEq, and_true, ↓cI_cq, ↓cL_cq, ↓cO_cq, ↓cQ_cq, false_implies, fin0_4, fin1_4, fin2_4, fin3_4, gSet1_0, gSet1_1, gSet1_2, gSet2_0, gSet2_1, gSet2_2, gUp_0, gUp_c, gW1_0, gW1_d, gW1_i, gW1_l, gW1_r, gW1_u, ↓lD_cq, ↓lI_cq, ↓lL_cq, ↓lR_cq, mR, not_false_eq_true, not_true_eq_false, ↓oV_cq, or_true, ↓p1_iq, ↓p1_nq, ↓p1_rq, ↓pD_cq, ↓pF_cq, ↓pI_cq, ↓pL_cq, ↓pN_nq, ↓pN_rq, ↓pR_cq, reduceCtorEq, true_and, true_implies, true_or, ↓lI_at0, ↓lI_at1, ↓lI_at2, ↓lI_at3, ↓lI_at4, ↓lI_at5, ↓lI_at6, ↓lI_at7, ↓lI_at8, ↓lI_at9, ↓lL_at0, ↓lL_at1, ↓lL_at2, ↓lL_at3, ↓lL_at4, ↓lL_at5, ↓lL_at6, ↓lL_at7, ↓lL_at8, ↓lL_at9, ↓lD_at0, ↓lD_at1, ↓lD_at2, ↓lD_at3, ↓lD_at4, ↓lD_at5, ↓lD_at6, ↓lD_at7, ↓lD_at8, ↓lD_at9, ↓lR_at0, ↓lR_at1, ↓lR_at2, ↓lR_at3, ↓lR_at4, ↓lR_at5, ↓lR_at6, ↓lR_at7, ↓lR_at8, ↓lR_at9, ↓oV_at0, ↓oV_at1, ↓oV_at2, ↓oV_at3, ↓oV_at4, ↓oV_at5, ↓oV_at6, ↓oV_at7, ↓oV_at8, ↓oV_at9, ↓oV_at10, ↓oV_at11, ↓oV_at12, ↓oV_at13, ↓oV_at14, ↓oV_at15, ↓oV_at16, ↓oV_at17, ↓oV_at18, ↓oV_at19, ↓oV_at20, ↓oV_at21, ↓oV_at22, ↓oV_at23, ↓oV_at24, ↓oV_at25, ↓oV_at26, ↓oV_at27, ↓oV_at28, ↓oV_at29, ↓oV_at30, ↓oV_at31, ↓oV_at32, ↓oV_at33, ↓oV_at34, ↓oV_at35, ↓oV_at36, ↓oV_at37, ↓oV_at38, ↓oV_at39, ↓gLt_0, ↓gLt_1, ↓gLt_2, ↓gLt_3, ↓gLt_4, ↓gLt_5, ↓gLt_6, ↓gLt_7, ↓gLt_8, ↓gLt_9, ↓gLt_10, ↓gLt_11, ↓gLt_12, ↓gLt_13, ↓gLt_14, ↓gLt_15, ↓gLt_16, ↓gLt_17, ↓gLt_18, ↓gLt_19, ↓gLt_20, ↓gLt_21, ↓gLt_22, ↓gLt_23, ↓gLt_24, ↓gLt_25, ↓gLt_26, ↓gLt_27, ↓gLt_28, ↓gLt_29, ↓gLt_30, ↓gLt_31, ↓gLt_32, ↓gLt_33, ↓gLt_34, ↓gLt_35, ↓gLt_36, ↓gLt_37, ↓gLt_38, ↓gLt_39, hCr_len, ↓hCr_c0, hCr_s0_0, hCr_s0_1, hCr_s0_2, hCr_s0_3, hCr_s0_4, ↓hCr_c1, hCr_s1, ↓hCr_c2, hCr_s2, ↓hCr_c3, hCr_s3, ↓hCr_c4, hCr_s4, ↓hCr_c5, hCr_s5, nIc (show A.length < 1000000 by omega), nIc (show y < 1000000 by omega), hat, r3, c5, c3, nI_1, hen, e, ht, hfy]
    rw [hen, e] at h176
    simp (disch := omega) only [nI_le0, nI_gt0, nI_ge0, nIc, nI_ltI, nI_leI, nI_eq, nI_z, nI_o, ge_iff_le, gt_iff_lt, nI_1, nI_add, pk_mul, vp_in_nI, true_and, and_true, true_implies, false_implies, not_false_eq_true]
    refine ⟨fun h => absurd h (by omega), fun _ => ⟨fun h => ?_, fun h => ⟨fun h' => ?_, fun h' => ?_⟩⟩⟩
    · subst h
      refine wpb_s rfl (by decide) (by decide) _ k1_fillGroup_182 ?_
      simp only [w_nil, w_iadd, w_isub, w_imul, w_iand, w_ior, w_ishl, w_ishr, w_idiv, w_irem, w_ladd, w_lsub, w_lmul, w_lcmp, w_fdiv, w_ddiv, w_ineg, w_i2l, w_l2i, w_i2b, w_i2c, w_i2f, w_i2d, w_l2d, w_f2d, w_dcmp, w_iconst, w_bipush, w_sipush, w_lconst, w_fconst, w_dconst, w_iload_n0, w_iload_n1, w_iload_n2, w_iload_n3, w_iload, w_lload_n0, w_lload_n1, w_lload_n2, w_lload_n3, w_lload, w_aload_n0, w_aload_n1, w_aload_n2, w_aload_n3, w_aload, w_dload, w_istore_n0, w_istore_n1, w_istore_n2, w_istore_n3, w_istore, w_lstore_n0, w_lstore_n1, w_lstore_n2, w_lstore_n3, w_lstore, w_astore_n0, w_astore_n1, w_astore_n2, w_astore_n3, w_astore, w_dstore, w_iinc, w_dup, w_pop, w_dup2, w_getfield, w_putfield0, w_putfield1, w_putfield2, w_iaload, w_baload, w_aaload0, w_aaload1, w_iastore, w_bastore, w_aastore, w_ldc0, w_ldc1, w_ldc_w, w_ldc2_w, w_ifCond_eq, w_ifCond_ne, w_ifCond_lt, w_ifCond_ge, w_ifCond_gt, w_ifCond_le, w_if_icmp_eq, w_if_icmp_ne, w_if_icmp_lt, w_if_icmp_ge, w_if_icmp_gt, w_if_icmp_le, w_goto, w_ireturn, w_areturn, w_return_, w_lreturn, w_freturn, w_dreturn, Int32.reduceOfInt, List.getElem?_cons_succ, List.getElem?_cons_zero, List.set_cons_succ, List.set_cons_zero, Nat.reduceAdd, Nat.reduceLT, Option.some.injEq, and_true, ↓cI_cq, ↓cL_cq, ↓cO_cq, ↓cQ_cq, false_implies, fin0_4, fin1_4, fin2_4, fin3_4, gSet1_0, gSet1_1, gSet1_2, gSet2_0, gSet2_1, gSet2_2, gUp_0, gUp_c, gW1_0, gW1_d, gW1_i, gW1_l, gW1_r, gW1_u, ↓lD_cq, ↓lI_cq, ↓lL_cq, ↓lR_cq, mR, not_false_eq_true, not_true_eq_false, ↓oV_cq, or_true, ↓p1_iq, ↓p1_nq, ↓p1_rq, ↓pD_cq, ↓pF_cq, ↓pI_cq, ↓pL_cq, ↓pN_nq, ↓pN_rq, ↓pR_cq, reduceCtorEq, true_and, true_implies, true_or, ↓lI_at0, ↓lI_at1, ↓lI_at2, ↓lI_at3, ↓lI_at4, ↓lI_at5, ↓lI_at6, ↓lI_at7, ↓lI_at8, ↓lI_at9, ↓lL_at0, ↓lL_at1, ↓lL_at2, ↓lL_at3, ↓lL_at4, ↓lL_at5, ↓lL_at6, ↓lL_at7, ↓lL_at8, ↓lL_at9, ↓lD_at0, ↓lD_at1, ↓lD_at2, ↓lD_at3, ↓lD_at4, ↓lD_at5, ↓lD_at6, ↓lD_at7, ↓lD_at8, ↓lD_at9, ↓lR_at0, ↓lR_at1, ↓lR_at2, ↓lR_at3, ↓lR_at4, ↓lR_at5, ↓lR_at6, ↓lR_at7, ↓lR_at8, ↓lR_at9, ↓oV_at0, ↓oV_at1, ↓oV_at2, ↓oV_at3, ↓oV_at4, ↓oV_at5, ↓oV_at6, ↓oV_at7, ↓oV_at8, ↓oV_at9, ↓oV_at10, ↓oV_at11, ↓oV_at12, ↓oV_at13, ↓oV_at14, ↓oV_at15, ↓oV_at16, ↓oV_at17, ↓oV_at18, ↓oV_at19, ↓oV_at20, ↓oV_at21, ↓oV_at22, ↓oV_at23, ↓oV_at24, ↓oV_at25, ↓oV_at26, ↓oV_at27, ↓oV_at28, ↓oV_at29, ↓oV_at30, ↓oV_at31, ↓oV_at32, ↓oV_at33, ↓oV_at34, ↓oV_at35, ↓oV_at36, ↓oV_at37, ↓oV_at38, ↓oV_at39, ↓gLt_0, ↓gLt_1, ↓gLt_2, ↓gLt_3, ↓gLt_4, ↓gLt_5, ↓gLt_6, ↓gLt_7, ↓gLt_8, ↓gLt_9, ↓gLt_10, ↓gLt_11, ↓gLt_12, ↓gLt_13, ↓gLt_14, ↓gLt_15, ↓gLt_16, ↓gLt_17, ↓gLt_18, ↓gLt_19, ↓gLt_20, ↓gLt_21, ↓gLt_22, ↓gLt_23, ↓gLt_24, ↓gLt_25, ↓gLt_26, ↓gLt_27, ↓gLt_28, ↓gLt_29, ↓gLt_30, ↓gLt_31, ↓gLt_32, ↓gLt_33, ↓gLt_34, ↓gLt_35, ↓gLt_36, ↓gLt_37, ↓gLt_38, ↓gLt_39, hCr_len, ↓hCr_c0, hCr_s0_0, hCr_s0_1, hCr_s0_2, hCr_s0_3, hCr_s0_4, ↓hCr_c1, hCr_s1, ↓hCr_c2, hCr_s2, ↓hCr_c3, hCr_s3, ↓hCr_c4, hCr_s4, ↓hCr_c5, hCr_s5]
      have := hQ t ht (FiR_c hf (fun i _ => ?_))
      · rw [bnR_0] at this; exact this
      · rw [bn_0]
        by_cases hi : i ∈ y :: g
        · rw [if_pos hi, hp i hi]; rfl
        · rw [if_neg hi]
    · exact h176 t f r ht hf (fun z hz => hp z (List.mem_cons_of_mem _ hz)) hr2 (by rw [if_neg (by omega)]) (by rw [if_neg (by omega), hp y List.mem_cons_self]; rfl) (fun j _ => rfl)
    · obtain ⟨r', rfl⟩ : ∃ r', r = r' + 1 := ⟨r - 1, by omega⟩
      rw [nI_m1]
      exact h176 _ _ r' (by simpa using ht) (FiR_s hf (by omega)) (fun z hz => by rw [if_neg (hp' z hz)]; exact hp z (List.mem_cons_of_mem _ hz)) (by omega) (by rw [if_pos (by omega)]; rfl) (by rw [if_pos rfl, if_pos (by omega)]) (fun j hj => by rw [if_neg hj])
end CX10
