section LAWL
set_option maxRecDepth 100000
/-! ### the law's loop -/
theorem dSW : decode cL_law 40 = .ok (.tableswitch 3019 0 63 #[272, 376, 432, 445, 458, 471, 484, 497, 510, 523, 536, 549, 605, 661, 717, 773, 786, 842, 898, 954, 1010, 1066, 1122, 1178, 1234, 1290, 1346, 1402, 1415, 1428, 1441, 1454, 1467, 1523, 1536, 1592, 1648, 1704, 1784, 1864, 1920, 1976, 2068, 2124, 2180, 2193, 2206, 2219, 2232, 2245, 2258, 2301, 2342, 2446, 2502, 2558, 2614, 2682, 2695, 2751, 2807, 2863, 2907, 2963], 272) := by decide +kernel
theorem and63 (x : Int32) : ∃ k, k < 64 ∧ x &&& 63 = nI k := by
  refine ⟨x.toBitVec.toNat % 64, Nat.mod_lt _ (by decide), ?_⟩
  apply Int32.toBitVec_inj.mp
  apply BitVec.eq_of_toNat_eq
  have e1 : (x &&& 63).toBitVec.toNat = x.toBitVec.toNat &&& 63 := by
    rw [Int32.toBitVec_and, BitVec.toNat_and]; rfl
  have e2 : (nI (x.toBitVec.toNat % 64)).toBitVec.toNat = x.toBitVec.toNat % 64 := by
    show (Int32.ofNat _).toBitVec.toNat = _
    rw [Int32.toBitVec_ofNat', BitVec.toNat_ofNat]
    have := Nat.mod_lt x.toBitVec.toNat (show 64 > 0 by decide)
    exact Nat.mod_eq_of_lt (by omega)
  rw [e1, e2]
  exact Nat.and_two_pow_sub_one_eq_mod _ 6
theorem six_j (j : Nat) : nI (6 * j) + 6 = nI (6 * (j + 1)) := by
  show Int32.ofNat _ + Int32.ofNat 6 = Int32.ofNat _
  rw [← Int32.ofNat_add]; rfl
theorem lt_loop {L j : Nat} (hL : L ≤ 3072) (hj : 6 * j ≤ 4000) : (Int32.ofNat L - 6 < nI (6 * j)) ↔ L < 6 * j + 6 := by
  rw [Int32.lt_iff_toInt_lt, nI_ti (by omega), Int32.toInt_sub, show (Int32.ofNat L).toInt = (L : Int) from nI_ti (by omega), show (6 : Int32).toInt = 6 from rfl, Int.bmod_eq_of_le (by omega) (by omega)]
  omega
theorem l_loop {b L : Nat} {xs : Nat → Int32} {mc ms : Nat} {h0 : gH} {QX : String → gH → Prop} (hL : L ≤ 3072) : ∀ (r j c n : Nat) (X : NsT) (S : MoT) (z : Int64) (V : VwT) (e5 e6 e7 e8 : Option Value), L < 6 * j + 6 * r + 6 → 6 * j ≤ L → c + 25 * r ≤ mc → n + 250 * r ≤ ms → (okE e5 && (okE e6 && (okE e7 && okE e8))) = true → NR X V → MSt S V → InV V (601 + j) →
    G (mL_law (some (b, L, xs))) 14 mc ms h0 Qw QX c n 23 [some (.ref 2000), some (.ref 0), some (.ref 174), some (.ref 184), some (.int (nI (6 * j))), e5, e6, e7, e8] [] (hX X S z) := by
  intro r
  induction r with
  | zero =>
    intro j c n X S z V e5 e6 e7 e8 hr hj hc hn he hR hS hV
    have hlt : (Int32.ofNat L - 6 < nI (6 * j)) = True := eq_true ((lt_loop hL (by omega)).mpr (by omega))
    refine wpb_s rfl (by omega) (by omega) _ (gAt_sc _ _ _ k0L_law_23) ?_
    simp only [w_nil, w_iadd, w_isub, w_imul, w_iand, w_ior, w_ishl, w_ishr, w_idiv, w_irem, w_ladd, w_lsub, w_lmul, w_lcmp, w_fdiv, w_ddiv, w_ineg, w_i2l, w_l2i, w_i2b, w_i2c, w_i2f, w_i2d, w_l2d, w_f2d, w_dcmp, w_iconst, w_bipush, w_sipush, w_lconst, w_fconst, w_dconst, w_iload_n0, w_iload_n1, w_iload_n2, w_iload_n3, w_iload, w_lload_n0, w_lload_n1, w_lload_n2, w_lload_n3, w_lload, w_aload_n0, w_aload_n1, w_aload_n2, w_aload_n3, w_aload, w_dload, w_istore_n0, w_istore_n1, w_istore_n2, w_istore_n3, w_istore, w_lstore_n0, w_lstore_n1, w_lstore_n2, w_lstore_n3, w_lstore, w_astore_n0, w_astore_n1, w_astore_n2, w_astore_n3, w_astore, w_dstore, w_iinc, w_dup, w_pop, w_dup2, w_getfield, w_putfield0, w_putfield1, w_putfield2, w_iaload, w_baload, w_laload, w_aaload, w_iastore, w_bastore, w_lastore, w_aastore, w_ldc0, w_ldc1, w_ldc_w, w_ldc2_w, w_ifCond_eq, w_ifCond_ne, w_ifCond_lt, w_ifCond_ge, w_ifCond_gt, w_ifCond_le, w_if_icmp_eq, w_if_icmp_ne, w_if_icmp_lt, w_if_icmp_ge, w_if_icmp_gt, w_if_icmp_le, w_goto, w_ireturn, w_return_, w_lreturn, w_freturn, w_dreturn, Int32.reduceOfInt, List.getElem?_cons_succ, List.getElem?_cons_zero, List.set_cons_succ, List.set_cons_zero, Nat.reduceAdd, Nat.reduceLT, Option.some.injEq, and_true, ↓cI_cq, ↓cL_cq, ↓cO_cq, ↓cQ_cq, false_implies, fin0_4, fin1_4, fin2_4, fin3_4, gSet1_0, gSet1_1, gSet1_2, gSet2_0, gSet2_1, gSet2_2, gUp_0, gUp_c, gW1_0, gW1_d, gW1_i, gW1_l, gW1_r, gW1_u, ↓lD_cq, ↓lI_cq, ↓lL_cq, ↓lR_cq, mR, not_false_eq_true, not_true_eq_false, ↓oV_cq, or_true, ↓p1_iq, ↓p1_nq, ↓p1_rq, ↓pD_cq, ↓pF_cq, ↓pI_cq, ↓pL_cq, ↓pN_nq, ↓pN_rq, ↓pR_cq, reduceCtorEq, true_and, true_implies, true_or, ↓lI_at0, ↓lI_at1, ↓lI_at2, ↓lI_at3, ↓lI_at4, ↓lI_at5, ↓lI_at6, ↓lI_at7, ↓lI_at8, ↓lI_at9, ↓lL_at0, ↓lL_at1, ↓lL_at2, ↓lL_at3, ↓lL_at4, ↓lL_at5, ↓lL_at6, ↓lL_at7, ↓lL_at8, ↓lL_at9, ↓lD_at0, ↓lD_at1, ↓lD_at2, ↓lD_at3, ↓lD_at4, ↓lD_at5, ↓lD_at6, ↓lD_at7, ↓lD_at8, ↓lD_at9, ↓lR_at0, ↓lR_at1, ↓lR_at2, ↓lR_at3, ↓lR_at4, ↓lR_at5, ↓lR_at6, ↓lR_at7, ↓lR_at8, ↓lR_at9, ↓oV_at0, ↓oV_at1, ↓oV_at2, ↓oV_at3, ↓oV_at4, ↓oV_at5, ↓oV_at6, ↓oV_at7, ↓oV_at8, ↓oV_at9, ↓oV_at10, ↓oV_at11, ↓oV_at12, ↓oV_at13, ↓oV_at14, ↓oV_at15, ↓oV_at16, ↓oV_at17, ↓oV_at18, ↓oV_at19, ↓oV_at20, ↓oV_at21, ↓oV_at22, ↓oV_at23, ↓oV_at24, ↓oV_at25, ↓oV_at26, ↓oV_at27, ↓oV_at28, ↓oV_at29, ↓oV_at30, ↓oV_at31, ↓oV_at32, ↓oV_at33, ↓oV_at34, ↓oV_at35, ↓oV_at36, ↓oV_at37, ↓oV_at38, ↓oV_at39, ↓gLt_0, ↓gLt_1, ↓gLt_2, ↓gLt_3, ↓gLt_4, ↓gLt_5, ↓gLt_6, ↓gLt_7, ↓gLt_8, ↓gLt_9, ↓gLt_10, ↓gLt_11, ↓gLt_12, ↓gLt_13, ↓gLt_14, ↓gLt_15, ↓gLt_16, ↓gLt_17, ↓gLt_18, ↓gLt_19, ↓gLt_20, ↓gLt_21, ↓gLt_22, ↓gLt_23, ↓gLt_24, ↓gLt_25, ↓gLt_26, ↓gLt_27, ↓gLt_28, ↓gLt_29, ↓gLt_30, ↓gLt_31, ↓gLt_32, ↓gLt_33, ↓gLt_34, ↓gLt_35, ↓gLt_36, ↓gLt_37, ↓gLt_38, ↓gLt_39, hX_len, ↓hX_oc, eq_self]
    refine g_slen (show decode cL_law 26 = _ from by decide +kernel) rfl ?_
    refine wpb_s rfl (by omega) (by omega) _ (gAt_sc _ _ _ k0L_law_27) ?_
    simp only [w_nil, w_iadd, w_isub, w_imul, w_iand, w_ior, w_ishl, w_ishr, w_idiv, w_irem, w_ladd, w_lsub, w_lmul, w_lcmp, w_fdiv, w_ddiv, w_ineg, w_i2l, w_l2i, w_i2b, w_i2c, w_i2f, w_i2d, w_l2d, w_f2d, w_dcmp, w_iconst, w_bipush, w_sipush, w_lconst, w_fconst, w_dconst, w_iload_n0, w_iload_n1, w_iload_n2, w_iload_n3, w_iload, w_lload_n0, w_lload_n1, w_lload_n2, w_lload_n3, w_lload, w_aload_n0, w_aload_n1, w_aload_n2, w_aload_n3, w_aload, w_dload, w_istore_n0, w_istore_n1, w_istore_n2, w_istore_n3, w_istore, w_lstore_n0, w_lstore_n1, w_lstore_n2, w_lstore_n3, w_lstore, w_astore_n0, w_astore_n1, w_astore_n2, w_astore_n3, w_astore, w_dstore, w_iinc, w_dup, w_pop, w_dup2, w_getfield, w_putfield0, w_putfield1, w_putfield2, w_iaload, w_baload, w_laload, w_aaload, w_iastore, w_bastore, w_lastore, w_aastore, w_ldc0, w_ldc1, w_ldc_w, w_ldc2_w, w_ifCond_eq, w_ifCond_ne, w_ifCond_lt, w_ifCond_ge, w_ifCond_gt, w_ifCond_le, w_if_icmp_eq, w_if_icmp_ne, w_if_icmp_lt, w_if_icmp_ge, w_if_icmp_gt, w_if_icmp_le, w_goto, w_ireturn, w_return_, w_lreturn, w_freturn, w_dreturn, Int32.reduceOfInt, List.getElem?_cons_succ, List.getElem?_cons_zero, List.set_cons_succ, List.set_cons_zero, Nat.reduceAdd, Nat.reduceLT, Option.some.injEq, and_true, ↓cI_cq, ↓cL_cq, ↓cO_cq, ↓cQ_cq, false_implies, fin0_4, fin1_4, fin2_4, fin3_4, gSet1_0, gSet1_1, gSet1_2, gSet2_0, gSet2_1, gSet2_2, gUp_0, gUp_c, gW1_0, gW1_d, gW1_i, gW1_l, gW1_r, gW1_u, ↓lD_cq, ↓lI_cq, ↓lL_cq, ↓lR_cq, mR, not_false_eq_true, not_true_eq_false, ↓oV_cq, or_true, ↓p1_iq, ↓p1_nq, ↓p1_rq, ↓pD_cq, ↓pF_cq, ↓pI_cq, ↓pL_cq, ↓pN_nq, ↓pN_rq, ↓pR_cq, reduceCtorEq, true_and, true_implies, true_or, ↓lI_at0, ↓lI_at1, ↓lI_at2, ↓lI_at3, ↓lI_at4, ↓lI_at5, ↓lI_at6, ↓lI_at7, ↓lI_at8, ↓lI_at9, ↓lL_at0, ↓lL_at1, ↓lL_at2, ↓lL_at3, ↓lL_at4, ↓lL_at5, ↓lL_at6, ↓lL_at7, ↓lL_at8, ↓lL_at9, ↓lD_at0, ↓lD_at1, ↓lD_at2, ↓lD_at3, ↓lD_at4, ↓lD_at5, ↓lD_at6, ↓lD_at7, ↓lD_at8, ↓lD_at9, ↓lR_at0, ↓lR_at1, ↓lR_at2, ↓lR_at3, ↓lR_at4, ↓lR_at5, ↓lR_at6, ↓lR_at7, ↓lR_at8, ↓lR_at9, ↓oV_at0, ↓oV_at1, ↓oV_at2, ↓oV_at3, ↓oV_at4, ↓oV_at5, ↓oV_at6, ↓oV_at7, ↓oV_at8, ↓oV_at9, ↓oV_at10, ↓oV_at11, ↓oV_at12, ↓oV_at13, ↓oV_at14, ↓oV_at15, ↓oV_at16, ↓oV_at17, ↓oV_at18, ↓oV_at19, ↓oV_at20, ↓oV_at21, ↓oV_at22, ↓oV_at23, ↓oV_at24, ↓oV_at25, ↓oV_at26, ↓oV_at27, ↓oV_at28, ↓oV_at29, ↓oV_at30, ↓oV_at31, ↓oV_at32, ↓oV_at33, ↓oV_at34, ↓oV_at35, ↓oV_at36, ↓oV_at37, ↓oV_at38, ↓oV_at39, ↓gLt_0, ↓gLt_1, ↓gLt_2, ↓gLt_3, ↓gLt_4, ↓gLt_5, ↓gLt_6, ↓gLt_7, ↓gLt_8, ↓gLt_9, ↓gLt_10, ↓gLt_11, ↓gLt_12, ↓gLt_13, ↓gLt_14, ↓gLt_15, ↓gLt_16, ↓gLt_17, ↓gLt_18, ↓gLt_19, ↓gLt_20, ↓gLt_21, ↓gLt_22, ↓gLt_23, ↓gLt_24, ↓gLt_25, ↓gLt_26, ↓gLt_27, ↓gLt_28, ↓gLt_29, ↓gLt_30, ↓gLt_31, ↓gLt_32, ↓gLt_33, ↓gLt_34, ↓gLt_35, ↓gLt_36, ↓gLt_37, ↓gLt_38, ↓gLt_39, hX_len, ↓hX_oc, eq_self, hlt]
    refine wpb_s rfl (by omega) (by omega) _ (gAt_sc _ _ _ k0L_law_3065) ?_
    simp only [w_nil, w_iadd, w_isub, w_imul, w_iand, w_ior, w_ishl, w_ishr, w_idiv, w_irem, w_ladd, w_lsub, w_lmul, w_lcmp, w_fdiv, w_ddiv, w_ineg, w_i2l, w_l2i, w_i2b, w_i2c, w_i2f, w_i2d, w_l2d, w_f2d, w_dcmp, w_iconst, w_bipush, w_sipush, w_lconst, w_fconst, w_dconst, w_iload_n0, w_iload_n1, w_iload_n2, w_iload_n3, w_iload, w_lload_n0, w_lload_n1, w_lload_n2, w_lload_n3, w_lload, w_aload_n0, w_aload_n1, w_aload_n2, w_aload_n3, w_aload, w_dload, w_istore_n0, w_istore_n1, w_istore_n2, w_istore_n3, w_istore, w_lstore_n0, w_lstore_n1, w_lstore_n2, w_lstore_n3, w_lstore, w_astore_n0, w_astore_n1, w_astore_n2, w_astore_n3, w_astore, w_dstore, w_iinc, w_dup, w_pop, w_dup2, w_getfield, w_putfield0, w_putfield1, w_putfield2, w_iaload, w_baload, w_laload, w_aaload, w_iastore, w_bastore, w_lastore, w_aastore, w_ldc0, w_ldc1, w_ldc_w, w_ldc2_w, w_ifCond_eq, w_ifCond_ne, w_ifCond_lt, w_ifCond_ge, w_ifCond_gt, w_ifCond_le, w_if_icmp_eq, w_if_icmp_ne, w_if_icmp_lt, w_if_icmp_ge, w_if_icmp_gt, w_if_icmp_le, w_goto, w_ireturn, w_return_, w_lreturn, w_freturn, w_dreturn, Int32.reduceOfInt, List.getElem?_cons_succ, List.getElem?_cons_zero, List.set_cons_succ, List.set_cons_zero, Nat.reduceAdd, Nat.reduceLT, Option.some.injEq, and_true, ↓cI_cq, ↓cL_cq, ↓cO_cq, ↓cQ_cq, false_implies, fin0_4, fin1_4, fin2_4, fin3_4, gSet1_0, gSet1_1, gSet1_2, gSet2_0, gSet2_1, gSet2_2, gUp_0, gUp_c, gW1_0, gW1_d, gW1_i, gW1_l, gW1_r, gW1_u, ↓lD_cq, ↓lI_cq, ↓lL_cq, ↓lR_cq, mR, not_false_eq_true, not_true_eq_false, ↓oV_cq, or_true, ↓p1_iq, ↓p1_nq, ↓p1_rq, ↓pD_cq, ↓pF_cq, ↓pI_cq, ↓pL_cq, ↓pN_nq, ↓pN_rq, ↓pR_cq, reduceCtorEq, true_and, true_implies, true_or, ↓lI_at0, ↓lI_at1, ↓lI_at2, ↓lI_at3, ↓lI_at4, ↓lI_at5, ↓lI_at6, ↓lI_at7, ↓lI_at8, ↓lI_at9, ↓lL_at0, ↓lL_at1, ↓lL_at2, ↓lL_at3, ↓lL_at4, ↓lL_at5, ↓lL_at6, ↓lL_at7, ↓lL_at8, ↓lL_at9, ↓lD_at0, ↓lD_at1, ↓lD_at2, ↓lD_at3, ↓lD_at4, ↓lD_at5, ↓lD_at6, ↓lD_at7, ↓lD_at8, ↓lD_at9, ↓lR_at0, ↓lR_at1, ↓lR_at2, ↓lR_at3, ↓lR_at4, ↓lR_at5, ↓lR_at6, ↓lR_at7, ↓lR_at8, ↓lR_at9, ↓oV_at0, ↓oV_at1, ↓oV_at2, ↓oV_at3, ↓oV_at4, ↓oV_at5, ↓oV_at6, ↓oV_at7, ↓oV_at8, ↓oV_at9, ↓oV_at10, ↓oV_at11, ↓oV_at12, ↓oV_at13, ↓oV_at14, ↓oV_at15, ↓oV_at16, ↓oV_at17, ↓oV_at18, ↓oV_at19, ↓oV_at20, ↓oV_at21, ↓oV_at22, ↓oV_at23, ↓oV_at24, ↓oV_at25, ↓oV_at26, ↓oV_at27, ↓oV_at28, ↓oV_at29, ↓oV_at30, ↓oV_at31, ↓oV_at32, ↓oV_at33, ↓oV_at34, ↓oV_at35, ↓oV_at36, ↓oV_at37, ↓oV_at38, ↓oV_at39, ↓gLt_0, ↓gLt_1, ↓gLt_2, ↓gLt_3, ↓gLt_4, ↓gLt_5, ↓gLt_6, ↓gLt_7, ↓gLt_8, ↓gLt_9, ↓gLt_10, ↓gLt_11, ↓gLt_12, ↓gLt_13, ↓gLt_14, ↓gLt_15, ↓gLt_16, ↓gLt_17, ↓gLt_18, ↓gLt_19, ↓gLt_20, ↓gLt_21, ↓gLt_22, ↓gLt_23, ↓gLt_24, ↓gLt_25, ↓gLt_26, ↓gLt_27, ↓gLt_28, ↓gLt_29, ↓gLt_30, ↓gLt_31, ↓gLt_32, ↓gLt_33, ↓gLt_34, ↓gLt_35, ↓gLt_36, ↓gLt_37, ↓gLt_38, ↓gLt_39, hX_len, ↓hX_oc, eq_self]
    exact rfl
  | succ r ih =>
    intro j c n X S z V e5 e6 e7 e8 hr hj hc hn he hR hS hV
    refine wpb_s rfl (by omega) (by omega) _ (gAt_sc _ _ _ k0L_law_23) ?_
    simp only [w_nil, w_iadd, w_isub, w_imul, w_iand, w_ior, w_ishl, w_ishr, w_idiv, w_irem, w_ladd, w_lsub, w_lmul, w_lcmp, w_fdiv, w_ddiv, w_ineg, w_i2l, w_l2i, w_i2b, w_i2c, w_i2f, w_i2d, w_l2d, w_f2d, w_dcmp, w_iconst, w_bipush, w_sipush, w_lconst, w_fconst, w_dconst, w_iload_n0, w_iload_n1, w_iload_n2, w_iload_n3, w_iload, w_lload_n0, w_lload_n1, w_lload_n2, w_lload_n3, w_lload, w_aload_n0, w_aload_n1, w_aload_n2, w_aload_n3, w_aload, w_dload, w_istore_n0, w_istore_n1, w_istore_n2, w_istore_n3, w_istore, w_lstore_n0, w_lstore_n1, w_lstore_n2, w_lstore_n3, w_lstore, w_astore_n0, w_astore_n1, w_astore_n2, w_astore_n3, w_astore, w_dstore, w_iinc, w_dup, w_pop, w_dup2, w_getfield, w_putfield0, w_putfield1, w_putfield2, w_iaload, w_baload, w_laload, w_aaload, w_iastore, w_bastore, w_lastore, w_aastore, w_ldc0, w_ldc1, w_ldc_w, w_ldc2_w, w_ifCond_eq, w_ifCond_ne, w_ifCond_lt, w_ifCond_ge, w_ifCond_gt, w_ifCond_le, w_if_icmp_eq, w_if_icmp_ne, w_if_icmp_lt, w_if_icmp_ge, w_if_icmp_gt, w_if_icmp_le, w_goto, w_ireturn, w_return_, w_lreturn, w_freturn, w_dreturn, Int32.reduceOfInt, List.getElem?_cons_succ, List.getElem?_cons_zero, List.set_cons_succ, List.set_cons_zero, Nat.reduceAdd, Nat.reduceLT, Option.some.injEq, and_true, ↓cI_cq, ↓cL_cq, ↓cO_cq, ↓cQ_cq, false_implies, fin0_4, fin1_4, fin2_4, fin3_4, gSet1_0, gSet1_1, gSet1_2, gSet2_0, gSet2_1, gSet2_2, gUp_0, gUp_c, gW1_0, gW1_d, gW1_i, gW1_l, gW1_r, gW1_u, ↓lD_cq, ↓lI_cq, ↓lL_cq, ↓lR_cq, mR, not_false_eq_true, not_true_eq_false, ↓oV_cq, or_true, ↓p1_iq, ↓p1_nq, ↓p1_rq, ↓pD_cq, ↓pF_cq, ↓pI_cq, ↓pL_cq, ↓pN_nq, ↓pN_rq, ↓pR_cq, reduceCtorEq, true_and, true_implies, true_or, ↓lI_at0, ↓lI_at1, ↓lI_at2, ↓lI_at3, ↓lI_at4, ↓lI_at5, ↓lI_at6, ↓lI_at7, ↓lI_at8, ↓lI_at9, ↓lL_at0, ↓lL_at1, ↓lL_at2, ↓lL_at3, ↓lL_at4, ↓lL_at5, ↓lL_at6, ↓lL_at7, ↓lL_at8, ↓lL_at9, ↓lD_at0, ↓lD_at1, ↓lD_at2, ↓lD_at3, ↓lD_at4, ↓lD_at5, ↓lD_at6, ↓lD_at7, ↓lD_at8, ↓lD_at9, ↓lR_at0, ↓lR_at1, ↓lR_at2, ↓lR_at3, ↓lR_at4, ↓lR_at5, ↓lR_at6, ↓lR_at7, ↓lR_at8, ↓lR_at9, ↓oV_at0, ↓oV_at1, ↓oV_at2, ↓oV_at3, ↓oV_at4, ↓oV_at5, ↓oV_at6, ↓oV_at7, ↓oV_at8, ↓oV_at9, ↓oV_at10, ↓oV_at11, ↓oV_at12, ↓oV_at13, ↓oV_at14, ↓oV_at15, ↓oV_at16, ↓oV_at17, ↓oV_at18, ↓oV_at19, ↓oV_at20, ↓oV_at21, ↓oV_at22, ↓oV_at23, ↓oV_at24, ↓oV_at25, ↓oV_at26, ↓oV_at27, ↓oV_at28, ↓oV_at29, ↓oV_at30, ↓oV_at31, ↓oV_at32, ↓oV_at33, ↓oV_at34, ↓oV_at35, ↓oV_at36, ↓oV_at37, ↓oV_at38, ↓oV_at39, ↓gLt_0, ↓gLt_1, ↓gLt_2, ↓gLt_3, ↓gLt_4, ↓gLt_5, ↓gLt_6, ↓gLt_7, ↓gLt_8, ↓gLt_9, ↓gLt_10, ↓gLt_11, ↓gLt_12, ↓gLt_13, ↓gLt_14, ↓gLt_15, ↓gLt_16, ↓gLt_17, ↓gLt_18, ↓gLt_19, ↓gLt_20, ↓gLt_21, ↓gLt_22, ↓gLt_23, ↓gLt_24, ↓gLt_25, ↓gLt_26, ↓gLt_27, ↓gLt_28, ↓gLt_29, ↓gLt_30, ↓gLt_31, ↓gLt_32, ↓gLt_33, ↓gLt_34, ↓gLt_35, ↓gLt_36, ↓gLt_37, ↓gLt_38, ↓gLt_39, hX_len, ↓hX_oc, eq_self]
    refine g_slen (show decode cL_law 26 = _ from by decide +kernel) rfl ?_
    by_cases hq : L < 6 * j + 6
    · have hlt : (Int32.ofNat L - 6 < nI (6 * j)) = True := eq_true ((lt_loop hL (by omega)).mpr hq)
      refine wpb_s rfl (by omega) (by omega) _ (gAt_sc _ _ _ k0L_law_27) ?_
      simp only [w_nil, w_iadd, w_isub, w_imul, w_iand, w_ior, w_ishl, w_ishr, w_idiv, w_irem, w_ladd, w_lsub, w_lmul, w_lcmp, w_fdiv, w_ddiv, w_ineg, w_i2l, w_l2i, w_i2b, w_i2c, w_i2f, w_i2d, w_l2d, w_f2d, w_dcmp, w_iconst, w_bipush, w_sipush, w_lconst, w_fconst, w_dconst, w_iload_n0, w_iload_n1, w_iload_n2, w_iload_n3, w_iload, w_lload_n0, w_lload_n1, w_lload_n2, w_lload_n3, w_lload, w_aload_n0, w_aload_n1, w_aload_n2, w_aload_n3, w_aload, w_dload, w_istore_n0, w_istore_n1, w_istore_n2, w_istore_n3, w_istore, w_lstore_n0, w_lstore_n1, w_lstore_n2, w_lstore_n3, w_lstore, w_astore_n0, w_astore_n1, w_astore_n2, w_astore_n3, w_astore, w_dstore, w_iinc, w_dup, w_pop, w_dup2, w_getfield, w_putfield0, w_putfield1, w_putfield2, w_iaload, w_baload, w_laload, w_aaload, w_iastore, w_bastore, w_lastore, w_aastore, w_ldc0, w_ldc1, w_ldc_w, w_ldc2_w, w_ifCond_eq, w_ifCond_ne, w_ifCond_lt, w_ifCond_ge, w_ifCond_gt, w_ifCond_le, w_if_icmp_eq, w_if_icmp_ne, w_if_icmp_lt, w_if_icmp_ge, w_if_icmp_gt, w_if_icmp_le, w_goto, w_ireturn, w_return_, w_lreturn, w_freturn, w_dreturn, Int32.reduceOfInt, List.getElem?_cons_succ, List.getElem?_cons_zero, List.set_cons_succ, List.set_cons_zero, Nat.reduceAdd, Nat.reduceLT, Option.some.injEq, and_true, ↓cI_cq, ↓cL_cq, ↓cO_cq, ↓cQ_cq, false_implies, fin0_4, fin1_4, fin2_4, fin3_4, gSet1_0, gSet1_1, gSet1_2, gSet2_0, gSet2_1, gSet2_2, gUp_0, gUp_c, gW1_0, gW1_d, gW1_i, gW1_l, gW1_r, gW1_u, ↓lD_cq, ↓lI_cq, ↓lL_cq, ↓lR_cq, mR, not_false_eq_true, not_true_eq_false, ↓oV_cq, or_true, ↓p1_iq, ↓p1_nq, ↓p1_rq, ↓pD_cq, ↓pF_cq, ↓pI_cq, ↓pL_cq, ↓pN_nq, ↓pN_rq, ↓pR_cq, reduceCtorEq, true_and, true_implies, true_or, ↓lI_at0, ↓lI_at1, ↓lI_at2, ↓lI_at3, ↓lI_at4, ↓lI_at5, ↓lI_at6, ↓lI_at7, ↓lI_at8, ↓lI_at9, ↓lL_at0, ↓lL_at1, ↓lL_at2, ↓lL_at3, ↓lL_at4, ↓lL_at5, ↓lL_at6, ↓lL_at7, ↓lL_at8, ↓lL_at9, ↓lD_at0, ↓lD_at1, ↓lD_at2, ↓lD_at3, ↓lD_at4, ↓lD_at5, ↓lD_at6, ↓lD_at7, ↓lD_at8, ↓lD_at9, ↓lR_at0, ↓lR_at1, ↓lR_at2, ↓lR_at3, ↓lR_at4, ↓lR_at5, ↓lR_at6, ↓lR_at7, ↓lR_at8, ↓lR_at9, ↓oV_at0, ↓oV_at1, ↓oV_at2, ↓oV_at3, ↓oV_at4, ↓oV_at5, ↓oV_at6, ↓oV_at7, ↓oV_at8, ↓oV_at9, ↓oV_at10, ↓oV_at11, ↓oV_at12, ↓oV_at13, ↓oV_at14, ↓oV_at15, ↓oV_at16, ↓oV_at17, ↓oV_at18, ↓oV_at19, ↓oV_at20, ↓oV_at21, ↓oV_at22, ↓oV_at23, ↓oV_at24, ↓oV_at25, ↓oV_at26, ↓oV_at27, ↓oV_at28, ↓oV_at29, ↓oV_at30, ↓oV_at31, ↓oV_at32, ↓oV_at33, ↓oV_at34, ↓oV_at35, ↓oV_at36, ↓oV_at37, ↓oV_at38, ↓oV_at39, ↓gLt_0, ↓gLt_1, ↓gLt_2, ↓gLt_3, ↓gLt_4, ↓gLt_5, ↓gLt_6, ↓gLt_7, ↓gLt_8, ↓gLt_9, ↓gLt_10, ↓gLt_11, ↓gLt_12, ↓gLt_13, ↓gLt_14, ↓gLt_15, ↓gLt_16, ↓gLt_17, ↓gLt_18, ↓gLt_19, ↓gLt_20, ↓gLt_21, ↓gLt_22, ↓gLt_23, ↓gLt_24, ↓gLt_25, ↓gLt_26, ↓gLt_27, ↓gLt_28, ↓gLt_29, ↓gLt_30, ↓gLt_31, ↓gLt_32, ↓gLt_33, ↓gLt_34, ↓gLt_35, ↓gLt_36, ↓gLt_37, ↓gLt_38, ↓gLt_39, hX_len, ↓hX_oc, eq_self, hlt]
      refine wpb_s rfl (by omega) (by omega) _ (gAt_sc _ _ _ k0L_law_3065) ?_
      simp only [w_nil, w_iadd, w_isub, w_imul, w_iand, w_ior, w_ishl, w_ishr, w_idiv, w_irem, w_ladd, w_lsub, w_lmul, w_lcmp, w_fdiv, w_ddiv, w_ineg, w_i2l, w_l2i, w_i2b, w_i2c, w_i2f, w_i2d, w_l2d, w_f2d, w_dcmp, w_iconst, w_bipush, w_sipush, w_lconst, w_fconst, w_dconst, w_iload_n0, w_iload_n1, w_iload_n2, w_iload_n3, w_iload, w_lload_n0, w_lload_n1, w_lload_n2, w_lload_n3, w_lload, w_aload_n0, w_aload_n1, w_aload_n2, w_aload_n3, w_aload, w_dload, w_istore_n0, w_istore_n1, w_istore_n2, w_istore_n3, w_istore, w_lstore_n0, w_lstore_n1, w_lstore_n2, w_lstore_n3, w_lstore, w_astore_n0, w_astore_n1, w_astore_n2, w_astore_n3, w_astore, w_dstore, w_iinc, w_dup, w_pop, w_dup2, w_getfield, w_putfield0, w_putfield1, w_putfield2, w_iaload, w_baload, w_laload, w_aaload, w_iastore, w_bastore, w_lastore, w_aastore, w_ldc0, w_ldc1, w_ldc_w, w_ldc2_w, w_ifCond_eq, w_ifCond_ne, w_ifCond_lt, w_ifCond_ge, w_ifCond_gt, w_ifCond_le, w_if_icmp_eq, w_if_icmp_ne, w_if_icmp_lt, w_if_icmp_ge, w_if_icmp_gt, w_if_icmp_le, w_goto, w_ireturn, w_return_, w_lreturn, w_freturn, w_dreturn, Int32.reduceOfInt, List.getElem?_cons_succ, List.getElem?_cons_zero, List.set_cons_succ, List.set_cons_zero, Nat.reduceAdd, Nat.reduceLT, Option.some.injEq, and_true, ↓cI_cq, ↓cL_cq, ↓cO_cq, ↓cQ_cq, false_implies, fin0_4, fin1_4, fin2_4, fin3_4, gSet1_0, gSet1_1, gSet1_2, gSet2_0, gSet2_1, gSet2_2, gUp_0, gUp_c, gW1_0, gW1_d, gW1_i, gW1_l, gW1_r, gW1_u, ↓lD_cq, ↓lI_cq, ↓lL_cq, ↓lR_cq, mR, not_false_eq_true, not_true_eq_false, ↓oV_cq, or_true, ↓p1_iq, ↓p1_nq, ↓p1_rq, ↓pD_cq, ↓pF_cq, ↓pI_cq, ↓pL_cq, ↓pN_nq, ↓pN_rq, ↓pR_cq, reduceCtorEq, true_and, true_implies, true_or, ↓lI_at0, ↓lI_at1, ↓lI_at2, ↓lI_at3, ↓lI_at4, ↓lI_at5, ↓lI_at6, ↓lI_at7, ↓lI_at8, ↓lI_at9, ↓lL_at0, ↓lL_at1, ↓lL_at2, ↓lL_at3, ↓lL_at4, ↓lL_at5, ↓lL_at6, ↓lL_at7, ↓lL_at8, ↓lL_at9, ↓lD_at0, ↓lD_at1, ↓lD_at2, ↓lD_at3, ↓lD_at4, ↓lD_at5, ↓lD_at6, ↓lD_at7, ↓lD_at8, ↓lD_at9, ↓lR_at0, ↓lR_at1, ↓lR_at2, ↓lR_at3, ↓lR_at4, ↓lR_at5, ↓lR_at6, ↓lR_at7, ↓lR_at8, ↓lR_at9, ↓oV_at0, ↓oV_at1, ↓oV_at2, ↓oV_at3, ↓oV_at4, ↓oV_at5, ↓oV_at6, ↓oV_at7, ↓oV_at8, ↓oV_at9, ↓oV_at10, ↓oV_at11, ↓oV_at12, ↓oV_at13, ↓oV_at14, ↓oV_at15, ↓oV_at16, ↓oV_at17, ↓oV_at18, ↓oV_at19, ↓oV_at20, ↓oV_at21, ↓oV_at22, ↓oV_at23, ↓oV_at24, ↓oV_at25, ↓oV_at26, ↓oV_at27, ↓oV_at28, ↓oV_at29, ↓oV_at30, ↓oV_at31, ↓oV_at32, ↓oV_at33, ↓oV_at34, ↓oV_at35, ↓oV_at36, ↓oV_at37, ↓oV_at38, ↓oV_at39, ↓gLt_0, ↓gLt_1, ↓gLt_2, ↓gLt_3, ↓gLt_4, ↓gLt_5, ↓gLt_6, ↓gLt_7, ↓gLt_8, ↓gLt_9, ↓gLt_10, ↓gLt_11, ↓gLt_12, ↓gLt_13, ↓gLt_14, ↓gLt_15, ↓gLt_16, ↓gLt_17, ↓gLt_18, ↓gLt_19, ↓gLt_20, ↓gLt_21, ↓gLt_22, ↓gLt_23, ↓gLt_24, ↓gLt_25, ↓gLt_26, ↓gLt_27, ↓gLt_28, ↓gLt_29, ↓gLt_30, ↓gLt_31, ↓gLt_32, ↓gLt_33, ↓gLt_34, ↓gLt_35, ↓gLt_36, ↓gLt_37, ↓gLt_38, ↓gLt_39, hX_len, ↓hX_oc, eq_self]
      exact rfl
    · have hlt : (Int32.ofNat L - 6 < nI (6 * j)) = False := eq_false (fun h => hq ((lt_loop hL (by omega)).mp h))
      refine wpb_s rfl (by omega) (by omega) _ (gAt_sc _ _ _ k0L_law_27) ?_
      simp only [w_nil, w_iadd, w_isub, w_imul, w_iand, w_ior, w_ishl, w_ishr, w_idiv, w_irem, w_ladd, w_lsub, w_lmul, w_lcmp, w_fdiv, w_ddiv, w_ineg, w_i2l, w_l2i, w_i2b, w_i2c, w_i2f, w_i2d, w_l2d, w_f2d, w_dcmp, w_iconst, w_bipush, w_sipush, w_lconst, w_fconst, w_dconst, w_iload_n0, w_iload_n1, w_iload_n2, w_iload_n3, w_iload, w_lload_n0, w_lload_n1, w_lload_n2, w_lload_n3, w_lload, w_aload_n0, w_aload_n1, w_aload_n2, w_aload_n3, w_aload, w_dload, w_istore_n0, w_istore_n1, w_istore_n2, w_istore_n3, w_istore, w_lstore_n0, w_lstore_n1, w_lstore_n2, w_lstore_n3, w_lstore, w_astore_n0, w_astore_n1, w_astore_n2, w_astore_n3, w_astore, w_dstore, w_iinc, w_dup, w_pop, w_dup2, w_getfield, w_putfield0, w_putfield1, w_putfield2, w_iaload, w_baload, w_laload, w_aaload, w_iastore, w_bastore, w_lastore, w_aastore, w_ldc0, w_ldc1, w_ldc_w, w_ldc2_w, w_ifCond_eq, w_ifCond_ne, w_ifCond_lt, w_ifCond_ge, w_ifCond_gt, w_ifCond_le, w_if_icmp_eq, w_if_icmp_ne, w_if_icmp_lt, w_if_icmp_ge, w_if_icmp_gt, w_if_icmp_le, w_goto, w_ireturn, w_return_, w_lreturn, w_freturn, w_dreturn, Int32.reduceOfInt, List.getElem?_cons_succ, List.getElem?_cons_zero, List.set_cons_succ, List.set_cons_zero, Nat.reduceAdd, Nat.reduceLT, Option.some.injEq, and_true, ↓cI_cq, ↓cL_cq, ↓cO_cq, ↓cQ_cq, false_implies, fin0_4, fin1_4, fin2_4, fin3_4, gSet1_0, gSet1_1, gSet1_2, gSet2_0, gSet2_1, gSet2_2, gUp_0, gUp_c, gW1_0, gW1_d, gW1_i, gW1_l, gW1_r, gW1_u, ↓lD_cq, ↓lI_cq, ↓lL_cq, ↓lR_cq, mR, not_false_eq_true, not_true_eq_false, ↓oV_cq, or_true, ↓p1_iq, ↓p1_nq, ↓p1_rq, ↓pD_cq, ↓pF_cq, ↓pI_cq, ↓pL_cq, ↓pN_nq, ↓pN_rq, ↓pR_cq, reduceCtorEq, true_and, true_implies, true_or, ↓lI_at0, ↓lI_at1, ↓lI_at2, ↓lI_at3, ↓lI_at4, ↓lI_at5, ↓lI_at6, ↓lI_at7, ↓lI_at8, ↓lI_at9, ↓lL_at0, ↓lL_at1, ↓lL_at2, ↓lL_at3, ↓lL_at4, ↓lL_at5, ↓lL_at6, ↓lL_at7, ↓lL_at8, ↓lL_at9, ↓lD_at0, ↓lD_at1, ↓lD_at2, ↓lD_at3, ↓lD_at4, ↓lD_at5, ↓lD_at6, ↓lD_at7, ↓lD_at8, ↓lD_at9, ↓lR_at0, ↓lR_at1, ↓lR_at2, ↓lR_at3, ↓lR_at4, ↓lR_at5, ↓lR_at6, ↓lR_at7, ↓lR_at8, ↓lR_at9, ↓oV_at0, ↓oV_at1, ↓oV_at2, ↓oV_at3, ↓oV_at4, ↓oV_at5, ↓oV_at6, ↓oV_at7, ↓oV_at8, ↓oV_at9, ↓oV_at10, ↓oV_at11, ↓oV_at12, ↓oV_at13, ↓oV_at14, ↓oV_at15, ↓oV_at16, ↓oV_at17, ↓oV_at18, ↓oV_at19, ↓oV_at20, ↓oV_at21, ↓oV_at22, ↓oV_at23, ↓oV_at24, ↓oV_at25, ↓oV_at26, ↓oV_at27, ↓oV_at28, ↓oV_at29, ↓oV_at30, ↓oV_at31, ↓oV_at32, ↓oV_at33, ↓oV_at34, ↓oV_at35, ↓oV_at36, ↓oV_at37, ↓oV_at38, ↓oV_at39, ↓gLt_0, ↓gLt_1, ↓gLt_2, ↓gLt_3, ↓gLt_4, ↓gLt_5, ↓gLt_6, ↓gLt_7, ↓gLt_8, ↓gLt_9, ↓gLt_10, ↓gLt_11, ↓gLt_12, ↓gLt_13, ↓gLt_14, ↓gLt_15, ↓gLt_16, ↓gLt_17, ↓gLt_18, ↓gLt_19, ↓gLt_20, ↓gLt_21, ↓gLt_22, ↓gLt_23, ↓gLt_24, ↓gLt_25, ↓gLt_26, ↓gLt_27, ↓gLt_28, ↓gLt_29, ↓gLt_30, ↓gLt_31, ↓gLt_32, ↓gLt_33, ↓gLt_34, ↓gLt_35, ↓gLt_36, ↓gLt_37, ↓gLt_38, ↓gLt_39, hX_len, ↓hX_oc, eq_self, hlt]
      have hvp : vp_in (nI (6 * j)) L := by
        rintro (h1 | h1)
        · rw [Int32.lt_iff_toInt_lt, nI_ti (by omega), show (0 : Int32).toInt = 0 from rfl] at h1
          omega
        · have : (nI (6 * j)).toNatClampNeg = 6 * j := nIc (by omega)
          rw [this] at h1
          omega
      refine g_sld (show decode cL_law 36 = _ from by decide +kernel) rfl hvp ?_
      refine wpb_s rfl (by omega) (by omega) _ (gAt_sc _ _ _ k0L_law_37) ?_
      simp only [w_nil, w_iadd, w_isub, w_imul, w_iand, w_ior, w_ishl, w_ishr, w_idiv, w_irem, w_ladd, w_lsub, w_lmul, w_lcmp, w_fdiv, w_ddiv, w_ineg, w_i2l, w_l2i, w_i2b, w_i2c, w_i2f, w_i2d, w_l2d, w_f2d, w_dcmp, w_iconst, w_bipush, w_sipush, w_lconst, w_fconst, w_dconst, w_iload_n0, w_iload_n1, w_iload_n2, w_iload_n3, w_iload, w_lload_n0, w_lload_n1, w_lload_n2, w_lload_n3, w_lload, w_aload_n0, w_aload_n1, w_aload_n2, w_aload_n3, w_aload, w_dload, w_istore_n0, w_istore_n1, w_istore_n2, w_istore_n3, w_istore, w_lstore_n0, w_lstore_n1, w_lstore_n2, w_lstore_n3, w_lstore, w_astore_n0, w_astore_n1, w_astore_n2, w_astore_n3, w_astore, w_dstore, w_iinc, w_dup, w_pop, w_dup2, w_getfield, w_putfield0, w_putfield1, w_putfield2, w_iaload, w_baload, w_laload, w_aaload, w_iastore, w_bastore, w_lastore, w_aastore, w_ldc0, w_ldc1, w_ldc_w, w_ldc2_w, w_ifCond_eq, w_ifCond_ne, w_ifCond_lt, w_ifCond_ge, w_ifCond_gt, w_ifCond_le, w_if_icmp_eq, w_if_icmp_ne, w_if_icmp_lt, w_if_icmp_ge, w_if_icmp_gt, w_if_icmp_le, w_goto, w_ireturn, w_return_, w_lreturn, w_freturn, w_dreturn, Int32.reduceOfInt, List.getElem?_cons_succ, List.getElem?_cons_zero, List.set_cons_succ, List.set_cons_zero, Nat.reduceAdd, Nat.reduceLT, Option.some.injEq, and_true, ↓cI_cq, ↓cL_cq, ↓cO_cq, ↓cQ_cq, false_implies, fin0_4, fin1_4, fin2_4, fin3_4, gSet1_0, gSet1_1, gSet1_2, gSet2_0, gSet2_1, gSet2_2, gUp_0, gUp_c, gW1_0, gW1_d, gW1_i, gW1_l, gW1_r, gW1_u, ↓lD_cq, ↓lI_cq, ↓lL_cq, ↓lR_cq, mR, not_false_eq_true, not_true_eq_false, ↓oV_cq, or_true, ↓p1_iq, ↓p1_nq, ↓p1_rq, ↓pD_cq, ↓pF_cq, ↓pI_cq, ↓pL_cq, ↓pN_nq, ↓pN_rq, ↓pR_cq, reduceCtorEq, true_and, true_implies, true_or, ↓lI_at0, ↓lI_at1, ↓lI_at2, ↓lI_at3, ↓lI_at4, ↓lI_at5, ↓lI_at6, ↓lI_at7, ↓lI_at8, ↓lI_at9, ↓lL_at0, ↓lL_at1, ↓lL_at2, ↓lL_at3, ↓lL_at4, ↓lL_at5, ↓lL_at6, ↓lL_at7, ↓lL_at8, ↓lL_at9, ↓lD_at0, ↓lD_at1, ↓lD_at2, ↓lD_at3, ↓lD_at4, ↓lD_at5, ↓lD_at6, ↓lD_at7, ↓lD_at8, ↓lD_at9, ↓lR_at0, ↓lR_at1, ↓lR_at2, ↓lR_at3, ↓lR_at4, ↓lR_at5, ↓lR_at6, ↓lR_at7, ↓lR_at8, ↓lR_at9, ↓oV_at0, ↓oV_at1, ↓oV_at2, ↓oV_at3, ↓oV_at4, ↓oV_at5, ↓oV_at6, ↓oV_at7, ↓oV_at8, ↓oV_at9, ↓oV_at10, ↓oV_at11, ↓oV_at12, ↓oV_at13, ↓oV_at14, ↓oV_at15, ↓oV_at16, ↓oV_at17, ↓oV_at18, ↓oV_at19, ↓oV_at20, ↓oV_at21, ↓oV_at22, ↓oV_at23, ↓oV_at24, ↓oV_at25, ↓oV_at26, ↓oV_at27, ↓oV_at28, ↓oV_at29, ↓oV_at30, ↓oV_at31, ↓oV_at32, ↓oV_at33, ↓oV_at34, ↓oV_at35, ↓oV_at36, ↓oV_at37, ↓oV_at38, ↓oV_at39, ↓gLt_0, ↓gLt_1, ↓gLt_2, ↓gLt_3, ↓gLt_4, ↓gLt_5, ↓gLt_6, ↓gLt_7, ↓gLt_8, ↓gLt_9, ↓gLt_10, ↓gLt_11, ↓gLt_12, ↓gLt_13, ↓gLt_14, ↓gLt_15, ↓gLt_16, ↓gLt_17, ↓gLt_18, ↓gLt_19, ↓gLt_20, ↓gLt_21, ↓gLt_22, ↓gLt_23, ↓gLt_24, ↓gLt_25, ↓gLt_26, ↓gLt_27, ↓gLt_28, ↓gLt_29, ↓gLt_30, ↓gLt_31, ↓gLt_32, ↓gLt_33, ↓gLt_34, ↓gLt_35, ↓gLt_36, ↓gLt_37, ↓gLt_38, ↓gLt_39, hX_len, ↓hX_oc, eq_self]
      have hx : LH L mc ms c n j X S V (601 + j) e5 e6 e7 e8 := ⟨by omega, hL, by omega, by omega, he, hR, hS, hV, by omega, by omega⟩
      have hk : LK b L xs mc ms h0 QX c n j (601 + j) := by
        intro c' n' X' S' z' V' f5 f6 f7 f8 hc' hn' hR' hS' hV' he'
        refine wpb_s rfl (by omega) (by omega) _ (gAt_sc _ _ _ k0L_law_3059) ?_
        simp only [w_nil, w_iadd, w_isub, w_imul, w_iand, w_ior, w_ishl, w_ishr, w_idiv, w_irem, w_ladd, w_lsub, w_lmul, w_lcmp, w_fdiv, w_ddiv, w_ineg, w_i2l, w_l2i, w_i2b, w_i2c, w_i2f, w_i2d, w_l2d, w_f2d, w_dcmp, w_iconst, w_bipush, w_sipush, w_lconst, w_fconst, w_dconst, w_iload_n0, w_iload_n1, w_iload_n2, w_iload_n3, w_iload, w_lload_n0, w_lload_n1, w_lload_n2, w_lload_n3, w_lload, w_aload_n0, w_aload_n1, w_aload_n2, w_aload_n3, w_aload, w_dload, w_istore_n0, w_istore_n1, w_istore_n2, w_istore_n3, w_istore, w_lstore_n0, w_lstore_n1, w_lstore_n2, w_lstore_n3, w_lstore, w_astore_n0, w_astore_n1, w_astore_n2, w_astore_n3, w_astore, w_dstore, w_iinc, w_dup, w_pop, w_dup2, w_getfield, w_putfield0, w_putfield1, w_putfield2, w_iaload, w_baload, w_laload, w_aaload, w_iastore, w_bastore, w_lastore, w_aastore, w_ldc0, w_ldc1, w_ldc_w, w_ldc2_w, w_ifCond_eq, w_ifCond_ne, w_ifCond_lt, w_ifCond_ge, w_ifCond_gt, w_ifCond_le, w_if_icmp_eq, w_if_icmp_ne, w_if_icmp_lt, w_if_icmp_ge, w_if_icmp_gt, w_if_icmp_le, w_goto, w_ireturn, w_return_, w_lreturn, w_freturn, w_dreturn, Int32.reduceOfInt, List.getElem?_cons_succ, List.getElem?_cons_zero, List.set_cons_succ, List.set_cons_zero, Nat.reduceAdd, Nat.reduceLT, Option.some.injEq, and_true, ↓cI_cq, ↓cL_cq, ↓cO_cq, ↓cQ_cq, false_implies, fin0_4, fin1_4, fin2_4, fin3_4, gSet1_0, gSet1_1, gSet1_2, gSet2_0, gSet2_1, gSet2_2, gUp_0, gUp_c, gW1_0, gW1_d, gW1_i, gW1_l, gW1_r, gW1_u, ↓lD_cq, ↓lI_cq, ↓lL_cq, ↓lR_cq, mR, not_false_eq_true, not_true_eq_false, ↓oV_cq, or_true, ↓p1_iq, ↓p1_nq, ↓p1_rq, ↓pD_cq, ↓pF_cq, ↓pI_cq, ↓pL_cq, ↓pN_nq, ↓pN_rq, ↓pR_cq, reduceCtorEq, true_and, true_implies, true_or, ↓lI_at0, ↓lI_at1, ↓lI_at2, ↓lI_at3, ↓lI_at4, ↓lI_at5, ↓lI_at6, ↓lI_at7, ↓lI_at8, ↓lI_at9, ↓lL_at0, ↓lL_at1, ↓lL_at2, ↓lL_at3, ↓lL_at4, ↓lL_at5, ↓lL_at6, ↓lL_at7, ↓lL_at8, ↓lL_at9, ↓lD_at0, ↓lD_at1, ↓lD_at2, ↓lD_at3, ↓lD_at4, ↓lD_at5, ↓lD_at6, ↓lD_at7, ↓lD_at8, ↓lD_at9, ↓lR_at0, ↓lR_at1, ↓lR_at2, ↓lR_at3, ↓lR_at4, ↓lR_at5, ↓lR_at6, ↓lR_at7, ↓lR_at8, ↓lR_at9, ↓oV_at0, ↓oV_at1, ↓oV_at2, ↓oV_at3, ↓oV_at4, ↓oV_at5, ↓oV_at6, ↓oV_at7, ↓oV_at8, ↓oV_at9, ↓oV_at10, ↓oV_at11, ↓oV_at12, ↓oV_at13, ↓oV_at14, ↓oV_at15, ↓oV_at16, ↓oV_at17, ↓oV_at18, ↓oV_at19, ↓oV_at20, ↓oV_at21, ↓oV_at22, ↓oV_at23, ↓oV_at24, ↓oV_at25, ↓oV_at26, ↓oV_at27, ↓oV_at28, ↓oV_at29, ↓oV_at30, ↓oV_at31, ↓oV_at32, ↓oV_at33, ↓oV_at34, ↓oV_at35, ↓oV_at36, ↓oV_at37, ↓oV_at38, ↓oV_at39, ↓gLt_0, ↓gLt_1, ↓gLt_2, ↓gLt_3, ↓gLt_4, ↓gLt_5, ↓gLt_6, ↓gLt_7, ↓gLt_8, ↓gLt_9, ↓gLt_10, ↓gLt_11, ↓gLt_12, ↓gLt_13, ↓gLt_14, ↓gLt_15, ↓gLt_16, ↓gLt_17, ↓gLt_18, ↓gLt_19, ↓gLt_20, ↓gLt_21, ↓gLt_22, ↓gLt_23, ↓gLt_24, ↓gLt_25, ↓gLt_26, ↓gLt_27, ↓gLt_28, ↓gLt_29, ↓gLt_30, ↓gLt_31, ↓gLt_32, ↓gLt_33, ↓gLt_34, ↓gLt_35, ↓gLt_36, ↓gLt_37, ↓gLt_38, ↓gLt_39, hX_len, ↓hX_oc, eq_self]
        rw [six_j]
        exact ih (j + 1) c' n' X' S' z' V' f5 f6 f7 f8 (by omega) (by omega) (by omega) (by omega) he' hR' hS' hV'
      obtain ⟨w, hw, ew⟩ := and63 (xs (nI (6 * j)).toNatClampNeg)
      rw [ew]
      have g0 : 0 ≤ w := Nat.zero_le _
      rcases Nat.eq_or_lt_of_le (show 0 ≤ w from g0) with e | g1
      · subst e
        exact g_swIn (t := 312) (off := 272) dSW (by decide) (by decide) (by decide) (by decide) (lc_0 hx hk)
      rcases Nat.eq_or_lt_of_le (show 1 ≤ w from g1) with e | g2
      · subst e
        exact g_swIn (t := 416) (off := 376) dSW (by decide) (by decide) (by decide) (by decide) (lc_1 hx hk)
      rcases Nat.eq_or_lt_of_le (show 2 ≤ w from g2) with e | g3
      · subst e
        exact g_swIn (t := 472) (off := 432) dSW (by decide) (by decide) (by decide) (by decide) (lc_2 hx hk)
      rcases Nat.eq_or_lt_of_le (show 3 ≤ w from g3) with e | g4
      · subst e
        exact g_swIn (t := 485) (off := 445) dSW (by decide) (by decide) (by decide) (by decide) (lc_3 hx hk)
      rcases Nat.eq_or_lt_of_le (show 4 ≤ w from g4) with e | g5
      · subst e
        exact g_swIn (t := 498) (off := 458) dSW (by decide) (by decide) (by decide) (by decide) (lc_4 hx hk)
      rcases Nat.eq_or_lt_of_le (show 5 ≤ w from g5) with e | g6
      · subst e
        exact g_swIn (t := 511) (off := 471) dSW (by decide) (by decide) (by decide) (by decide) (lc_5 hx hk)
      rcases Nat.eq_or_lt_of_le (show 6 ≤ w from g6) with e | g7
      · subst e
        exact g_swIn (t := 524) (off := 484) dSW (by decide) (by decide) (by decide) (by decide) (lc_6 hx hk)
      rcases Nat.eq_or_lt_of_le (show 7 ≤ w from g7) with e | g8
      · subst e
        exact g_swIn (t := 537) (off := 497) dSW (by decide) (by decide) (by decide) (by decide) (lc_7 hx hk)
      rcases Nat.eq_or_lt_of_le (show 8 ≤ w from g8) with e | g9
      · subst e
        exact g_swIn (t := 550) (off := 510) dSW (by decide) (by decide) (by decide) (by decide) (lc_8 hx hk)
      rcases Nat.eq_or_lt_of_le (show 9 ≤ w from g9) with e | g10
      · subst e
        exact g_swIn (t := 563) (off := 523) dSW (by decide) (by decide) (by decide) (by decide) (lc_9 hx hk)
      rcases Nat.eq_or_lt_of_le (show 10 ≤ w from g10) with e | g11
      · subst e
        exact g_swIn (t := 576) (off := 536) dSW (by decide) (by decide) (by decide) (by decide) (lc_10 hx hk)
      rcases Nat.eq_or_lt_of_le (show 11 ≤ w from g11) with e | g12
      · subst e
        exact g_swIn (t := 589) (off := 549) dSW (by decide) (by decide) (by decide) (by decide) (lc_11 hx hk)
      rcases Nat.eq_or_lt_of_le (show 12 ≤ w from g12) with e | g13
      · subst e
        exact g_swIn (t := 645) (off := 605) dSW (by decide) (by decide) (by decide) (by decide) (lc_12 hx hk)
      rcases Nat.eq_or_lt_of_le (show 13 ≤ w from g13) with e | g14
      · subst e
        exact g_swIn (t := 701) (off := 661) dSW (by decide) (by decide) (by decide) (by decide) (lc_13 hx hk)
      rcases Nat.eq_or_lt_of_le (show 14 ≤ w from g14) with e | g15
      · subst e
        exact g_swIn (t := 757) (off := 717) dSW (by decide) (by decide) (by decide) (by decide) (lc_14 hx hk)
      rcases Nat.eq_or_lt_of_le (show 15 ≤ w from g15) with e | g16
      · subst e
        exact g_swIn (t := 813) (off := 773) dSW (by decide) (by decide) (by decide) (by decide) (lc_15 hx hk)
      rcases Nat.eq_or_lt_of_le (show 16 ≤ w from g16) with e | g17
      · subst e
        exact g_swIn (t := 826) (off := 786) dSW (by decide) (by decide) (by decide) (by decide) (lc_16 hx hk)
      rcases Nat.eq_or_lt_of_le (show 17 ≤ w from g17) with e | g18
      · subst e
        exact g_swIn (t := 882) (off := 842) dSW (by decide) (by decide) (by decide) (by decide) (lc_17 hx hk)
      rcases Nat.eq_or_lt_of_le (show 18 ≤ w from g18) with e | g19
      · subst e
        exact g_swIn (t := 938) (off := 898) dSW (by decide) (by decide) (by decide) (by decide) (lc_18 hx hk)
      rcases Nat.eq_or_lt_of_le (show 19 ≤ w from g19) with e | g20
      · subst e
        exact g_swIn (t := 994) (off := 954) dSW (by decide) (by decide) (by decide) (by decide) (lc_19 hx hk)
      rcases Nat.eq_or_lt_of_le (show 20 ≤ w from g20) with e | g21
      · subst e
        exact g_swIn (t := 1050) (off := 1010) dSW (by decide) (by decide) (by decide) (by decide) (lc_20 hx hk)
      rcases Nat.eq_or_lt_of_le (show 21 ≤ w from g21) with e | g22
      · subst e
        exact g_swIn (t := 1106) (off := 1066) dSW (by decide) (by decide) (by decide) (by decide) (lc_21 hx hk)
      rcases Nat.eq_or_lt_of_le (show 22 ≤ w from g22) with e | g23
      · subst e
        exact g_swIn (t := 1162) (off := 1122) dSW (by decide) (by decide) (by decide) (by decide) (lc_22 hx hk)
      rcases Nat.eq_or_lt_of_le (show 23 ≤ w from g23) with e | g24
      · subst e
        exact g_swIn (t := 1218) (off := 1178) dSW (by decide) (by decide) (by decide) (by decide) (lc_23 hx hk)
      rcases Nat.eq_or_lt_of_le (show 24 ≤ w from g24) with e | g25
      · subst e
        exact g_swIn (t := 1274) (off := 1234) dSW (by decide) (by decide) (by decide) (by decide) (lc_24 hx hk)
      rcases Nat.eq_or_lt_of_le (show 25 ≤ w from g25) with e | g26
      · subst e
        exact g_swIn (t := 1330) (off := 1290) dSW (by decide) (by decide) (by decide) (by decide) (lc_25 hx hk)
      rcases Nat.eq_or_lt_of_le (show 26 ≤ w from g26) with e | g27
      · subst e
        exact g_swIn (t := 1386) (off := 1346) dSW (by decide) (by decide) (by decide) (by decide) (lc_26 hx hk)
      rcases Nat.eq_or_lt_of_le (show 27 ≤ w from g27) with e | g28
      · subst e
        exact g_swIn (t := 1442) (off := 1402) dSW (by decide) (by decide) (by decide) (by decide) (lc_27 hx hk)
      rcases Nat.eq_or_lt_of_le (show 28 ≤ w from g28) with e | g29
      · subst e
        exact g_swIn (t := 1455) (off := 1415) dSW (by decide) (by decide) (by decide) (by decide) (lc_28 hx hk)
      rcases Nat.eq_or_lt_of_le (show 29 ≤ w from g29) with e | g30
      · subst e
        exact g_swIn (t := 1468) (off := 1428) dSW (by decide) (by decide) (by decide) (by decide) (lc_29 hx hk)
      rcases Nat.eq_or_lt_of_le (show 30 ≤ w from g30) with e | g31
      · subst e
        exact g_swIn (t := 1481) (off := 1441) dSW (by decide) (by decide) (by decide) (by decide) (lc_30 hx hk)
      rcases Nat.eq_or_lt_of_le (show 31 ≤ w from g31) with e | g32
      · subst e
        exact g_swIn (t := 1494) (off := 1454) dSW (by decide) (by decide) (by decide) (by decide) (lc_31 hx hk)
      rcases Nat.eq_or_lt_of_le (show 32 ≤ w from g32) with e | g33
      · subst e
        exact g_swIn (t := 1507) (off := 1467) dSW (by decide) (by decide) (by decide) (by decide) (lc_32 hx hk)
      rcases Nat.eq_or_lt_of_le (show 33 ≤ w from g33) with e | g34
      · subst e
        exact g_swIn (t := 1563) (off := 1523) dSW (by decide) (by decide) (by decide) (by decide) (lc_33 hx hk)
      rcases Nat.eq_or_lt_of_le (show 34 ≤ w from g34) with e | g35
      · subst e
        exact g_swIn (t := 1576) (off := 1536) dSW (by decide) (by decide) (by decide) (by decide) (lc_34 hx hk)
      rcases Nat.eq_or_lt_of_le (show 35 ≤ w from g35) with e | g36
      · subst e
        exact g_swIn (t := 1632) (off := 1592) dSW (by decide) (by decide) (by decide) (by decide) (lc_35 hx hk)
      rcases Nat.eq_or_lt_of_le (show 36 ≤ w from g36) with e | g37
      · subst e
        exact g_swIn (t := 1688) (off := 1648) dSW (by decide) (by decide) (by decide) (by decide) (lc_36 hx hk)
      rcases Nat.eq_or_lt_of_le (show 37 ≤ w from g37) with e | g38
      · subst e
        exact g_swIn (t := 1744) (off := 1704) dSW (by decide) (by decide) (by decide) (by decide) (lc_37 hx hk)
      rcases Nat.eq_or_lt_of_le (show 38 ≤ w from g38) with e | g39
      · subst e
        exact g_swIn (t := 1824) (off := 1784) dSW (by decide) (by decide) (by decide) (by decide) (lc_38 hx hk)
      rcases Nat.eq_or_lt_of_le (show 39 ≤ w from g39) with e | g40
      · subst e
        exact g_swIn (t := 1904) (off := 1864) dSW (by decide) (by decide) (by decide) (by decide) (lc_39 hx hk)
      rcases Nat.eq_or_lt_of_le (show 40 ≤ w from g40) with e | g41
      · subst e
        exact g_swIn (t := 1960) (off := 1920) dSW (by decide) (by decide) (by decide) (by decide) (lc_40 hx hk)
      rcases Nat.eq_or_lt_of_le (show 41 ≤ w from g41) with e | g42
      · subst e
        exact g_swIn (t := 2016) (off := 1976) dSW (by decide) (by decide) (by decide) (by decide) (lc_41 hx hk)
      rcases Nat.eq_or_lt_of_le (show 42 ≤ w from g42) with e | g43
      · subst e
        exact g_swIn (t := 2108) (off := 2068) dSW (by decide) (by decide) (by decide) (by decide) (lc_42 hx hk)
      rcases Nat.eq_or_lt_of_le (show 43 ≤ w from g43) with e | g44
      · subst e
        exact g_swIn (t := 2164) (off := 2124) dSW (by decide) (by decide) (by decide) (by decide) (lc_43 hx hk)
      rcases Nat.eq_or_lt_of_le (show 44 ≤ w from g44) with e | g45
      · subst e
        exact g_swIn (t := 2220) (off := 2180) dSW (by decide) (by decide) (by decide) (by decide) (lc_44 hx hk)
      rcases Nat.eq_or_lt_of_le (show 45 ≤ w from g45) with e | g46
      · subst e
        exact g_swIn (t := 2233) (off := 2193) dSW (by decide) (by decide) (by decide) (by decide) (lc_45 hx hk)
      rcases Nat.eq_or_lt_of_le (show 46 ≤ w from g46) with e | g47
      · subst e
        exact g_swIn (t := 2246) (off := 2206) dSW (by decide) (by decide) (by decide) (by decide) (lc_46 hx hk)
      rcases Nat.eq_or_lt_of_le (show 47 ≤ w from g47) with e | g48
      · subst e
        exact g_swIn (t := 2259) (off := 2219) dSW (by decide) (by decide) (by decide) (by decide) (lc_47 hx hk)
      rcases Nat.eq_or_lt_of_le (show 48 ≤ w from g48) with e | g49
      · subst e
        exact g_swIn (t := 2272) (off := 2232) dSW (by decide) (by decide) (by decide) (by decide) (lc_48 hx hk)
      rcases Nat.eq_or_lt_of_le (show 49 ≤ w from g49) with e | g50
      · subst e
        exact g_swIn (t := 2285) (off := 2245) dSW (by decide) (by decide) (by decide) (by decide) (lc_49 hx hk)
      rcases Nat.eq_or_lt_of_le (show 50 ≤ w from g50) with e | g51
      · subst e
        exact g_swIn (t := 2298) (off := 2258) dSW (by decide) (by decide) (by decide) (by decide) (lc_50 hx hk)
      rcases Nat.eq_or_lt_of_le (show 51 ≤ w from g51) with e | g52
      · subst e
        exact g_swIn (t := 2341) (off := 2301) dSW (by decide) (by decide) (by decide) (by decide) (lc_51 hx hk)
      rcases Nat.eq_or_lt_of_le (show 52 ≤ w from g52) with e | g53
      · subst e
        exact g_swIn (t := 2382) (off := 2342) dSW (by decide) (by decide) (by decide) (by decide) (lc_52 hx hk)
      rcases Nat.eq_or_lt_of_le (show 53 ≤ w from g53) with e | g54
      · subst e
        exact g_swIn (t := 2486) (off := 2446) dSW (by decide) (by decide) (by decide) (by decide) (lc_53 hx hk)
      rcases Nat.eq_or_lt_of_le (show 54 ≤ w from g54) with e | g55
      · subst e
        exact g_swIn (t := 2542) (off := 2502) dSW (by decide) (by decide) (by decide) (by decide) (lc_54 hx hk)
      rcases Nat.eq_or_lt_of_le (show 55 ≤ w from g55) with e | g56
      · subst e
        exact g_swIn (t := 2598) (off := 2558) dSW (by decide) (by decide) (by decide) (by decide) (lc_55 hx hk)
      rcases Nat.eq_or_lt_of_le (show 56 ≤ w from g56) with e | g57
      · subst e
        exact g_swIn (t := 2654) (off := 2614) dSW (by decide) (by decide) (by decide) (by decide) (lc_56 hx hk)
      rcases Nat.eq_or_lt_of_le (show 57 ≤ w from g57) with e | g58
      · subst e
        exact g_swIn (t := 2722) (off := 2682) dSW (by decide) (by decide) (by decide) (by decide) (lc_57 hx hk)
      rcases Nat.eq_or_lt_of_le (show 58 ≤ w from g58) with e | g59
      · subst e
        exact g_swIn (t := 2735) (off := 2695) dSW (by decide) (by decide) (by decide) (by decide) (lc_58 hx hk)
      rcases Nat.eq_or_lt_of_le (show 59 ≤ w from g59) with e | g60
      · subst e
        exact g_swIn (t := 2791) (off := 2751) dSW (by decide) (by decide) (by decide) (by decide) (lc_59 hx hk)
      rcases Nat.eq_or_lt_of_le (show 60 ≤ w from g60) with e | g61
      · subst e
        exact g_swIn (t := 2847) (off := 2807) dSW (by decide) (by decide) (by decide) (by decide) (lc_60 hx hk)
      rcases Nat.eq_or_lt_of_le (show 61 ≤ w from g61) with e | g62
      · subst e
        exact g_swIn (t := 2903) (off := 2863) dSW (by decide) (by decide) (by decide) (by decide) (lc_61 hx hk)
      rcases Nat.eq_or_lt_of_le (show 62 ≤ w from g62) with e | g63
      · subst e
        exact g_swIn (t := 2947) (off := 2907) dSW (by decide) (by decide) (by decide) (by decide) (lc_62 hx hk)
      rcases Nat.eq_or_lt_of_le (show 63 ≤ w from g63) with e | g64
      · subst e
        exact g_swIn (t := 3003) (off := 2963) dSW (by decide) (by decide) (by decide) (by decide) (lc_63 hx hk)
      omega
end LAWL
