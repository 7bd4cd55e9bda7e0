section CMO
set_option maxRecDepth 100000
variable {h0 : gH} {Q : Option Value → gH → Prop} {QX : String → gH → Prop}
theorem gD_e {l : List Int32} {i j : Nat} {x : Int32} (hl : l.length = 174) (hi : i < 174) (e : i = j) : (l.set i x).getD j 0 = x := by
  subst e; exact gD_eq (by omega)
def trdA (A : MkA) (nm : List Nat) (c g : Int32) : MkA := (A.1, A.2.1 ++ [(nm, c, g)], A.2.2.1, A.2.2.2.1, (A.2.2.2.2.1, A.2.2.2.2.2.1, A.2.2.2.2.2.2.1, A.2.2.2.2.2.2.2.1, A.2.2.2.2.2.2.2.2.1, A.2.2.2.2.2.2.2.2.2.1 + c, A.2.2.2.2.2.2.2.2.2.2.1 + g, A.2.2.2.2.2.2.2.2.2.2.2))
def ordA (A : MkA) (t s p q : Nat) (m : Int32) : MkA := (A.1, A.2.1, A.2.2.1 ++ [(A.2.2.2.1, t, s, p, q, A.1.1 + m)], A.2.2.2.1 + 1, (A.2.2.2.2.1, A.2.2.2.2.2.1 + nI q, A.2.2.2.2.2.2))
def drpA (A : MkA) (k : Nat) : MkA := (A.1, A.2.1, A.2.2.1.eraseIdx k, A.2.2.2)
theorem c9_layTrader {S : MoT} {A : MkA} {nm : List Nat} {c g : Int32} (hR : RowR (row' S) A) (hn : A.2.1.length < 8) : moC m9_layTrader 2 [.int (nI (n27 nm)), .int (nI nm.length), .int c, .int g] S (fun v S' => v = none ∧ ∃ r, S' = sR S r ∧ RowR r (trdA A nm c g)) := by
  have h5 : (row' S).getD 5 0 = nI A.2.1.length := hR.hd (j := 5) (by decide)
  have hl := hR.1
  refine moC_of (ls := [some (.ref 0), some (.int (nI (n27 nm))), some (.int (nI nm.length)), some (.int c), some (.int g), none]) rfl rfl rfl (Nat.le_of_ble_eq_true rfl) rfl (fun h0 Q QX hQ => ?_)
  repeat' (first
      | (with_reducible refine And.intro (fun hh => ?_) (fun hh => ?_))
      | (with_reducible exact hQ _ rfl)
      | (with_reducible refine hQ _ ?_)
      | (with_reducible refine hQ _ _ ?_)
      | ((first | ((with_reducible show G _ _ _ _ _ _ _ _ _ 0 _ _ _); refine wpb_s rfl (by decide) (by decide) _ k9_layTrader_0 ?_) | ((with_reducible show G _ _ _ _ _ _ _ _ _ 26 _ _ _); refine wpb_s rfl (by decide) (by decide) _ k9_layTrader_26 ?_) | ((with_reducible show G _ _ _ _ _ _ _ _ _ 34 _ _ _); refine wpb_s rfl (by decide) (by decide) _ k9_layTrader_34 ?_) | ((with_reducible show G _ _ _ _ _ _ _ _ _ 42 _ _ _); refine wpb_s rfl (by decide) (by decide) _ k9_layTrader_42 ?_) | ((with_reducible show G _ _ _ _ _ _ _ _ _ 51 _ _ _); refine wpb_s rfl (by decide) (by decide) _ k9_layTrader_51 ?_)); simp only [w_nil, w_iadd, w_isub, w_imul, w_iand, w_ior, w_ishl, w_ishr, w_idiv, w_irem, w_ladd, w_lsub, w_lmul, w_lcmp, w_fdiv, w_ddiv, w_ineg, w_i2l, w_l2i, w_i2b, w_i2c, w_i2f, w_i2d, w_l2d, w_f2d, w_dcmp, w_iconst, w_bipush, w_sipush, w_lconst, w_fconst, w_dconst, w_iload_n0, w_iload_n1, w_iload_n2, w_iload_n3, w_iload, w_lload_n0, w_lload_n1, w_lload_n2, w_lload_n3, w_lload, w_aload_n0, w_aload_n1, w_aload_n2, w_aload_n3, w_aload, w_dload, w_istore_n0, w_istore_n1, w_istore_n2, w_istore_n3, w_istore, w_lstore_n0, w_lstore_n1, w_lstore_n2, w_lstore_n3, w_lstore, w_astore_n0, w_astore_n1, w_astore_n2, w_astore_n3, w_astore, w_dstore, w_iinc, w_dup, w_pop, w_dup2, w_getfield, w_putfield0, w_putfield1, w_putfield2, w_iaload, w_baload, w_laload, w_aaload, w_iastore, w_bastore, w_lastore, w_aastore, w_ldc0, w_ldc1, w_ldc_w, w_ldc2_w, w_ifCond_eq, w_ifCond_ne, w_ifCond_lt, w_ifCond_ge, w_ifCond_gt, w_ifCond_le, w_if_icmp_eq, w_if_icmp_ne, w_if_icmp_lt, w_if_icmp_ge, w_if_icmp_gt, w_if_icmp_le, w_goto, w_ireturn, w_return_, w_lreturn, w_freturn, w_dreturn, Int32.reduceOfInt, List.getElem?_cons_succ, List.getElem?_cons_zero, List.set_cons_succ, List.set_cons_zero, Nat.reduceAdd, Nat.reduceLT, Option.some.injEq, and_true, ↓cI_cq, ↓cL_cq, ↓cO_cq, ↓cQ_cq, false_implies, fin0_4, fin1_4, fin2_4, fin3_4, gSet1_0, gSet1_1, gSet1_2, gSet2_0, gSet2_1, gSet2_2, gUp_0, gUp_c, gW1_0, gW1_d, gW1_i, gW1_l, gW1_r, gW1_u, ↓lD_cq, ↓lI_cq, ↓lL_cq, ↓lR_cq, mR, not_false_eq_true, not_true_eq_false, ↓oV_cq, or_true, ↓p1_iq, ↓p1_nq, ↓p1_rq, ↓pD_cq, ↓pF_cq, ↓pI_cq, ↓pL_cq, ↓pN_nq, ↓pN_rq, ↓pR_cq, reduceCtorEq, true_and, true_implies, true_or, ↓lI_at0, ↓lI_at1, ↓lI_at2, ↓lI_at3, ↓lI_at4, ↓lI_at5, ↓lI_at6, ↓lI_at7, ↓lI_at8, ↓lI_at9, ↓lL_at0, ↓lL_at1, ↓lL_at2, ↓lL_at3, ↓lL_at4, ↓lL_at5, ↓lL_at6, ↓lL_at7, ↓lL_at8, ↓lL_at9, ↓lD_at0, ↓lD_at1, ↓lD_at2, ↓lD_at3, ↓lD_at4, ↓lD_at5, ↓lD_at6, ↓lD_at7, ↓lD_at8, ↓lD_at9, ↓lR_at0, ↓lR_at1, ↓lR_at2, ↓lR_at3, ↓lR_at4, ↓lR_at5, ↓lR_at6, ↓lR_at7, ↓lR_at8, ↓lR_at9, ↓oV_at0, ↓oV_at1, ↓oV_at2, ↓oV_at3, ↓oV_at4, ↓oV_at5, ↓oV_at6, ↓oV_at7, ↓oV_at8, ↓oV_at9, ↓oV_at10, ↓oV_at11, ↓oV_at12, ↓oV_at13, ↓oV_at14, ↓oV_at15, ↓oV_at16, ↓oV_at17, ↓oV_at18, ↓oV_at19, ↓oV_at20, ↓oV_at21, ↓oV_at22, ↓oV_at23, ↓oV_at24, ↓oV_at25, ↓oV_at26, ↓oV_at27, ↓oV_at28, ↓oV_at29, ↓oV_at30, ↓oV_at31, ↓oV_at32, ↓oV_at33, ↓oV_at34, ↓oV_at35, ↓oV_at36, ↓oV_at37, ↓oV_at38, ↓oV_at39, ↓gLt_0, ↓gLt_1, ↓gLt_2, ↓gLt_3, ↓gLt_4, ↓gLt_5, ↓gLt_6, ↓gLt_7, ↓gLt_8, ↓gLt_9, ↓gLt_10, ↓gLt_11, ↓gLt_12, ↓gLt_13, ↓gLt_14, ↓gLt_15, ↓gLt_16, ↓gLt_17, ↓gLt_18, ↓gLt_19, ↓gLt_20, ↓gLt_21, ↓gLt_22, ↓gLt_23, ↓gLt_24, ↓gLt_25, ↓gLt_26, ↓gLt_27, ↓gLt_28, ↓gLt_29, ↓gLt_30, ↓gLt_31, ↓gLt_32, ↓gLt_33, ↓gLt_34, ↓gLt_35, ↓gLt_36, ↓gLt_37, ↓gLt_38, ↓gLt_39, hMo_len, ↓hMo_f0, ↓hMo_p0, hMo_s0, ↓hMo_f1, ↓hMo_f2, ↓hMo_f3, ↓hMo_p3, hMo_s3_1, hMo_s3_2, ↓hMo_f4, ↓hMo_f5, ↓hMo_f6, ↓hMo_f7, ↓hMo_f8, ↓hMo_p8, hMo_s8, ↓hMo_f9, ↓hMo_p9, hMo_s9, ↓hMo_f10, ↓hMo_p10, hMo_s10, ↓hMo_f11, ↓hMo_p11, hMo_s11, ↓hMo_f12, ↓hMo_p12, hMo_s12, ↓hMo_f13, ↓hMo_p13, hMo_s13, ↓hMo_f14, ↓hMo_p14, hMo_s14, ↓hMo_f15, ↓hMo_p15, hMo_s15, ↓hMo_f16, ↓hMo_p16, hMo_s16, ↓hMo_f17, ↓hMo_f18, ↓hMo_f19, ↓hMo_f20, ↓hMo_f21, ↓hMo_f22, ↓hMo_f23, ↓hMo_f24, ↓hMo_f25, ↓hMo_f26, ↓hMo_f27, ↓hMo_f28, ↓hMo_f29, ↓hMo_f30, ↓hMo_f31, ↓hMo_f32, ↓hMo_f33, ↓hMo_f34, ↓hMo_p34, hMo_s34, ↓hMo_f35, ↓hMo_f36, ↓hMo_p36, hMo_s36, ↓hMo_f37, ↓hMo_p37, hMo_s37, ↓hMo_f38, ↓hMo_p38, hMo_s38, ↓hMo_f39, ↓hMo_f40, ↓hMo_p40, hMo_s40, ↓hMo_c1, hMo_t1, ↓hMo_c2, hMo_t2, ↓hMo_c3, hMo_t3, ↓hMo_c4, hMo_t4, ↓hMo_c5, hMo_t5, ↓hMo_c6, hMo_t6, ↓hMo_c7, hMo_t7, ↓hMo_c8, hMo_t8, ↓hMo_c9, hMo_t9, ↓hMo_cr, hMo_tr, mo_n0, mo_v0, mo_n1, mo_v1, mo_n2, mo_v2, mo_n3, mo_v3, mo_n4, mo_v4, mo_n5, mo_v5, mo_n6, mo_v6, mo_n7, mo_v7, mo_n8, mo_v8, mo_n9, mo_v9, mo_n10, mo_v10, mo_n11, mo_v11, mo_n12, mo_v12, mo_n13, mo_v13, mo_n14, mo_v14, mo_n15, mo_v15, gI_sI, gI_sA, gI_sL, gI_sD, gA_sI, gA_sA, gA_sL, gA_sD, gL_sI, gL_sA, gL_sL, gL_sD, dr_sI, dr_sA, dr_sL, dr_sD, rw_t, rw_f, row_sI, row_sL, row_sR, gI_sR, gL_sR, dr_sR, sR_sR, sR_self, row_sA3, row_sA4, row_sA5, row_sA6, row_sA7, row_sA8, row_sA9, gA_sR3, gA_sR4, gA_sR5, gA_sR6, gA_sR7, gA_sR8, gA_sR9, reduceIte, Nat.reduceEqDiff, ↓bI_01, bI_z, List.length_set, Option.toList_some, Option.toList_none, List.cons_append, List.nil_append, mo_i10, mo_i20, mo_i30, mo_i00, mo_i001, mo_i101, not_false_eq_true, false_implies, not_true_eq_false, true_implies, true_and, and_true, implies_true, hl, h5, List.length_set])
      | ((with_reducible show G _ _ _ _ _ _ _ _ _ 23 _ _ _); refine mo_c 23 (c9_addN (k := A.2.1.length) (w := 0) (by simp only [row_sR, List.length_set]; exact hl) hn (by decide)) lk9_160 (by decide +kernel) rfl rfl rfl rfl (by decide) (Nat.le_of_ble_eq_true rfl) (by decide) (by decide) ?_; rintro _ _ ⟨rfl, rfl⟩)
      | ((with_reducible show G _ _ _ _ _ _ _ _ _ 23 _ _ _); refine mo_c 23 (c9_addN (k := A.2.1.length) (w := 1) (by simp only [row_sR, List.length_set]; exact hl) hn (by decide)) lk9_160 (by decide +kernel) rfl rfl rfl rfl (by decide) (Nat.le_of_ble_eq_true rfl) (by decide) (by decide) ?_; rintro _ _ ⟨rfl, rfl⟩)
      | ((with_reducible show G _ _ _ _ _ _ _ _ _ 23 _ _ _); refine mo_c 23 (c9_addN (k := A.2.1.length) (w := 2) (by simp only [row_sR, List.length_set]; exact hl) hn (by decide)) lk9_160 (by decide +kernel) rfl rfl rfl rfl (by decide) (Nat.le_of_ble_eq_true rfl) (by decide) (by decide) ?_; rintro _ _ ⟨rfl, rfl⟩)
      | ((with_reducible show G _ _ _ _ _ _ _ _ _ 23 _ _ _); refine mo_c 23 (c9_addN (k := A.2.1.length) (w := 3) (by simp only [row_sR, List.length_set]; exact hl) hn (by decide)) lk9_160 (by decide +kernel) rfl rfl rfl rfl (by decide) (Nat.le_of_ble_eq_true rfl) (by decide) (by decide) ?_; rintro _ _ ⟨rfl, rfl⟩)
      | ((with_reducible show G _ _ _ _ _ _ _ _ _ 31 _ _ _); refine mo_c 31 (c9_addN (k := A.2.1.length) (w := 0) (by simp only [row_sR, List.length_set]; exact hl) hn (by decide)) lk9_160 (by decide +kernel) rfl rfl rfl rfl (by decide) (Nat.le_of_ble_eq_true rfl) (by decide) (by decide) ?_; rintro _ _ ⟨rfl, rfl⟩)
      | ((with_reducible show G _ _ _ _ _ _ _ _ _ 31 _ _ _); refine mo_c 31 (c9_addN (k := A.2.1.length) (w := 1) (by simp only [row_sR, List.length_set]; exact hl) hn (by decide)) lk9_160 (by decide +kernel) rfl rfl rfl rfl (by decide) (Nat.le_of_ble_eq_true rfl) (by decide) (by decide) ?_; rintro _ _ ⟨rfl, rfl⟩)
      | ((with_reducible show G _ _ _ _ _ _ _ _ _ 31 _ _ _); refine mo_c 31 (c9_addN (k := A.2.1.length) (w := 2) (by simp only [row_sR, List.length_set]; exact hl) hn (by decide)) lk9_160 (by decide +kernel) rfl rfl rfl rfl (by decide) (Nat.le_of_ble_eq_true rfl) (by decide) (by decide) ?_; rintro _ _ ⟨rfl, rfl⟩)
      | ((with_reducible show G _ _ _ _ _ _ _ _ _ 31 _ _ _); refine mo_c 31 (c9_addN (k := A.2.1.length) (w := 3) (by simp only [row_sR, List.length_set]; exact hl) hn (by decide)) lk9_160 (by decide +kernel) rfl rfl rfl rfl (by decide) (Nat.le_of_ble_eq_true rfl) (by decide) (by decide) ?_; rintro _ _ ⟨rfl, rfl⟩)
      | ((with_reducible show G _ _ _ _ _ _ _ _ _ 39 _ _ _); refine mo_c 39 (c9_addN (k := A.2.1.length) (w := 0) (by simp only [row_sR, List.length_set]; exact hl) hn (by decide)) lk9_160 (by decide +kernel) rfl rfl rfl rfl (by decide) (Nat.le_of_ble_eq_true rfl) (by decide) (by decide) ?_; rintro _ _ ⟨rfl, rfl⟩)
      | ((with_reducible show G _ _ _ _ _ _ _ _ _ 39 _ _ _); refine mo_c 39 (c9_addN (k := A.2.1.length) (w := 1) (by simp only [row_sR, List.length_set]; exact hl) hn (by decide)) lk9_160 (by decide +kernel) rfl rfl rfl rfl (by decide) (Nat.le_of_ble_eq_true rfl) (by decide) (by decide) ?_; rintro _ _ ⟨rfl, rfl⟩)
      | ((with_reducible show G _ _ _ _ _ _ _ _ _ 39 _ _ _); refine mo_c 39 (c9_addN (k := A.2.1.length) (w := 2) (by simp only [row_sR, List.length_set]; exact hl) hn (by decide)) lk9_160 (by decide +kernel) rfl rfl rfl rfl (by decide) (Nat.le_of_ble_eq_true rfl) (by decide) (by decide) ?_; rintro _ _ ⟨rfl, rfl⟩)
      | ((with_reducible show G _ _ _ _ _ _ _ _ _ 39 _ _ _); refine mo_c 39 (c9_addN (k := A.2.1.length) (w := 3) (by simp only [row_sR, List.length_set]; exact hl) hn (by decide)) lk9_160 (by decide +kernel) rfl rfl rfl rfl (by decide) (Nat.le_of_ble_eq_true rfl) (by decide) (by decide) ?_; rintro _ _ ⟨rfl, rfl⟩)
      | ((with_reducible show G _ _ _ _ _ _ _ _ _ 48 _ _ _); refine mo_c 48 (c9_addN (k := A.2.1.length) (w := 0) (by simp only [row_sR, List.length_set]; exact hl) hn (by decide)) lk9_160 (by decide +kernel) rfl rfl rfl rfl (by decide) (Nat.le_of_ble_eq_true rfl) (by decide) (by decide) ?_; rintro _ _ ⟨rfl, rfl⟩)
      | ((with_reducible show G _ _ _ _ _ _ _ _ _ 48 _ _ _); refine mo_c 48 (c9_addN (k := A.2.1.length) (w := 1) (by simp only [row_sR, List.length_set]; exact hl) hn (by decide)) lk9_160 (by decide +kernel) rfl rfl rfl rfl (by decide) (Nat.le_of_ble_eq_true rfl) (by decide) (by decide) ?_; rintro _ _ ⟨rfl, rfl⟩)
      | ((with_reducible show G _ _ _ _ _ _ _ _ _ 48 _ _ _); refine mo_c 48 (c9_addN (k := A.2.1.length) (w := 2) (by simp only [row_sR, List.length_set]; exact hl) hn (by decide)) lk9_160 (by decide +kernel) rfl rfl rfl rfl (by decide) (Nat.le_of_ble_eq_true rfl) (by decide) (by decide) ?_; rintro _ _ ⟨rfl, rfl⟩)
      | ((with_reducible show G _ _ _ _ _ _ _ _ _ 48 _ _ _); refine mo_c 48 (c9_addN (k := A.2.1.length) (w := 3) (by simp only [row_sR, List.length_set]; exact hl) hn (by decide)) lk9_160 (by decide +kernel) rfl rfl rfl rfl (by decide) (Nat.le_of_ble_eq_true rfl) (by decide) (by decide) ?_; rintro _ _ ⟨rfl, rfl⟩)
      | (exfalso; omega))
  refine ⟨rfl, _, rfl, ?_⟩
  generalize row' S = r at hR hl h5 ⊢
  obtain ⟨h1, h2, h3, h4, h5', h6, h7, h8⟩ := id hR
  have z0 := h7 (16 + 4 * A.2.1.length + 0) (by omega) (by omega)
  have z1 := h7 (16 + 4 * A.2.1.length + 1) (by omega) (by omega)
  have z2 := h7 (16 + 4 * A.2.1.length + 2) (by omega) (by omega)
  have z3 := h7 (16 + 4 * A.2.1.length + 3) (by omega) (by omega)
  have q12 := h5' 12 (by decide)
  have q13 := h5' 13 (by decide)
  refine ⟨by simp only [List.length_set]; exact hl, by simp only [trdA, List.length_append, List.length_singleton]; omega, h3, h4, fun j hj => ?_, fun k t hk => ?_, fun j hj hj9 => ?_, fun k o ho => ?_⟩
  · by_cases e13 : j = 13
    · subst e13
      simp (disch := first | omega | (simp only [List.length_set]; assumption)) only [gD_ne, gD_e]
      rw [q13]; rfl
    · by_cases e12 : j = 12
      · subst e12
        simp (disch := first | omega | (simp only [List.length_set]; assumption)) only [gD_ne, gD_e]
        rw [q12]; rfl
      · by_cases e5 : j = 5
        · subst e5
          simp (disch := first | omega | (simp only [List.length_set]; assumption)) only [gD_ne, gD_e]
          show nI _ + 1 = nI (A.2.1 ++ [_]).length
          rw [List.length_append]; exact nI_1 _
        · simp (disch := first | omega | (simp only [List.length_set]; assumption)) only [gD_ne]
          rw [h5' j hj]
          match j, hj, e13, e12, e5 with
          | 0, _, _, _, _ => rfl
          | 1, _, _, _, _ => rfl
          | 2, _, _, _, _ => rfl
          | 3, _, _, _, _ => rfl
          | 4, _, _, _, _ => rfl
          | 5, _, _, _, h => exact absurd rfl h
          | 6, _, _, _, _ => rfl
          | 7, _, _, _, _ => rfl
          | 8, _, _, _, _ => rfl
          | 9, _, _, _, _ => rfl
          | 10, _, _, _, _ => rfl
          | 11, _, _, _, _ => rfl
          | 12, _, _, h, _ => exact absurd rfl h
          | 13, _, h, _, _ => exact absurd rfl h
          | 14, _, _, _, _ => rfl
          | 15, _, _, _, _ => rfl
          | n + 16, h, _, _, _ => exact absurd h (by omega)
  · have hk : (A.2.1 ++ [(nm, c, g)])[k]? = some t := hk
    by_cases hlt : k < A.2.1.length
    · rw [List.getElem?_append_left hlt] at hk
      refine (h6 k t hk).ext fun j _ _ => ?_
      simp (disch := first | omega | (simp only [List.length_set]; assumption)) only [gD_ne]
    · have hk9 := (List.getElem?_eq_some_iff.mp hk).1
      simp only [List.length_append, List.length_singleton] at hk9
      have e : k = A.2.1.length := by omega
      subst e
      rw [List.getElem?_append_right (Nat.le_refl _), Nat.sub_self] at hk
      cases hk
      refine ⟨?_, ?_, ?_, ?_⟩
      all_goals simp (disch := first | omega | (simp only [List.length_set]; assumption)) only [gD_ne, gD_e]
      · have := z0; simp only [Nat.add_zero] at this ⊢; rw [this]; exact Int32.zero_add _
      · rw [z1]; exact Int32.zero_add _
      · rw [z2]; exact Int32.zero_add _
      · rw [z3]; exact Int32.zero_add _
  · have hj : 16 + 4 * (A.2.1 ++ [(nm, c, g)]).length ≤ j := hj
    simp only [List.length_append, List.length_singleton] at hj
    simp (disch := first | omega | (simp only [List.length_set]; assumption)) only [gD_ne]
    exact h7 j (by omega) hj9
  · refine (h8 k o ho).ext fun j _ _ => ?_
    simp (disch := first | omega | (simp only [List.length_set]; assumption)) only [gD_ne]
end CMO
