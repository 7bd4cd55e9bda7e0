section CX7
set_option maxRecDepth 100000
/-! ### the line of one side -/
def oa (os : List Od) (k : Nat) : Od := os.getD k (0, 0, 0, 0, 0, 0)
theorem oa_s {os : List Od} {k : Nat} {o : Od} (h : os[k]? = some o) : oa os k = o := by
  unfold oa
  rw [List.getD_eq_getElem?_getD, h]; rfl
def bet (os : List Od) (w x y : Nat) : Bool := if w = 0 then decide (oL (oa os y) < oL (oa os x)) else decide (oL (oa os x) < oL (oa os y))
def insA (os : List Od) (w x : Nat) : List Nat → List Nat → List Nat
  | [], M => x :: M
  | y :: R, M => if bet os w x y = true then insA os w x R (y :: M) else R.reverse ++ y :: x :: M
def line (os : List Od) (w : Nat) : Nat → List Nat
  | 0 => []
  | k + 1 => if oS (oa os k) = w then insA os w k (line os w k).reverse [] else line os w k
def Hd (t : List Int32) (l : List Nat) : Prop := ∀ (i y : Nat), l[i]? = some y → t.getD i 0 = nI y
theorem insA_c {os : List Od} {w x y : Nat} {R M : List Nat} : insA os w x (y :: R) M = if bet os w x y = true then insA os w x R (y :: M) else R.reverse ++ y :: x :: M := rfl
theorem insA_len {os : List Od} {w x : Nat} : ∀ (R M : List Nat), (insA os w x R M).length = R.length + M.length + 1 := by
  intro R
  induction R with
  | nil => intro M; simp [insA]
  | cons y R ih =>
    intro M
    unfold insA
    split
    · rw [ih]; simp; omega
    · simp; omega
theorem insA_mem {os : List Od} {w x : Nat} : ∀ (R M : List Nat) (z : Nat), z ∈ insA os w x R M ↔ z = x ∨ z ∈ R ∨ z ∈ M := by
  intro R
  induction R with
  | nil => intro M z; simp [insA]
  | cons y R ih =>
    intro M z
    unfold insA
    split
    · rw [ih]; simp only [List.mem_cons]; constructor
      · rintro (h | h | h | h)
        · exact Or.inl h
        · exact Or.inr (Or.inl (Or.inr h))
        · exact Or.inr (Or.inl (Or.inl h))
        · exact Or.inr (Or.inr h)
      · rintro (h | (h | h) | h)
        · exact Or.inl h
        · exact Or.inr (Or.inr (Or.inl h))
        · exact Or.inr (Or.inl h)
        · exact Or.inr (Or.inr (Or.inr h))
    · simp only [List.mem_append, List.mem_reverse, List.mem_cons]; constructor
      · rintro (h | h | h | h) <;> simp [h]
      · rintro (h | (h | h) | h) <;> simp [h]
theorem line_mem {os : List Od} {w : Nat} : ∀ (k z : Nat), z ∈ line os w k ↔ z < k ∧ oS (oa os z) = w := by
  intro k
  induction k with
  | zero => intro z; simp [line]
  | succ k ih =>
    intro z
    unfold line
    split
    · rename_i h
      rw [insA_mem, List.mem_reverse, ih]
      constructor
      · rintro (rfl | h' | h')
        · exact ⟨by omega, h⟩
        · exact ⟨by omega, h'.2⟩
        · simp at h'
      · intro h'
        by_cases hz : z = k
        · exact Or.inl hz
        · exact Or.inr (Or.inl ⟨by omega, h'.2⟩)
    · rename_i h
      rw [ih]
      constructor
      · intro h'; exact ⟨by omega, h'.2⟩
      · intro h'
        by_cases hz : z = k
        · subst hz; exact absurd h'.2 h
        · exact ⟨by omega, h'.2⟩
theorem line_len {os : List Od} {w : Nat} : ∀ (k : Nat), (line os w k).length ≤ k := by
  intro k
  induction k with
  | zero => simp [line]
  | succ k ih =>
    unfold line
    split
    · rw [insA_len]; simp; exact ih
    · omega
theorem nI_s1 (m : Nat) : nI (m + 1) - 1 = nI m := by rw [show (1 : Int32) = nI 1 from rfl, nI_sub (by omega)]; rfl
/-- the crossing with another line -/
def crT (C : CrT) (t : List Int32) : CrT := (C.1, C.2.1, C.2.2.1, C.2.2.2.1, C.2.2.2.2.1, C.2.2.2.2.2.1, C.2.2.2.2.2.2.1, C.2.2.2.2.2.2.2.1, C.2.2.2.2.2.2.2.2.1, t)
theorem l1_ins {os : List Od} {C : CrT} {w x n : Nat} {h0 : gH} {Q : Option Value → gH → Prop} {QX : String → gH → Prop} (hC : CrR C os) (hw : w ≤ 1) (hx : x < os.length) (hn : n < 21)
    (hQ : ∀ (t : List Int32) (l4 : Option Value) (l : List Nat), t.length = 21 → l = insA os w x (line os w x).reverse [] → Hd t l → G m1_lineUp 1 0 0 h0 Q QX 0 0 116 [some (.ref 0), some (.int (nI w)), some (.int (nI (n + 1))), some (.int (nI x)), l4] [] (hCr (crT C t))) :
    ∀ (R M : List Nat) (t : List Int32), t.length = 21 → R.length + M.length = n → (∀ y ∈ R, y < os.length) → insA os w x R M = insA os w x (line os w x).reverse [] → Hd t R.reverse → (∀ i y, M[i]? = some y → t.getD (R.length + 1 + i) 0 = nI y) → G m1_lineUp 1 0 0 h0 Q QX 0 0 25 [some (.ref 0), some (.int (nI w)), some (.int (nI n)), some (.int (nI x)), some (.int (nI R.length))] [] (hCr (crT C t)) := by
  obtain ⟨b1, b2, ⟨c1, c2, c3, c4, c5⟩, b3, b4⟩ := id hC
  obtain ⟨o, ho, ⟨r1, r2, r3⟩, o1, o2, o3, o4⟩ := cr_row hC hx
  have hoa := oa_s ho
  obtain ⟨nn, p, v, s, d, sd, li, qu, fi, tu⟩ := C
  simp only at b1 c1 c2 c3 c4 c5 r1 r2 r3
  simp only [crT] at hQ ⊢
  have h105 : ∀ (R M : List Nat) (t : List Int32), t.length = 21 → R.length + M.length = n → R.reverse ++ x :: M = insA os w x (line os w x).reverse [] → Hd t R.reverse → (∀ i y, M[i]? = some y → t.getD (R.length + 1 + i) 0 = nI y) → G m1_lineUp 1 0 0 h0 Q QX 0 0 105 [some (.ref 0), some (.int (nI w)), some (.int (nI n)), some (.int (nI x)), some (.int (nI R.length))] [] (hCr (nn, p, v, s, d, sd, li, qu, fi, t)) := by
    intro R M t ht hRM hl hR hM
    refine wpb_s rfl (by decide) (by decide) _ k1_lineUp_105 ?_
    simp only [w_nil, w_iadd, w_isub, w_imul, w_iand, w_ior, w_ishl, w_ishr, w_idiv, w_irem, w_ladd, w_lsub, w_lmul, w_lcmp, w_fdiv, w_ddiv, w_ineg, w_i2l, w_l2i, w_i2b, w_i2c, w_i2f, w_i2d, w_l2d, w_f2d, w_dcmp, w_iconst, w_bipush, w_sipush, w_lconst, w_fconst, w_dconst, w_iload_n0, w_iload_n1, w_iload_n2, w_iload_n3, w_iload, w_lload_n0, w_lload_n1, w_lload_n2, w_lload_n3, w_lload, w_aload_n0, w_aload_n1, w_aload_n2, w_aload_n3, w_aload, w_dload, w_istore_n0, w_istore_n1, w_istore_n2, w_istore_n3, w_istore, w_lstore_n0, w_lstore_n1, w_lstore_n2, w_lstore_n3, w_lstore, w_astore_n0, w_astore_n1, w_astore_n2, w_astore_n3, w_astore, w_dstore, w_iinc, w_dup, w_pop, w_dup2, w_getfield, w_putfield0, w_putfield1, w_putfield2, w_iaload, w_baload, w_aaload0, w_aaload1, w_iastore, w_bastore, w_aastore, w_ldc0, w_ldc1, w_ldc_w, w_ldc2_w, w_ifCond_eq, w_ifCond_ne, w_ifCond_lt, w_ifCond_ge, w_ifCond_gt, w_ifCond_le, w_if_icmp_eq, w_if_icmp_ne, w_if_icmp_lt, w_if_icmp_ge, w_if_icmp_gt, w_if_icmp_le, w_goto, w_ireturn, w_areturn, w_return_, w_lreturn, w_freturn, w_dreturn, Int32.reduceOfInt, List.getElem?_cons_succ, List.getElem?_cons_zero, List.set_cons_succ, List.set_cons_zero, Nat.reduceAdd, Nat.reduceLT, Option.some.injEq, and_true, ↓cI_cq, ↓cL_cq, ↓cO_cq, ↓cQ_cq, false_implies, fin0_4, fin1_4, fin2_4, fin3_4, gSet1_0, gSet1_1, gSet1_2, gSet2_0, gSet2_1, gSet2_2, gUp_0, gUp_c, gW1_0, gW1_d, gW1_i, gW1_l, gW1_r, gW1_u, ↓lD_cq, ↓lI_cq, ↓lL_cq, ↓lR_cq, mR, not_false_eq_true, not_true_eq_false, ↓oV_cq, or_true, ↓p1_iq, ↓p1_nq, ↓p1_rq, ↓pD_cq, ↓pF_cq, ↓pI_cq, ↓pL_cq, ↓pN_nq, ↓pN_rq, ↓pR_cq, reduceCtorEq, true_and, true_implies, true_or, ↓lI_at0, ↓lI_at1, ↓lI_at2, ↓lI_at3, ↓lI_at4, ↓lI_at5, ↓lI_at6, ↓lI_at7, ↓lI_at8, ↓lI_at9, ↓lL_at0, ↓lL_at1, ↓lL_at2, ↓lL_at3, ↓lL_at4, ↓lL_at5, ↓lL_at6, ↓lL_at7, ↓lL_at8, ↓lL_at9, ↓lD_at0, ↓lD_at1, ↓lD_at2, ↓lD_at3, ↓lD_at4, ↓lD_at5, ↓lD_at6, ↓lD_at7, ↓lD_at8, ↓lD_at9, ↓lR_at0, ↓lR_at1, ↓lR_at2, ↓lR_at3, ↓lR_at4, ↓lR_at5, ↓lR_at6, ↓lR_at7, ↓lR_at8, ↓lR_at9, ↓oV_at0, ↓oV_at1, ↓oV_at2, ↓oV_at3, ↓oV_at4, ↓oV_at5, ↓oV_at6, ↓oV_at7, ↓oV_at8, ↓oV_at9, ↓oV_at10, ↓oV_at11, ↓oV_at12, ↓oV_at13, ↓oV_at14, ↓oV_at15, ↓oV_at16, ↓oV_at17, ↓oV_at18, ↓oV_at19, ↓oV_at20, ↓oV_at21, ↓oV_at22, ↓oV_at23, ↓oV_at24, ↓oV_at25, ↓oV_at26, ↓oV_at27, ↓oV_at28, ↓oV_at29, ↓oV_at30, ↓oV_at31, ↓oV_at32, ↓oV_at33, ↓oV_at34, ↓oV_at35, ↓oV_at36, ↓oV_at37, ↓oV_at38, ↓oV_at39, ↓gLt_0, ↓gLt_1, ↓gLt_2, ↓gLt_3, ↓gLt_4, ↓gLt_5, ↓gLt_6, ↓gLt_7, ↓gLt_8, ↓gLt_9, ↓gLt_10, ↓gLt_11, ↓gLt_12, ↓gLt_13, ↓gLt_14, ↓gLt_15, ↓gLt_16, ↓gLt_17, ↓gLt_18, ↓gLt_19, ↓gLt_20, ↓gLt_21, ↓gLt_22, ↓gLt_23, ↓gLt_24, ↓gLt_25, ↓gLt_26, ↓gLt_27, ↓gLt_28, ↓gLt_29, ↓gLt_30, ↓gLt_31, ↓gLt_32, ↓gLt_33, ↓gLt_34, ↓gLt_35, ↓gLt_36, ↓gLt_37, ↓gLt_38, ↓gLt_39, hCr_len, ↓hCr_c0, hCr_s0_0, hCr_s0_1, hCr_s0_2, hCr_s0_3, hCr_s0_4, ↓hCr_c1, hCr_s1, ↓hCr_c2, hCr_s2, ↓hCr_c3, hCr_s3, ↓hCr_c4, hCr_s4, ↓hCr_c5, hCr_s5, nIc (show R.length < 1000000 by omega), ht, nI_1]
    simp (disch := omega) only [nIc, nI_ltI, nI_leI, nI_eq, nI_z, nI_o, ge_iff_le, gt_iff_lt, nI_1, nI_add, pk_mul, vp_in_nI, true_and, and_true, true_implies]
    refine hQ _ _ _ (by simpa using ht) hl (fun i y hi => ?_)
    rcases Nat.lt_trichotomy i R.length with h | h | h
    · rw [gD_ne (by omega)]
      rw [List.getElem?_append_left (by simpa using h)] at hi
      exact hR i y hi
    · subst h
      rw [List.getElem?_append_right (by simp)] at hi
      simp at hi
      rw [gD_eq (by omega), hi]
    · rw [gD_ne (by omega)]
      obtain ⟨j, rfl⟩ : ∃ j, i = R.length + 1 + j := ⟨i - R.length - 1, by omega⟩
      rw [List.getElem?_append_right (by simp; omega)] at hi
      rw [show R.length + 1 + j - R.reverse.length = j + 1 by simp; omega, List.getElem?_cons_succ] at hi
      exact hM j y hi
  intro R
  induction R with
  | nil =>
    intro M t ht hRM hRb hl hR hM
    refine wpb_t 2 rfl (by decide) (by decide) _ k1_lineUp_25 ?_
    simp only [List.take_succ_cons, List.take_zero, w_nil, w_iadd, w_isub, w_imul, w_iand, w_ior, w_ishl, w_ishr, w_idiv, w_irem, w_ladd, w_lsub, w_lmul, w_lcmp, w_fdiv, w_ddiv, w_ineg, w_i2l, w_l2i, w_i2b, w_i2c, w_i2f, w_i2d, w_l2d, w_f2d, w_dcmp, w_iconst, w_bipush, w_sipush, w_lconst, w_fconst, w_dconst, w_iload_n0, w_iload_n1, w_iload_n2, w_iload_n3, w_iload, w_lload_n0, w_lload_n1, w_lload_n2, w_lload_n3, w_lload, w_aload_n0, w_aload_n1, w_aload_n2, w_aload_n3, w_aload, w_dload, w_istore_n0, w_istore_n1, w_istore_n2, w_istore_n3, w_istore, w_lstore_n0, w_lstore_n1, w_lstore_n2, w_lstore_n3, w_lstore, w_astore_n0, w_astore_n1, w_astore_n2, w_astore_n3, w_astore, w_dstore, w_iinc, w_dup, w_pop, w_dup2, w_getfield, w_putfield0, w_putfield1, w_putfield2, w_iaload, w_baload, w_aaload0, w_aaload1, w_iastore, w_bastore, w_aastore, w_ldc0, w_ldc1, w_ldc_w, w_ldc2_w, w_ifCond_eq, w_ifCond_ne, w_ifCond_lt, w_ifCond_ge, w_ifCond_gt, w_ifCond_le, w_if_icmp_eq, w_if_icmp_ne, w_if_icmp_lt, w_if_icmp_ge, w_if_icmp_gt, w_if_icmp_le, w_goto, w_ireturn, w_areturn, w_return_, w_lreturn, w_freturn, w_dreturn, Int32.reduceOfInt, List.getElem?_cons_succ, List.getElem?_cons_zero, List.set_cons_succ, List.set_cons_zero, Nat.reduceAdd, Nat.reduceLT, Option.some.injEq, and_true, ↓cI_cq, ↓cL_cq, ↓cO_cq, ↓cQ_cq, false_implies, fin0_4, fin1_4, fin2_4, fin3_4, gSet1_0, gSet1_1, gSet1_2, gSet2_0, gSet2_1, gSet2_2, gUp_0, gUp_c, gW1_0, gW1_d, gW1_i, gW1_l, gW1_r, gW1_u, ↓lD_cq, ↓lI_cq, ↓lL_cq, ↓lR_cq, mR, not_false_eq_true, not_true_eq_false, ↓oV_cq, or_true, ↓p1_iq, ↓p1_nq, ↓p1_rq, ↓pD_cq, ↓pF_cq, ↓pI_cq, ↓pL_cq, ↓pN_nq, ↓pN_rq, ↓pR_cq, reduceCtorEq, true_and, true_implies, true_or, ↓lI_at0, ↓lI_at1, ↓lI_at2, ↓lI_at3, ↓lI_at4, ↓lI_at5, ↓lI_at6, ↓lI_at7, ↓lI_at8, ↓lI_at9, ↓lL_at0, ↓lL_at1, ↓lL_at2, ↓lL_at3, ↓lL_at4, ↓lL_at5, ↓lL_at6, ↓lL_at7, ↓lL_at8, ↓lL_at9, ↓lD_at0, ↓lD_at1, ↓lD_at2, ↓lD_at3, ↓lD_at4, ↓lD_at5, ↓lD_at6, ↓lD_at7, ↓lD_at8, ↓lD_at9, ↓lR_at0, ↓lR_at1, ↓lR_at2, ↓lR_at3, ↓lR_at4, ↓lR_at5, ↓lR_at6, ↓lR_at7, ↓lR_at8, ↓lR_at9, ↓oV_at0, ↓oV_at1, ↓oV_at2, ↓oV_at3, ↓oV_at4, ↓oV_at5, ↓oV_at6, ↓oV_at7, ↓oV_at8, ↓oV_at9, ↓oV_at10, ↓oV_at11, ↓oV_at12, ↓oV_at13, ↓oV_at14, ↓oV_at15, ↓oV_at16, ↓oV_at17, ↓oV_at18, ↓oV_at19, ↓oV_at20, ↓oV_at21, ↓oV_at22, ↓oV_at23, ↓oV_at24, ↓oV_at25, ↓oV_at26, ↓oV_at27, ↓oV_at28, ↓oV_at29, ↓oV_at30, ↓oV_at31, ↓oV_at32, ↓oV_at33, ↓oV_at34, ↓oV_at35, ↓oV_at36, ↓oV_at37, ↓oV_at38, ↓oV_at39, ↓gLt_0, ↓gLt_1, ↓gLt_2, ↓gLt_3, ↓gLt_4, ↓gLt_5, ↓gLt_6, ↓gLt_7, ↓gLt_8, ↓gLt_9, ↓gLt_10, ↓gLt_11, ↓gLt_12, ↓gLt_13, ↓gLt_14, ↓gLt_15, ↓gLt_16, ↓gLt_17, ↓gLt_18, ↓gLt_19, ↓gLt_20, ↓gLt_21, ↓gLt_22, ↓gLt_23, ↓gLt_24, ↓gLt_25, ↓gLt_26, ↓gLt_27, ↓gLt_28, ↓gLt_29, ↓gLt_30, ↓gLt_31, ↓gLt_32, ↓gLt_33, ↓gLt_34, ↓gLt_35, ↓gLt_36, ↓gLt_37, ↓gLt_38, ↓gLt_39, hCr_len, ↓hCr_c0, hCr_s0_0, hCr_s0_1, hCr_s0_2, hCr_s0_3, hCr_s0_4, ↓hCr_c1, hCr_s1, ↓hCr_c2, hCr_s2, ↓hCr_c3, hCr_s3, ↓hCr_c4, hCr_s4, ↓hCr_c5, hCr_s5]
    refine ⟨fun _ => h105 [] M t ht hRM hl hR hM, fun h => absurd (Int32.le_refl _) h⟩
  | cons y R ih =>
    intro M t ht hRM hRb hl hR hM
    simp only [List.length_cons] at hRM hM ⊢
    obtain ⟨oy, hoy, ⟨y1, y2, y3⟩, z1, z2, z3, z4⟩ := cr_row hC (hRb y List.mem_cons_self)
    have hoya := oa_s hoy
    simp only at y1 y2 y3
    have hty : t.getD R.length 0 = nI y := hR R.length y (by simp)
    have hyb := hRb y List.mem_cons_self
    have no : ¬ bet os w x y = true → G m1_lineUp 1 0 0 h0 Q QX 0 0 105 [some (.ref 0), some (.int (nI w)), some (.int (nI n)), some (.int (nI x)), some (.int (nI (R.length + 1)))] [] (hCr (nn, p, v, s, d, sd, li, qu, fi, t)) := by
      intro hb
      rw [insA_c, if_neg hb] at hl
      exact h105 (y :: R) M t ht hRM (by simpa using hl) hR hM
    have yes : bet os w x y = true → G m1_lineUp 1 0 0 h0 Q QX 0 0 83 [some (.ref 0), some (.int (nI w)), some (.int (nI n)), some (.int (nI x)), some (.int (nI (R.length + 1)))] [] (hCr (nn, p, v, s, d, sd, li, qu, fi, t)) := by
      intro hb
      rw [insA_c, if_pos hb] at hl
      refine wpb_s rfl (by decide) (by decide) _ k1_lineUp_83 ?_
      simp only [w_nil, w_iadd, w_isub, w_imul, w_iand, w_ior, w_ishl, w_ishr, w_idiv, w_irem, w_ladd, w_lsub, w_lmul, w_lcmp, w_fdiv, w_ddiv, w_ineg, w_i2l, w_l2i, w_i2b, w_i2c, w_i2f, w_i2d, w_l2d, w_f2d, w_dcmp, w_iconst, w_bipush, w_sipush, w_lconst, w_fconst, w_dconst, w_iload_n0, w_iload_n1, w_iload_n2, w_iload_n3, w_iload, w_lload_n0, w_lload_n1, w_lload_n2, w_lload_n3, w_lload, w_aload_n0, w_aload_n1, w_aload_n2, w_aload_n3, w_aload, w_dload, w_istore_n0, w_istore_n1, w_istore_n2, w_istore_n3, w_istore, w_lstore_n0, w_lstore_n1, w_lstore_n2, w_lstore_n3, w_lstore, w_astore_n0, w_astore_n1, w_astore_n2, w_astore_n3, w_astore, w_dstore, w_iinc, w_dup, w_pop, w_dup2, w_getfield, w_putfield0, w_putfield1, w_putfield2, w_iaload, w_baload, w_aaload0, w_aaload1, w_iastore, w_bastore, w_aastore, w_ldc0, w_ldc1, w_ldc_w, w_ldc2_w, w_ifCond_eq, w_ifCond_ne, w_ifCond_lt, w_ifCond_ge, w_ifCond_gt, w_ifCond_le, w_if_icmp_eq, w_if_icmp_ne, w_if_icmp_lt, w_if_icmp_ge, w_if_icmp_gt, w_if_icmp_le, w_goto, w_ireturn, w_areturn, w_return_, w_lreturn, w_freturn, w_dreturn, Int32.reduceOfInt, List.getElem?_cons_succ, List.getElem?_cons_zero, List.set_cons_succ, List.set_cons_zero, Nat.reduceAdd, Nat.reduceLT, Option.some.injEq, and_true, ↓cI_cq, ↓cL_cq, ↓cO_cq, ↓cQ_cq, false_implies, fin0_4, fin1_4, fin2_4, fin3_4, gSet1_0, gSet1_1, gSet1_2, gSet2_0, gSet2_1, gSet2_2, gUp_0, gUp_c, gW1_0, gW1_d, gW1_i, gW1_l, gW1_r, gW1_u, ↓lD_cq, ↓lI_cq, ↓lL_cq, ↓lR_cq, mR, not_false_eq_true, not_true_eq_false, ↓oV_cq, or_true, ↓p1_iq, ↓p1_nq, ↓p1_rq, ↓pD_cq, ↓pF_cq, ↓pI_cq, ↓pL_cq, ↓pN_nq, ↓pN_rq, ↓pR_cq, reduceCtorEq, true_and, true_implies, true_or, ↓lI_at0, ↓lI_at1, ↓lI_at2, ↓lI_at3, ↓lI_at4, ↓lI_at5, ↓lI_at6, ↓lI_at7, ↓lI_at8, ↓lI_at9, ↓lL_at0, ↓lL_at1, ↓lL_at2, ↓lL_at3, ↓lL_at4, ↓lL_at5, ↓lL_at6, ↓lL_at7, ↓lL_at8, ↓lL_at9, ↓lD_at0, ↓lD_at1, ↓lD_at2, ↓lD_at3, ↓lD_at4, ↓lD_at5, ↓lD_at6, ↓lD_at7, ↓lD_at8, ↓lD_at9, ↓lR_at0, ↓lR_at1, ↓lR_at2, ↓lR_at3, ↓lR_at4, ↓lR_at5, ↓lR_at6, ↓lR_at7, ↓lR_at8, ↓lR_at9, ↓oV_at0, ↓oV_at1, ↓oV_at2, ↓oV_at3, ↓oV_at4, ↓oV_at5, ↓oV_at6, ↓oV_at7, ↓oV_at8, ↓oV_at9, ↓oV_at10, ↓oV_at11, ↓oV_at12, ↓oV_at13, ↓oV_at14, ↓oV_at15, ↓oV_at16, ↓oV_at17, ↓oV_at18, ↓oV_at19, ↓oV_at20, ↓oV_at21, ↓oV_at22, ↓oV_at23, ↓oV_at24, ↓oV_at25, ↓oV_at26, ↓oV_at27, ↓oV_at28, ↓oV_at29, ↓oV_at30, ↓oV_at31, ↓oV_at32, ↓oV_at33, ↓oV_at34, ↓oV_at35, ↓oV_at36, ↓oV_at37, ↓oV_at38, ↓oV_at39, ↓gLt_0, ↓gLt_1, ↓gLt_2, ↓gLt_3, ↓gLt_4, ↓gLt_5, ↓gLt_6, ↓gLt_7, ↓gLt_8, ↓gLt_9, ↓gLt_10, ↓gLt_11, ↓gLt_12, ↓gLt_13, ↓gLt_14, ↓gLt_15, ↓gLt_16, ↓gLt_17, ↓gLt_18, ↓gLt_19, ↓gLt_20, ↓gLt_21, ↓gLt_22, ↓gLt_23, ↓gLt_24, ↓gLt_25, ↓gLt_26, ↓gLt_27, ↓gLt_28, ↓gLt_29, ↓gLt_30, ↓gLt_31, ↓gLt_32, ↓gLt_33, ↓gLt_34, ↓gLt_35, ↓gLt_36, ↓gLt_37, ↓gLt_38, ↓gLt_39, hCr_len, ↓hCr_c0, hCr_s0_0, hCr_s0_1, hCr_s0_2, hCr_s0_3, hCr_s0_4, ↓hCr_c1, hCr_s1, ↓hCr_c2, hCr_s2, ↓hCr_c3, hCr_s3, ↓hCr_c4, hCr_s4, ↓hCr_c5, hCr_s5, nI_s1, nI_m1, nIc (show R.length < 1000000 by omega), nIc (show R.length + 1 < 1000000 by omega), ht, hty]
      simp (disch := omega) only [nIc, nI_ltI, nI_leI, nI_eq, nI_z, nI_o, ge_iff_le, gt_iff_lt, nI_1, nI_add, pk_mul, vp_in_nI, true_and, and_true, true_implies]
      refine ih (y :: M) _ (by simpa using ht) (by simp; omega) (fun z hz => hRb z (List.mem_cons_of_mem _ hz)) hl (fun i z hi => ?_) (fun i z hi => ?_)
      · have hlt := (List.getElem?_eq_some_iff.mp hi).1
        simp at hlt
        rw [gD_ne (by omega)]
        exact hR i z (by rw [List.reverse_cons, List.getElem?_append_left (by simpa using hlt)]; exact hi)
      · cases i with
        | zero => simp at hi; subst hi; exact gD_eq (by omega)
        | succ i =>
          rw [List.getElem?_cons_succ] at hi
          rw [gD_ne (by omega)]
          have := hM i z hi
          rw [show R.length + 1 + (i + 1) = R.length + 1 + 1 + i by omega]
          exact this
    have hbe : ∀ q, bet os w x y = q ↔ (if w = 0 then decide (oL oy < oL o) else decide (oL o < oL oy)) = q := by
      intro q; unfold bet; rw [hoa, hoya]
    refine wpb_s rfl (by decide) (by decide) _ k1_lineUp_25 ?_
    simp only [w_nil, w_iadd, w_isub, w_imul, w_iand, w_ior, w_ishl, w_ishr, w_idiv, w_irem, w_ladd, w_lsub, w_lmul, w_lcmp, w_fdiv, w_ddiv, w_ineg, w_i2l, w_l2i, w_i2b, w_i2c, w_i2f, w_i2d, w_l2d, w_f2d, w_dcmp, w_iconst, w_bipush, w_sipush, w_lconst, w_fconst, w_dconst, w_iload_n0, w_iload_n1, w_iload_n2, w_iload_n3, w_iload, w_lload_n0, w_lload_n1, w_lload_n2, w_lload_n3, w_lload, w_aload_n0, w_aload_n1, w_aload_n2, w_aload_n3, w_aload, w_dload, w_istore_n0, w_istore_n1, w_istore_n2, w_istore_n3, w_istore, w_lstore_n0, w_lstore_n1, w_lstore_n2, w_lstore_n3, w_lstore, w_astore_n0, w_astore_n1, w_astore_n2, w_astore_n3, w_astore, w_dstore, w_iinc, w_dup, w_pop, w_dup2, w_getfield, w_putfield0, w_putfield1, w_putfield2, w_iaload, w_baload, w_aaload0, w_aaload1, w_iastore, w_bastore, w_aastore, w_ldc0, w_ldc1, w_ldc_w, w_ldc2_w, w_ifCond_eq, w_ifCond_ne, w_ifCond_lt, w_ifCond_ge, w_ifCond_gt, w_ifCond_le, w_if_icmp_eq, w_if_icmp_ne, w_if_icmp_lt, w_if_icmp_ge, w_if_icmp_gt, w_if_icmp_le, w_goto, w_ireturn, w_areturn, w_return_, w_lreturn, w_freturn, w_dreturn, Int32.reduceOfInt, List.getElem?_cons_succ, List.getElem?_cons_zero, List.set_cons_succ, List.set_cons_zero, Nat.reduceAdd, Nat.reduceLT, Option.some.injEq, and_true, ↓cI_cq, ↓cL_cq, ↓cO_cq, ↓cQ_cq, false_implies, fin0_4, fin1_4, fin2_4, fin3_4, gSet1_0, gSet1_1, gSet1_2, gSet2_0, gSet2_1, gSet2_2, gUp_0, gUp_c, gW1_0, gW1_d, gW1_i, gW1_l, gW1_r, gW1_u, ↓lD_cq, ↓lI_cq, ↓lL_cq, ↓lR_cq, mR, not_false_eq_true, not_true_eq_false, ↓oV_cq, or_true, ↓p1_iq, ↓p1_nq, ↓p1_rq, ↓pD_cq, ↓pF_cq, ↓pI_cq, ↓pL_cq, ↓pN_nq, ↓pN_rq, ↓pR_cq, reduceCtorEq, true_and, true_implies, true_or, ↓lI_at0, ↓lI_at1, ↓lI_at2, ↓lI_at3, ↓lI_at4, ↓lI_at5, ↓lI_at6, ↓lI_at7, ↓lI_at8, ↓lI_at9, ↓lL_at0, ↓lL_at1, ↓lL_at2, ↓lL_at3, ↓lL_at4, ↓lL_at5, ↓lL_at6, ↓lL_at7, ↓lL_at8, ↓lL_at9, ↓lD_at0, ↓lD_at1, ↓lD_at2, ↓lD_at3, ↓lD_at4, ↓lD_at5, ↓lD_at6, ↓lD_at7, ↓lD_at8, ↓lD_at9, ↓lR_at0, ↓lR_at1, ↓lR_at2, ↓lR_at3, ↓lR_at4, ↓lR_at5, ↓lR_at6, ↓lR_at7, ↓lR_at8, ↓lR_at9, ↓oV_at0, ↓oV_at1, ↓oV_at2, ↓oV_at3, ↓oV_at4, ↓oV_at5, ↓oV_at6, ↓oV_at7, ↓oV_at8, ↓oV_at9, ↓oV_at10, ↓oV_at11, ↓oV_at12, ↓oV_at13, ↓oV_at14, ↓oV_at15, ↓oV_at16, ↓oV_at17, ↓oV_at18, ↓oV_at19, ↓oV_at20, ↓oV_at21, ↓oV_at22, ↓oV_at23, ↓oV_at24, ↓oV_at25, ↓oV_at26, ↓oV_at27, ↓oV_at28, ↓oV_at29, ↓oV_at30, ↓oV_at31, ↓oV_at32, ↓oV_at33, ↓oV_at34, ↓oV_at35, ↓oV_at36, ↓oV_at37, ↓oV_at38, ↓oV_at39, ↓gLt_0, ↓gLt_1, ↓gLt_2, ↓gLt_3, ↓gLt_4, ↓gLt_5, ↓gLt_6, ↓gLt_7, ↓gLt_8, ↓gLt_9, ↓gLt_10, ↓gLt_11, ↓gLt_12, ↓gLt_13, ↓gLt_14, ↓gLt_15, ↓gLt_16, ↓gLt_17, ↓gLt_18, ↓gLt_19, ↓gLt_20, ↓gLt_21, ↓gLt_22, ↓gLt_23, ↓gLt_24, ↓gLt_25, ↓gLt_26, ↓gLt_27, ↓gLt_28, ↓gLt_29, ↓gLt_30, ↓gLt_31, ↓gLt_32, ↓gLt_33, ↓gLt_34, ↓gLt_35, ↓gLt_36, ↓gLt_37, ↓gLt_38, ↓gLt_39, hCr_len, ↓hCr_c0, hCr_s0_0, hCr_s0_1, hCr_s0_2, hCr_s0_3, hCr_s0_4, ↓hCr_c1, hCr_s1, ↓hCr_c2, hCr_s2, ↓hCr_c3, hCr_s3, ↓hCr_c4, hCr_s4, ↓hCr_c5, hCr_s5, nI_s1, nIc (show R.length < 1000000 by omega), nIc (show x < 1000000 by omega), nIc (show y < 1000000 by omega), hty, r2, y2, ht, c2]
    simp (disch := omega) only [nI_le0, nI_gt0, nI_ge0, nIc, nI_ltI, nI_leI, nI_eq, nI_z, nI_o, ge_iff_le, gt_iff_lt, nI_1, nI_add, pk_mul, vp_in_nI, true_and, and_true, true_implies, false_implies, not_false_eq_true]
    refine ⟨fun h => absurd h (by omega), fun _ => ⟨fun h => ?_, fun h => ⟨fun h' => no ?_, fun h' => yes ?_⟩⟩⟩
    · refine wpb_s rfl (by decide) (by decide) _ k1_lineUp_60 ?_
      simp only [w_nil, w_iadd, w_isub, w_imul, w_iand, w_ior, w_ishl, w_ishr, w_idiv, w_irem, w_ladd, w_lsub, w_lmul, w_lcmp, w_fdiv, w_ddiv, w_ineg, w_i2l, w_l2i, w_i2b, w_i2c, w_i2f, w_i2d, w_l2d, w_f2d, w_dcmp, w_iconst, w_bipush, w_sipush, w_lconst, w_fconst, w_dconst, w_iload_n0, w_iload_n1, w_iload_n2, w_iload_n3, w_iload, w_lload_n0, w_lload_n1, w_lload_n2, w_lload_n3, w_lload, w_aload_n0, w_aload_n1, w_aload_n2, w_aload_n3, w_aload, w_dload, w_istore_n0, w_istore_n1, w_istore_n2, w_istore_n3, w_istore, w_lstore_n0, w_lstore_n1, w_lstore_n2, w_lstore_n3, w_lstore, w_astore_n0, w_astore_n1, w_astore_n2, w_astore_n3, w_astore, w_dstore, w_iinc, w_dup, w_pop, w_dup2, w_getfield, w_putfield0, w_putfield1, w_putfield2, w_iaload, w_baload, w_aaload0, w_aaload1, w_iastore, w_bastore, w_aastore, w_ldc0, w_ldc1, w_ldc_w, w_ldc2_w, w_ifCond_eq, w_ifCond_ne, w_ifCond_lt, w_ifCond_ge, w_ifCond_gt, w_ifCond_le, w_if_icmp_eq, w_if_icmp_ne, w_if_icmp_lt, w_if_icmp_ge, w_if_icmp_gt, w_if_icmp_le, w_goto, w_ireturn, w_areturn, w_return_, w_lreturn, w_freturn, w_dreturn, Int32.reduceOfInt, List.getElem?_cons_succ, List.getElem?_cons_zero, List.set_cons_succ, List.set_cons_zero, Nat.reduceAdd, Nat.reduceLT, Option.some.injEq, and_true, ↓cI_cq, ↓cL_cq, ↓cO_cq, ↓cQ_cq, false_implies, fin0_4, fin1_4, fin2_4, fin3_4, gSet1_0, gSet1_1, gSet1_2, gSet2_0, gSet2_1, gSet2_2, gUp_0, gUp_c, gW1_0, gW1_d, gW1_i, gW1_l, gW1_r, gW1_u, ↓lD_cq, ↓lI_cq, ↓lL_cq, ↓lR_cq, mR, not_false_eq_true, not_true_eq_false, ↓oV_cq, or_true, ↓p1_iq, ↓p1_nq, ↓p1_rq, ↓pD_cq, ↓pF_cq, ↓pI_cq, ↓pL_cq, ↓pN_nq, ↓pN_rq, ↓pR_cq, reduceCtorEq, true_and, true_implies, true_or, ↓lI_at0, ↓lI_at1, ↓lI_at2, ↓lI_at3, ↓lI_at4, ↓lI_at5, ↓lI_at6, ↓lI_at7, ↓lI_at8, ↓lI_at9, ↓lL_at0, ↓lL_at1, ↓lL_at2, ↓lL_at3, ↓lL_at4, ↓lL_at5, ↓lL_at6, ↓lL_at7, ↓lL_at8, ↓lL_at9, ↓lD_at0, ↓lD_at1, ↓lD_at2, ↓lD_at3, ↓lD_at4, ↓lD_at5, ↓lD_at6, ↓lD_at7, ↓lD_at8, ↓lD_at9, ↓lR_at0, ↓lR_at1, ↓lR_at2, ↓lR_at3, ↓lR_at4, ↓lR_at5, ↓lR_at6, ↓lR_at7, ↓lR_at8, ↓lR_at9, ↓oV_at0, ↓oV_at1, ↓oV_at2, ↓oV_at3, ↓oV_at4, ↓oV_at5, ↓oV_at6, ↓oV_at7, ↓oV_at8, ↓oV_at9, ↓oV_at10, ↓oV_at11, ↓oV_at12, ↓oV_at13, ↓oV_at14, ↓oV_at15, ↓oV_at16, ↓oV_at17, ↓oV_at18, ↓oV_at19, ↓oV_at20, ↓oV_at21, ↓oV_at22, ↓oV_at23, ↓oV_at24, ↓oV_at25, ↓oV_at26, ↓oV_at27, ↓oV_at28, ↓oV_at29, ↓oV_at30, ↓oV_at31, ↓oV_at32, ↓oV_at33, ↓oV_at34, ↓oV_at35, ↓oV_at36, ↓oV_at37, ↓oV_at38, ↓oV_at39, ↓gLt_0, ↓gLt_1, ↓gLt_2, ↓gLt_3, ↓gLt_4, ↓gLt_5, ↓gLt_6, ↓gLt_7, ↓gLt_8, ↓gLt_9, ↓gLt_10, ↓gLt_11, ↓gLt_12, ↓gLt_13, ↓gLt_14, ↓gLt_15, ↓gLt_16, ↓gLt_17, ↓gLt_18, ↓gLt_19, ↓gLt_20, ↓gLt_21, ↓gLt_22, ↓gLt_23, ↓gLt_24, ↓gLt_25, ↓gLt_26, ↓gLt_27, ↓gLt_28, ↓gLt_29, ↓gLt_30, ↓gLt_31, ↓gLt_32, ↓gLt_33, ↓gLt_34, ↓gLt_35, ↓gLt_36, ↓gLt_37, ↓gLt_38, ↓gLt_39, hCr_len, ↓hCr_c0, hCr_s0_0, hCr_s0_1, hCr_s0_2, hCr_s0_3, hCr_s0_4, ↓hCr_c1, hCr_s1, ↓hCr_c2, hCr_s2, ↓hCr_c3, hCr_s3, ↓hCr_c4, hCr_s4, ↓hCr_c5, hCr_s5, nI_s1, nIc (show R.length < 1000000 by omega), nIc (show x < 1000000 by omega), nIc (show y < 1000000 by omega), hty, r2, y2, ht, c2]
      simp (disch := omega) only [nI_le0, nI_gt0, nI_ge0, nIc, nI_ltI, nI_leI, nI_eq, nI_z, nI_o, ge_iff_le, gt_iff_lt, nI_1, nI_add, pk_mul, vp_in_nI, true_and, and_true, true_implies, false_implies, not_false_eq_true]
      refine ⟨fun h' => no ?_, fun h' => yes ?_⟩
      · rw [hbe, if_neg h, decide_eq_true_iff]; omega
      · rw [hbe, if_neg h, decide_eq_true_iff]; omega
    · rw [hbe, if_pos h, decide_eq_true_iff]; omega
    · rw [hbe, if_pos h, decide_eq_true_iff]; omega
theorem CrR_t {C : CrT} {os : List Od} {t : List Int32} (h : CrR C os) (ht : t.length = 21) : CrR (crT C t) os := by
  obtain ⟨b1, b2, ⟨c1, c2, c3, c4, c5⟩, b3, b4⟩ := h
  exact ⟨b1, b2, ⟨c1, c2, c3, c4, ht⟩, b3, b4⟩
theorem l1_line {os : List Od} {C : CrT} {w : Nat} {h0 : gH} {Q : Option Value → gH → Prop} {QX : String → gH → Prop} (hC : CrR C os) (hw : w ≤ 1)
    (hQ : ∀ (t : List Int32), t.length = 21 → Hd t (line os w os.length) → Q (some (.int (nI (line os w os.length).length))) (hCr (crT C t))) :
    ∀ (j k : Nat) (t : List Int32) (l4 : Option Value), k + j = os.length → t.length = 21 → Hd t (line os w k) → G m1_lineUp 1 0 0 h0 Q QX 0 0 4 [some (.ref 0), some (.int (nI w)), some (.int (nI (line os w k).length)), some (.int (nI k)), l4] [] (hCr (crT C t)) := by
  obtain ⟨b1, b2, ⟨c1, c2, c3, c4, c5⟩, b3, b4⟩ := id hC
  intro j
  induction j with
  | zero =>
    intro k t l4 hk ht hl
    have hk : k = os.length := by omega
    subst hk
    have b1' : (crT C t).1 = nI os.length := b1
    refine wpb_t 4 rfl (by decide) (by decide) _ k1_lineUp_4 ?_
    simp only [List.take_succ_cons, List.take_zero, w_nil, w_iadd, w_isub, w_imul, w_iand, w_ior, w_ishl, w_ishr, w_idiv, w_irem, w_ladd, w_lsub, w_lmul, w_lcmp, w_fdiv, w_ddiv, w_ineg, w_i2l, w_l2i, w_i2b, w_i2c, w_i2f, w_i2d, w_l2d, w_f2d, w_dcmp, w_iconst, w_bipush, w_sipush, w_lconst, w_fconst, w_dconst, w_iload_n0, w_iload_n1, w_iload_n2, w_iload_n3, w_iload, w_lload_n0, w_lload_n1, w_lload_n2, w_lload_n3, w_lload, w_aload_n0, w_aload_n1, w_aload_n2, w_aload_n3, w_aload, w_dload, w_istore_n0, w_istore_n1, w_istore_n2, w_istore_n3, w_istore, w_lstore_n0, w_lstore_n1, w_lstore_n2, w_lstore_n3, w_lstore, w_astore_n0, w_astore_n1, w_astore_n2, w_astore_n3, w_astore, w_dstore, w_iinc, w_dup, w_pop, w_dup2, w_getfield, w_putfield0, w_putfield1, w_putfield2, w_iaload, w_baload, w_aaload0, w_aaload1, w_iastore, w_bastore, w_aastore, w_ldc0, w_ldc1, w_ldc_w, w_ldc2_w, w_ifCond_eq, w_ifCond_ne, w_ifCond_lt, w_ifCond_ge, w_ifCond_gt, w_ifCond_le, w_if_icmp_eq, w_if_icmp_ne, w_if_icmp_lt, w_if_icmp_ge, w_if_icmp_gt, w_if_icmp_le, w_goto, w_ireturn, w_areturn, w_return_, w_lreturn, w_freturn, w_dreturn, Int32.reduceOfInt, List.getElem?_cons_succ, List.getElem?_cons_zero, List.set_cons_succ, List.set_cons_zero, Nat.reduceAdd, Nat.reduceLT, Option.some.injEq, and_true, ↓cI_cq, ↓cL_cq, ↓cO_cq, ↓cQ_cq, false_implies, fin0_4, fin1_4, fin2_4, fin3_4, gSet1_0, gSet1_1, gSet1_2, gSet2_0, gSet2_1, gSet2_2, gUp_0, gUp_c, gW1_0, gW1_d, gW1_i, gW1_l, gW1_r, gW1_u, ↓lD_cq, ↓lI_cq, ↓lL_cq, ↓lR_cq, mR, not_false_eq_true, not_true_eq_false, ↓oV_cq, or_true, ↓p1_iq, ↓p1_nq, ↓p1_rq, ↓pD_cq, ↓pF_cq, ↓pI_cq, ↓pL_cq, ↓pN_nq, ↓pN_rq, ↓pR_cq, reduceCtorEq, true_and, true_implies, true_or, ↓lI_at0, ↓lI_at1, ↓lI_at2, ↓lI_at3, ↓lI_at4, ↓lI_at5, ↓lI_at6, ↓lI_at7, ↓lI_at8, ↓lI_at9, ↓lL_at0, ↓lL_at1, ↓lL_at2, ↓lL_at3, ↓lL_at4, ↓lL_at5, ↓lL_at6, ↓lL_at7, ↓lL_at8, ↓lL_at9, ↓lD_at0, ↓lD_at1, ↓lD_at2, ↓lD_at3, ↓lD_at4, ↓lD_at5, ↓lD_at6, ↓lD_at7, ↓lD_at8, ↓lD_at9, ↓lR_at0, ↓lR_at1, ↓lR_at2, ↓lR_at3, ↓lR_at4, ↓lR_at5, ↓lR_at6, ↓lR_at7, ↓lR_at8, ↓lR_at9, ↓oV_at0, ↓oV_at1, ↓oV_at2, ↓oV_at3, ↓oV_at4, ↓oV_at5, ↓oV_at6, ↓oV_at7, ↓oV_at8, ↓oV_at9, ↓oV_at10, ↓oV_at11, ↓oV_at12, ↓oV_at13, ↓oV_at14, ↓oV_at15, ↓oV_at16, ↓oV_at17, ↓oV_at18, ↓oV_at19, ↓oV_at20, ↓oV_at21, ↓oV_at22, ↓oV_at23, ↓oV_at24, ↓oV_at25, ↓oV_at26, ↓oV_at27, ↓oV_at28, ↓oV_at29, ↓oV_at30, ↓oV_at31, ↓oV_at32, ↓oV_at33, ↓oV_at34, ↓oV_at35, ↓oV_at36, ↓oV_at37, ↓oV_at38, ↓oV_at39, ↓gLt_0, ↓gLt_1, ↓gLt_2, ↓gLt_3, ↓gLt_4, ↓gLt_5, ↓gLt_6, ↓gLt_7, ↓gLt_8, ↓gLt_9, ↓gLt_10, ↓gLt_11, ↓gLt_12, ↓gLt_13, ↓gLt_14, ↓gLt_15, ↓gLt_16, ↓gLt_17, ↓gLt_18, ↓gLt_19, ↓gLt_20, ↓gLt_21, ↓gLt_22, ↓gLt_23, ↓gLt_24, ↓gLt_25, ↓gLt_26, ↓gLt_27, ↓gLt_28, ↓gLt_29, ↓gLt_30, ↓gLt_31, ↓gLt_32, ↓gLt_33, ↓gLt_34, ↓gLt_35, ↓gLt_36, ↓gLt_37, ↓gLt_38, ↓gLt_39, hCr_len, ↓hCr_c0, hCr_s0_0, hCr_s0_1, hCr_s0_2, hCr_s0_3, hCr_s0_4, ↓hCr_c1, hCr_s1, ↓hCr_c2, hCr_s2, ↓hCr_c3, hCr_s3, ↓hCr_c4, hCr_s4, ↓hCr_c5, hCr_s5, b1']
    refine ⟨fun _ => ?_, fun h => absurd (Int32.le_refl _) h⟩
    refine wpb_s rfl (by decide) (by decide) _ k1_lineUp_122 ?_
    simp only [w_nil, w_iadd, w_isub, w_imul, w_iand, w_ior, w_ishl, w_ishr, w_idiv, w_irem, w_ladd, w_lsub, w_lmul, w_lcmp, w_fdiv, w_ddiv, w_ineg, w_i2l, w_l2i, w_i2b, w_i2c, w_i2f, w_i2d, w_l2d, w_f2d, w_dcmp, w_iconst, w_bipush, w_sipush, w_lconst, w_fconst, w_dconst, w_iload_n0, w_iload_n1, w_iload_n2, w_iload_n3, w_iload, w_lload_n0, w_lload_n1, w_lload_n2, w_lload_n3, w_lload, w_aload_n0, w_aload_n1, w_aload_n2, w_aload_n3, w_aload, w_dload, w_istore_n0, w_istore_n1, w_istore_n2, w_istore_n3, w_istore, w_lstore_n0, w_lstore_n1, w_lstore_n2, w_lstore_n3, w_lstore, w_astore_n0, w_astore_n1, w_astore_n2, w_astore_n3, w_astore, w_dstore, w_iinc, w_dup, w_pop, w_dup2, w_getfield, w_putfield0, w_putfield1, w_putfield2, w_iaload, w_baload, w_aaload0, w_aaload1, w_iastore, w_bastore, w_aastore, w_ldc0, w_ldc1, w_ldc_w, w_ldc2_w, w_ifCond_eq, w_ifCond_ne, w_ifCond_lt, w_ifCond_ge, w_ifCond_gt, w_ifCond_le, w_if_icmp_eq, w_if_icmp_ne, w_if_icmp_lt, w_if_icmp_ge, w_if_icmp_gt, w_if_icmp_le, w_goto, w_ireturn, w_areturn, w_return_, w_lreturn, w_freturn, w_dreturn, Int32.reduceOfInt, List.getElem?_cons_succ, List.getElem?_cons_zero, List.set_cons_succ, List.set_cons_zero, Nat.reduceAdd, Nat.reduceLT, Option.some.injEq, and_true, ↓cI_cq, ↓cL_cq, ↓cO_cq, ↓cQ_cq, false_implies, fin0_4, fin1_4, fin2_4, fin3_4, gSet1_0, gSet1_1, gSet1_2, gSet2_0, gSet2_1, gSet2_2, gUp_0, gUp_c, gW1_0, gW1_d, gW1_i, gW1_l, gW1_r, gW1_u, ↓lD_cq, ↓lI_cq, ↓lL_cq, ↓lR_cq, mR, not_false_eq_true, not_true_eq_false, ↓oV_cq, or_true, ↓p1_iq, ↓p1_nq, ↓p1_rq, ↓pD_cq, ↓pF_cq, ↓pI_cq, ↓pL_cq, ↓pN_nq, ↓pN_rq, ↓pR_cq, reduceCtorEq, true_and, true_implies, true_or, ↓lI_at0, ↓lI_at1, ↓lI_at2, ↓lI_at3, ↓lI_at4, ↓lI_at5, ↓lI_at6, ↓lI_at7, ↓lI_at8, ↓lI_at9, ↓lL_at0, ↓lL_at1, ↓lL_at2, ↓lL_at3, ↓lL_at4, ↓lL_at5, ↓lL_at6, ↓lL_at7, ↓lL_at8, ↓lL_at9, ↓lD_at0, ↓lD_at1, ↓lD_at2, ↓lD_at3, ↓lD_at4, ↓lD_at5, ↓lD_at6, ↓lD_at7, ↓lD_at8, ↓lD_at9, ↓lR_at0, ↓lR_at1, ↓lR_at2, ↓lR_at3, ↓lR_at4, ↓lR_at5, ↓lR_at6, ↓lR_at7, ↓lR_at8, ↓lR_at9, ↓oV_at0, ↓oV_at1, ↓oV_at2, ↓oV_at3, ↓oV_at4, ↓oV_at5, ↓oV_at6, ↓oV_at7, ↓oV_at8, ↓oV_at9, ↓oV_at10, ↓oV_at11, ↓oV_at12, ↓oV_at13, ↓oV_at14, ↓oV_at15, ↓oV_at16, ↓oV_at17, ↓oV_at18, ↓oV_at19, ↓oV_at20, ↓oV_at21, ↓oV_at22, ↓oV_at23, ↓oV_at24, ↓oV_at25, ↓oV_at26, ↓oV_at27, ↓oV_at28, ↓oV_at29, ↓oV_at30, ↓oV_at31, ↓oV_at32, ↓oV_at33, ↓oV_at34, ↓oV_at35, ↓oV_at36, ↓oV_at37, ↓oV_at38, ↓oV_at39, ↓gLt_0, ↓gLt_1, ↓gLt_2, ↓gLt_3, ↓gLt_4, ↓gLt_5, ↓gLt_6, ↓gLt_7, ↓gLt_8, ↓gLt_9, ↓gLt_10, ↓gLt_11, ↓gLt_12, ↓gLt_13, ↓gLt_14, ↓gLt_15, ↓gLt_16, ↓gLt_17, ↓gLt_18, ↓gLt_19, ↓gLt_20, ↓gLt_21, ↓gLt_22, ↓gLt_23, ↓gLt_24, ↓gLt_25, ↓gLt_26, ↓gLt_27, ↓gLt_28, ↓gLt_29, ↓gLt_30, ↓gLt_31, ↓gLt_32, ↓gLt_33, ↓gLt_34, ↓gLt_35, ↓gLt_36, ↓gLt_37, ↓gLt_38, ↓gLt_39, hCr_len, ↓hCr_c0, hCr_s0_0, hCr_s0_1, hCr_s0_2, hCr_s0_3, hCr_s0_4, ↓hCr_c1, hCr_s1, ↓hCr_c2, hCr_s2, ↓hCr_c3, hCr_s3, ↓hCr_c4, hCr_s4, ↓hCr_c5, hCr_s5]
    exact hQ t ht hl
  | succ j ih =>
    intro k t l4 hk ht hl
    have hCt := CrR_t hC ht
    obtain ⟨o, ho, ⟨r1, r2, r3⟩, o1, o2, o3, o4⟩ := cr_row hCt (show k < os.length by omega)
    have hoa := oa_s ho
    have hll := line_len (os := os) (w := w) k
    have b1' : (crT C t).1 = nI os.length := b1
    have c1' : (crT C t).2.2.2.2.2.1.length = 21 := c1
    have h116 : ∀ (t : List Int32) (l4 : Option Value) (l : List Nat), t.length = 21 → l = line os w (k + 1) → Hd t l → G m1_lineUp 1 0 0 h0 Q QX 0 0 116 [some (.ref 0), some (.int (nI w)), some (.int (nI l.length)), some (.int (nI k)), l4] [] (hCr (crT C t)) := by
      intro t l4 l ht hl hd
      subst hl
      refine wpb_s rfl (by decide) (by decide) _ k1_lineUp_116 ?_
      simp only [w_nil, w_iadd, w_isub, w_imul, w_iand, w_ior, w_ishl, w_ishr, w_idiv, w_irem, w_ladd, w_lsub, w_lmul, w_lcmp, w_fdiv, w_ddiv, w_ineg, w_i2l, w_l2i, w_i2b, w_i2c, w_i2f, w_i2d, w_l2d, w_f2d, w_dcmp, w_iconst, w_bipush, w_sipush, w_lconst, w_fconst, w_dconst, w_iload_n0, w_iload_n1, w_iload_n2, w_iload_n3, w_iload, w_lload_n0, w_lload_n1, w_lload_n2, w_lload_n3, w_lload, w_aload_n0, w_aload_n1, w_aload_n2, w_aload_n3, w_aload, w_dload, w_istore_n0, w_istore_n1, w_istore_n2, w_istore_n3, w_istore, w_lstore_n0, w_lstore_n1, w_lstore_n2, w_lstore_n3, w_lstore, w_astore_n0, w_astore_n1, w_astore_n2, w_astore_n3, w_astore, w_dstore, w_iinc, w_dup, w_pop, w_dup2, w_getfield, w_putfield0, w_putfield1, w_putfield2, w_iaload, w_baload, w_aaload0, w_aaload1, w_iastore, w_bastore, w_aastore, w_ldc0, w_ldc1, w_ldc_w, w_ldc2_w, w_ifCond_eq, w_ifCond_ne, w_ifCond_lt, w_ifCond_ge, w_ifCond_gt, w_ifCond_le, w_if_icmp_eq, w_if_icmp_ne, w_if_icmp_lt, w_if_icmp_ge, w_if_icmp_gt, w_if_icmp_le, w_goto, w_ireturn, w_areturn, w_return_, w_lreturn, w_freturn, w_dreturn, Int32.reduceOfInt, List.getElem?_cons_succ, List.getElem?_cons_zero, List.set_cons_succ, List.set_cons_zero, Nat.reduceAdd, Nat.reduceLT, Option.some.injEq, and_true, ↓cI_cq, ↓cL_cq, ↓cO_cq, ↓cQ_cq, false_implies, fin0_4, fin1_4, fin2_4, fin3_4, gSet1_0, gSet1_1, gSet1_2, gSet2_0, gSet2_1, gSet2_2, gUp_0, gUp_c, gW1_0, gW1_d, gW1_i, gW1_l, gW1_r, gW1_u, ↓lD_cq, ↓lI_cq, ↓lL_cq, ↓lR_cq, mR, not_false_eq_true, not_true_eq_false, ↓oV_cq, or_true, ↓p1_iq, ↓p1_nq, ↓p1_rq, ↓pD_cq, ↓pF_cq, ↓pI_cq, ↓pL_cq, ↓pN_nq, ↓pN_rq, ↓pR_cq, reduceCtorEq, true_and, true_implies, true_or, ↓lI_at0, ↓lI_at1, ↓lI_at2, ↓lI_at3, ↓lI_at4, ↓lI_at5, ↓lI_at6, ↓lI_at7, ↓lI_at8, ↓lI_at9, ↓lL_at0, ↓lL_at1, ↓lL_at2, ↓lL_at3, ↓lL_at4, ↓lL_at5, ↓lL_at6, ↓lL_at7, ↓lL_at8, ↓lL_at9, ↓lD_at0, ↓lD_at1, ↓lD_at2, ↓lD_at3, ↓lD_at4, ↓lD_at5, ↓lD_at6, ↓lD_at7, ↓lD_at8, ↓lD_at9, ↓lR_at0, ↓lR_at1, ↓lR_at2, ↓lR_at3, ↓lR_at4, ↓lR_at5, ↓lR_at6, ↓lR_at7, ↓lR_at8, ↓lR_at9, ↓oV_at0, ↓oV_at1, ↓oV_at2, ↓oV_at3, ↓oV_at4, ↓oV_at5, ↓oV_at6, ↓oV_at7, ↓oV_at8, ↓oV_at9, ↓oV_at10, ↓oV_at11, ↓oV_at12, ↓oV_at13, ↓oV_at14, ↓oV_at15, ↓oV_at16, ↓oV_at17, ↓oV_at18, ↓oV_at19, ↓oV_at20, ↓oV_at21, ↓oV_at22, ↓oV_at23, ↓oV_at24, ↓oV_at25, ↓oV_at26, ↓oV_at27, ↓oV_at28, ↓oV_at29, ↓oV_at30, ↓oV_at31, ↓oV_at32, ↓oV_at33, ↓oV_at34, ↓oV_at35, ↓oV_at36, ↓oV_at37, ↓oV_at38, ↓oV_at39, ↓gLt_0, ↓gLt_1, ↓gLt_2, ↓gLt_3, ↓gLt_4, ↓gLt_5, ↓gLt_6, ↓gLt_7, ↓gLt_8, ↓gLt_9, ↓gLt_10, ↓gLt_11, ↓gLt_12, ↓gLt_13, ↓gLt_14, ↓gLt_15, ↓gLt_16, ↓gLt_17, ↓gLt_18, ↓gLt_19, ↓gLt_20, ↓gLt_21, ↓gLt_22, ↓gLt_23, ↓gLt_24, ↓gLt_25, ↓gLt_26, ↓gLt_27, ↓gLt_28, ↓gLt_29, ↓gLt_30, ↓gLt_31, ↓gLt_32, ↓gLt_33, ↓gLt_34, ↓gLt_35, ↓gLt_36, ↓gLt_37, ↓gLt_38, ↓gLt_39, hCr_len, ↓hCr_c0, hCr_s0_0, hCr_s0_1, hCr_s0_2, hCr_s0_3, hCr_s0_4, ↓hCr_c1, hCr_s1, ↓hCr_c2, hCr_s2, ↓hCr_c3, hCr_s3, ↓hCr_c4, hCr_s4, ↓hCr_c5, hCr_s5, nI_1]
      exact ih (k + 1) t l4 (by omega) ht hd
    refine wpb_s rfl (by decide) (by decide) _ k1_lineUp_4 ?_
    simp only [w_nil, w_iadd, w_isub, w_imul, w_iand, w_ior, w_ishl, w_ishr, w_idiv, w_irem, w_ladd, w_lsub, w_lmul, w_lcmp, w_fdiv, w_ddiv, w_ineg, w_i2l, w_l2i, w_i2b, w_i2c, w_i2f, w_i2d, w_l2d, w_f2d, w_dcmp, w_iconst, w_bipush, w_sipush, w_lconst, w_fconst, w_dconst, w_iload_n0, w_iload_n1, w_iload_n2, w_iload_n3, w_iload, w_lload_n0, w_lload_n1, w_lload_n2, w_lload_n3, w_lload, w_aload_n0, w_aload_n1, w_aload_n2, w_aload_n3, w_aload, w_dload, w_istore_n0, w_istore_n1, w_istore_n2, w_istore_n3, w_istore, w_lstore_n0, w_lstore_n1, w_lstore_n2, w_lstore_n3, w_lstore, w_astore_n0, w_astore_n1, w_astore_n2, w_astore_n3, w_astore, w_dstore, w_iinc, w_dup, w_pop, w_dup2, w_getfield, w_putfield0, w_putfield1, w_putfield2, w_iaload, w_baload, w_aaload0, w_aaload1, w_iastore, w_bastore, w_aastore, w_ldc0, w_ldc1, w_ldc_w, w_ldc2_w, w_ifCond_eq, w_ifCond_ne, w_ifCond_lt, w_ifCond_ge, w_ifCond_gt, w_ifCond_le, w_if_icmp_eq, w_if_icmp_ne, w_if_icmp_lt, w_if_icmp_ge, w_if_icmp_gt, w_if_icmp_le, w_goto, w_ireturn, w_areturn, w_return_, w_lreturn, w_freturn, w_dreturn, Int32.reduceOfInt, List.getElem?_cons_succ, List.getElem?_cons_zero, List.set_cons_succ, List.set_cons_zero, Nat.reduceAdd, Nat.reduceLT, Option.some.injEq, and_true, ↓cI_cq, ↓cL_cq, ↓cO_cq, ↓cQ_cq, false_implies, fin0_4, fin1_4, fin2_4, fin3_4, gSet1_0, gSet1_1, gSet1_2, gSet2_0, gSet2_1, gSet2_2, gUp_0, gUp_c, gW1_0, gW1_d, gW1_i, gW1_l, gW1_r, gW1_u, ↓lD_cq, ↓lI_cq, ↓lL_cq, ↓lR_cq, mR, not_false_eq_true, not_true_eq_false, ↓oV_cq, or_true, ↓p1_iq, ↓p1_nq, ↓p1_rq, ↓pD_cq, ↓pF_cq, ↓pI_cq, ↓pL_cq, ↓pN_nq, ↓pN_rq, ↓pR_cq, reduceCtorEq, true_and, true_implies, true_or, ↓lI_at0, ↓lI_at1, ↓lI_at2, ↓lI_at3, ↓lI_at4, ↓lI_at5, ↓lI_at6, ↓lI_at7, ↓lI_at8, ↓lI_at9, ↓lL_at0, ↓lL_at1, ↓lL_at2, ↓lL_at3, ↓lL_at4, ↓lL_at5, ↓lL_at6, ↓lL_at7, ↓lL_at8, ↓lL_at9, ↓lD_at0, ↓lD_at1, ↓lD_at2, ↓lD_at3, ↓lD_at4, ↓lD_at5, ↓lD_at6, ↓lD_at7, ↓lD_at8, ↓lD_at9, ↓lR_at0, ↓lR_at1, ↓lR_at2, ↓lR_at3, ↓lR_at4, ↓lR_at5, ↓lR_at6, ↓lR_at7, ↓lR_at8, ↓lR_at9, ↓oV_at0, ↓oV_at1, ↓oV_at2, ↓oV_at3, ↓oV_at4, ↓oV_at5, ↓oV_at6, ↓oV_at7, ↓oV_at8, ↓oV_at9, ↓oV_at10, ↓oV_at11, ↓oV_at12, ↓oV_at13, ↓oV_at14, ↓oV_at15, ↓oV_at16, ↓oV_at17, ↓oV_at18, ↓oV_at19, ↓oV_at20, ↓oV_at21, ↓oV_at22, ↓oV_at23, ↓oV_at24, ↓oV_at25, ↓oV_at26, ↓oV_at27, ↓oV_at28, ↓oV_at29, ↓oV_at30, ↓oV_at31, ↓oV_at32, ↓oV_at33, ↓oV_at34, ↓oV_at35, ↓oV_at36, ↓oV_at37, ↓oV_at38, ↓oV_at39, ↓gLt_0, ↓gLt_1, ↓gLt_2, ↓gLt_3, ↓gLt_4, ↓gLt_5, ↓gLt_6, ↓gLt_7, ↓gLt_8, ↓gLt_9, ↓gLt_10, ↓gLt_11, ↓gLt_12, ↓gLt_13, ↓gLt_14, ↓gLt_15, ↓gLt_16, ↓gLt_17, ↓gLt_18, ↓gLt_19, ↓gLt_20, ↓gLt_21, ↓gLt_22, ↓gLt_23, ↓gLt_24, ↓gLt_25, ↓gLt_26, ↓gLt_27, ↓gLt_28, ↓gLt_29, ↓gLt_30, ↓gLt_31, ↓gLt_32, ↓gLt_33, ↓gLt_34, ↓gLt_35, ↓gLt_36, ↓gLt_37, ↓gLt_38, ↓gLt_39, hCr_len, ↓hCr_c0, hCr_s0_0, hCr_s0_1, hCr_s0_2, hCr_s0_3, hCr_s0_4, ↓hCr_c1, hCr_s1, ↓hCr_c2, hCr_s2, ↓hCr_c3, hCr_s3, ↓hCr_c4, hCr_s4, ↓hCr_c5, hCr_s5, b1', nIc (show k < 1000000 by omega), r1, c1']
    simp (disch := omega) only [nIc, nI_ltI, nI_leI, nI_eq, nI_z, nI_o, ge_iff_le, gt_iff_lt, nI_1, nI_add, pk_mul, vp_in_nI, true_and, and_true, true_implies]
    refine ⟨fun h => absurd h (by omega), fun _ => ⟨fun h => h116 t _ _ ht (by rw [line, hoa, if_neg h]) hl, fun h => ?_⟩⟩
    have := l1_ins (h0 := h0) (Q := Q) (QX := QX) (x := k) (n := (line os w k).length) hC hw (by omega) (by omega) (fun t l4 l ht hl hd => ?_) (line os w k).reverse [] t ht (by simp) (fun y hy => ?_) rfl (by rw [List.reverse_reverse]; exact hl) (fun i y hi => by simp at hi)
    · rw [List.length_reverse] at this
      exact this
    · have hlen : l.length = (line os w k).length + 1 := by rw [hl, insA_len]; simp
      rw [← hlen]
      exact h116 t l4 l ht (by rw [line, hoa, if_pos h]; exact hl) hd
    · have := (line_mem k y).mp (List.mem_reverse.mp hy)
      omega
theorem c1_lineUp {os : List Od} {C : CrT} {w : Nat} (hC : CrR C os) (hw : w ≤ 1) : gCt m1_lineUp 1 0 0 [.ref 0, .int (nI w)] (hCr C) (fun v h => v = some (.int (nI (line os w os.length).length)) ∧ ∃ t, h = hCr (crT C t) ∧ t.length = 21 ∧ Hd t (line os w os.length)) (fun _ _ => False) := by
  refine gCt_of (ls := [some (.ref 0), some (.int (nI w)), none, none, none]) rfl rfl rfl (Nat.le_of_ble_eq_true rfl) rfl ?_
  refine wpb_s rfl (by decide) (by decide) _ k1_lineUp_0 ?_
  simp only [w_nil, w_iadd, w_isub, w_imul, w_iand, w_ior, w_ishl, w_ishr, w_idiv, w_irem, w_ladd, w_lsub, w_lmul, w_lcmp, w_fdiv, w_ddiv, w_ineg, w_i2l, w_l2i, w_i2b, w_i2c, w_i2f, w_i2d, w_l2d, w_f2d, w_dcmp, w_iconst, w_bipush, w_sipush, w_lconst, w_fconst, w_dconst, w_iload_n0, w_iload_n1, w_iload_n2, w_iload_n3, w_iload, w_lload_n0, w_lload_n1, w_lload_n2, w_lload_n3, w_lload, w_aload_n0, w_aload_n1, w_aload_n2, w_aload_n3, w_aload, w_dload, w_istore_n0, w_istore_n1, w_istore_n2, w_istore_n3, w_istore, w_lstore_n0, w_lstore_n1, w_lstore_n2, w_lstore_n3, w_lstore, w_astore_n0, w_astore_n1, w_astore_n2, w_astore_n3, w_astore, w_dstore, w_iinc, w_dup, w_pop, w_dup2, w_getfield, w_putfield0, w_putfield1, w_putfield2, w_iaload, w_baload, w_aaload0, w_aaload1, w_iastore, w_bastore, w_aastore, w_ldc0, w_ldc1, w_ldc_w, w_ldc2_w, w_ifCond_eq, w_ifCond_ne, w_ifCond_lt, w_ifCond_ge, w_ifCond_gt, w_ifCond_le, w_if_icmp_eq, w_if_icmp_ne, w_if_icmp_lt, w_if_icmp_ge, w_if_icmp_gt, w_if_icmp_le, w_goto, w_ireturn, w_areturn, w_return_, w_lreturn, w_freturn, w_dreturn, Int32.reduceOfInt, List.getElem?_cons_succ, List.getElem?_cons_zero, List.set_cons_succ, List.set_cons_zero, Nat.reduceAdd, Nat.reduceLT, Option.some.injEq, and_true, ↓cI_cq, ↓cL_cq, ↓cO_cq, ↓cQ_cq, false_implies, fin0_4, fin1_4, fin2_4, fin3_4, gSet1_0, gSet1_1, gSet1_2, gSet2_0, gSet2_1, gSet2_2, gUp_0, gUp_c, gW1_0, gW1_d, gW1_i, gW1_l, gW1_r, gW1_u, ↓lD_cq, ↓lI_cq, ↓lL_cq, ↓lR_cq, mR, not_false_eq_true, not_true_eq_false, ↓oV_cq, or_true, ↓p1_iq, ↓p1_nq, ↓p1_rq, ↓pD_cq, ↓pF_cq, ↓pI_cq, ↓pL_cq, ↓pN_nq, ↓pN_rq, ↓pR_cq, reduceCtorEq, true_and, true_implies, true_or, ↓lI_at0, ↓lI_at1, ↓lI_at2, ↓lI_at3, ↓lI_at4, ↓lI_at5, ↓lI_at6, ↓lI_at7, ↓lI_at8, ↓lI_at9, ↓lL_at0, ↓lL_at1, ↓lL_at2, ↓lL_at3, ↓lL_at4, ↓lL_at5, ↓lL_at6, ↓lL_at7, ↓lL_at8, ↓lL_at9, ↓lD_at0, ↓lD_at1, ↓lD_at2, ↓lD_at3, ↓lD_at4, ↓lD_at5, ↓lD_at6, ↓lD_at7, ↓lD_at8, ↓lD_at9, ↓lR_at0, ↓lR_at1, ↓lR_at2, ↓lR_at3, ↓lR_at4, ↓lR_at5, ↓lR_at6, ↓lR_at7, ↓lR_at8, ↓lR_at9, ↓oV_at0, ↓oV_at1, ↓oV_at2, ↓oV_at3, ↓oV_at4, ↓oV_at5, ↓oV_at6, ↓oV_at7, ↓oV_at8, ↓oV_at9, ↓oV_at10, ↓oV_at11, ↓oV_at12, ↓oV_at13, ↓oV_at14, ↓oV_at15, ↓oV_at16, ↓oV_at17, ↓oV_at18, ↓oV_at19, ↓oV_at20, ↓oV_at21, ↓oV_at22, ↓oV_at23, ↓oV_at24, ↓oV_at25, ↓oV_at26, ↓oV_at27, ↓oV_at28, ↓oV_at29, ↓oV_at30, ↓oV_at31, ↓oV_at32, ↓oV_at33, ↓oV_at34, ↓oV_at35, ↓oV_at36, ↓oV_at37, ↓oV_at38, ↓oV_at39, ↓gLt_0, ↓gLt_1, ↓gLt_2, ↓gLt_3, ↓gLt_4, ↓gLt_5, ↓gLt_6, ↓gLt_7, ↓gLt_8, ↓gLt_9, ↓gLt_10, ↓gLt_11, ↓gLt_12, ↓gLt_13, ↓gLt_14, ↓gLt_15, ↓gLt_16, ↓gLt_17, ↓gLt_18, ↓gLt_19, ↓gLt_20, ↓gLt_21, ↓gLt_22, ↓gLt_23, ↓gLt_24, ↓gLt_25, ↓gLt_26, ↓gLt_27, ↓gLt_28, ↓gLt_29, ↓gLt_30, ↓gLt_31, ↓gLt_32, ↓gLt_33, ↓gLt_34, ↓gLt_35, ↓gLt_36, ↓gLt_37, ↓gLt_38, ↓gLt_39, hCr_len, ↓hCr_c0, hCr_s0_0, hCr_s0_1, hCr_s0_2, hCr_s0_3, hCr_s0_4, ↓hCr_c1, hCr_s1, ↓hCr_c2, hCr_s2, ↓hCr_c3, hCr_s3, ↓hCr_c4, hCr_s4, ↓hCr_c5, hCr_s5]
  exact l1_line (C := C) hC hw (fun t ht hd => ⟨rfl, t, rfl, ht, hd⟩) os.length 0 C.2.2.2.2.2.2.2.2.2 none (by omega) hC.2.2.1.2.2.2.2 (fun i y hi => by simp [line] at hi)
end CX7
