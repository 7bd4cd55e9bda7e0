/-! String constants: their length and letters, by the JDK's own code -/
section JCONST
set_option maxRecDepth 100000
variable {M : gM} {d mc ms : Nat} {h0 : gH} {Q : Option Value → gH → Prop} {QX : String → gH → Prop} {c n : Nat} {ls : List (Option Value)} {rest : List Value} {h : gH} {idx i : Nat} {w : List Nat}
abbrev StT : Type := String × Nat × String × List Int32
theorem cJ_coder {i : Nat} {t : StT} (hi : gStr[i]? = some t) : gCt mJ0_coder_7d493 1 0 0 [.ref (1000 + i)] [] (fun v h => v = some (.int 0) ∧ h = []) (fun _ _ => False) := by
  refine gCt_of (ls := [some (.ref (1000 + i))]) rfl rfl rfl (Nat.le_of_ble_eq_true rfl) rfl ?_
  refine g_strS (idx := 38) (by decide +kernel) wJ_compact ?_
  refine g_if_eq (t := 13) (off := 10) (by decide +kernel) rfl (fun z => absurd z (by decide)) (fun _ => ?_)
  refine g_aload_n (i := 0) (x := 1000 + i) (by decide +kernel) rfl ?_
  refine g_strC (idx := 15) hi (by decide +kernel) wJ_coder ?_
  refine g_goto (t := 14) (off := 4) (by decide +kernel) rfl ?_
  exact g_tret (ty := .byte) (by decide +kernel) rfl (Or.inl rfl) rfl (Nat.le_refl _) (Nat.le_refl _) ⟨rfl, rfl⟩
theorem cJ_isLatin1 {i : Nat} {t : StT} (hi : gStr[i]? = some t) : gCt mJ0_isLatin1_aae02 1 0 0 [.ref (1000 + i)] [] (fun v h => v = some (.int 1) ∧ h = []) (fun _ _ => False) := by
  refine gCt_of (ls := [some (.ref (1000 + i))]) rfl rfl rfl (Nat.le_of_ble_eq_true rfl) rfl ?_
  refine g_strS (idx := 38) (by decide +kernel) wJ_compact ?_
  refine g_if_eq (t := 17) (off := 14) (by decide +kernel) rfl (fun z => absurd z (by decide)) (fun _ => ?_)
  refine g_aload_n (i := 0) (x := 1000 + i) (by decide +kernel) rfl ?_
  refine g_strC (idx := 15) hi (by decide +kernel) wJ_coder ?_
  refine g_if_ne (t := 17) (off := 7) (by decide +kernel) rfl (fun z => absurd rfl z) (fun _ => ?_)
  refine g_iconst (z := 1) (by decide +kernel) ?_
  refine g_goto (t := 18) (off := 4) (by decide +kernel) rfl ?_
  exact g_zret (v := 1) (by decide +kernel) rfl (Or.inr rfl) (Nat.le_refl _) (Nat.le_refl _) ⟨rfl, rfl⟩
theorem cJ_length {i : Nat} {t : StT} (hi : gStr[i]? = some t) : gCt mJ0_length_8abf5 2 0 0 [.ref (1000 + i)] [] (fun v h => v = some (.int (nI t.2.2.2.length)) ∧ h = []) (fun _ _ => False) := by
  refine gCt_of (ls := [some (.ref (1000 + i))]) rfl rfl rfl (Nat.le_of_ble_eq_true rfl) rfl ?_
  refine g_aload_n (i := 0) (x := 1000 + i) (by decide +kernel) rfl ?_
  refine g_strV (idx := 9) hi (by decide +kernel) wJ_value ?_
  refine g_strL hi (by decide +kernel) ?_
  refine g_aload_n (i := 0) (x := 1000 + i) (by decide +kernel) rfl ?_
  refine g_callVs (M' := mJ0_coder_7d493) (vs := []) (rest := [.int (Int32.ofNat t.2.2.2.length)]) [] (cJ_coder hi) (by decide +kernel) lkJ0_335 rfl hi rfl rfl (nil_sub _) (Or.inl (by simp)) rfl (by decide) (Nat.le_of_ble_eq_true rfl) (by decide) (by decide) (fun _ _ z => z.elim) ?_
  rintro v h1 ⟨rfl, rfl⟩
  show G _ _ _ _ _ _ _ 0 0 9 _ [.int 0, .int (Int32.ofNat t.2.2.2.length)] []
  refine g_ishr (by decide +kernel) ?_
  rw [show ((0 : Int32) &&& 31) = 0 from rfl, Int32.shiftRight_zero]
  exact g_iret (by decide +kernel) rfl (Nat.le_refl _) (Nat.le_refl _) ⟨rfl, rfl⟩
theorem cJ3_check {a b : Int32} {v : Value} (hv : v = .null ∨ v = .ref 1900) (h0 : 0 ≤ a) (h1 : a < b) : gCt mJ3_checkIndex_8e157 1 0 0 [.int a, .int b, v] [] (fun r h => r = some (.int a) ∧ h = []) (fun _ _ => False) := by
  rcases hv with rfl | rfl
  all_goals
    refine gCt_of rfl rfl rfl (Nat.le_of_ble_eq_true rfl) rfl ?_
    refine g_iload_n (i := 0) (x := a) (by decide +kernel) rfl ?_
    refine g_if_lt (t := 9) (off := 8) (by decide +kernel) rfl (fun z => absurd z (Int32.not_lt.mpr h0)) (fun _ => ?_)
    refine g_iload_n (i := 0) (x := a) (by decide +kernel) rfl ?_
    refine g_iload_n (i := 1) (x := b) (by decide +kernel) rfl ?_
    refine g_icmp_lt (t := 16) (off := 10) (by decide +kernel) rfl (fun _ => ?_) (fun z => absurd h1 z)
    refine g_iload_n (i := 0) (x := a) (by decide +kernel) rfl ?_
    exact g_iret (by decide +kernel) rfl (Nat.le_refl _) (Nat.le_refl _) ⟨rfl, rfl⟩
theorem cJ_check {a b : Int32} (h0 : 0 ≤ a) (h1 : a < b) : gCt mJ0_checkIndex_df160 2 0 0 [.int a, .int b] [] (fun r h => r = none ∧ h = []) (fun _ _ => False) := by
  refine gCt_of (ls := [some (.int a), some (.int b)]) rfl rfl rfl (Nat.le_of_ble_eq_true rfl) rfl ?_
  refine g_iload_n (i := 0) (x := a) (by decide +kernel) rfl ?_
  refine g_iload_n (i := 1) (x := b) (by decide +kernel) rfl ?_
  refine g_strF (idx := 1053) (by decide +kernel) wJ_form (fun v hv => ?_)
  refine g_callT (M' := mJ3_checkIndex_8e157) (vs := [.int a, .int b, v]) (rest := []) [] (cJ3_check hv h0 h1) (by decide +kernel) lkJ0_1059 rfl (by rcases hv with rfl | rfl <;> rfl) (nil_sub _) (Or.inl (by simp)) rfl (by decide) (Nat.le_of_ble_eq_true rfl) (by decide) (by decide) (fun _ _ z => z.elim) ?_
  rintro v h1 ⟨rfl, rfl⟩
  show G _ _ _ _ _ _ _ 0 0 8 _ [.int a] []
  refine g_pop (by decide +kernel) rfl ?_
  exact g_vret (by decide +kernel) rfl (Nat.le_refl _) (Nat.le_refl _) ⟨rfl, rfl⟩
theorem ch_id : ∀ b : Nat, b < 128 → ((nI b &&& 255).toUInt32 % 65536).toInt32 = nI b := by decide +kernel
theorem ch_nr : ∀ b : Nat, b < 128 → narrow .char (.int (nI b)) = .int (nI b) := by decide +kernel
theorem cJ1_charAt {i k b : Nat} {t : StT} (hi : gStr[i]? = some t) (hk : k < t.2.2.2.length) (hl : t.2.2.2.length < 1000000) (hb : t.2.2.2.getD k 0 = nI b) (h8 : b < 128) : gCt mJ1_charAt_3b067 3 0 0 [.ref (1500 + i), .int (nI k)] [] (fun v h => v = some (.int (nI b)) ∧ h = []) (fun _ _ => False) := by
  refine gCt_of (ls := [some (.ref (1500 + i)), some (.int (nI k))]) rfl rfl rfl (Nat.le_of_ble_eq_true rfl) rfl ?_
  refine g_iload_n (i := 1) (x := nI k) (by decide +kernel) rfl ?_
  refine g_aload_n (i := 0) (x := 1500 + i) (by decide +kernel) rfl ?_
  refine g_strL hi (by decide +kernel) ?_
  refine g_callT (M' := mJ0_checkIndex_df160) (vs := [.int (nI k), .int (nI t.2.2.2.length)]) (rest := []) [] (cJ_check (nI_pos' (by omega)) ((nI_ltI (by omega) (by omega)).mpr hk)) (by decide +kernel) lkJ1_9 rfl rfl (nil_sub _) (Or.inl (by simp)) rfl (by decide) (Nat.le_of_ble_eq_true rfl) (by decide) (by decide) (fun _ _ z => z.elim) ?_
  rintro v h1 ⟨rfl, rfl⟩
  show G _ _ _ _ _ _ _ 0 0 6 _ [] []
  refine g_aload_n (i := 0) (x := 1500 + i) (by decide +kernel) rfl ?_
  refine g_iload_n (i := 1) (x := nI k) (by decide +kernel) rfl ?_
  refine g_strB hi (by decide +kernel) (vp_in_nI hk (by omega)) ?_
  refine g_sipush (z := 255) (v := 255) (by decide +kernel) rfl ?_
  refine g_iand (by decide +kernel) ?_
  refine g_i2c (by decide +kernel) ?_
  rw [nIc (by omega), hb, ch_id b h8]
  exact g_tret (ty := .char) (by decide +kernel) rfl (Or.inr rfl) (ch_nr b h8) (Nat.le_refl _) (Nat.le_refl _) ⟨rfl, rfl⟩
theorem cJ_charAt {i k b : Nat} {t : StT} (hi : gStr[i]? = some t) (hk : k < t.2.2.2.length) (hl : t.2.2.2.length < 1000000) (hb : t.2.2.2.getD k 0 = nI b) (h8 : b < 128) : gCt mJ0_charAt_5068e 4 0 0 [.ref (1000 + i), .int (nI k)] [] (fun v h => v = some (.int (nI b)) ∧ h = []) (fun _ _ => False) := by
  refine gCt_of (ls := [some (.ref (1000 + i)), some (.int (nI k))]) rfl rfl rfl (Nat.le_of_ble_eq_true rfl) rfl ?_
  refine g_aload_n (i := 0) (x := 1000 + i) (by decide +kernel) rfl ?_
  refine g_callVs (M' := mJ0_isLatin1_aae02) (vs := []) (rest := []) [] (cJ_isLatin1 hi) (by decide +kernel) lkJ0_492 rfl hi rfl rfl (nil_sub _) (Or.inl (by simp)) rfl (by decide) (Nat.le_of_ble_eq_true rfl) (by decide) (by decide) (fun _ _ z => z.elim) ?_
  rintro v h1 ⟨rfl, rfl⟩
  show G _ _ _ _ _ _ _ 0 0 4 _ [.int 1] []
  refine g_if_eq (t := 16) (off := 12) (by decide +kernel) rfl (fun z => absurd z (by decide)) (fun _ => ?_)
  refine g_aload_n (i := 0) (x := 1000 + i) (by decide +kernel) rfl ?_
  refine g_strV (idx := 9) hi (by decide +kernel) wJ_value ?_
  refine g_iload_n (i := 1) (x := nI k) (by decide +kernel) rfl ?_
  refine g_callT (M' := mJ1_charAt_3b067) (vs := [.ref (1500 + i), .int (nI k)]) (rest := []) [] (cJ1_charAt hi hk hl hb h8) (by decide +kernel) lkJ0_495 rfl ?_ (nil_sub _) (Or.inl (by simp)) rfl (by decide) (Nat.le_of_ble_eq_true rfl) (by decide) (by decide) (fun _ _ z => z.elim) ?_
  · rw [gRen_nil, map_tv_id]; rfl
  rintro v h1 ⟨rfl, rfl⟩
  show G _ _ _ _ _ _ _ 0 0 15 _ [.int (nI b)] []
  exact g_tret (ty := .char) (by decide +kernel) rfl (Or.inr rfl) (ch_nr b h8) (Nat.le_refl _) (Nat.le_refl _) ⟨rfl, rfl⟩
def StOk (i : Nat) (w : List Nat) : Prop := ∃ t, gStr[i]? = some t ∧ t.2.2.2 = w.map nI ∧ w.length < 1000000 ∧ ∀ c ∈ w, c < 128
theorem g_len (pc : Nat) (hs : StOk i w) (hd : decode (mC M) pc = .ok (.invokevirtual idx, 3)) (hlk : gLkV (mY M).cls idx mJ0_length_8abf5 0) (hT : mT M = []) (hdd : 5 ≤ d) (hcat : (rest.map fun v => v.category).sum ≤ 8) (hc : c ≤ mc) (hn : n ≤ ms)
    (k : G M d mc ms h0 Q QX c n (pc + 3) ls (.int (nI w.length) :: rest) h) : G M d mc ms h0 Q QX c n pc ls (.ref (1000 + i) :: rest) h := by
  obtain ⟨t, hi, hw, -, -⟩ := hs
  refine g_callVs (M' := mJ0_length_8abf5) (vs := []) (rest := rest) [] (cJ_length hi) hd hlk rfl hi rfl rfl (nil_sub _) (Or.inl (by simp)) hT (by omega) hcat hc hn (fun _ _ z => z.elim) ?_
  rintro v h1 ⟨rfl, rfl⟩
  rw [hw, List.length_map]
  exact k
theorem g_chr (pc : Nat) {k : Nat} (hs : StOk i w) (hk : k < w.length) (hd : decode (mC M) pc = .ok (.invokevirtual idx, 3)) (hlk : gLkV (mY M).cls idx mJ0_charAt_5068e 1) (hT : mT M = []) (hdd : 5 ≤ d) (hcat : (rest.map fun v => v.category).sum ≤ 8) (hc : c ≤ mc) (hn : n ≤ ms)
    (kk : G M d mc ms h0 Q QX c n (pc + 3) ls (.int (nI (w.getD k 0)) :: rest) h) : G M d mc ms h0 Q QX c n pc ls (.int (nI k) :: .ref (1000 + i) :: rest) h := by
  obtain ⟨t, hi, hw, hl, h8⟩ := hs
  have hg : w.getD k 0 ∈ w := by
    rw [List.getD_eq_getElem?_getD, List.getElem?_eq_getElem hk]; exact List.getElem_mem hk
  refine g_callVs (M' := mJ0_charAt_5068e) (vs := [.int (nI k)]) (rest := rest) [] (cJ_charAt (b := w.getD k 0) hi (by rw [hw, List.length_map]; exact hk) (by rw [hw, List.length_map]; exact hl) ?_ (h8 _ hg)) hd hlk rfl hi rfl rfl (nil_sub _) (Or.inl (by simp)) hT (by omega) hcat hc hn (fun _ _ z => z.elim) ?_
  · rw [hw, List.getD_eq_getElem?_getD, List.getD_eq_getElem?_getD, List.getElem?_map, List.getElem?_eq_getElem hk]; rfl
  · rintro v h1 ⟨rfl, rfl⟩
    exact kk
end JCONST
