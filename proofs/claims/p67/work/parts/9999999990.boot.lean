section BOOT
set_option maxRecDepth 100000
/-! ### what the law's start gives -/
abbrev StrT : Type := String × Nat × String × List Int32
abbrev ArrT : Type := String × String × String × FieldType × List (Int32 ⊕ Nat)
def scond (t : StrT) : List Cond := [Cond.exactly (.string t.1 t.2.1) "java/lang/String", Cond.eq (.field (.string t.1 t.2.1) "java/lang/String" "coder" "B") (.int 0), Cond.arrayOf (.field (.string t.1 t.2.1) "java/lang/String" "value" "[B") .byte, Cond.eq (.length (.field (.string t.1 t.2.1) "java/lang/String" "value" "[B")) (.int (Int32.ofNat t.2.2.2.length))] ++
  (List.range t.2.2.2.length).map (fun j => Cond.eq (.elem (.field (.string t.1 t.2.1) "java/lang/String" "value" "[B") (.int (Int32.ofNat j))) (.int (t.2.2.2.getD j 0)))
def nse : Cond → Bool
  | .eq (.string _ _) (.string _ _) => false
  | _ => true
abbrev gvn : Cond := Cond.and given_1 narrow_1
def gStrO : List StrT := [0, 1, 2, 3, 4, 5, 6, 7, 8, 9, 10, 11, 12, 13, 14, 15, 16, 17, 18, 26, 27, 28, 29, 30, 19, 20, 21, 22, 23, 25, 24, 31, 32, 33, 34, 35, 36, 37].filterMap (fun i => gStr[i]?)
theorem flat_str : (((flatC gvn).drop 244).take 640).filter nse = gStrO.flatMap scond := by decide +kernel
theorem gStr_O : ∀ t ∈ gStr, t ∈ gStrO := by decide +kernel
theorem str_in {t : StrT} (ht : t ∈ gStr) {c : Cond} (hc : c ∈ scond t) : c ∈ flatC gvn := by
  have h1 : c ∈ gStrO.flatMap scond := List.mem_flatMap.mpr ⟨t, gStr_O t ht, hc⟩
  rw [← flat_str] at h1
  exact List.mem_of_mem_drop (List.mem_of_mem_take (List.mem_filter.mp h1).1)
def aelem (x : Int32 ⊕ Nat) : Term := match x with
  | .inl x => .int x
  | .inr k => match gStr[k]? with
    | some t => .string t.1 t.2.1
    | none => .int 0
def acond (t : ArrT) : List Cond := [Cond.isRef (.static t.1 t.2.1 t.2.2.1), Cond.arrayOf (.static t.1 t.2.1 t.2.2.1) t.2.2.2.1, Cond.eq (.length (.static t.1 t.2.1 t.2.2.1)) (.int (Int32.ofNat t.2.2.2.2.length))] ++
  (List.range t.2.2.2.2.length).map (fun j => Cond.eq (.elem (.static t.1 t.2.1 t.2.2.1) (.int (Int32.ofNat j))) (aelem (t.2.2.2.2.getD j (.inl 0))))
theorem flat_arr : ((flatC gvn).drop 11).take 219 = gArr.flatMap acond := by decide +kernel
theorem arr_in {t : ArrT} (ht : t ∈ gArr) {c : Cond} (hc : c ∈ acond t) : c ∈ flatC gvn := by
  have h1 : c ∈ gArr.flatMap acond := List.mem_flatMap.mpr ⟨t, ht, hc⟩
  rw [← flat_arr] at h1
  exact List.mem_of_mem_drop (List.mem_of_mem_take h1)
theorem str_rf : ∀ t ∈ gStr, Cond.stringRef t.1 t.2.1 t.2.2.1 ∈ lw_tbl := by decide +kernel
theorem str_len : ∀ t ∈ gStr, t.2.2.2.length < 2 ^ 31 := by decide +kernel
theorem str_38 : gStr.length = 38 := by decide +kernel
theorem arr_len : ∀ t ∈ gArr, t.2.2.2.2.length < 2 ^ 31 := by decide +kernel
theorem arr_4 : gArr.length = 4 := by decide +kernel
theorem arr_ls : ∀ t ∈ gArr, Cond.laysStatic t.1 t.2.1 t.2.2.1 ∈ lw_tbl ∧ Cond.initialized t.1 ∈ lw_tbl := by decide +kernel
def okE : Int32 ⊕ Nat → Bool
  | .inl _ => true
  | .inr k => decide (k < 38)
theorem arr_ok : ∀ t ∈ gArr, t.2.2.2.2.all okE = true := by decide +kernel
theorem nml_in : ∀ q ∈ gNM, Cond.methodLinkNest q.1 q.2.1 q.2.2.1 q.2.2.2 ∈ lw_tbl := by decide +kernel
theorem ca_in : ∀ C ∈ gCast, Cond.castable C C ∈ lw_tbl := by decide +kernel
theorem de_in : ∀ y ∈ gDecl, Cond.declares y ∈ lw_tbl := by decide +kernel
theorem nc_in : ∀ q ∈ gNcs, Cond.not (.castable q.1 q.2) ∈ flatC gvn := by decide +kernel
theorem prv_in : ∀ y ∈ gPrv, Cond.privateMethod y ∈ lw_tbl ∧ Cond.instanceMethod y ∈ lw_tbl ∧ y.cls = "java/lang/AbstractStringBuilder" := by decide +kernel
theorem gAv_c {st st0 : Nat → Nat} {l : List (Int32 ⊕ Nat)} (h : l.all okE = true) (hs : ∀ k, k < 38 → st k = st0 k) (j : Nat) : gAv st (l.getD j (.inl 0)) = gAv st0 (l.getD j (.inl 0)) := by
  rw [List.getD_eq_getElem?_getD]
  cases hj : l[j]? with
  | none => rfl
  | some x =>
    have hx := List.all_eq_true.mp h x (List.mem_of_getElem? hj)
    cases x with
    | inl x => rfl
    | inr k =>
      show Value.ref (st k) = .ref (st0 k)
      rw [hs k (of_decide_eq_true hx)]
theorem va_refs {args : Array Value} {s : State} {t : Term} {own : String} {k a : Nat} (h : (Cond.eq t (.string own k)).before args s = true) (h2 : (Term.string own k).eval args s none [] s = some (.ref a)) : t.eval args s none [] s = some (.ref a) :=
  Cond.eq_refs (first := s) (t := s) (out := none) (idx := []) h h2 rfl
theorem boot_J {s : State} {args : Array Value} (b0 : Nat) (hts : ∀ w ∈ lw_tbl, w.before args s = true) (hgv : gvn.before args s = true) : ∃ st : Nat → Nat, st 1000 = b0 ∧ gJ s.heap.size st st s s.heap := by
  have hf := flat_of_before gvn hgv
  have hA : ∀ a : Nat, a < s.heap.size → ¬ gA s.heap.size a := fun a h q => absurd h (Nat.not_lt.mpr q)
  have hstr : ∀ i : Nat, ∃ q : Nat × Nat, ∀ t, gStr[i]? = some t → (Term.string t.1 t.2.1).eval args s none [] s = some (.ref q.1) ∧ vk_R t.1 t.2.1 t.2.2.1 q.1 s ∧ gS s.heap.size t.2.2.2.length t.2.2.2 q.1 q.2 s s.heap := by
    intro i
    cases hi : gStr[i]? with
    | none => exact ⟨(0, 0), fun t h => by cases h⟩
    | some t =>
      have ht := List.mem_of_getElem? hi
      have hc : ∀ c ∈ scond t, c.before args s = true := fun c hc => hf c (str_in ht hc)
      have c0 := hc _ (List.mem_append_left _ (List.mem_cons_self))
      have c1 := hc _ (List.mem_append_left _ (List.mem_cons_of_mem _ List.mem_cons_self))
      have c2 := hc _ (List.mem_append_left _ (List.mem_cons_of_mem _ (List.mem_cons_of_mem _ List.mem_cons_self)))
      have c3 := hc _ (List.mem_append_left _ (List.mem_cons_of_mem _ (List.mem_cons_of_mem _ (List.mem_cons_of_mem _ List.mem_cons_self))))
      have c4 : ∀ j : Nat, j < t.2.2.2.length → (Cond.eq (.elem (.field (.string t.1 t.2.1) "java/lang/String" "value" "[B") (.int (Int32.ofNat j))) (.int (t.2.2.2.getD j 0))).before args s = true := fun j hj => hc _ (List.mem_append_right _ (List.mem_map.mpr ⟨j, List.mem_range.mpr hj, rfl⟩))
      obtain ⟨a, ce, cA, kA, q1, q2, q3, q4, q5, q6, -⟩ := Cond.exactly_spec (args := args) (first := s) (o := none) (s := s) (idx := []) (t := .string t.1 t.2.1) (cls := "java/lang/String") c0
      obtain ⟨v, hv, hT⟩ := va_Tof (f := fun j => .int (t.2.2.2.getD j 0)) (A := gA s.heap.size) (str_len t ht) c2 (va_eqt c3) (fun j hj => va_eqt (c4 j hj)) hA
      exact ⟨(a, v), fun t' h => by
        cases h
        exact ⟨q1, vk_R.of (hts _ (str_rf t ht)) q1, va_Oof c0 q1 hA, vk_OFof q1 (va_eqt c1) hA, vk_OFof q1 hv hA, hT⟩⟩
  obtain ⟨ad, had⟩ := Classical.axiomOfChoice hstr
  have harr : ∀ i : Nat, ∃ q : Nat, ∀ t, gArr[i]? = some t → va_Z t.1 t.2.1 t.2.2.1 (.ref q) (gA s.heap.size) s s.heap ∧ va_T t.2.2.2.1 q t.2.2.2.2.length (fun j => gAv (fun k => (ad k).1) (t.2.2.2.2.getD j (.inl 0))) (gA s.heap.size) s s.heap := by
    intro i
    cases hi : gArr[i]? with
    | none => exact ⟨0, fun t h => by cases h⟩
    | some t =>
      have ht := List.mem_of_getElem? hi
      have hc : ∀ c ∈ acond t, c.before args s = true := fun c hc => hf c (arr_in ht hc)
      have c1 := hc _ (List.mem_append_left _ (List.mem_cons_of_mem _ List.mem_cons_self))
      have c2 := hc _ (List.mem_append_left _ (List.mem_cons_of_mem _ (List.mem_cons_of_mem _ List.mem_cons_self)))
      have c3 : ∀ j : Nat, j < t.2.2.2.2.length → (Cond.eq (.elem (.static t.1 t.2.1 t.2.2.1) (.int (Int32.ofNat j))) (aelem (t.2.2.2.2.getD j (.inl 0)))).before args s = true := fun j hj => hc _ (List.mem_append_right _ (List.mem_map.mpr ⟨j, List.mem_range.mpr hj, rfl⟩))
      have hel : ∀ j : Nat, j < t.2.2.2.2.length → (Term.elem (.static t.1 t.2.1 t.2.2.1) (.int (Int32.ofNat j))).eval args s none [] s = some (gAv (fun k => (ad k).1) (t.2.2.2.2.getD j (.inl 0))) := by
        intro j hj
        have c4 := c3 j hj
        have hm : t.2.2.2.2.getD j (.inl 0) ∈ t.2.2.2.2 := by
          rw [List.getD_eq_getElem?_getD, List.getElem?_eq_getElem hj]; exact List.getElem_mem hj
        have hok := List.all_eq_true.mp (arr_ok t ht) _ hm
        revert c4 hok
        generalize t.2.2.2.2.getD j (.inl 0) = x
        intro c4 hok
        cases x with
        | inl x => exact va_eqt c4
        | inr k =>
          have hk : k < gStr.length := by rw [str_38]; exact of_decide_eq_true hok
          have hg : gStr[k]? = some gStr[k] := List.getElem?_eq_getElem hk
          have ea : aelem (.inr k) = .string (gStr[k]).1 (gStr[k]).2.1 := by
            unfold aelem
            simp only [hg]
          rw [ea] at c4
          exact va_refs c4 (had k _ hg).1
      obtain ⟨v, hv, hT⟩ := va_Tof (f := fun j => gAv (fun k => (ad k).1) (t.2.2.2.2.getD j (.inl 0))) (A := gA s.heap.size) (arr_len t ht) c1 (va_eqt c2) hel hA
      exact ⟨v, fun t' h => by
        cases h
        exact ⟨va_Zof (hts _ (arr_ls t ht).1) (hts _ (arr_ls t ht).2) hv hA, hT⟩⟩
  obtain ⟨aa, haa⟩ := Classical.axiomOfChoice harr
  have hz := va_Zqof (A := gA s.heap.size) (hts (.laysStatic "jdk/internal/util/Preconditions" "SIOOBE_FORMATTER" "Ljava/util/function/BiFunction;") (by decide +kernel)) (hts (.initialized "jdk/internal/util/Preconditions") (by decide +kernel)) (hf (.isRef (.static "jdk/internal/util/Preconditions" "SIOOBE_FORMATTER" "Ljava/util/function/BiFunction;")) (by decide +kernel)) hA
  obtain ⟨t0, hz⟩ : ∃ t0 : Nat, va_Z "jdk/internal/util/Preconditions" "SIOOBE_FORMATTER" "Ljava/util/function/BiFunction;" .null (gA s.heap.size) s s.heap ∨ va_Z "jdk/internal/util/Preconditions" "SIOOBE_FORMATTER" "Ljava/util/function/BiFunction;" (.ref t0) (gA s.heap.size) s s.heap := by
    rcases hz with h | ⟨t, h⟩
    · exact ⟨0, Or.inl h⟩
    · exact ⟨t, Or.inr h⟩
  refine ⟨fun i => if i < 500 then (ad i).1 else if i < 700 then (ad (i - 500)).2 else if i < 900 then aa (i - 700) else if i = 900 then t0 else b0, rfl, fun q hq => va_Nw.of rfl (hts _ (nml_in q hq)), fun C hC => va_Nw.of rfl (hts _ (ca_in C hC)), fun y hy => va_Nw.of rfl (hts _ (de_in y hy)), fun q hq => va_Nc.of (hf _ (nc_in q hq)), ?_, ?_, ?_, hz, ⟨va_AO.of (hts (.arrayOver (.object RX3)) (by decide +kernel)), ?_, ?_, ?_, ?_⟩, ?_⟩
  · exact vx_Zqof (hts (.laysStatic Bundle.tN "UNASSIGNED_STACK" Bundle.steD) (by decide +kernel)) (hts (.initialized Bundle.tN) (by decide +kernel)) (hf (.isRef (.static Bundle.tN "UNASSIGNED_STACK" Bundle.steD)) (by decide +kernel)) hA
  · exact vx_Zqof (hts (.laysStatic Bundle.tN "SUPPRESSED_SENTINEL" Bundle.listD) (by decide +kernel)) (hts (.initialized Bundle.tN) (by decide +kernel)) (hf (.isRef (.static Bundle.tN "SUPPRESSED_SENTINEL" Bundle.listD)) (by decide +kernel)) hA
  · exact va_Zof (hts (.laysStatic "java/lang/String" "COMPACT_STRINGS" "Z") (by decide +kernel)) (hts (.initialized "java/lang/String") (by decide +kernel)) (va_eqt (hf (.eq (.static "java/lang/String" "COMPACT_STRINGS" "Z") (.int 1)) (by decide +kernel))) hA
  · exact hts (.arrayOver (.array .int)) (by decide +kernel)
  · exact va_Nw.of rfl (hts (.castable "[B" "java/lang/Cloneable") (by decide +kernel))
  · intro y hy
    obtain ⟨p1, p2, p3⟩ := prv_in y hy
    refine va_Nw.of rfl (g_selP (z := ⟨"java/lang/AbstractStringBuilder", "isLatin1", "()Z"⟩) ?_ p3.symm (hts _ (by decide +kernel)) (hts _ p1) (hts _ p2))
    rw [p3]; decide
  · intro i t hi
    have hlt : i < 4 := by rw [← arr_4]; exact (List.getElem?_eq_some_iff.mp hi).1
    have h := haa i t hi
    have e1 : (if 700 + i < 500 then (ad (700 + i)).1 else if 700 + i < 700 then (ad (700 + i - 500)).2 else if 700 + i < 900 then aa (700 + i - 700) else if 700 + i = 900 then t0 else b0) = aa i := by
      rw [if_neg (by omega), if_neg (by omega), if_pos (by omega), show 700 + i - 700 = i by omega]
    show va_Z t.1 t.2.1 t.2.2.1 (.ref (if 700 + i < 500 then (ad (700 + i)).1 else if 700 + i < 700 then (ad (700 + i - 500)).2 else if 700 + i < 900 then aa (700 + i - 700) else if 700 + i = 900 then t0 else b0)) (gA s.heap.size) s s.heap ∧ va_T t.2.2.2.1 (if 700 + i < 500 then (ad (700 + i)).1 else if 700 + i < 700 then (ad (700 + i - 500)).2 else if 700 + i < 900 then aa (700 + i - 700) else if 700 + i = 900 then t0 else b0) t.2.2.2.2.length _ (gA s.heap.size) s s.heap
    rw [e1]
    refine ⟨h.1, ?_⟩
    have e2 : (fun j => gAv (fun i => if i < 500 then (ad i).1 else if i < 700 then (ad (i - 500)).2 else if i < 900 then aa (i - 700) else if i = 900 then t0 else b0) (t.2.2.2.2.getD j (.inl 0))) = (fun j => gAv (fun k => (ad k).1) (t.2.2.2.2.getD j (.inl 0))) :=
      funext (fun j => gAv_c (arr_ok t (List.mem_of_getElem? hi)) (fun k hk => if_pos (by omega)) j)
    rw [e2]
    exact h.2
  · intro i t hi
    have hlt : i < 38 := by rw [← str_38]; exact (List.getElem?_eq_some_iff.mp hi).1
    have h := (had i t hi).2
    have e1 : (if i < 500 then (ad i).1 else if i < 700 then (ad (i - 500)).2 else if i < 900 then aa (i - 700) else if i = 900 then t0 else b0) = (ad i).1 := if_pos (by omega)
    have e2 : (if 500 + i < 500 then (ad (500 + i)).1 else if 500 + i < 700 then (ad (500 + i - 500)).2 else if 500 + i < 900 then aa (500 + i - 700) else if 500 + i = 900 then t0 else b0) = (ad i).2 := by
      rw [if_neg (by omega), if_pos (by omega), show 500 + i - 500 = i by omega]
    show vk_R t.1 t.2.1 t.2.2.1 (if i < 500 then (ad i).1 else if i < 700 then (ad (i - 500)).2 else if i < 900 then aa (i - 700) else if i = 900 then t0 else b0) s ∧ gS s.heap.size t.2.2.2.length t.2.2.2 (if i < 500 then (ad i).1 else if i < 700 then (ad (i - 500)).2 else if i < 900 then aa (i - 700) else if i = 900 then t0 else b0) (if 500 + i < 500 then (ad (500 + i)).1 else if 500 + i < 700 then (ad (500 + i - 500)).2 else if 500 + i < 900 then aa (500 + i - 700) else if 500 + i = 900 then t0 else b0) s s.heap
    rw [e1, e2]
    exact h
theorem inst_of {own : String} {idx ci : Nat} (h : gNewOk own idx ci) : ∃ (C : String) (T : u_T) (N : Nat), vwCl[ci]? = some (C, T, N) ∧ Cond.instantiable C N ∈ gG := by
  obtain ⟨C, T, N, h1, -, h2⟩ := h
  exact ⟨C, T, N, h1, h2.1⟩
theorem arr_p {s : State} {args : Array Value} {ty : FieldType} (h : (Cond.arrayClass ty).before args s = true) : ∃ cA : ClassId, ArrOfT s cA ty ∧ s.vm.findClass ("[" ++ ty.toString) = some cA := by
  obtain ⟨cA, kA, comp, h1, h2, h3⟩ := Cond.arrayClass_spec (args := args) (first := s) (o := none) (s := s) (idx := []) h
  exact ⟨cA, fun n z => ⟨fun k h => (by cases h), kA, h2, comp, h3⟩, h1⟩
theorem boot_K {s : State} {args : Array Value} (hts : ∀ w ∈ lw_tbl, w.before args s = true) : ∃ (D : va_G) (E : Nat → ClassId), va_K D vwCl (gTys E) s := by
  have hG : ∀ w ∈ gG, w.before args s = true := fun w hw => hts w (List.mem_filter.mp hw).1
  have key : ∀ {own : String} {idx ci : Nat} {C : String} {T : u_T} {N : Nat}, gNewOk own idx ci → vwCl[ci]? = some (C, T, N) → (∀ w ∈ u_ws C T N, w ∈ gG) → ∃ p : ClassId × (Nat → Nat), ∀ q, vwCl[ci]? = some q → u_Kn s q.1 q.2.1 q.2.2 p.1 p.2 := by
    intro own idx ci C T N h1 h2 h3
    obtain ⟨C', T', N', h4, h5⟩ := inst_of h1
    cases h2.symm.trans h4
    obtain ⟨cC, iS, hK⟩ := u_known hG h3 (hG _ h5)
    exact ⟨(cC, iS), fun q hq => by cases h2.symm.trans hq; exact hK⟩
  have hK : ∀ c : Nat, ∃ p : ClassId × (Nat → Nat), ∀ q, vwCl[c]? = some q → u_Kn s q.1 q.2.1 q.2.2 p.1 p.2 := by
    intro c
    match c with
    | 0 => exact key gNew_3_25 rfl gX_ws_0
    | 1 => exact key gNew_8_13 rfl gX_ws_1
    | 2 => exact key gNew_8_50 rfl gX_ws_2
    | 3 => exact key gNew_8_10 rfl gX_ws_3
    | 4 => exact key gNew_8_61 rfl gX_ws_4
    | 5 => exact key gNew_8_7 rfl gX_ws_5
    | 6 => exact key gNew_3_32 rfl gX_ws_6
    | 7 => exact key gNew_3_18 rfl gX_ws_7
    | 8 => exact key gNew_11_25 rfl gX_ws_8
    | 9 => exact key gNew_10_18 rfl gX_ws_9
    | 10 => exact key gNew_11_45 rfl gX_ws_10
    | c + 11 => exact ⟨(0, fun _ => 0), fun q hq => by cases hq⟩
  obtain ⟨ad, had⟩ := Classical.axiomOfChoice hK
  obtain ⟨cI, i1, i2⟩ := arr_p (hts (.arrayClass .int) (by decide +kernel))
  obtain ⟨cB, b1, b2⟩ := arr_p (hts (.arrayClass .byte) (by decide +kernel))
  obtain ⟨cL, l1, l2⟩ : ∃ cA : ClassId, ArrOfT s cA (.array .int) ∧ va_RA s cA (.array .int) := by
    obtain ⟨comp, c9, k9, h1, h2, h3, h4⟩ := Cond.arrayOver_specA (args := args) (first := s) (o := none) (s := s) (idx := []) (hts (.arrayOver (.array .int)) (by decide +kernel))
    exact ⟨c9, fun n z => ⟨fun k h => (by cases h), k9, h2, comp, h3⟩, h4⟩
  obtain ⟨cQ, q1, q2⟩ : ∃ cA : ClassId, ArrOfT s cA (.object RX3) ∧ va_RA s cA (.object RX3) := by
    obtain ⟨comp, c9, k9, h1, -, h3, h4, h5⟩ := Cond.arrayOver_spec (args := args) (first := s) (o := none) (s := s) (idx := []) (hts (.arrayOver (.object RX3)) (by decide +kernel))
    exact ⟨c9, fun n z => ⟨fun k h => (by cases h), k9, h3, comp, h4⟩, k9, comp, h3, h4, h1, h5⟩
  refine ⟨(fun c => (ad c).1, fun c => (ad c).2), fun k => if k = 0 then cI else if k = 1 then cB else if k = 2 then cQ else cL, had, ?_⟩
  intro k q hq
  match k, hq with
  | 0, hq => cases hq; exact ⟨i1, i2⟩
  | 1, hq => cases hq; exact ⟨b1, b2⟩
  | 2, hq => cases hq; exact ⟨q1, q2⟩
  | 3, hq => cases hq; exact ⟨l1, l2⟩
  | k + 4, hq => cases hq
end BOOT
