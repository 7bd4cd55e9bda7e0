section CRW
/-! ### a row of the model holds a market as it is meant -/
def n27 (l : List Nat) : Nat := l.foldl (fun a c => a * 27 + (c - 96)) 0
def hdL (A : MkA) : List Int32 := [A.1.2.2.2.2, A.1.2.1, A.1.2.2.1, A.1.2.2.2.1, A.1.1, nI A.2.1.length, nI A.2.2.1.length, A.2.2.2.1, A.2.2.2.2.1, A.2.2.2.2.2.2.1, A.2.2.2.2.2.2.2.1, A.2.2.2.2.2.2.2.2.1, A.2.2.2.2.2.2.2.2.2.1, A.2.2.2.2.2.2.2.2.2.2.1, A.2.2.2.2.2.2.2.2.2.2.2.toInt32, A.2.2.2.2.2.1]
def OdRw (r : List Int32) (k : Nat) (o : Od) : Prop := r.getD (48 + 6 * k) 0 = o.1 ∧ r.getD (48 + 6 * k + 1) 0 = nI (oT o) ∧ r.getD (48 + 6 * k + 2) 0 = nI (oS o) ∧ r.getD (48 + 6 * k + 3) 0 = nI (oL o) ∧ r.getD (48 + 6 * k + 4) 0 = nI (oQ o) ∧ r.getD (48 + 6 * k + 5) 0 = oM o
def TrRw (r : List Int32) (k : Nat) (t : Tr) : Prop := r.getD (16 + 4 * k) 0 = nI (n27 t.1) ∧ r.getD (16 + 4 * k + 1) 0 = nI t.1.length ∧ r.getD (16 + 4 * k + 2) 0 = t.2.1 ∧ r.getD (16 + 4 * k + 3) 0 = t.2.2
def RowR (r : List Int32) (A : MkA) : Prop := r.length = 174 ∧ A.2.1.length ≤ 8 ∧ A.2.2.1.length ≤ 21 ∧ (∀ o ∈ A.2.2.1, CdOk o) ∧ (∀ j, j < 16 → r.getD j 0 = (hdL A).getD j 0) ∧ (∀ (k : Nat) (t : Tr), A.2.1[k]? = some t → TrRw r k t) ∧ (∀ j, 16 + 4 * A.2.1.length ≤ j → j < 48 → r.getD j 0 = 0) ∧ ∀ (k : Nat) (o : Od), A.2.2.1[k]? = some o → OdRw r k o
theorem RowR.len {r : List Int32} {A : MkA} (h : RowR r A) : r.length = 174 := h.1
theorem RowR.no {r : List Int32} {A : MkA} (h : RowR r A) : A.2.2.1.length ≤ 21 := h.2.2.1
theorem RowR.nt {r : List Int32} {A : MkA} (h : RowR r A) : A.2.1.length ≤ 8 := h.2.1
theorem RowR.hd {r : List Int32} {A : MkA} (h : RowR r A) {j : Nat} (hj : j < 16) : r.getD j 0 = (hdL A).getD j 0 := h.2.2.2.2.1 j hj
theorem oa_at {os : List Od} {k : Nat} (hk : k < os.length) : os[k]? = some (oa os k) := by rw [oa_s (List.getElem?_eq_getElem hk)]; exact List.getElem?_eq_getElem hk
theorem oa_mem {os : List Od} {k : Nat} (hk : k < os.length) : oa os k ∈ os := List.mem_of_getElem? (oa_at hk)
theorem RowR.od {r : List Int32} {A : MkA} (h : RowR r A) {k : Nat} (hk : k < A.2.2.1.length) : OdRw r k (oa A.2.2.1 k) := h.2.2.2.2.2.2.2 k _ (oa_at hk)
theorem RowR.ok {r : List Int32} {A : MkA} (h : RowR r A) {k : Nat} (hk : k < A.2.2.1.length) : CdOk (oa A.2.2.1 k) := h.2.2.2.1 _ (oa_mem hk)
theorem RowR.tr {r : List Int32} {A : MkA} (h : RowR r A) {k : Nat} {t : Tr} (hk : A.2.1[k]? = some t) : TrRw r k t := h.2.2.2.2.2.1 k t hk
theorem gD_set {l : List Int32} {i j : Nat} {x : Int32} (h : i < l.length) : (l.set i x).getD j 0 = if i = j then x else l.getD j 0 := by
  by_cases e : i = j
  · subst e; rw [if_pos rfl]; exact gD_eq h
  · rw [if_neg e]; exact gD_ne e
theorem OdRw.ext {r r' : List Int32} {k : Nat} {o : Od} (h : OdRw r k o) (e : ∀ j, 48 + 6 * k ≤ j → j < 54 + 6 * k → r'.getD j 0 = r.getD j 0) : OdRw r' k o := by
  obtain ⟨h1, h2, h3, h4, h5, h6⟩ := h
  exact ⟨(e _ (by omega) (by omega)).trans h1, (e _ (by omega) (by omega)).trans h2, (e _ (by omega) (by omega)).trans h3, (e _ (by omega) (by omega)).trans h4, (e _ (by omega) (by omega)).trans h5, (e _ (by omega) (by omega)).trans h6⟩
theorem TrRw.ext {r r' : List Int32} {k : Nat} {t : Tr} (h : TrRw r k t) (e : ∀ j, 16 + 4 * k ≤ j → j < 20 + 4 * k → r'.getD j 0 = r.getD j 0) : TrRw r' k t := by
  obtain ⟨h1, h2, h3, h4⟩ := h
  exact ⟨(e _ (by omega) (by omega)).trans h1, (e _ (by omega) (by omega)).trans h2, (e _ (by omega) (by omega)).trans h3, (e _ (by omega) (by omega)).trans h4⟩
/-- the head alone is written -/
theorem RowR.sethd {r : List Int32} {A A' : MkA} {p : Nat} {x : Int32} (h : RowR r A) (hp : p < 16) (ht : A'.2.1 = A.2.1) (ho : A'.2.2.1 = A.2.2.1) (e : hdL A' = (hdL A).set p x) : RowR (r.set p x) A' := by
  obtain ⟨h1, h2, h3, h4, h5, h6, h7, h8⟩ := h
  refine ⟨by rw [List.length_set]; exact h1, by rw [ht]; exact h2, by rw [ho]; exact h3, by rw [ho]; exact h4, fun j hj => ?_, fun k t hk => ?_, fun j hj hj9 => ?_, fun k o hk => ?_⟩
  · rw [gD_set (by omega), e, gD_set (by show p < 16; exact hp), h5 j hj]
  · rw [ht] at hk
    exact (h6 k t hk).ext fun j _ _ => gD_ne (by omega)
  · rw [ht] at hj
    rw [gD_ne (by omega)]
    exact h7 j hj hj9
  · rw [ho] at hk
    exact (h8 k o hk).ext fun j _ _ => gD_ne (by omega)
/-- an order's row is written -/
theorem RowR.setod {r r' : List Int32} {A : MkA} {k : Nat} {o o' : Od} (h : RowR r A) (hk : A.2.2.1[k]? = some o) (hl : r'.length = 174) (e : ∀ j, (j < 48 + 6 * k ∨ 54 + 6 * k ≤ j) → r'.getD j 0 = r.getD j 0) (hr : OdRw r' k o') (ho : CdOk o') : RowR r' (A.1, A.2.1, A.2.2.1.set k o', A.2.2.2) := by
  obtain ⟨h1, h2, h3, h4, h5, h6, h7, h8⟩ := h
  have hkl := (List.getElem?_eq_some_iff.mp hk).1
  refine ⟨hl, h2, by simpa using h3, fun x hx => ?_, fun j hj => ?_, fun i t hi => ?_, fun j hj hj9 => ?_, fun i x hi => ?_⟩
  · rcases List.mem_or_eq_of_mem_set hx with q | q
    · exact h4 x q
    · rw [q]; exact ho
  · rw [e j (by omega), h5 j hj]
    simp [hdL]
  · have hi : A.2.1[i]? = some t := hi
    have hil := (List.getElem?_eq_some_iff.mp hi).1
    exact (h6 i t hi).ext fun j _ _ => e j (by omega)
  · rw [e j (by omega)]; exact h7 j hj hj9
  · by_cases hik : k = i
    · subst hik
      have hi : (A.2.2.1.set k o')[k]? = some x := hi
      rw [List.getElem?_set_self hkl] at hi
      cases hi
      exact hr
    · have hi : (A.2.2.1.set k o')[i]? = some x := hi
      rw [List.getElem?_set_ne hik] at hi
      exact (h8 i x hi).ext fun j _ _ => e j (by omega)
/-- a trader's row is written -/
theorem RowR.settr {r r' : List Int32} {A : MkA} {k : Nat} {t t' : Tr} (h : RowR r A) (hk : A.2.1[k]? = some t) (hl : r'.length = 174) (e : ∀ j, (j < 16 + 4 * k ∨ 20 + 4 * k ≤ j) → r'.getD j 0 = r.getD j 0) (hr : TrRw r' k t') : RowR r' (A.1, A.2.1.set k t', A.2.2) := by
  obtain ⟨h1, h2, h3, h4, h5, h6, h7, h8⟩ := h
  have hkl := (List.getElem?_eq_some_iff.mp hk).1
  refine ⟨hl, by simpa using h2, h3, h4, fun j hj => ?_, fun i x hi => ?_, fun j hj hj9 => ?_, fun i x hi => ?_⟩
  · rw [e j (by omega), h5 j hj]
    simp [hdL]
  · by_cases hik : k = i
    · subst hik
      have hi : (A.2.1.set k t')[k]? = some x := hi
      rw [List.getElem?_set_self hkl] at hi
      cases hi
      exact hr
    · have hi : (A.2.1.set k t')[i]? = some x := hi
      rw [List.getElem?_set_ne hik] at hi
      exact (h6 i x hi).ext fun j _ _ => e j (by omega)
  · have hj : 16 + 4 * (A.2.1.set k t').length ≤ j := hj
    rw [List.length_set] at hj
    rw [e j (by omega)]; exact h7 j hj hj9
  · exact (h8 i x hi).ext fun j _ _ => e j (by omega)
end CRW
