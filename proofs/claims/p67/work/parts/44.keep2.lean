section CKP2
theorem MkOk_cry {A : MkA} (h : MkOk A) : MkOk (cryA A).1 := by
  obtain ⟨AZ, ts, os, nn, AY⟩ := A
  obtain ⟨⟨last, e1, e2, e3⟩, ⟨band, e7, e8⟩, ⟨rule, e4, e5⟩, hper, e6⟩ := id h
  simp only at e1 e4 e6 e7 hper
  have hlast : nat AZ.2.1 = last := by rw [e1, nat_nI (by omega)]
  have hrule : nat AZ.2.2.2.1 = rule := by rw [e4, nat_nI (by omega)]
  unfold cryA
  simp only [hlast, hrule]
  have hB := bst_b os last
  generalize bst os last = b at hB ⊢
  by_cases h0 : b = 0
  · rw [if_pos h0]; exact h
  · rw [if_neg h0]
    have hb : 1 ≤ b ∧ b ≤ 999 := by
      rcases hB with ⟨q, _⟩ | ⟨q1, q2, _⟩
      · exact absurd q h0
      · exact ⟨q1, q2⟩
    by_cases hs : stp AZ (nI b) = true
    · rw [if_pos hs]
      obtain ⟨p1, p2⟩ := stp_far hs e1 e7 e3 hb.2 e8
      refine ⟨?_, ⟨band, e7, e8⟩, ⟨rule, e4, e5⟩, hper, e6⟩
      show ∃ l, (if last < b then AZ.2.1 + AZ.2.2.1 else AZ.2.1 + -AZ.2.2.1) = nI l ∧ 1 ≤ l ∧ l ≤ 999
      by_cases hlb : last < b
      · rw [if_pos hlb, e1, e7, nI_add]
        exact ⟨_, rfl, by omega, by omega⟩
      · rw [if_neg hlb, e1, e7, ← Int32.sub_eq_add_neg, nI_sub (by omega)]
        exact ⟨_, rfl, by omega, by omega⟩
    · rw [if_neg hs]
      refine ⟨⟨b, rfl, hb.1, hb.2⟩, ⟨band, e7, e8⟩, ⟨rule, e4, e5⟩, hper, fun o ho => ?_⟩
      obtain ⟨i, x, hx, hox⟩ := osF_mem (List.mem_filter.mp ho).1
      show oT o < (tsF os _ _ ts os.length).length
      rw [tsF_len, hox]
      exact e6 x (List.mem_of_getElem? hx)
end CKP2
