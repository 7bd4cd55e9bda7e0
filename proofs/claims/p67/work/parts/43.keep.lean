section CKP
/-! ### what a cry keeps -/
theorem osF_at {os : List Od} {f : Nat → Nat} : ∀ k i, k ≤ os.length → (osF os f k)[i]? = if i < k then some (odQ (oa os i) (qa os i - f i)) else os[i]? := by
  intro k
  induction k with
  | zero => intro i _; rfl
  | succ k ih =>
    intro i hk
    rw [osF]
    by_cases h : k = i
    · subst h
      rw [List.getElem?_set_self (by rw [osF_len]; omega), if_pos (by omega)]
    · rw [List.getElem?_set_ne h, ih i (by omega)]
      by_cases h2 : i < k
      · rw [if_pos h2, if_pos (by omega)]
      · rw [if_neg h2, if_neg (by omega)]
theorem osF_mem {os : List Od} {f : Nat → Nat} {o : Od} (h : o ∈ osF os f os.length) : ∃ i x, os[i]? = some x ∧ o = odQ x (qa os i - f i) := by
  obtain ⟨i, hi⟩ := List.getElem?_of_mem h
  rw [osF_at _ _ (Nat.le_refl _)] at hi
  by_cases hl : i < os.length
  · rw [if_pos hl] at hi
    cases hi
    exact ⟨i, os[i], List.getElem?_eq_getElem hl, by rw [oa_s (List.getElem?_eq_getElem hl)]⟩
  · rw [if_neg hl, List.getElem?_eq_none (by omega)] at hi
    cases hi
theorem stp_far {Z : MhT} {last band b : Nat} (h : stp Z (nI b) = true) (h1 : Z.2.1 = nI last) (h2 : Z.2.2.1 = nI band) (hl : last ≤ 999) (hb : b ≤ 999) (hband : band ≤ 999) : 0 < band ∧ (band < b - last ∨ band < last - b) := by
  obtain ⟨q1, q2, q3⟩ := stp_i.mp h
  rw [h2] at q2 q3
  rw [h1] at q3
  have hp : 0 < band := by
    rcases Nat.eq_zero_or_pos band with z | z
    · rw [z] at q2; exact absurd rfl q2
    · exact z
  refine ⟨hp, ?_⟩
  unfold abI at q3
  by_cases hlb : last ≤ b
  · rw [nI_sub hlb, if_pos (Int32.not_lt.mp (nI_nneg (by omega))), nI_ltI (by omega) (by omega)] at q3
    omega
  · have e : nI b - nI last = -(nI (last - b)) := by
      rw [← nI_sub (by omega), Int32.neg_sub]
    have hneg : ¬ (0 : Int32) ≤ -(nI (last - b)) := by
      rw [← e]
      intro z
      have h9 := Int32.le_iff_toInt_le.mp z
      rw [pk_sub_toInt (by omega) (by omega)] at h9
      have : (0 : Int32).toInt = 0 := rfl
      omega
    rw [e, if_neg hneg, Int32.zero_sub, Int32.neg_neg, nI_ltI (by omega) (by omega)] at q3
    omega
end CKP
