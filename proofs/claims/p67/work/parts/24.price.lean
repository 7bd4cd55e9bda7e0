section CX4
/-! ### the price of the cry -/
def hiB : List Od → Nat
  | [] => 0
  | o :: r => max (if oS o = 0 ∧ 0 < oQ o then oL o else 0) (hiB r)
def loB : List Od → Nat
  | [] => 1000
  | o :: r => min (if oS o = 1 ∧ 0 < oQ o then oL o else 1000) (loB r)
theorem hiB_app (a b : List Od) : hiB (a ++ b) = max (hiB a) (hiB b) := by
  induction a with
  | nil => simp [hiB]
  | cons o r ih => simp only [List.cons_append, hiB, ih]; omega
theorem loB_le (a : List Od) (h : ∀ o ∈ a, CdOk o) : loB a ≤ 1000 ∧ 1 ≤ loB a := by
  induction a with
  | nil => simp [loB]
  | cons o r ih =>
    have h1 := ih (fun x hx => h x (List.mem_cons_of_mem _ hx))
    have h2 := (h o List.mem_cons_self).2.1
    have h3 := (h o List.mem_cons_self).2.2.1
    simp only [loB]
    split <;> omega
theorem hiB_le (a : List Od) (h : ∀ o ∈ a, CdOk o) : hiB a ≤ 999 := by
  induction a with
  | nil => simp [hiB]
  | cons o r ih =>
    have h1 := ih (fun x hx => h x (List.mem_cons_of_mem _ hx))
    have h3 := (h o List.mem_cons_self).2.2.1
    simp only [hiB]
    split <;> omega
theorem loB_app (a b : List Od) (h : ∀ o ∈ b, CdOk o) : loB (a ++ b) = min (loB a) (loB b) := by
  induction a with
  | nil => have := (loB_le b h).1; simp only [List.nil_append, loB]; omega
  | cons o r ih => simp only [List.cons_append, loB, ih]; omega
theorem dem_hi {os : List Od} {p : Nat} (h : 0 < dem os p) : p ≤ hiB os := by
  induction os with
  | nil => simp [dem] at h
  | cons o r ih =>
    simp only [dem] at h
    simp only [hiB]
    by_cases h1 : oS o = 0 ∧ p ≤ oL o
    · rw [if_pos h1] at h
      by_cases h2 : 0 < oQ o
      · rw [if_pos ⟨h1.1, h2⟩]; omega
      · have := ih (by omega); omega
    · rw [if_neg h1] at h
      have := ih (by omega); omega
theorem sup_lo {os : List Od} {p : Nat} (h : 0 < sup os p) : loB os ≤ p := by
  induction os with
  | nil => simp [sup] at h
  | cons o r ih =>
    simp only [sup] at h
    simp only [loB]
    by_cases h1 : oS o = 1 ∧ oL o ≤ p
    · rw [if_pos h1] at h
      by_cases h2 : 0 < oQ o
      · rw [if_pos ⟨h1.1, h2⟩]; omega
      · have := ih (by omega); omega
    · rw [if_neg h1] at h
      have := ih (by omega); omega
theorem dem_ne {os : List Od} {p : Nat} (h : dem os p ≠ dem os (p + 1)) : ∃ o ∈ os, oS o = 0 ∧ oL o = p := by
  induction os with
  | nil => exact absurd rfl h
  | cons o r ih =>
    simp only [dem] at h
    by_cases h1 : oS o = 0 ∧ oL o = p
    · exact ⟨o, List.mem_cons_self, h1⟩
    · have h2 : (if oS o = 0 ∧ p ≤ oL o then oQ o else 0) = (if oS o = 0 ∧ p + 1 ≤ oL o then oQ o else 0) := by
        by_cases h3 : oS o = 0 ∧ p ≤ oL o
        · rw [if_pos h3, if_pos (by omega)]
        · rw [if_neg h3, if_neg (by omega)]
      obtain ⟨x, hx, hx2⟩ := ih (by omega)
      exact ⟨x, List.mem_cons_of_mem _ hx, hx2⟩
theorem sup_ne {os : List Od} {p : Nat} (h : sup os p ≠ sup os (p + 1)) : ∃ o ∈ os, oS o = 1 ∧ oL o = p + 1 := by
  induction os with
  | nil => exact absurd rfl h
  | cons o r ih =>
    simp only [sup] at h
    by_cases h1 : oS o = 1 ∧ oL o = p + 1
    · exact ⟨o, List.mem_cons_self, h1⟩
    · have h2 : (if oS o = 1 ∧ oL o ≤ p then oQ o else 0) = (if oS o = 1 ∧ oL o ≤ p + 1 then oQ o else 0) := by
        by_cases h3 : oS o = 1 ∧ oL o ≤ p + 1
        · rw [if_pos h3, if_pos (by omega)]
        · rw [if_neg h3, if_neg (by omega)]
      obtain ⟨x, hx, hx2⟩ := ih (by omega)
      exact ⟨x, List.mem_cons_of_mem _ hx, hx2⟩
theorem bt_tr {os : List Od} {last a b c : Nat} (h1 : bt os last a b = true) (h2 : bt os last b c = true) : bt os last a c = true := by
  rw [bt_i] at *
  omega
theorem bt_to {os : List Od} {last a b : Nat} (h : a ≠ b) (h1 : bt os last a b ≠ true) : bt os last b a = true := by
  rw [ne_eq, bt_i] at h1
  rw [bt_i]
  omega
theorem bt_as {os : List Od} {last a b : Nat} (h1 : bt os last a b = true) : bt os last b a ≠ true := by
  rw [bt_i] at h1
  rw [ne_eq, bt_i]
  omega
def Sel (os : List Od) (last cur : Nat) (S : Nat → Prop) : Prop :=
  (cur = 0 ∧ ∀ c, S c → vol os c = 0) ∨ (1 ≤ cur ∧ cur ≤ 999 ∧ 0 < vol os cur ∧ ∀ c, S c → c = cur ∨ bt os last cur c = true)
theorem Sel_s {os : List Od} {last cur c : Nat} {S : Nat → Prop} (h : Sel os last cur S) (hc1 : 1 ≤ c) (hc : c ≤ 999) : Sel os last (wg os last cur c) (fun x => S x ∨ x = c) := by
  unfold wg
  rcases h with ⟨h1, h2⟩ | ⟨h1, h2, h3, h4⟩
  · rw [if_pos h1]
    by_cases hv : 0 < vol os c
    · rw [if_pos hv]
      refine Or.inr ⟨hc1, hc, hv, fun x hx => ?_⟩
      rcases hx with hx | hx
      · right; rw [bt_i, h2 x hx]; exact Or.inl hv
      · exact Or.inl hx
    · rw [if_neg hv]
      refine Or.inl ⟨rfl, fun x hx => ?_⟩
      rcases hx with hx | hx
      · exact h2 x hx
      · rw [hx]; omega
  · rw [if_neg (by omega)]
    by_cases hb : bt os last c cur = true
    · rw [if_pos hb]
      refine Or.inr ⟨hc1, hc, ?_, fun x hx => ?_⟩
      · rcases bt_i.mp hb with z | ⟨z, _⟩ <;> omega
      · rcases hx with hx | hx
        · rcases h4 x hx with h | h
          · rw [h]; exact Or.inr hb
          · exact Or.inr (bt_tr hb h)
        · exact Or.inl hx
    · rw [if_neg hb]
      refine Or.inr ⟨h1, h2, h3, fun x hx => ?_⟩
      rcases hx with hx | hx
      · exact h4 x hx
      · rw [hx]
        by_cases hcc : c = cur
        · exact Or.inl hcc
        · exact Or.inr (bt_to hcc hb)
theorem Sel_w {os : List Od} {last cur : Nat} {S S' : Nat → Prop} (h : Sel os last cur S) (hs : ∀ c, S' c → S c) : Sel os last cur S' := by
  rcases h with ⟨h1, h2⟩ | ⟨h1, h2, h3, h4⟩
  · exact Or.inl ⟨h1, fun c hc => h2 c (hs c hc)⟩
  · exact Or.inr ⟨h1, h2, h3, fun c hc => h4 c (hs c hc)⟩
/-- the price of the cry; 0: none -/
def Best (os : List Od) (last b : Nat) : Prop := (b = 0 ∧ ∀ p, 1 ≤ p → p ≤ 999 → vol os p = 0) ∨ (1 ≤ b ∧ b ≤ 999 ∧ 0 < vol os b ∧ ∀ p, 1 ≤ p → p ≤ 999 → p = b ∨ bt os last b p = true)
theorem Best_u {os : List Od} {last a b : Nat} (ha : Best os last a) (hb : Best os last b) : a = b := by
  rcases ha with ⟨a1, a2⟩ | ⟨a1, a2, a3, a4⟩ <;> rcases hb with ⟨b1, b2⟩ | ⟨b1, b2, b3, b4⟩
  · omega
  · have := a2 b b1 b2; omega
  · have := b2 a a1 a2; omega
  · rcases a4 b b1 b2 with h | h
    · exact h.symm
    · rcases b4 a a1 a2 with h' | h'
      · exact h'
      · exact absurd h' (bt_as h)
def Cand (os : List Od) (last k c : Nat) : Prop := loB os ≤ c ∧ c ≤ hiB os ∧ (c = last ∨ ∃ i o, i < k ∧ os[i]? = some o ∧ (c = oL o ∨ c = if oS o = 0 then oL o + 1 else oL o - 1))
theorem Cand_ex {os : List Od} {last : Nat} (hos : ∀ o ∈ os, CdOk o) (hl1 : 1 ≤ last) (hl : last ≤ 999) : ∀ d p, dis last p = d → 1 ≤ p → p ≤ 999 → 0 < vol os p → ∃ c, Cand os last os.length c ∧ (c = p ∨ bt os last c p = true) := by
  intro d
  induction d with
  | zero =>
    intro p hd h1 h2 hv
    have e : p = last := by unfold dis at hd; omega
    subst e
    have hv' := hv
    unfold vol at hv'
    exact ⟨p, ⟨sup_lo (by omega), dem_hi (by omega), Or.inl rfl⟩, Or.inl rfl⟩
  | succ d ih =>
    intro p hd h1 h2 hv
    have hv' := hv
    unfold vol at hv'
    have hlo : loB os ≤ p := sup_lo (by omega)
    have hhi : p ≤ hiB os := dem_hi (by omega)
    have mem : ∀ o ∈ os, (p = oL o ∨ p = if oS o = 0 then oL o + 1 else oL o - 1) → Cand os last os.length p := by
      intro o ho hp
      obtain ⟨i, hi⟩ := List.getElem?_of_mem ho
      exact ⟨hlo, hhi, Or.inr ⟨i, o, (List.getElem?_eq_some_iff.mp hi).1, hi, hp⟩⟩
    have step : ∀ p', dis last p' = d → 1 ≤ p' → p' ≤ 999 → dem os p' = dem os p → sup os p' = sup os p → ∃ c, Cand os last os.length c ∧ (c = p ∨ bt os last c p = true) := by
      intro p' e1 e2 e3 e4 e5
      obtain ⟨c, g1, g2⟩ := ih p' e1 e2 e3 (by unfold vol; omega)
      have hb : bt os last p' p = true := by
        rw [bt_i]
        right
        refine ⟨by unfold vol; omega, Or.inr ⟨by unfold sur; omega, by omega⟩⟩
      refine ⟨c, g1, Or.inr ?_⟩
      rcases g2 with g2 | g2
      · rw [g2]; exact hb
      · exact bt_tr g2 hb
    by_cases hpl : last < p
    · obtain ⟨p', rfl⟩ : ∃ p', p = p' + 1 := ⟨p - 1, by omega⟩
      by_cases e1 : dem os p' = dem os (p' + 1)
      · by_cases e2 : sup os p' = sup os (p' + 1)
        · exact step p' (by unfold dis at hd ⊢; omega) (by omega) (by omega) e1 e2
        · obtain ⟨o, g1, g2, g3⟩ := sup_ne e2
          exact ⟨p' + 1, mem o g1 (Or.inl g3.symm), Or.inl rfl⟩
      · obtain ⟨o, g1, g2, g3⟩ := dem_ne e1
        exact ⟨p' + 1, mem o g1 (Or.inr (by rw [if_pos g2, g3])), Or.inl rfl⟩
    · have hpl : p < last := by unfold dis at hd; omega
      by_cases e1 : dem os p = dem os (p + 1)
      · by_cases e2 : sup os p = sup os (p + 1)
        · exact step (p + 1) (by unfold dis at hd ⊢; omega) (by omega) (by omega) e1.symm e2.symm
        · obtain ⟨o, g1, g2, g3⟩ := sup_ne e2
          exact ⟨p, mem o g1 (Or.inr (by rw [if_neg (by omega), g3]; omega)), Or.inl rfl⟩
      · obtain ⟨o, g1, g2, g3⟩ := dem_ne e1
        exact ⟨p, mem o g1 (Or.inl g3.symm), Or.inl rfl⟩
theorem Sel_end {os : List Od} {last cur : Nat} (hos : ∀ o ∈ os, CdOk o) (hl1 : 1 ≤ last) (hl : last ≤ 999) (h : Sel os last cur (Cand os last os.length)) : Best os last cur := by
  rcases h with ⟨h1, h2⟩ | ⟨h1, h2, h3, h4⟩
  · refine Or.inl ⟨h1, fun p q1 q2 => ?_⟩
    by_cases hv : 0 < vol os p
    · obtain ⟨c, g1, g2⟩ := Cand_ex hos hl1 hl _ p rfl q1 q2 hv
      have := h2 c g1
      rcases g2 with g2 | g2
      · rw [g2] at this; exact this
      · rcases bt_i.mp g2 with z | ⟨z, _⟩ <;> omega
    · omega
  · refine Or.inr ⟨h1, h2, h3, fun p q1 q2 => ?_⟩
    by_cases hv : 0 < vol os p
    · obtain ⟨c, g1, g2⟩ := Cand_ex hos hl1 hl _ p rfl q1 q2 hv
      rcases h4 c g1 with g3 | g3
      · rw [g3] at g2
        exact g2.imp (fun z => z.symm) id
      · rcases g2 with g2 | g2
        · rw [g2] at g3; exact Or.inr g3
        · exact Or.inr (bt_tr g3 g2)
    · right
      rw [bt_i]
      left; omega
end CX4
