section CTP
/-! ### tokens and words -/
theorem runB_all {f : Nat → Bool} : ∀ (l : List Nat), ∀ b ∈ l.take (runB f l), f b = true := by
  intro l
  induction l with
  | nil => intro b hb; cases hb
  | cons x r ih =>
    intro b hb
    rw [runB] at hb
    by_cases c : f x = true
    · rw [if_pos c, List.take_succ_cons] at hb
      rcases List.mem_cons.mp hb with h | h
      · rw [h]; exact c
      · exact ih b h
    · rw [if_neg c] at hb; cases hb
theorem tkW_1 {bs : List Nat} {s : Nat} (h : tkK bs s = 1) : tkW bs s = (bs.drop s).take (runB letr (bs.drop s)) := by
  unfold tkW tkN; rw [h]; rfl
theorem tkW_2 {bs : List Nat} {s : Nat} (h : tkK bs s = 2) : tkW bs s = (bs.drop s).take (runB digt (bs.drop s)) := by
  unfold tkW tkN; rw [h]; rfl
theorem letr_i {b : Nat} : letr b = true ↔ 97 ≤ b ∧ b ≤ 122 := by unfold letr; exact decide_eq_true_iff
theorem digt_i {b : Nat} : digt b = true ↔ 48 ≤ b ∧ b ≤ 57 := by unfold digt; exact decide_eq_true_iff
theorem tkW_l {bs : List Nat} {s : Nat} (h : tkK bs s = 1) : ∀ b ∈ tkW bs s, 97 ≤ b ∧ b ≤ 122 := fun b hb => letr_i.mp (runB_all _ b (by rw [← tkW_1 h]; exact hb))
theorem tkW_d {bs : List Nat} {s : Nat} (h : tkK bs s = 2) : ∀ b ∈ tkW bs s, 48 ≤ b ∧ b ≤ 57 := fun b hb => digt_i.mp (runB_all _ b (by rw [← tkW_2 h]; exact hb))
theorem tkW_len {bs : List Nat} {s : Nat} (h : s ≤ bs.length) : (tkW bs s).length = tkN bs s := by
  have := tkN_le h
  unfold tkW
  rw [List.length_take, List.length_drop]; omega
theorem tkW_k {bs : List Nat} {s b : Nat} {r : List Nat} (h : tkW bs s = b :: r) (hb : 97 ≤ b ∧ b ≤ 122) : tkK bs s = 1 := by
  have hd : bs[s]? = some b := by
    have h2 : (tkW bs s)[0]? = some b := by rw [h]; rfl
    unfold tkW at h2
    rw [List.getElem?_take] at h2
    split at h2
    · rw [List.getElem?_drop] at h2; exact h2
    · cases h2
  unfold tkK
  rw [hd]
  simp only
  rw [if_pos (letr_i.mpr hb)]
theorem lN_inj {a b : Nat} (ha : a < 2 ^ 63) (hb : b < 2 ^ 63) (h : lN a = lN b) : a = b := by
  have h1 := congrArg (fun x : Int64 => x.toBitVec.toNat) h
  have e : ∀ n : Nat, (lN n).toBitVec.toNat = n % 2 ^ 64 := fun n => BitVec.toNat_ofNat n 64
  simp only [e] at h1
  omega
theorem n27_inj : ∀ (n : Nat) (w w' : List Nat), w.length ≤ n → (∀ c ∈ w, 97 ≤ c ∧ c ≤ 122) → (∀ c ∈ w', 97 ≤ c ∧ c ≤ 122) → n27 w = n27 w' → w = w' := by
  intro n
  have pos : ∀ (a : List Nat) (c : Nat), 97 ≤ c → 0 < n27 (a ++ [c]) := fun a c h => by rw [n27_app]; omega
  induction n with
  | zero =>
    intro w w' hn hw hw' h
    have : w = [] := List.length_eq_zero_iff.mp (by omega)
    subst this
    rcases List.eq_nil_or_concat w' with rfl | ⟨a', c', rfl⟩
    · rfl
    · rw [List.concat_eq_append] at h hw'
      have := pos a' c' (hw' c' (by simp)).1
      rw [show n27 [] = 0 from rfl] at h
      omega
  | succ n ih =>
    intro w w' hn hw hw' h
    rcases List.eq_nil_or_concat w with rfl | ⟨a, c, rfl⟩
    · rcases List.eq_nil_or_concat w' with rfl | ⟨a', c', rfl⟩
      · rfl
      · rw [List.concat_eq_append] at h hw'
        have := pos a' c' (hw' c' (by simp)).1
        rw [show n27 [] = 0 from rfl] at h
        omega
    · rw [List.concat_eq_append] at hn hw h ⊢
      rcases List.eq_nil_or_concat w' with rfl | ⟨a', c', rfl⟩
      · have := pos a c (hw c (by simp)).1
        rw [show n27 [] = 0 from rfl] at h
        omega
      · rw [List.concat_eq_append] at hw' h ⊢
        rw [n27_app, n27_app] at h
        have h1 := hw c (by simp)
        have h2 := hw' c' (by simp)
        rw [List.length_append, List.length_singleton] at hn
        have e := ih a a' (by omega) (fun x hx => hw x (List.mem_append_left _ hx)) (fun x hx => hw' x (List.mem_append_left _ hx)) (by omega)
        rw [e]
        congr 2
        omega
theorem vl_app (w : List Nat) (c : Nat) : vl (w ++ [c]) = vl w * 10 + (c - 48) := by
  unfold vl
  rw [List.foldl_append]; rfl
theorem nm_vl : ∀ (n : Nat) (w : List Nat), w.length = n → (nm w = vl w ∧ vl w ≤ 99999999) ∨ (9999999 < nm w ∧ 9999999 < vl w) := by
  intro n
  induction n with
  | zero =>
    intro w hw
    rw [List.length_eq_zero_iff.mp hw]
    exact Or.inl ⟨rfl, by decide⟩
  | succ n ih =>
    intro w hw
    rcases List.eq_nil_or_concat w with rfl | ⟨a, c, rfl⟩
    · cases hw
    · rw [List.concat_eq_append] at hw ⊢
      rw [List.length_append, List.length_singleton] at hw
      rw [nm_app, vl_app]
      rcases ih a (by omega) with ⟨h1, h2⟩ | ⟨h1, h2⟩
      · by_cases c1 : 9999999 < nm a
        · rw [if_pos c1]; exact Or.inr ⟨by decide, by omega⟩
        · rw [if_neg c1, h1]
          by_cases c2 : vl a * 10 + (c - 48) ≤ 99999999
          · exact Or.inl ⟨rfl, c2⟩
          · exact Or.inr ⟨by omega, by omega⟩
      · rw [if_pos h1]; exact Or.inr ⟨by decide, by omega⟩
theorem nm_in {w : List Nat} {lo hi : Nat} (h : hi ≤ 9999999) : (lo ≤ nm w ∧ nm w ≤ hi) ↔ (lo ≤ vl w ∧ vl w ≤ hi) := by
  rcases nm_vl w.length w rfl with ⟨h1, h2⟩ | ⟨h1, h2⟩
  · rw [h1]
  · constructor <;> intro z <;> omega
theorem nm_eq {w : List Nat} (h : vl w ≤ 9999999) : nm w = vl w := by
  rcases nm_vl w.length w rfl with ⟨h1, h2⟩ | ⟨h1, h2⟩
  · exact h1
  · omega
end CTP
