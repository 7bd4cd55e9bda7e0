section CX12
/-! ### the line is sorted -/
def ahd (os : List Od) (w a b : Nat) : Bool := bet os w a b || (decide (oL (oa os a) = oL (oa os b)) && decide (a < b))
theorem bet_i {os : List Od} {w a b : Nat} : bet os w a b = true ↔ (w = 0 ∧ oL (oa os b) < oL (oa os a)) ∨ (w ≠ 0 ∧ oL (oa os a) < oL (oa os b)) := by
  unfold bet
  by_cases h : w = 0
  · rw [if_pos h, decide_eq_true_iff]; omega
  · rw [if_neg h, decide_eq_true_iff]; omega
theorem ahd_i {os : List Od} {w a b : Nat} : ahd os w a b = true ↔ (w = 0 ∧ oL (oa os b) < oL (oa os a)) ∨ (w ≠ 0 ∧ oL (oa os a) < oL (oa os b)) ∨ (oL (oa os a) = oL (oa os b) ∧ a < b) := by
  unfold ahd
  rw [Bool.or_eq_true, bet_i, Bool.and_eq_true, decide_eq_true_iff, decide_eq_true_iff]
  omega
theorem insA_s {os : List Od} {w x : Nat} : ∀ (R M : List Nat), (R.reverse ++ M).Pairwise (fun a b => ahd os w a b = true) → (∀ y ∈ R, y < x) → (∀ y ∈ M, bet os w x y = true) → (insA os w x R M).Pairwise (fun a b => ahd os w a b = true) := by
  intro R
  induction R with
  | nil =>
    intro M hp _ hM
    rw [insA, List.pairwise_cons]
    refine ⟨fun y hy => ?_, by simpa using hp⟩
    rw [ahd, hM y hy]; rfl
  | cons y R ih =>
    intro M hp hR hM
    rw [insA_c]
    by_cases hb : bet os w x y = true
    · rw [if_pos hb]
      refine ih (y :: M) (by simpa using hp) (fun z hz => hR z (List.mem_cons_of_mem _ hz)) (fun z hz => ?_)
      rcases List.mem_cons.mp hz with h | h
      · rw [h]; exact hb
      · exact hM z h
    · rw [if_neg hb]
      rw [List.reverse_cons, List.append_assoc, List.pairwise_append] at hp
      obtain ⟨p1, p2, p3⟩ := hp
      have p2 : (y :: M).Pairwise (fun a b => ahd os w a b = true) := p2
      rw [List.pairwise_cons] at p2
      rw [List.pairwise_append, List.pairwise_cons, List.pairwise_cons]
      have hyx : y < x := hR y List.mem_cons_self
      rw [bet_i] at hb
      refine ⟨p1, ⟨fun z hz => ?_, fun z hz => ?_, p2.2⟩, fun z hz u hu => ?_⟩
      · rcases List.mem_cons.mp hz with h | h
        · rw [h, ahd_i]; omega
        · exact p2.1 z h
      · rw [ahd, hM z hz]; rfl
      · rcases List.mem_cons.mp hu with h | h
        · rw [h]; exact p3 z hz y (by simp)
        · rcases List.mem_cons.mp h with h | h
          · have h1 := p3 z hz y (by simp)
            have h2 := hR z (List.mem_cons_of_mem _ (List.mem_reverse.mp hz))
            rw [h]
            rw [ahd_i] at h1 ⊢
            omega
          · exact p3 z hz u (by simp [h])
theorem line_s {os : List Od} {w : Nat} : ∀ k, (line os w k).Pairwise (fun a b => ahd os w a b = true) := by
  intro k
  induction k with
  | zero => exact List.Pairwise.nil
  | succ k ih =>
    rw [line]
    split
    · refine insA_s _ _ (by simpa using ih) (fun y hy => ?_) (fun y hy => by simp at hy)
      exact ((line_mem k y).mp (List.mem_reverse.mp hy)).1
    · exact ih
theorem line_nd {os : List Od} {w : Nat} (k : Nat) : (line os w k).Nodup := by
  refine List.Pairwise.imp ?_ (line_s k)
  intro a b h
  rw [ahd_i] at h
  intro e
  subst e
  omega
/-- the quantities of one side that meet a condition -/
def ss (os : List Od) (w : Nat) (p : Nat → Bool) : Nat → Nat
  | 0 => 0
  | k + 1 => ss os w p k + if oS (oa os k) = w ∧ p k = true then qa os k else 0
theorem sumQ_rev {os : List Od} (l : List Nat) : sumQ os l.reverse = sumQ os l := by
  induction l with
  | nil => rfl
  | cons x r ih => rw [List.reverse_cons, sumQ_app, ih, sumQ, sumQ, sumQ]; omega
theorem insA_q {os : List Od} {w x : Nat} {p : Nat → Bool} : ∀ (R M : List Nat), sumQ os ((insA os w x R M).filter p) = sumQ os (R.filter p) + sumQ os (M.filter p) + if p x = true then qa os x else 0 := by
  intro R
  induction R with
  | nil =>
    intro M
    rw [insA, List.filter_cons]
    by_cases hp : p x = true
    · rw [if_pos hp, if_pos hp]; simp [sumQ]; omega
    · rw [if_neg hp, if_neg hp]; simp [sumQ]
  | cons y R ih =>
    intro M
    rw [insA_c]
    by_cases hb : bet os w x y = true
    · rw [if_pos hb, ih, List.filter_cons, List.filter_cons]
      by_cases hp : p y = true
      · rw [if_pos hp, if_pos hp, sumQ, sumQ]; omega
      · rw [if_neg hp, if_neg hp]
    · rw [if_neg hb, List.filter_append, sumQ_app, ← List.filter_reverse.symm, sumQ_rev, List.filter_cons, List.filter_cons, List.filter_cons]
      by_cases hp : p y = true <;> by_cases hx : p x = true
      · rw [if_pos hp, if_pos hx, if_pos hp, if_pos hx, sumQ, sumQ, sumQ]; omega
      · rw [if_pos hp, if_neg hx, if_pos hp, if_neg hx, sumQ, sumQ]; omega
      · rw [if_neg hp, if_pos hx, if_neg hp, if_pos hx, sumQ]; omega
      · rw [if_neg hp, if_neg hx, if_neg hp, if_neg hx]; omega
theorem line_q {os : List Od} {w : Nat} {p : Nat → Bool} : ∀ k, sumQ os ((line os w k).filter p) = ss os w p k := by
  intro k
  induction k with
  | zero => rfl
  | succ k ih =>
    rw [line, ss]
    by_cases hs : oS (oa os k) = w
    · rw [if_pos hs, insA_q, List.filter_reverse, sumQ_rev, ih]
      by_cases hp : p k = true
      · rw [if_pos hp, if_pos ⟨hs, hp⟩]; simp [sumQ]
      · rw [if_neg hp, if_neg (fun z => hp z.2)]; simp [sumQ]
    · rw [if_neg hs, if_neg (fun z => hs z.1), ih]; omega
/-- the orders of one side with the limit of x, by their numbers -/
def gi (os : List Od) (w x : Nat) : Nat → List Nat
  | 0 => []
  | k + 1 => if oS (oa os k) = w ∧ sameL os x k = true then gi os w x k ++ [k] else gi os w x k
theorem insA_g {os : List Od} {w x k : Nat} : ∀ (R M : List Nat), (∀ y ∈ M, bet os w k y = true) → (insA os w k R M).filter (sameL os x) = if sameL os x k = true then R.reverse.filter (sameL os x) ++ [k] else (R.reverse ++ M).filter (sameL os x) := by
  intro R
  induction R with
  | nil =>
    intro M hM
    rw [insA, List.filter_cons]
    by_cases hp : sameL os x k = true
    · rw [if_pos hp, if_pos hp]
      have : M.filter (sameL os x) = [] := by
        rw [List.filter_eq_nil_iff]
        intro y hy hz
        have h1 := hM y hy
        unfold sameL at hp hz
        rw [decide_eq_true_iff] at hp hz
        rw [bet_i] at h1
        omega
      rw [this]; rfl
    · rw [if_neg hp, if_neg hp]; rfl
  | cons y R ih =>
    intro M hM
    rw [insA_c]
    by_cases hb : bet os w k y = true
    · rw [if_pos hb, ih (y :: M) (fun z hz => by
        rcases List.mem_cons.mp hz with h | h
        · rw [h]; exact hb
        · exact hM z h)]
      by_cases hp : sameL os x k = true
      · rw [if_pos hp, if_pos hp, List.reverse_cons, List.filter_append]
        have : [y].filter (sameL os x) = [] := by
          rw [List.filter_eq_nil_iff]
          intro z hz hq
          rw [List.mem_singleton.mp hz] at hq
          unfold sameL at hp hq
          rw [decide_eq_true_iff] at hp hq
          rw [bet_i] at hb
          omega
        rw [this, List.append_nil]
      · rw [if_neg hp, if_neg hp, List.reverse_cons, List.append_assoc]; rfl
    · rw [if_neg hb, List.filter_append, List.filter_cons, List.filter_cons]
      by_cases hp : sameL os x k = true
      · have : M.filter (sameL os x) = [] := by
          rw [List.filter_eq_nil_iff]
          intro z hz hq
          have h1 := hM z hz
          unfold sameL at hp hq
          rw [decide_eq_true_iff] at hp hq
          rw [bet_i] at h1
          omega
        rw [if_pos hp, if_pos hp, this, List.reverse_cons, List.filter_append, List.filter_cons]
        by_cases hy : sameL os x y = true
        · rw [if_pos hy, if_pos hy]; simp
        · rw [if_neg hy, if_neg hy]; simp
      · rw [if_neg hp, if_neg hp, List.reverse_cons, List.append_assoc, List.filter_append, List.singleton_append, List.filter_cons]
theorem line_g {os : List Od} {w x : Nat} : ∀ k, (line os w k).filter (sameL os x) = gi os w x k := by
  intro k
  induction k with
  | zero => rfl
  | succ k ih =>
    rw [line, gi]
    by_cases hs : oS (oa os k) = w
    · rw [if_pos hs, insA_g _ _ (fun y hy => by simp at hy), List.reverse_reverse, List.append_nil, ih]
      by_cases hp : sameL os x k = true
      · rw [if_pos hp, if_pos ⟨hs, hp⟩]
      · rw [if_neg hp, if_neg (fun z => hp z.2)]
    · rw [if_neg hs, if_neg (fun z => hs z.1), ih]
end CX12
