section CX13
/-- what order x gets of the volume v, by the rule -/
def Fil (os : List Od) (w rule v n x : Nat) : Nat := if rule = 1 then fG os (v - ss os w (fun y => bet os w y x) n) (gi os w x n) x else min (qa os x) (v - ss os w (fun y => ahd os w y x) n)
theorem fG_0 {os : List Od} {g : List Nat} {x : Nat} : fG os 0 g x = 0 := by
  unfold fG
  have h : prt os 0 (sumQ os g) x = 0 := by
    unfold prt
    have : (if 0 < sumQ os g then 0 else sumQ os g) = 0 := by split <;> omega
    rw [this, Nat.mul_zero, Nat.zero_div]
  rw [h, Nat.zero_sub, bn_0]
theorem fG_1 {os : List Od} {left x : Nat} : fG os left [x] x = min (qa os x) left := by
  have e : sumQ os [x] = qa os x := by simp [sumQ]
  have ep : sumP os left (qa os x) [x] = prt os left (qa os x) x := by simp [sumP]
  unfold fG
  rw [e, ep, bn, if_pos rfl]
  have hp : prt os left (qa os x) x = min (qa os x) left := by
    unfold prt
    rcases Nat.eq_zero_or_pos (qa os x) with h | h
    · rw [h]; simp
    · rw [Nat.mul_div_cancel_left _ h]
      split <;> omega
  rw [hp]
  split <;> omega
theorem filter_all {p : Nat → Bool} {l : List Nat} (h : ∀ y ∈ l, p y = true) : l.filter p = l := List.filter_eq_self.mpr h
theorem filter_none {p : Nat → Bool} {l : List Nat} (h : ∀ y ∈ l, p y ≠ true) : l.filter p = [] := List.filter_eq_nil_iff.mpr h
/-- a place in the line where a group begins -/
def Bnd (os : List Od) (w rule n : Nat) (A rest : List Nat) : Prop := line os w n = A ++ rest ∧ (rule = 1 → ∀ a ∈ A, ∀ b ∈ rest, oL (oa os a) ≠ oL (oa os b))
def grp (os : List Od) (rule x : Nat) (r : List Nat) : List Nat := if rule = 1 then (x :: r).takeWhile (sameL os x) else [x]
def grpR (os : List Od) (rule x : Nat) (r : List Nat) : List Nat := if rule = 1 then (x :: r).dropWhile (sameL os x) else r
theorem grp_app {os : List Od} {rule x : Nat} {r : List Nat} : grp os rule x r ++ grpR os rule x r = x :: r := by
  unfold grp grpR
  by_cases h : rule = 1
  · rw [if_pos h, if_pos h, List.takeWhile_append_dropWhile]
  · rw [if_neg h, if_neg h]; rfl
theorem grp_ne {os : List Od} {rule x : Nat} {r : List Nat} : 0 < (grp os rule x r).length := by
  unfold grp
  by_cases h : rule = 1
  · have hs : sameL os x x = true := by unfold sameL; exact decide_eq_true rfl
    rw [if_pos h, List.takeWhile_cons, if_pos hs]; simp
  · rw [if_neg h]; simp
theorem Bnd_s {os : List Od} {w rule n x : Nat} {A r : List Nat} (h : Bnd os w rule n A (x :: r)) : (A ++ x :: r).Pairwise (fun a b => ahd os w a b = true) := by
  rw [← h.1]; exact line_s n
theorem mem_takeW {p : Nat → Bool} {y : Nat} : ∀ {l : List Nat}, y ∈ l.takeWhile p → p y = true := by
  intro l
  induction l with
  | nil => intro h; simp at h
  | cons x r ih =>
    intro h
    rw [List.takeWhile_cons] at h
    by_cases hp : p x = true
    · rw [if_pos hp] at h
      rcases List.mem_cons.mp h with h | h
      · rw [h]; exact hp
      · exact ih h
    · rw [if_neg hp] at h; simp at h
/-- behind the group no order has its limit -/
theorem drop_ne {os : List Od} {w x : Nat} {r : List Nat} (hs : (x :: r).Pairwise (fun a b => ahd os w a b = true)) : ∀ b ∈ (x :: r).dropWhile (sameL os x), oL (oa os x) ≠ oL (oa os b) := by
  have hx := (List.pairwise_cons.mp hs).1
  have key : ∀ l : List Nat, l.Pairwise (fun a b => ahd os w a b = true) → (∀ y ∈ l, ahd os w x y = true ∨ y = x) → ∀ b ∈ l.dropWhile (sameL os x), oL (oa os x) ≠ oL (oa os b) := by
    intro l
    induction l with
    | nil => intro _ _ b hb; simp at hb
    | cons y l ih =>
      intro hp hxl b hb
      rw [List.dropWhile_cons] at hb
      have hp' := List.pairwise_cons.mp hp
      by_cases hy : sameL os x y = true
      · rw [if_pos hy] at hb
        exact ih hp'.2 (fun z hz => hxl z (List.mem_cons_of_mem _ hz)) b hb
      · rw [if_neg hy] at hb
        unfold sameL at hy
        rw [decide_eq_true_iff] at hy
        rcases List.mem_cons.mp hb with h | h
        · rw [h]; exact fun z => hy z.symm
        · have h1 := hp'.1 b h
          rcases hxl y List.mem_cons_self with h2 | h2
          · rw [ahd_i] at h1 h2
            omega
          · subst h2; exact absurd rfl hy
  exact key (x :: r) hs (fun y hy => by
    rcases List.mem_cons.mp hy with h | h
    · exact Or.inr h
    · exact Or.inl (hx y h))
theorem Bnd_n {os : List Od} {w rule n x : Nat} {A r : List Nat} (h : Bnd os w rule n A (x :: r)) : Bnd os w rule n (A ++ grp os rule x r) (grpR os rule x r) := by
  refine ⟨by rw [List.append_assoc, grp_app]; exact h.1, fun hr a ha b hb => ?_⟩
  rcases List.mem_append.mp ha with h1 | h1
  · exact h.2 hr a h1 b (by rw [← grp_app (os := os) (rule := rule) (x := x) (r := r)]; exact List.mem_append_right _ hb)
  · have hs := (List.pairwise_append.mp (Bnd_s h)).2.1
    unfold grp at h1
    unfold grpR at hb
    rw [if_pos hr] at h1 hb
    have h2 := mem_takeW h1
    unfold sameL at h2
    rw [decide_eq_true_iff] at h2
    rw [h2]
    exact drop_ne hs b hb
theorem Bnd_bet {os : List Od} {w rule n : Nat} {A rest : List Nat} (h : Bnd os w rule n A rest) (hr : rule = 1) {y : Nat} (hy : y ∈ rest) : ∀ a ∈ A, bet os w a y = true := by
  intro a ha
  have h1 := (List.pairwise_append.mp (show (A ++ rest).Pairwise (fun a b => ahd os w a b = true) by rw [← h.1]; exact line_s n)).2.2 a ha y hy
  have h2 := h.2 hr a ha y hy
  rw [ahd_i] at h1
  rw [bet_i]
  omega
theorem Bnd_ahd {os : List Od} {w rule n : Nat} {A rest : List Nat} (h : Bnd os w rule n A rest) {y : Nat} (hy : y ∈ rest) : ∀ a ∈ A, ahd os w a y = true := by
  intro a ha
  exact (List.pairwise_append.mp (show (A ++ rest).Pairwise (fun a b => ahd os w a b = true) by rw [← h.1]; exact line_s n)).2.2 a ha y hy
theorem Fil_g {os : List Od} {w rule v n x y : Nat} {A r : List Nat} (h : Bnd os w rule n A (x :: r)) (hy : y ∈ grp os rule x r) : Fil os w rule v n y = fG os (v - sumQ os A) (grp os rule x r) y := by
  have hs := (List.pairwise_append.mp (Bnd_s h)).2.1
  unfold Fil
  by_cases hr : rule = 1
  · rw [if_pos hr]
    unfold grp at hy ⊢
    rw [if_pos hr] at hy ⊢
    have hyx := mem_takeW hy
    unfold sameL at hyx
    rw [decide_eq_true_iff] at hyx
    have hyr : y ∈ x :: r := by
      rw [← List.takeWhile_append_dropWhile (p := sameL os x) (l := x :: r)]
      exact List.mem_append_left _ hy
    have e1 : ss os w (fun z => bet os w z y) n = sumQ os A := by
      rw [← line_q, h.1, List.filter_append, filter_all (Bnd_bet h hr hyr), filter_none, List.append_nil]
      intro z hz hb
      rw [bet_i] at hb
      rcases List.mem_cons.mp hz with h1 | h1
      · rw [h1] at hb; omega
      · have := (List.pairwise_cons.mp hs).1 z h1
        rw [ahd_i] at this
        omega
    have e2 : gi os w y n = (x :: r).takeWhile (sameL os x) := by
      have e3 : sameL os y = sameL os x := by funext z; unfold sameL; rw [hyx]
      rw [← line_g, e3, h.1, List.filter_append, filter_none (l := A), List.nil_append]
      · conv => lhs; rw [← List.takeWhile_append_dropWhile (p := sameL os x) (l := x :: r)]
        rw [List.filter_append, filter_all (fun z hz => mem_takeW hz), filter_none, List.append_nil]
        intro z hz hq
        unfold sameL at hq
        rw [decide_eq_true_iff] at hq
        exact drop_ne hs z hz hq.symm
      · intro z hz hq
        unfold sameL at hq
        rw [decide_eq_true_iff] at hq
        exact h.2 hr z hz x List.mem_cons_self hq
    rw [e1, e2]
  · rw [if_neg hr]
    unfold grp at hy ⊢
    rw [if_neg hr] at hy ⊢
    rw [List.mem_singleton.mp hy, fG_1]
    have e1 : ss os w (fun z => ahd os w z x) n = sumQ os A := by
      rw [← line_q, h.1, List.filter_append, filter_all (Bnd_ahd h List.mem_cons_self), filter_none, List.append_nil]
      intro z hz hb
      rw [ahd_i] at hb
      rcases List.mem_cons.mp hz with h1 | h1
      · rw [h1] at hb; omega
      · have := (List.pairwise_cons.mp hs).1 z h1
        rw [ahd_i] at this
        omega
    rw [e1]
theorem sumQ_fl {os : List Od} {p : Nat → Bool} {A B : List Nat} (h : ∀ a ∈ A, p a = true) : sumQ os A ≤ sumQ os ((A ++ B).filter p) := by
  rw [List.filter_append, filter_all h, sumQ_app]; omega
theorem Fil_0 {os : List Od} {w rule v n y : Nat} {A rest : List Nat} (h : Bnd os w rule n A rest) (hv : v ≤ sumQ os A) (hy : y ∈ rest) : Fil os w rule v n y = 0 := by
  unfold Fil
  by_cases hr : rule = 1
  · rw [if_pos hr]
    have := sumQ_fl (os := os) (B := rest) (Bnd_bet h hr hy)
    rw [← h.1, line_q] at this
    rw [show v - ss os w (fun z => bet os w z y) n = 0 by omega, fG_0]
  · rw [if_neg hr]
    have := sumQ_fl (os := os) (B := rest) (Bnd_ahd h hy)
    rw [← h.1, line_q] at this
    omega
end CX13
