section CX8
/-! ### how a group shares what is left -/
abbrev qa (os : List Od) (k : Nat) : Nat := oQ (oa os k)
def sumQ (os : List Od) : List Nat → Nat
  | [] => 0
  | x :: r => qa os x + sumQ os r
theorem sumQ_app {os : List Od} (a b : List Nat) : sumQ os (a ++ b) = sumQ os a + sumQ os b := by
  induction a with
  | nil => simp [sumQ]
  | cons x r ih => simp [sumQ, ih]; omega
/-- the whole part of a share: left of all -/
def prt (os : List Od) (left all x : Nat) : Nat := qa os x * (if left < all then left else all) / all
def sumP (os : List Od) (left all : Nat) : List Nat → Nat
  | [] => 0
  | x :: r => prt os left all x + sumP os left all r
theorem sumP_app {os : List Od} {left all : Nat} (a b : List Nat) : sumP os left all (a ++ b) = sumP os left all a + sumP os left all b := by
  induction a with
  | nil => simp [sumP]
  | cons x r ih => simp [sumP, ih]; omega
/-- the pieces that are over go to the first ones that have not all -/
def bnR (os : List Od) (left all : Nat) : Nat → List Nat → Nat
  | rest, [] => rest
  | rest, x :: r => bnR os left all (if 0 < rest ∧ prt os left all x < qa os x then rest - 1 else rest) r
def bn (os : List Od) (left all x : Nat) : Nat → List Nat → Nat
  | _, [] => 0
  | rest, y :: r => if x = y then (if 0 < rest ∧ prt os left all y < qa os y then 1 else 0) else bn os left all x (if 0 < rest ∧ prt os left all y < qa os y then rest - 1 else rest) r
/-- what x gets, in the group g, of what is left -/
def fG (os : List Od) (left : Nat) (g : List Nat) (x : Nat) : Nat := prt os left (sumQ os g) x + bn os left (sumQ os g) x (left - sumP os left (sumQ os g) g) g
def elig (os : List Od) (left all : Nat) : List Nat → Nat
  | [] => 0
  | x :: r => (if prt os left all x < qa os x then 1 else 0) + elig os left all r
theorem bnR_e {os : List Od} {left all : Nat} : ∀ (l : List Nat) (rest : Nat), bnR os left all rest l = rest - elig os left all l := by
  intro l
  induction l with
  | nil => intro rest; simp [bnR, elig]
  | cons x r ih =>
    intro rest
    unfold bnR elig
    rw [ih]
    by_cases h : prt os left all x < qa os x
    · by_cases h' : 0 < rest
      · rw [if_pos ⟨h', h⟩, if_pos h]; omega
      · rw [if_neg (by omega), if_pos h]; omega
    · rw [if_neg (by omega), if_neg h]; omega
theorem prt_le {os : List Od} {left all x : Nat} : prt os left all x ≤ qa os x := by
  unfold prt
  rcases Nat.eq_zero_or_pos all with h | h
  · rw [h, Nat.div_zero]; exact Nat.zero_le _
  · refine Nat.div_le_of_le_mul ?_
    rw [Nat.mul_comm all]
    exact Nat.mul_le_mul_left _ (by split <;> omega)
theorem prt_full {os : List Od} {left all x : Nat} (h : all ≤ left) (ha : 0 < all) : prt os left all x = qa os x := by
  unfold prt
  rw [if_neg (by omega), Nat.mul_div_cancel _ ha]
theorem sumP_full {os : List Od} {left all : Nat} (h : all ≤ left) (ha : 0 < all) : ∀ l, sumP os left all l = sumQ os l := by
  intro l
  induction l with
  | nil => rfl
  | cons x r ih => rw [sumP, sumQ, ih, prt_full h ha]
theorem elig_full {os : List Od} {left all : Nat} (h : all ≤ left) (ha : 0 < all) : ∀ l, elig os left all l = 0 := by
  intro l
  induction l with
  | nil => rfl
  | cons x r ih => rw [elig, ih, prt_full h ha, if_neg (by omega)]
theorem prt_bd {os : List Od} {left all : Nat} (h : left < all) : ∀ l, sumQ os l * left ≤ all * sumP os left all l + (all - 1) * elig os left all l := by
  intro l
  induction l with
  | nil => simp [sumQ]
  | cons x r ih =>
    rw [sumQ, sumP, elig, Nat.add_mul, Nat.mul_add, Nat.mul_add]
    have h1 : qa os x * left ≤ all * prt os left all x + (all - 1) * (if prt os left all x < qa os x then 1 else 0) := by
      by_cases hp : prt os left all x < qa os x
      · rw [if_pos hp]
        have : qa os x * left < all * (prt os left all x + 1) := by
          unfold prt
          rw [if_pos h]
          exact Nat.lt_mul_div_succ _ (by omega)
        rw [Nat.mul_add] at this
        omega
      · have := @prt_le os left all x
        rw [if_neg hp, show prt os left all x = qa os x by omega, Nat.mul_comm all]
        have := Nat.mul_le_mul_left (qa os x) (show left ≤ all by omega)
        omega
    omega
theorem sumP_le {os : List Od} {left all : Nat} (h : left < all) : ∀ l, all * sumP os left all l ≤ sumQ os l * left := by
  intro l
  induction l with
  | nil => simp [sumP, sumQ]
  | cons x r ih =>
    rw [sumQ, sumP, Nat.add_mul, Nat.mul_add]
    have : all * prt os left all x ≤ qa os x * left := by
      unfold prt
      rw [if_pos h]
      exact Nat.mul_div_le _ _
    omega
theorem sumP_left {os : List Od} {left : Nat} {g : List Nat} (ha : 0 < sumQ os g) : sumP os left (sumQ os g) g ≤ left := by
  by_cases h : left < sumQ os g
  · have := sumP_le h (os := os) g
    exact Nat.le_of_mul_le_mul_left this ha
  · rw [sumP_full (by omega) ha]; omega
/-- what is left behind the group -/
theorem bnR_end {os : List Od} {left : Nat} {g : List Nat} (ha : 0 < sumQ os g) : bnR os left (sumQ os g) (left - sumP os left (sumQ os g) g) g = left - sumQ os g := by
  rw [bnR_e]
  by_cases h : left < sumQ os g
  · have h1 := prt_bd h (os := os) g
    have h2 : left - sumP os left (sumQ os g) g ≤ elig os left (sumQ os g) g := by
      have h3 : sumQ os g * (left - sumP os left (sumQ os g) g) ≤ (sumQ os g - 1) * elig os left (sumQ os g) g := by
        rw [Nat.mul_sub]; omega
      have h4 : (sumQ os g - 1) * elig os left (sumQ os g) g ≤ sumQ os g * elig os left (sumQ os g) g := Nat.mul_le_mul_right _ (by omega)
      exact Nat.le_of_mul_le_mul_left (Nat.le_trans h3 h4) ha
    omega
  · rw [sumP_full (by omega) ha, elig_full (by omega) ha]; omega
end CX8
