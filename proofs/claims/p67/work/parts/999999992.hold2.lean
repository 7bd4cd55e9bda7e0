section HOLD2
/-! ### sums over a side's line -/
def sF (g : Nat → Nat) : List Nat → Nat
  | [] => 0
  | x :: r => g x + sF g r
def sZ (g : Nat → Int32) : List Nat → Int32
  | [] => 0
  | x :: r => g x + sZ g r
theorem sF_app {g : Nat → Nat} (a b : List Nat) : sF g (a ++ b) = sF g a + sF g b := by
  induction a with
  | nil => simp [sF]
  | cons x r ih => simp only [List.cons_append, sF, ih]; omega
theorem sZ_app {g : Nat → Int32} (a b : List Nat) : sZ g (a ++ b) = sZ g a + sZ g b := by
  induction a with
  | nil => simp [sZ]
  | cons x r ih => simp only [List.cons_append, sZ, ih]; exact (Int32.add_assoc _ _ _).symm
theorem sF_perm {g : Nat → Nat} {a b : List Nat} (h : a.Perm b) : sF g a = sF g b := by
  induction h with
  | nil => rfl
  | cons x _ ih => simp only [sF, ih]
  | swap x y l => simp only [sF]; omega
  | trans _ _ h1 h2 => exact h1.trans h2
theorem sZ_perm {g : Nat → Int32} {a b : List Nat} (h : a.Perm b) : sZ g a = sZ g b := by
  induction h with
  | nil => rfl
  | cons x _ ih => simp only [sZ, ih]
  | swap x y l => simp only [sZ]; rw [← Int32.add_assoc, ← Int32.add_assoc, Int32.add_comm (g y)]
  | trans _ _ h1 h2 => exact h1.trans h2
theorem line_perm {os : List Od} {w n : Nat} : (line os w n).Perm ((List.range n).filter (fun y => decide (oS (oa os y) = w))) := by
  refine (List.perm_ext_iff_of_nodup (line_nd n) (List.Pairwise.filter _ List.nodup_range)).mpr (fun a => ?_)
  rw [line_mem, List.mem_filter, List.mem_range, decide_eq_true_iff]
theorem sF_line {os : List Od} {w : Nat} {g : Nat → Nat} (n : Nat) : sF g (line os w n) = sf os w g n := by
  rw [sF_perm line_perm]
  induction n with
  | zero => rfl
  | succ n ih =>
    rw [List.range_succ, List.filter_append, sF_app, ih]
    show _ = sf os w g n + if oS (oa os n) = w then g n else 0
    congr 1
    by_cases h : oS (oa os n) = w
    · rw [List.filter_cons_of_pos (by rw [decide_eq_true_iff]; exact h), if_pos h]; simp [sF]
    · rw [List.filter_cons_of_neg (by rw [decide_eq_true_iff]; exact h), if_neg h]; simp [sF]
def szW (os : List Od) (w : Nat) (g : Nat → Int32) : Nat → Int32
  | 0 => 0
  | k + 1 => szW os w g k + if oS (oa os k) = w then g k else 0
theorem sZ_line {os : List Od} {w : Nat} {g : Nat → Int32} (n : Nat) : sZ g (line os w n) = szW os w g n := by
  rw [sZ_perm line_perm]
  induction n with
  | zero => rfl
  | succ n ih =>
    rw [List.range_succ, List.filter_append, sZ_app, ih]
    show _ = szW os w g n + if oS (oa os n) = w then g n else 0
    congr 1
    by_cases h : oS (oa os n) = w
    · rw [List.filter_cons_of_pos (by rw [decide_eq_true_iff]; exact h), if_pos h]; simp [sZ]
    · rw [List.filter_cons_of_neg (by rw [decide_eq_true_iff]; exact h), if_neg h]; simp [sZ]
/-- what comes to a trader, side by side -/
def chg (os : List Od) (f : Nat → Nat) (pr : Int32) (t : Nat) (k : Nat) : Int32 := if oT (oa os k) = t then (if oS (oa os k) = 0 then -(nI (f k)) * pr else nI (f k) * pr) else 0
theorem cct_sz {os : List Od} {f : Nat → Nat} {pr : Int32} {t : Nat} : ∀ n, (∀ k, k < n → oS (oa os k) ≤ 1) → cct os f pr t n = szW os 0 (chg os f pr t) n + szW os 1 (chg os f pr t) n := by
  intro n
  induction n with
  | zero => intro _; rfl
  | succ n ih =>
    intro h
    have ih := ih (fun k hk => h k (by omega))
    have hn := h n (by omega)
    show (if oT (oa os n) = t then cct os f pr t n + _ else cct os f pr t n) = (szW os 0 (chg os f pr t) n + if oS (oa os n) = 0 then chg os f pr t n else 0) + (szW os 1 (chg os f pr t) n + if oS (oa os n) = 1 then chg os f pr t n else 0)
    have e : ∀ a b c d : Int32, a + b + (c + d) = (a + c) + (b + d) := fun a b c d => by
      rw [Int32.add_assoc, Int32.add_assoc]; congr 1
      rw [← Int32.add_assoc, ← Int32.add_assoc, Int32.add_comm b c]
    rw [e, ← ih]
    unfold chg
    by_cases ht : oT (oa os n) = t
    · rw [if_pos ht, if_pos ht]
      congr 1
      have n01 : ¬ (0 : Nat) = 1 := by decide
      have n10 : ¬ (1 : Nat) = 0 := by decide
      rcases (show oS (oa os n) = 0 ∨ oS (oa os n) = 1 by omega) with h0 | h0
      · rw [h0]
        simp only [if_true, n01, if_false, Int32.add_zero, Int32.neg_mul]
      · rw [h0]
        simp only [if_true, n10, if_false, Int32.zero_add]
    · rw [if_neg ht, if_neg ht]
      split <;> split <;> simp
theorem pfc_s {os : List Od} {f : Nat → Nat} : ∀ n, (∀ k, k < n → oS (oa os k) ≤ 1) → pfc os f n = sf os 0 (fun k => if 0 < f k ∧ f k < qa os k then 1 else 0) n + sf os 1 (fun k => if 0 < f k ∧ f k < qa os k then 1 else 0) n := by
  intro n
  induction n with
  | zero => intro _; rfl
  | succ n ih =>
    intro h
    have ih := ih (fun k hk => h k (by omega))
    have hn := h n (by omega)
    show pfc os f n + _ = (sf os 0 _ n + if oS (oa os n) = 0 then _ else 0) + (sf os 1 _ n + if oS (oa os n) = 1 then _ else 0)
    rw [ih]
    have n01 : ¬ (0 : Nat) = 1 := by decide
    have n10 : ¬ (1 : Nat) = 0 := by decide
    rcases (show oS (oa os n) = 0 ∨ oS (oa os n) = 1 by omega) with h0 | h0
    · rw [h0]
      simp only [if_true, n01, if_false]; omega
    · rw [h0]
      simp only [if_true, n10, if_false]; omega
theorem LaF_u {os : List Od} {w : Nat} {f : Nat → Nat} {n : Nat} {x y : Int32} (h1 : LaF os w f n x) (h2 : LaF os w f n y) : x = y := by
  rcases h1 with ⟨rfl, a⟩ | ⟨u, u1, u2, u3, rfl, u4⟩ <;> rcases h2 with ⟨rfl, b⟩ | ⟨v, v1, v2, v3, rfl, v4⟩
  · rfl
  · have := a v v1 v2; omega
  · have := b u u1 u2; omega
  · rcases u4 v v1 v2 v3 with h | h
    · rw [h]
    · rcases v4 u u1 u2 u3 with h' | h'
      · rw [h']
      · rw [ahd_i] at h h'; omega
theorem LaP_s {os : List Od} {w n : Nat} {f : Nat → Nat} {p s : List Nat} {y : Nat} {r : Int32} (hl : line os w n = p ++ y :: s) (h : LaP os w f p r) : LaP os w f (p ++ [y]) (if 0 < f y then nI (oL (oa os y)) else r) := by
  have hs := line_s (os := os) (w := w) n
  rw [hl, List.pairwise_append] at hs
  by_cases hf : 0 < f y
  · rw [if_pos hf]
    refine Or.inr ⟨y, by simp, hf, rfl, fun z hz _ => ?_⟩
    rcases List.mem_append.mp hz with q | q
    · exact Or.inr (hs.2.2 z q y (by simp))
    · exact Or.inl (List.mem_singleton.mp q)
  · rw [if_neg hf]
    rcases h with ⟨h1, h2⟩ | ⟨u, u1, u2, u3, u4⟩
    · refine Or.inl ⟨h1, fun z hz => ?_⟩
      rcases List.mem_append.mp hz with q | q
      · exact h2 z q
      · rw [List.mem_singleton.mp q]; omega
    · refine Or.inr ⟨u, List.mem_append_left _ u1, u2, u3, fun z hz hz0 => ?_⟩
      rcases List.mem_append.mp hz with q | q
      · exact u4 z q hz0
      · rw [List.mem_singleton.mp q] at hz0; exact absurd hz0 hf
/-- the fills of the class are the law's -/
theorem qf_line {A : MkA} {w y last rule : Nat} (hL : A.1.2.1 = nI last) (hl9 : last ≤ 999) (hRu : A.1.2.2.2.1 = nI rule) (hr : rule ≤ 1) (hy : y ∈ line A.2.2.1 w A.2.2.1.length) : Fil A.2.2.1 w rule (cvA A.2.2.1 (bst A.2.2.1 last)) A.2.2.1.length y = qf A y := by
  have hm := (line_mem _ y).mp hy
  unfold qf
  rw [hL, hRu, nat_nI (by omega), nat_nI (by omega)]
  unfold FilB cvA
  by_cases hb : bst A.2.2.1 last = 0
  · rw [if_pos hb, if_pos hb]
    exact Fil_0 (A := []) ⟨rfl, fun _ a ha => by cases ha⟩ (Nat.zero_le _) hy
  · rw [if_neg hb, if_neg hb]
    unfold FilA
    rw [if_pos hm.1, hm.2]
end HOLD2
