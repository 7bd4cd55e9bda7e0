section CFP
/-! ### the model's fills, as they are meant -/
def tp (os : List Od) (w p k : Nat) : Bool := decide (oS (oa os k) = w ∧ if w = 0 then p ≤ oL (oa os k) else oL (oa os k) ≤ p)
theorem tp_i {os : List Od} {w p k : Nat} : tp os w p k = true ↔ oS (oa os k) = w ∧ ((w = 0 ∧ p ≤ oL (oa os k)) ∨ (w ≠ 0 ∧ oL (oa os k) ≤ p)) := by
  unfold tp
  rw [decide_eq_true_iff]
  by_cases h : w = 0
  · rw [if_pos h]; omega
  · rw [if_neg h]; omega
theorem ss_congr {os : List Od} {w : Nat} {p p' : Nat → Bool} : ∀ n, (∀ y, y < n → oS (oa os y) = w → p y = p' y) → ss os w p n = ss os w p' n := by
  intro n
  induction n with
  | zero => intro _; rfl
  | succ n ih =>
    intro h
    rw [ss, ss, ih (fun y hy => h y (by omega))]
    by_cases hs : oS (oa os n) = w
    · rw [h n (by omega) hs]
    · rw [if_neg (fun z => hs z.1), if_neg (fun z => hs z.1)]
theorem ss_mono {os : List Od} {w : Nat} {p p' : Nat → Bool} : ∀ n, (∀ y, y < n → oS (oa os y) = w → p y = true → p' y = true) → ss os w p n ≤ ss os w p' n := by
  intro n
  induction n with
  | zero => intro _; exact Nat.le_refl _
  | succ n ih =>
    intro h
    rw [ss, ss]
    have := ih (fun y hy => h y (by omega))
    by_cases hp : oS (oa os n) = w ∧ p n = true
    · rw [if_pos hp, if_pos ⟨hp.1, h n (by omega) hp.1 hp.2⟩]; omega
    · rw [if_neg hp]; omega
theorem ss_or {os : List Od} {w : Nat} {p p1 p2 : Nat → Bool} : ∀ n, (∀ y, y < n → oS (oa os y) = w → p y = true → p1 y = true ∨ p2 y = true) → ss os w p n ≤ ss os w p1 n + ss os w p2 n := by
  intro n
  induction n with
  | zero => intro _; exact Nat.le_refl _
  | succ n ih =>
    intro h
    rw [ss, ss, ss]
    have := ih (fun y hy => h y (by omega))
    by_cases hp : oS (oa os n) = w ∧ p n = true
    · rw [if_pos hp]
      rcases h n (by omega) hp.1 hp.2 with z | z
      · rw [if_pos ⟨hp.1, z⟩]; omega
      · rw [if_pos (c := oS (oa os n) = w ∧ p2 n = true) ⟨hp.1, z⟩]; omega
    · rw [if_neg hp]; omega
theorem ss_add {os : List Od} {w : Nat} {p p1 p2 : Nat → Bool} : ∀ n, (∀ y, y < n → oS (oa os y) = w → p1 y = true → p2 y = true → False) → (∀ y, y < n → oS (oa os y) = w → p1 y = true → p y = true) → (∀ y, y < n → oS (oa os y) = w → p2 y = true → p y = true) → ss os w p1 n + ss os w p2 n ≤ ss os w p n := by
  intro n
  induction n with
  | zero => intro _ _ _; exact Nat.le_refl _
  | succ n ih =>
    intro h h1 h2
    rw [ss, ss, ss]
    have := ih (fun y hy => h y (by omega)) (fun y hy => h1 y (by omega)) (fun y hy => h2 y (by omega))
    by_cases hs : oS (oa os n) = w
    · by_cases c1 : p1 n = true
      · rw [if_pos ⟨hs, c1⟩, if_neg (fun z => h n (by omega) hs c1 z.2), if_pos ⟨hs, h1 n (by omega) hs c1⟩]; omega
      · rw [if_neg (fun z => c1 z.2)]
        by_cases c2 : p2 n = true
        · rw [if_pos ⟨hs, c2⟩, if_pos ⟨hs, h2 n (by omega) hs c2⟩]; omega
        · rw [if_neg (fun z => c2 z.2)]; omega
    · rw [if_neg (fun z => hs z.1), if_neg (fun z => hs z.1), if_neg (fun z => hs z.1)]; omega
theorem ss_one {os : List Od} {w x : Nat} {p : Nat → Bool} : ∀ n, x < n → oS (oa os x) = w → p x = true → qa os x ≤ ss os w p n := by
  intro n
  induction n with
  | zero => intro h; omega
  | succ n ih =>
    intro h hs hp
    rw [ss]
    by_cases e : x = n
    · subst e; rw [if_pos ⟨hs, hp⟩]; omega
    · have := ih (by omega) hs hp; omega
theorem ss_plus {os : List Od} {w x n : Nat} {p p1 : Nat → Bool} (hx : x < n) (hs : oS (oa os x) = w) (hp : p x = true) (hn : p1 x ≠ true) (h1 : ∀ y, y < n → oS (oa os y) = w → p1 y = true → p y = true) : ss os w p1 n + qa os x ≤ ss os w p n := by
  have e : qa os x ≤ ss os w (fun y => decide (y = x)) n := ss_one n hx hs (decide_eq_true rfl)
  have := ss_add (os := os) (w := w) (p := p) (p1 := p1) (p2 := fun y => decide (y = x)) n (fun y _ _ z1 z2 => hn (by rw [← of_decide_eq_true z2]; exact z1)) h1 (fun y _ _ z => by rw [of_decide_eq_true z]; exact hp)
  omega
theorem ss_tp {os : List Od} {w p : Nat} (hw : w ≤ 1) : ss os w (tp os w p) os.length = if w = 0 then dem os p else sup os p := by
  have key : ∀ k, k ≤ os.length → ss os w (tp os w p) k = if w = 0 then dem (os.take k) p else sup (os.take k) p := by
    intro k
    induction k with
    | zero => intro _; rw [List.take_zero]; split <;> rfl
    | succ k ih =>
      intro hk
      rw [ss, ih (by omega), take_s (oa_at (show k < os.length by omega))]
      by_cases h : w = 0
      · rw [if_pos h, if_pos h, dem_app]
        simp only [dem, Nat.add_zero]
        congr 1
        by_cases c : oS (oa os k) = 0 ∧ p ≤ oL (oa os k)
        · rw [if_pos c, if_pos ⟨by omega, tp_i.mpr (by omega)⟩]
        · rw [if_neg c, if_neg (fun z => by have := tp_i.mp z.2; omega)]
      · rw [if_neg h, if_neg h, sup_app]
        simp only [sup, Nat.add_zero]
        congr 1
        by_cases c : oS (oa os k) = 1 ∧ oL (oa os k) ≤ p
        · rw [if_pos c, if_pos ⟨by omega, tp_i.mpr (by omega)⟩]
        · rw [if_neg c, if_neg (fun z => by have := tp_i.mp z.2; omega)]
  have := key os.length (Nat.le_refl _)
  rwa [List.take_length] at this
/-- what is ahead of x, of those that take part -/
def qah (os : List Od) (w p x n : Nat) : Nat := ss os w (fun y => tp os w p y && ahd os w y x) n
theorem qah_t {os : List Od} {w p x : Nat} (h : tp os w p x = true) (n : Nat) : qah os w p x n = ss os w (fun y => ahd os w y x) n := by
  refine ss_congr n (fun y _ hs => ?_)
  by_cases c : ahd os w y x = true
  · have : tp os w p y = true := by
      rw [ahd_i] at c
      rw [tp_i] at h ⊢
      omega
    rw [c, this]; rfl
  · have : ahd os w y x = false := by simpa using c
    rw [this, Bool.and_false]
theorem Fil_time {os : List Od} {w p v n x : Nat} (hs : oS (oa os x) = w) (hv : v ≤ ss os w (tp os w p) n) : (if tp os w p x = true then min (v - qah os w p x n) (qa os x) else 0) = Fil os w 0 v n x := by
  unfold Fil
  rw [if_neg (show ¬ (0 : Nat) = 1 by decide)]
  by_cases h : tp os w p x = true
  · rw [if_pos h, qah_t h, Nat.min_comm]
  · rw [if_neg h]
    have : ss os w (tp os w p) n ≤ ss os w (fun y => ahd os w y x) n := ss_mono n (fun y _ hy c => by
      rw [ahd_i]
      rw [tp_i] at c h
      omega)
    omega
theorem line_sum {os : List Od} {w n x : Nat} {A B : List Nat} (h : line os w n = A ++ x :: B) : sumQ os A = ss os w (fun y => ahd os w y x) n := by
  have hs := line_s (os := os) (w := w) n
  rw [h, List.pairwise_append, List.pairwise_cons] at hs
  rw [← line_q, h, List.filter_append, filter_all (fun a ha => hs.2.2 a ha x (by simp)), filter_none, List.append_nil]
  intro z hz hb
  rw [ahd_i] at hb
  rcases List.mem_cons.mp hz with h1 | h1
  · rw [h1] at hb; omega
  · have := hs.2.1.1 z h1
    rw [ahd_i] at this
    omega
/-- the order at which the volume is reached -/
def Lst (os : List Od) (w v n x : Nat) : Prop := ss os w (fun y => ahd os w y x) n < v ∧ v ≤ ss os w (fun y => ahd os w y x) n + qa os x
theorem Lst_ex {os : List Od} {w v n : Nat} (h1 : 1 ≤ v) (hv : v ≤ ss os w (fun _ => true) n) : ∃ x, x < n ∧ oS (oa os x) = w ∧ Lst os w v n x := by
  have key : ∀ l A : List Nat, line os w n = A ++ l → sumQ os A < v → v ≤ sumQ os (A ++ l) → ∃ A' x B, line os w n = A' ++ x :: B ∧ sumQ os A' < v ∧ v ≤ sumQ os A' + qa os x := by
    intro l
    induction l with
    | nil => intro A _ h2 h3; rw [List.append_nil] at h3; omega
    | cons x l ih =>
      intro A hA h2 h3
      by_cases c : v ≤ sumQ os A + qa os x
      · exact ⟨A, x, l, hA, h2, c⟩
      · refine ih (A ++ [x]) (by rw [hA]; simp) ?_ (by rw [List.append_assoc]; exact h3)
        rw [sumQ_app]
        simp only [sumQ, Nat.add_zero]
        omega
  have e : sumQ os (line os w n) = ss os w (fun _ => true) n := by rw [← line_q, filter_all (fun _ _ => rfl)]
  obtain ⟨A, x, B, g1, g2, g3⟩ := key (line os w n) [] rfl (by show 0 < v; omega) (by rw [List.nil_append, e]; exact hv)
  have hm := (line_mem (os := os) (w := w) n x).mp (by rw [g1]; simp)
  rw [line_sum g1] at g2 g3
  exact ⟨x, hm.1, hm.2, g2, g3⟩
theorem sameL_i {os : List Od} {x y : Nat} : sameL os x y = true ↔ oL (oa os y) = oL (oa os x) := by unfold sameL; exact decide_eq_true_iff
theorem sumQ_gi {os : List Od} {w x n : Nat} : sumQ os (gi os w x n) = ss os w (sameL os x) n := by rw [← line_g, line_q]
theorem gi_c {os : List Od} {w x y : Nat} (h : oL (oa os x) = oL (oa os y)) (n : Nat) : gi os w x n = gi os w y n := by
  have e : sameL os x = sameL os y := by funext z; unfold sameL; rw [h]
  induction n with
  | zero => rfl
  | succ n ih => rw [gi, gi, ih, e]
theorem gi_mem {os : List Od} {w x z : Nat} : ∀ n, z ∈ gi os w x n ↔ z < n ∧ oS (oa os z) = w ∧ sameL os x z = true := by
  intro n
  rw [← line_g, List.mem_filter, line_mem]
  exact ⟨fun h => ⟨h.1.1, h.1.2, h.2⟩, fun h => ⟨⟨h.1, h.2.1⟩, h.2.2⟩⟩
theorem fG_full {os : List Od} {left : Nat} {g : List Nat} {x : Nat} (h : sumQ os g ≤ left) (hx : x ∈ g) : fG os left g x = qa os x := by
  rcases Nat.eq_zero_or_pos (sumQ os g) with hz | hp
  · have hq : qa os x ≤ sumQ os g := by
      obtain ⟨A, B, rfl⟩ := List.append_of_mem hx
      rw [sumQ_app]; simp only [sumQ]; omega
    have h9 : prt os left (sumQ os g) x ≤ qa os x := prt_le
    have h8 : prt os left (sumQ os g) x + bn os left (sumQ os g) x (left - sumP os left (sumQ os g) g) g ≤ qa os x := bn_le _ _
    unfold fG
    omega
  · unfold fG
    rw [prt_full h hp]
    have h8 : prt os left (sumQ os g) x + bn os left (sumQ os g) x (left - sumP os left (sumQ os g) g) g ≤ qa os x := bn_le _ _
    rw [prt_full h hp] at h8
    omega
/-- what is left for the last limit -/
theorem Lst_left {os : List Od} {w v n y : Nat} (hy : y < n) (hs : oS (oa os y) = w) (h : Lst os w v n y) : ss os w (fun z => bet os w z y) n < v ∧ v ≤ ss os w (fun z => bet os w z y) n + ss os w (sameL os y) n := by
  obtain ⟨h1, h2⟩ := h
  have a1 := ss_mono (os := os) (w := w) (p := fun z => bet os w z y) (p' := fun z => ahd os w z y) n (fun z _ _ c => by rw [bet_i] at c; rw [ahd_i]; omega)
  have a2 := ss_or (os := os) (w := w) (p := fun z => ahd os w z y) (p1 := fun z => bet os w z y) (p2 := fun z => sameL os y z && decide (z < y)) n (fun z _ _ c => by
    rw [ahd_i] at c
    rw [bet_i, Bool.and_eq_true, sameL_i, decide_eq_true_iff]
    omega)
  have a3 := ss_plus (os := os) (w := w) (x := y) (n := n) (p := sameL os y) (p1 := fun z => sameL os y z && decide (z < y)) hy hs (sameL_i.mpr rfl) (by simp) (fun z _ _ c => by rw [Bool.and_eq_true] at c; exact c.1)
  omega
theorem Fil_share {os : List Od} {w v n x y : Nat} (hx : x < n) (hxs : oS (oa os x) = w) (hy : y < n) (hys : oS (oa os y) = w) (h : Lst os w v n y) :
    (if sameL os y x = true then fG os (v - ss os w (fun z => bet os w z y) n) (gi os w y n) x else Fil os w 0 v n x) = Fil os w 1 v n x := by
  have hl := Lst_left hy hys h
  obtain ⟨h1, h2⟩ := h
  unfold Fil
  rw [if_neg (show ¬ (0 : Nat) = 1 by decide), if_pos rfl]
  by_cases c : sameL os y x = true
  · rw [if_pos c]
    rw [sameL_i] at c
    rw [gi_c c, ss_congr (p := fun z => bet os w z x) (p' := fun z => bet os w z y) n (fun z _ _ => by unfold bet; rw [c])]
  · rw [if_neg c]
    rw [sameL_i] at c
    by_cases b : bet os w x y = true
    · -- better: whole
      rw [bet_i] at b
      have a1 := ss_add (os := os) (w := w) (p := fun z => ahd os w z y) (p1 := fun z => bet os w z x) (p2 := sameL os x) n (fun z _ _ c1 c2 => by rw [bet_i] at c1; rw [sameL_i] at c2; omega) (fun z _ _ c1 => by rw [bet_i] at c1; rw [ahd_i]; omega) (fun z _ _ c2 => by rw [sameL_i] at c2; rw [ahd_i]; omega)
      have a2 := ss_plus (os := os) (w := w) (x := x) (n := n) (p := fun z => ahd os w z y) (p1 := fun z => ahd os w z x) hx hxs (by rw [ahd_i]; omega) (by rw [Ne, ahd_i]; omega) (fun z _ _ c1 => by rw [ahd_i] at c1 ⊢; omega)
      rw [fG_full (by rw [sumQ_gi]; omega) ((gi_mem n).mpr ⟨hx, hxs, sameL_i.mpr rfl⟩)]
      omega
    · -- worse: nothing
      rw [bet_i] at b
      have a1 := ss_plus (os := os) (w := w) (x := y) (n := n) (p := fun z => bet os w z x) (p1 := fun z => ahd os w z y) hy hys (by rw [bet_i]; omega) (by rw [Ne, ahd_i]; omega) (fun z _ _ c1 => by rw [ahd_i] at c1; rw [bet_i]; omega)
      have a2 := ss_mono (os := os) (w := w) (p := fun z => bet os w z x) (p' := fun z => ahd os w z x) n (fun z _ _ c => by rw [bet_i] at c; rw [ahd_i]; omega)
      rw [show v - ss os w (fun z => bet os w z x) n = 0 by omega, fG_0]
      omega
/-! the pieces that are over, along the orders -/
theorem bnR_app {os : List Od} {left all : Nat} : ∀ (g h : List Nat) (r : Nat), bnR os left all r (g ++ h) = bnR os left all (bnR os left all r g) h := by
  intro g
  induction g with
  | nil => intro h r; rfl
  | cons y g ih => intro h r; rw [List.cons_append, bnR, bnR, ih]
theorem bn_app {os : List Od} {left all x : Nat} : ∀ (g h : List Nat) (r : Nat), bn os left all x r (g ++ h) = if x ∈ g then bn os left all x r g else bn os left all x (bnR os left all r g) h := by
  intro g
  induction g with
  | nil => intro h r; simp [bnR]
  | cons y g ih =>
    intro h r
    rw [List.cons_append, bn]
    by_cases e : x = y
    · rw [if_pos e, if_pos (show x ∈ y :: g by rw [e]; exact List.mem_cons_self), bn, if_pos e]
    · rw [if_neg e, ih, bnR, bn, if_neg e]
      by_cases hm : x ∈ g
      · rw [if_pos hm, if_pos (show x ∈ y :: g from List.mem_cons_of_mem _ hm)]
      · rw [if_neg hm, if_neg (show ¬ x ∈ y :: g from fun z => by rcases List.mem_cons.mp z with z | z; exact e z; exact hm z)]
theorem gi_pre {os : List Od} {w x k : Nat} : ∀ n, k ≤ n → ∃ h, gi os w x n = gi os w x k ++ h := by
  intro n
  induction n with
  | zero => intro hk; exact ⟨[], by rw [show k = 0 by omega]; rfl⟩
  | succ n ih =>
    intro hk
    by_cases e : k = n + 1
    · exact ⟨[], by rw [e, List.append_nil]⟩
    · obtain ⟨h, hh⟩ := ih (by omega)
      rw [gi]
      split
      · exact ⟨h ++ [n], by rw [hh, List.append_assoc]⟩
      · exact ⟨h, hh⟩
end CFP
