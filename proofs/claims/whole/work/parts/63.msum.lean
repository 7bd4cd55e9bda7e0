section CSF
/-! ### the fills of a side, summed up -/
def sf (os : List Od) (w : Nat) (f : Nat → Nat) : Nat → Nat
  | 0 => 0
  | k + 1 => sf os w f k + if oS (oa os k) = w then f k else 0
theorem sf_c {os : List Od} {w : Nat} {f g : Nat → Nat} : ∀ n, (∀ y, y < n → oS (oa os y) = w → f y = g y) → sf os w f n = sf os w g n := by
  intro n
  induction n with
  | zero => intro _; rfl
  | succ n ih =>
    intro h
    rw [sf, sf, ih (fun y hy => h y (by omega))]
    by_cases c : oS (oa os n) = w
    · rw [if_pos c, if_pos c, h n (by omega) c]
    · rw [if_neg c, if_neg c]
theorem sf_a {os : List Od} {w : Nat} {f g : Nat → Nat} : ∀ n, sf os w (fun j => f j + g j) n = sf os w f n + sf os w g n := by
  intro n
  induction n with
  | zero => rfl
  | succ n ih =>
    rw [sf, sf, sf, ih]
    split <;> omega
theorem sf_p {os : List Od} {w : Nat} {p : Nat → Bool} : ∀ n, sf os w (fun j => if p j = true then qa os j else 0) n = ss os w p n := by
  intro n
  induction n with
  | zero => rfl
  | succ n ih =>
    rw [sf, ss, ih]
    by_cases c : oS (oa os n) = w
    · rw [if_pos c]
      by_cases d : p n = true
      · rw [if_pos d, if_pos ⟨c, d⟩]
      · rw [if_neg d, if_neg (fun z => d z.2)]
    · rw [if_neg c, if_neg (fun z => c z.1)]
theorem sf_z {os : List Od} {w : Nat} : ∀ n, sf os w (fun _ => 0) n = 0 := by
  intro n
  induction n with
  | zero => rfl
  | succ n ih => rw [sf, ih]; split <;> rfl
theorem sf_1 {os : List Od} {w y c : Nat} (hs : oS (oa os y) = w) : ∀ n, sf os w (fun j => if j = y then c else 0) n = if y < n then c else 0 := by
  intro n
  induction n with
  | zero => rfl
  | succ n ih =>
    rw [sf, ih]
    by_cases e : n = y
    · subst e
      rw [if_pos hs, if_pos rfl, if_neg (by omega), if_pos (by omega)]; omega
    · have h : (if oS (oa os n) = w then (if n = y then c else 0) else 0) = 0 := by
        rw [if_neg e]; split <;> rfl
      rw [h, Nat.add_zero]
      by_cases d : y < n
      · rw [if_pos d, if_pos (show y < n + 1 by omega)]
      · rw [if_neg d, if_neg (show ¬ y < n + 1 by omega)]
def sumF (f : Nat → Nat) : List Nat → Nat
  | [] => 0
  | x :: r => f x + sumF f r
theorem sumF_app {f : Nat → Nat} (a b : List Nat) : sumF f (a ++ b) = sumF f a + sumF f b := by
  induction a with
  | nil => simp [sumF]
  | cons x r ih => simp [sumF, ih]; omega
theorem sumF_c {f g : Nat → Nat} {l : List Nat} (h : ∀ x ∈ l, f x = g x) : sumF f l = sumF g l := by
  induction l with
  | nil => rfl
  | cons x r ih => rw [sumF, sumF, h x List.mem_cons_self, ih (fun y hy => h y (List.mem_cons_of_mem _ hy))]
theorem sf_g {os : List Od} {w y : Nat} {f : Nat → Nat} : ∀ n, sf os w (fun j => if sameL os y j = true then f j else 0) n = sumF f (gi os w y n) := by
  intro n
  induction n with
  | zero => rfl
  | succ n ih =>
    rw [sf, gi, ih]
    by_cases c : oS (oa os n) = w
    · rw [if_pos c]
      by_cases d : sameL os y n = true
      · rw [if_pos d, if_pos ⟨c, d⟩, sumF_app]; simp [sumF]
      · rw [if_neg d, if_neg (fun z => d z.2)]; rfl
    · rw [if_neg c, if_neg (fun z => c z.1)]; rfl
theorem sum_bn {os : List Od} {left all : Nat} : ∀ (g : List Nat) (r : Nat), g.Nodup → sumF (fun x => bn os left all x r g) g + bnR os left all r g = r := by
  intro g
  induction g with
  | nil => intro r _; simp [sumF, bnR]
  | cons y g ih =>
    intro r hn
    rw [List.nodup_cons] at hn
    have h1 : sumF (fun x => bn os left all x r (y :: g)) g = sumF (fun x => bn os left all x (if 0 < r ∧ prt os left all y < qa os y then r - 1 else r) g) g := sumF_c (fun x hx => by
      have hxy : ¬ x = y := fun e => hn.1 (e ▸ hx)
      show bn os left all x r (y :: g) = _
      rw [bn, if_neg hxy])
    rw [sumF, h1, bnR]
    have := ih (if 0 < r ∧ prt os left all y < qa os y then r - 1 else r) hn.2
    rw [bn, if_pos rfl]
    by_cases c : 0 < r ∧ prt os left all y < qa os y
    · rw [if_pos c] at this ⊢
      rw [if_pos c]
      omega
    · rw [if_neg c] at this ⊢
      rw [if_neg c]
      omega
theorem sum_prt {os : List Od} {left all : Nat} : ∀ g : List Nat, sumF (fun x => prt os left all x) g = sumP os left all g := by
  intro g
  induction g with
  | nil => rfl
  | cons y g ih => rw [sumF, sumP, ih]
theorem sumF_a {f g : Nat → Nat} (l : List Nat) : sumF (fun x => f x + g x) l = sumF f l + sumF g l := by
  induction l with
  | nil => rfl
  | cons x r ih => rw [sumF, sumF, sumF, ih]; omega
theorem gi_nd {os : List Od} {w y : Nat} (n : Nat) : (gi os w y n).Nodup := by
  rw [← line_g]
  exact (line_nd n).filter _
theorem sum_fG {os : List Od} {left : Nat} {g : List Nat} (hn : g.Nodup) (ha : 0 < sumQ os g) (hl : left ≤ sumQ os g) : sumF (fun x => fG os left g x) g = left := by
  have h1 := sum_bn (os := os) (left := left) (all := sumQ os g) g (left - sumP os left (sumQ os g) g) hn
  have h2 := sum_prt (os := os) (left := left) (all := sumQ os g) g
  have h3 := bnR_end (os := os) (left := left) (g := g) ha
  have h4 := sumP_left (os := os) (left := left) (g := g) ha
  have h5 := sumF_a (f := fun x => prt os left (sumQ os g) x) (g := fun x => bn os left (sumQ os g) x (left - sumP os left (sumQ os g) g) g) g
  have h6 : sumF (fun x => fG os left g x) g = sumF (fun x => prt os left (sumQ os g) x + bn os left (sumQ os g) x (left - sumP os left (sumQ os g) g) g) g := rfl
  omega
/-- the fills of a side are the volume -/
theorem sf_Fil {os : List Od} {w rule v n : Nat} (hr : rule ≤ 1) (h1 : 1 ≤ v) (hv : v ≤ ss os w (fun _ => true) n) : sf os w (fun j => Fil os w rule v n j) n = v := by
  obtain ⟨y, hy, hys, hL⟩ := Lst_ex h1 hv
  have hl := Lst_left hy hys hL
  by_cases r1 : rule = 1
  · subst r1
    have e : ∀ j, j < n → oS (oa os j) = w → Fil os w 1 v n j = (if bet os w j y = true then qa os j else 0) + (if sameL os y j = true then fG os (v - ss os w (fun z => bet os w z y) n) (gi os w y n) j else 0) := by
      intro j hj hjs
      rw [← Fil_share hj hjs hy hys hL]
      by_cases c : sameL os y j = true
      · have cb : ¬ bet os w j y = true := fun z => by rw [bet_i] at z; rw [sameL_i] at c; omega
        rw [if_pos c, if_pos c, if_neg cb]; omega
      · rw [if_neg c, if_neg c]
        unfold Fil
        rw [if_neg (show ¬ (0 : Nat) = 1 by decide)]
        rw [sameL_i] at c
        obtain ⟨g1, g2⟩ := hL
        by_cases b : bet os w j y = true
        · rw [if_pos b]
          rw [bet_i] at b
          have a2 := ss_plus (os := os) (w := w) (x := j) (n := n) (p := fun z => ahd os w z y) (p1 := fun z => ahd os w z j) hj hjs (by rw [ahd_i]; omega) (by rw [Ne, ahd_i]; omega) (fun z _ _ c1 => by rw [ahd_i] at c1 ⊢; omega)
          omega
        · rw [if_neg b]
          rw [bet_i] at b
          have a1 := ss_plus (os := os) (w := w) (x := y) (n := n) (p := fun z => ahd os w z j) (p1 := fun z => ahd os w z y) hy hys (by rw [ahd_i]; omega) (by rw [Ne, ahd_i]; omega) (fun z _ _ c1 => by rw [ahd_i] at c1 ⊢; omega)
          omega
    rw [sf_c n e, sf_a, sf_p, sf_g, sum_fG (gi_nd n) (by rw [sumQ_gi]; omega) (by rw [sumQ_gi]; omega)]
    omega
  · have r0 : rule = 0 := by omega
    subst r0
    have e : ∀ j, j < n → oS (oa os j) = w → Fil os w 0 v n j = (if ahd os w j y = true then qa os j else 0) + (if j = y then v - ss os w (fun z => ahd os w z y) n else 0) := by
      intro j hj hjs
      unfold Fil
      rw [if_neg (show ¬ (0 : Nat) = 1 by decide)]
      obtain ⟨g1, g2⟩ := hL
      by_cases c : j = y
      · subst c
        have : ¬ ahd os w j j = true := by rw [ahd_i]; omega
        rw [if_neg this, if_pos rfl]; omega
      · rw [if_neg c]
        by_cases b : ahd os w j y = true
        · rw [if_pos b]
          rw [ahd_i] at b
          have a2 := ss_plus (os := os) (w := w) (x := j) (n := n) (p := fun z => ahd os w z y) (p1 := fun z => ahd os w z j) hj hjs (by rw [ahd_i]; omega) (by rw [Ne, ahd_i]; omega) (fun z _ _ c1 => by rw [ahd_i] at c1 ⊢; omega)
          omega
        · rw [if_neg b]
          rw [ahd_i] at b
          have a1 := ss_plus (os := os) (w := w) (x := y) (n := n) (p := fun z => ahd os w z j) (p1 := fun z => ahd os w z y) hy hys (by rw [ahd_i]; omega) (by rw [Ne, ahd_i]; omega) (fun z _ _ c1 => by rw [ahd_i] at c1 ⊢; omega)
          omega
    rw [sf_c n e, sf_a, sf_p, sf_1 hys, if_pos hy]
    have := hL.1
    omega
theorem sf_FilA {os : List Od} {w rule b : Nat} (hw : w ≤ 1) (hr : rule ≤ 1) (hv : 0 < vol os b) : sf os w (FilA os rule (vol os b)) os.length = vol os b := by
  have h := sf_Fil (os := os) (w := w) (rule := rule) (v := vol os b) (n := os.length) hr hv (Nat.le_trans (vol_tp (w := w) hw) (ss_mono _ (fun _ _ _ _ => rfl)))
  rw [sf_c (g := fun j => Fil os w rule (vol os b) os.length j) os.length (fun y hy hs => by unfold FilA; rw [if_pos hy, hs])]
  exact h
end CSF
