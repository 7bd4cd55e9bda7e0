/-! pure facts (of what is meant) that the class's parts use -/
section PURE0
set_option maxRecDepth 100000
def bI (b : Bool) : Int32 := if b = true then 1 else 0
theorem bI_t : bI true = 1 := (rfl)
theorem bI_f : bI false = 0 := (rfl)
theorem mo_i10 : ((1 : Int32) = 0) = False := by decide
theorem mo_i00 : ((0 : Int32) = 0) = True := by decide
theorem mo_i01 : ((0 : Int32) = 1) = False := by decide
theorem mo_n0 : (0 : Int32).toNatClampNeg = 0 := by decide
theorem mo_n1 : (1 : Int32).toNatClampNeg = 1 := by decide
theorem mo_n2 : (2 : Int32).toNatClampNeg = 2 := by decide
theorem mo_n3 : (3 : Int32).toNatClampNeg = 3 := by decide
theorem oa_at {os : List Od} {k : Nat} (hk : k < os.length) : os[k]? = some (oa os k) := by rw [oa_s (List.getElem?_eq_getElem hk)]; exact List.getElem?_eq_getElem hk
theorem oa_mem {os : List Od} {k : Nat} (hk : k < os.length) : oa os k ∈ os := List.mem_of_getElem? (oa_at hk)
def mkt0 (p l b u : Int32) : MkA := ((0, l, b, u, p), [], [], 0, (0, 0, 0, 0, 0, 0, 0, 0))
def trdA (A : MkA) (nm : List Nat) (c g : Int32) : MkA := (A.1, A.2.1 ++ [(nm, c, g)], A.2.2.1, A.2.2.2.1, (A.2.2.2.2.1, A.2.2.2.2.2.1, A.2.2.2.2.2.2.1, A.2.2.2.2.2.2.2.1, A.2.2.2.2.2.2.2.2.1, A.2.2.2.2.2.2.2.2.2.1 + c, A.2.2.2.2.2.2.2.2.2.2.1 + g, A.2.2.2.2.2.2.2.2.2.2.2))
def ordA (A : MkA) (t s p q : Nat) (m : Int32) : MkA := (A.1, A.2.1, A.2.2.1 ++ [(A.2.2.2.1, t, s, p, q, A.1.1 + m)], A.2.2.2.1 + 1, (A.2.2.2.2.1, A.2.2.2.2.2.1 + nI q, A.2.2.2.2.2.2))
def drpA (A : MkA) (k : Nat) : MkA := (A.1, A.2.1, A.2.2.1.eraseIdx k, A.2.2.2)
def prI (b : Nat) : Int32 := if b = 0 then -1 else nI b
def tp (os : List Od) (w p k : Nat) : Bool := decide (oS (oa os k) = w ∧ if w = 0 then p ≤ oL (oa os k) else oL (oa os k) ≤ p)
theorem tp_i {os : List Od} {w p k : Nat} : tp os w p k = true ↔ oS (oa os k) = w ∧ ((w = 0 ∧ p ≤ oL (oa os k)) ∨ (w ≠ 0 ∧ oL (oa os k) ≤ p)) := by
  unfold tp
  rw [decide_eq_true_iff]
  by_cases h : w = 0
  · rw [if_pos h]; omega
  · rw [if_neg h]; omega
theorem ss_congr {os : List Od} {w : Nat} {p p' : Nat → Bool} : ∀ n, (∀ y, y < n → oS (oa os y) = w → p y = p' y) → ss os w p n = ss os w p' n := by
  intro n
  induction n with
  | zero => intro _; rfl
  | succ n ih =>
    intro h
    rw [ss, ss, ih (fun y hy => h y (by omega))]
    by_cases hs : oS (oa os n) = w
    · rw [h n (by omega) hs]
    · rw [if_neg (fun z => hs z.1), if_neg (fun z => hs z.1)]
theorem ss_mono {os : List Od} {w : Nat} {p p' : Nat → Bool} : ∀ n, (∀ y, y < n → oS (oa os y) = w → p y = true → p' y = true) → ss os w p n ≤ ss os w p' n := by
  intro n
  induction n with
  | zero => intro _; exact Nat.le_refl _
  | succ n ih =>
    intro h
    rw [ss, ss]
    have := ih (fun y hy => h y (by omega))
    by_cases hp : oS (oa os n) = w ∧ p n = true
    · rw [if_pos hp, if_pos ⟨hp.1, h n (by omega) hp.1 hp.2⟩]; omega
    · rw [if_neg hp]; omega
theorem ss_or {os : List Od} {w : Nat} {p p1 p2 : Nat → Bool} : ∀ n, (∀ y, y < n → oS (oa os y) = w → p y = true → p1 y = true ∨ p2 y = true) → ss os w p n ≤ ss os w p1 n + ss os w p2 n := by
  intro n
  induction n with
  | zero => intro _; exact Nat.le_refl _
  | succ n ih =>
    intro h
    rw [ss, ss, ss]
    have := ih (fun y hy => h y (by omega))
    by_cases hp : oS (oa os n) = w ∧ p n = true
    · rw [if_pos hp]
      rcases h n (by omega) hp.1 hp.2 with z | z
      · rw [if_pos ⟨hp.1, z⟩]; omega
      · rw [if_pos (c := oS (oa os n) = w ∧ p2 n = true) ⟨hp.1, z⟩]; omega
    · rw [if_neg hp]; omega
theorem ss_add {os : List Od} {w : Nat} {p p1 p2 : Nat → Bool} : ∀ n, (∀ y, y < n → oS (oa os y) = w → p1 y = true → p2 y = true → False) → (∀ y, y < n → oS (oa os y) = w → p1 y = true → p y = true) → (∀ y, y < n → oS (oa os y) = w → p2 y = true → p y = true) → ss os w p1 n + ss os w p2 n ≤ ss os w p n := by
  intro n
  induction n with
  | zero => intro _ _ _; exact Nat.le_refl _
  | succ n ih =>
    intro h h1 h2
    rw [ss, ss, ss]
    have := ih (fun y hy => h y (by omega)) (fun y hy => h1 y (by omega)) (fun y hy => h2 y (by omega))
    by_cases hs : oS (oa os n) = w
    · by_cases c1 : p1 n = true
      · rw [if_pos ⟨hs, c1⟩, if_neg (fun z => h n (by omega) hs c1 z.2), if_pos ⟨hs, h1 n (by omega) hs c1⟩]; omega
      · rw [if_neg (fun z => c1 z.2)]
        by_cases c2 : p2 n = true
        · rw [if_pos ⟨hs, c2⟩, if_pos ⟨hs, h2 n (by omega) hs c2⟩]; omega
        · rw [if_neg (fun z => c2 z.2)]; omega
    · rw [if_neg (fun z => hs z.1), if_neg (fun z => hs z.1), if_neg (fun z => hs z.1)]; omega
theorem ss_one {os : List Od} {w x : Nat} {p : Nat → Bool} : ∀ n, x < n → oS (oa os x) = w → p x = true → qa os x ≤ ss os w p n := by
  intro n
  induction n with
  | zero => intro h; omega
  | succ n ih =>
    intro h hs hp
    rw [ss]
    by_cases e : x = n
    · subst e; rw [if_pos ⟨hs, hp⟩]; omega
    · have := ih (by omega) hs hp; omega
theorem ss_plus {os : List Od} {w x n : Nat} {p p1 : Nat → Bool} (hx : x < n) (hs : oS (oa os x) = w) (hp : p x = true) (hn : p1 x ≠ true) (h1 : ∀ y, y < n → oS (oa os y) = w → p1 y = true → p y = true) : ss os w p1 n + qa os x ≤ ss os w p n := by
  have e : qa os x ≤ ss os w (fun y => decide (y = x)) n := ss_one n hx hs (decide_eq_true rfl)
  have := ss_add (os := os) (w := w) (p := p) (p1 := p1) (p2 := fun y => decide (y = x)) n (fun y _ _ z1 z2 => hn (by rw [← of_decide_eq_true z2]; exact z1)) h1 (fun y _ _ z => by rw [of_decide_eq_true z]; exact hp)
  omega
theorem ss_tp {os : List Od} {w p : Nat} (hw : w ≤ 1) : ss os w (tp os w p) os.length = if w = 0 then dem os p else sup os p := by
  have key : ∀ k, k ≤ os.length → ss os w (tp os w p) k = if w = 0 then dem (os.take k) p else sup (os.take k) p := by
    intro k
    induction k with
    | zero => intro _; rw [List.take_zero]; split <;> rfl
    | succ k ih =>
      intro hk
      rw [ss, ih (by omega), take_s (oa_at (show k < os.length by omega))]
      by_cases h : w = 0
      · rw [if_pos h, if_pos h, dem_app]
        simp only [dem, Nat.add_zero]
        congr 1
        by_cases c : oS (oa os k) = 0 ∧ p ≤ oL (oa os k)
        · rw [if_pos c, if_pos ⟨by omega, tp_i.mpr (by omega)⟩]
        · rw [if_neg c, if_neg (fun z => by have := tp_i.mp z.2; omega)]
      · rw [if_neg h, if_neg h, sup_app]
        simp only [sup, Nat.add_zero]
        congr 1
        by_cases c : oS (oa os k) = 1 ∧ oL (oa os k) ≤ p
        · rw [if_pos c, if_pos ⟨by omega, tp_i.mpr (by omega)⟩]
        · rw [if_neg c, if_neg (fun z => by have := tp_i.mp z.2; omega)]
  have := key os.length (Nat.le_refl _)
  rwa [List.take_length] at this
theorem line_sum {os : List Od} {w n x : Nat} {A B : List Nat} (h : line os w n = A ++ x :: B) : sumQ os A = ss os w (fun y => ahd os w y x) n := by
  have hs := line_s (os := os) (w := w) n
  rw [h, List.pairwise_append, List.pairwise_cons] at hs
  rw [← line_q, h, List.filter_append, filter_all (fun a ha => hs.2.2 a ha x (by simp)), filter_none, List.append_nil]
  intro z hz hb
  rw [ahd_i] at hb
  rcases List.mem_cons.mp hz with h1 | h1
  · rw [h1] at hb; omega
  · have := hs.2.1.1 z h1
    rw [ahd_i] at this
    omega
def Lst (os : List Od) (w v n x : Nat) : Prop := ss os w (fun y => ahd os w y x) n < v ∧ v ≤ ss os w (fun y => ahd os w y x) n + qa os x
theorem Lst_ex {os : List Od} {w v n : Nat} (h1 : 1 ≤ v) (hv : v ≤ ss os w (fun _ => true) n) : ∃ x, x < n ∧ oS (oa os x) = w ∧ Lst os w v n x := by
  have key : ∀ l A : List Nat, line os w n = A ++ l → sumQ os A < v → v ≤ sumQ os (A ++ l) → ∃ A' x B, line os w n = A' ++ x :: B ∧ sumQ os A' < v ∧ v ≤ sumQ os A' + qa os x := by
    intro l
    induction l with
    | nil => intro A _ h2 h3; rw [List.append_nil] at h3; omega
    | cons x l ih =>
      intro A hA h2 h3
      by_cases c : v ≤ sumQ os A + qa os x
      · exact ⟨A, x, l, hA, h2, c⟩
      · refine ih (A ++ [x]) (by rw [hA]; simp) ?_ (by rw [List.append_assoc]; exact h3)
        rw [sumQ_app]
        simp only [sumQ, Nat.add_zero]
        omega
  have e : sumQ os (line os w n) = ss os w (fun _ => true) n := by rw [← line_q, filter_all (fun _ _ => rfl)]
  obtain ⟨A, x, B, g1, g2, g3⟩ := key (line os w n) [] rfl (by show 0 < v; omega) (by rw [List.nil_append, e]; exact hv)
  have hm := (line_mem (os := os) (w := w) n x).mp (by rw [g1]; simp)
  rw [line_sum g1] at g2 g3
  exact ⟨x, hm.1, hm.2, g2, g3⟩
theorem sameL_i {os : List Od} {x y : Nat} : sameL os x y = true ↔ oL (oa os y) = oL (oa os x) := by unfold sameL; exact decide_eq_true_iff
theorem sumQ_gi {os : List Od} {w x n : Nat} : sumQ os (gi os w x n) = ss os w (sameL os x) n := by rw [← line_g, line_q]
theorem gi_c {os : List Od} {w x y : Nat} (h : oL (oa os x) = oL (oa os y)) (n : Nat) : gi os w x n = gi os w y n := by
  have e : sameL os x = sameL os y := by funext z; unfold sameL; rw [h]
  induction n with
  | zero => rfl
  | succ n ih => rw [gi, gi, ih, e]
theorem gi_mem {os : List Od} {w x z : Nat} : ∀ n, z ∈ gi os w x n ↔ z < n ∧ oS (oa os z) = w ∧ sameL os x z = true := by
  intro n
  rw [← line_g, List.mem_filter, line_mem]
  exact ⟨fun h => ⟨h.1.1, h.1.2, h.2⟩, fun h => ⟨⟨h.1, h.2.1⟩, h.2.2⟩⟩
theorem fG_full {os : List Od} {left : Nat} {g : List Nat} {x : Nat} (h : sumQ os g ≤ left) (hx : x ∈ g) : fG os left g x = qa os x := by
  rcases Nat.eq_zero_or_pos (sumQ os g) with hz | hp
  · have hq : qa os x ≤ sumQ os g := by
      obtain ⟨A, B, rfl⟩ := List.append_of_mem hx
      rw [sumQ_app]; simp only [sumQ]; omega
    have h9 : prt os left (sumQ os g) x ≤ qa os x := prt_le
    have h8 : prt os left (sumQ os g) x + bn os left (sumQ os g) x (left - sumP os left (sumQ os g) g) g ≤ qa os x := bn_le _ _
    unfold fG
    omega
  · unfold fG
    rw [prt_full h hp]
    have h8 : prt os left (sumQ os g) x + bn os left (sumQ os g) x (left - sumP os left (sumQ os g) g) g ≤ qa os x := bn_le _ _
    rw [prt_full h hp] at h8
    omega
theorem Lst_left {os : List Od} {w v n y : Nat} (hy : y < n) (hs : oS (oa os y) = w) (h : Lst os w v n y) : ss os w (fun z => bet os w z y) n < v ∧ v ≤ ss os w (fun z => bet os w z y) n + ss os w (sameL os y) n := by
  obtain ⟨h1, h2⟩ := h
  have a1 := ss_mono (os := os) (w := w) (p := fun z => bet os w z y) (p' := fun z => ahd os w z y) n (fun z _ _ c => by rw [bet_i] at c; rw [ahd_i]; omega)
  have a2 := ss_or (os := os) (w := w) (p := fun z => ahd os w z y) (p1 := fun z => bet os w z y) (p2 := fun z => sameL os y z && decide (z < y)) n (fun z _ _ c => by
    rw [ahd_i] at c
    rw [bet_i, Bool.and_eq_true, sameL_i, decide_eq_true_iff]
    omega)
  have a3 := ss_plus (os := os) (w := w) (x := y) (n := n) (p := sameL os y) (p1 := fun z => sameL os y z && decide (z < y)) hy hs (sameL_i.mpr rfl) (by simp) (fun z _ _ c => by rw [Bool.and_eq_true] at c; exact c.1)
  omega
theorem Fil_share {os : List Od} {w v n x y : Nat} (hx : x < n) (hxs : oS (oa os x) = w) (hy : y < n) (hys : oS (oa os y) = w) (h : Lst os w v n y) :
    (if sameL os y x = true then fG os (v - ss os w (fun z => bet os w z y) n) (gi os w y n) x else Fil os w 0 v n x) = Fil os w 1 v n x := by
  have hl := Lst_left hy hys h
  obtain ⟨h1, h2⟩ := h
  unfold Fil
  rw [if_neg (show ¬ (0 : Nat) = 1 by decide), if_pos rfl]
  by_cases c : sameL os y x = true
  · rw [if_pos c]
    rw [sameL_i] at c
    rw [gi_c c, ss_congr (p := fun z => bet os w z x) (p' := fun z => bet os w z y) n (fun z _ _ => by unfold bet; rw [c])]
  · rw [if_neg c]
    rw [sameL_i] at c
    by_cases b : bet os w x y = true
    · -- better: whole
      rw [bet_i] at b
      have a1 := ss_add (os := os) (w := w) (p := fun z => ahd os w z y) (p1 := fun z => bet os w z x) (p2 := sameL os x) n (fun z _ _ c1 c2 => by rw [bet_i] at c1; rw [sameL_i] at c2; omega) (fun z _ _ c1 => by rw [bet_i] at c1; rw [ahd_i]; omega) (fun z _ _ c2 => by rw [sameL_i] at c2; rw [ahd_i]; omega)
      have a2 := ss_plus (os := os) (w := w) (x := x) (n := n) (p := fun z => ahd os w z y) (p1 := fun z => ahd os w z x) hx hxs (by rw [ahd_i]; omega) (by rw [Ne, ahd_i]; omega) (fun z _ _ c1 => by rw [ahd_i] at c1 ⊢; omega)
      rw [fG_full (by rw [sumQ_gi]; omega) ((gi_mem n).mpr ⟨hx, hxs, sameL_i.mpr rfl⟩)]
      omega
    · -- worse: nothing
      rw [bet_i] at b
      have a1 := ss_plus (os := os) (w := w) (x := y) (n := n) (p := fun z => bet os w z x) (p1 := fun z => ahd os w z y) hy hys (by rw [bet_i]; omega) (by rw [Ne, ahd_i]; omega) (fun z _ _ c1 => by rw [ahd_i] at c1; rw [bet_i]; omega)
      have a2 := ss_mono (os := os) (w := w) (p := fun z => bet os w z x) (p' := fun z => ahd os w z x) n (fun z _ _ c => by rw [bet_i] at c; rw [ahd_i]; omega)
      rw [show v - ss os w (fun z => bet os w z x) n = 0 by omega, fG_0]
      omega
theorem nI_m1n {y : Nat} (h : y < 1000000) : (nI y = -1) = False := eq_false (fun z => nI_nneg (m := y) h (z ▸ neg1.2))
def FilB (os : List Od) (last rule : Nat) (j : Nat) : Nat := if bst os last = 0 then 0 else FilA os rule (vol os (bst os last)) j
theorem vol_tp {os : List Od} {w p : Nat} (hw : w ≤ 1) : vol os p ≤ ss os w (tp os w p) os.length := by
  rw [ss_tp hw]
  unfold vol
  split <;> omega
theorem qa_ok {os : List Od} (h : ∀ o ∈ os, CdOk o) (j : Nat) : qa os j ≤ 99 := by
  by_cases c : j < os.length
  · exact (h _ (oa_mem c)).2.2.2
  · have : oa os j = (0, 0, 0, 0, 0, 0) := by unfold oa; rw [List.getD_eq_getElem?_getD, List.getElem?_eq_none (by omega)]; rfl
    rw [show qa os j = oQ (oa os j) from rfl, this]
    decide
def sf (os : List Od) (w : Nat) (f : Nat → Nat) : Nat → Nat
  | 0 => 0
  | k + 1 => sf os w f k + if oS (oa os k) = w then f k else 0
theorem sf_c {os : List Od} {w : Nat} {f g : Nat → Nat} : ∀ n, (∀ y, y < n → oS (oa os y) = w → f y = g y) → sf os w f n = sf os w g n := by
  intro n
  induction n with
  | zero => intro _; rfl
  | succ n ih =>
    intro h
    rw [sf, sf, ih (fun y hy => h y (by omega))]
    by_cases c : oS (oa os n) = w
    · rw [if_pos c, if_pos c, h n (by omega) c]
    · rw [if_neg c, if_neg c]
theorem sf_a {os : List Od} {w : Nat} {f g : Nat → Nat} : ∀ n, sf os w (fun j => f j + g j) n = sf os w f n + sf os w g n := by
  intro n
  induction n with
  | zero => rfl
  | succ n ih =>
    rw [sf, sf, sf, ih]
    split <;> omega
theorem sf_p {os : List Od} {w : Nat} {p : Nat → Bool} : ∀ n, sf os w (fun j => if p j = true then qa os j else 0) n = ss os w p n := by
  intro n
  induction n with
  | zero => rfl
  | succ n ih =>
    rw [sf, ss, ih]
    by_cases c : oS (oa os n) = w
    · rw [if_pos c]
      by_cases d : p n = true
      · rw [if_pos d, if_pos ⟨c, d⟩]
      · rw [if_neg d, if_neg (fun z => d z.2)]
    · rw [if_neg c, if_neg (fun z => c z.1)]
theorem sf_1 {os : List Od} {w y c : Nat} (hs : oS (oa os y) = w) : ∀ n, sf os w (fun j => if j = y then c else 0) n = if y < n then c else 0 := by
  intro n
  induction n with
  | zero => rfl
  | succ n ih =>
    rw [sf, ih]
    by_cases e : n = y
    · subst e
      rw [if_pos hs, if_pos rfl, if_neg (by omega), if_pos (by omega)]; omega
    · have h : (if oS (oa os n) = w then (if n = y then c else 0) else 0) = 0 := by
        rw [if_neg e]; split <;> rfl
      rw [h, Nat.add_zero]
      by_cases d : y < n
      · rw [if_pos d, if_pos (show y < n + 1 by omega)]
      · rw [if_neg d, if_neg (show ¬ y < n + 1 by omega)]
def sumF (f : Nat → Nat) : List Nat → Nat
  | [] => 0
  | x :: r => f x + sumF f r
theorem sumF_app {f : Nat → Nat} (a b : List Nat) : sumF f (a ++ b) = sumF f a + sumF f b := by
  induction a with
  | nil => simp [sumF]
  | cons x r ih => simp [sumF, ih]; omega
theorem sumF_c {f g : Nat → Nat} {l : List Nat} (h : ∀ x ∈ l, f x = g x) : sumF f l = sumF g l := by
  induction l with
  | nil => rfl
  | cons x r ih => rw [sumF, sumF, h x List.mem_cons_self, ih (fun y hy => h y (List.mem_cons_of_mem _ hy))]
theorem sf_g {os : List Od} {w y : Nat} {f : Nat → Nat} : ∀ n, sf os w (fun j => if sameL os y j = true then f j else 0) n = sumF f (gi os w y n) := by
  intro n
  induction n with
  | zero => rfl
  | succ n ih =>
    rw [sf, gi, ih]
    by_cases c : oS (oa os n) = w
    · rw [if_pos c]
      by_cases d : sameL os y n = true
      · rw [if_pos d, if_pos ⟨c, d⟩, sumF_app]; simp [sumF]
      · rw [if_neg d, if_neg (fun z => d z.2)]; rfl
    · rw [if_neg c, if_neg (fun z => c z.1)]; rfl
theorem sum_bn {os : List Od} {left all : Nat} : ∀ (g : List Nat) (r : Nat), g.Nodup → sumF (fun x => bn os left all x r g) g + bnR os left all r g = r := by
  intro g
  induction g with
  | nil => intro r _; simp [sumF, bnR]
  | cons y g ih =>
    intro r hn
    rw [List.nodup_cons] at hn
    have h1 : sumF (fun x => bn os left all x r (y :: g)) g = sumF (fun x => bn os left all x (if 0 < r ∧ prt os left all y < qa os y then r - 1 else r) g) g := sumF_c (fun x hx => by
      have hxy : ¬ x = y := fun e => hn.1 (e ▸ hx)
      show bn os left all x r (y :: g) = _
      rw [bn, if_neg hxy])
    rw [sumF, h1, bnR]
    have := ih (if 0 < r ∧ prt os left all y < qa os y then r - 1 else r) hn.2
    rw [bn, if_pos rfl]
    by_cases c : 0 < r ∧ prt os left all y < qa os y
    · rw [if_pos c] at this ⊢
      rw [if_pos c]
      omega
    · rw [if_neg c] at this ⊢
      rw [if_neg c]
      omega
theorem sum_prt {os : List Od} {left all : Nat} : ∀ g : List Nat, sumF (fun x => prt os left all x) g = sumP os left all g := by
  intro g
  induction g with
  | nil => rfl
  | cons y g ih => rw [sumF, sumP, ih]
theorem sumF_a {f g : Nat → Nat} (l : List Nat) : sumF (fun x => f x + g x) l = sumF f l + sumF g l := by
  induction l with
  | nil => rfl
  | cons x r ih => rw [sumF, sumF, sumF, ih]; omega
theorem gi_nd {os : List Od} {w y : Nat} (n : Nat) : (gi os w y n).Nodup := by
  rw [← line_g]
  exact (line_nd n).filter _
theorem sum_fG {os : List Od} {left : Nat} {g : List Nat} (hn : g.Nodup) (ha : 0 < sumQ os g) (hl : left ≤ sumQ os g) : sumF (fun x => fG os left g x) g = left := by
  have h1 := sum_bn (os := os) (left := left) (all := sumQ os g) g (left - sumP os left (sumQ os g) g) hn
  have h2 := sum_prt (os := os) (left := left) (all := sumQ os g) g
  have h3 := bnR_end (os := os) (left := left) (g := g) ha
  have h4 := sumP_left (os := os) (left := left) (g := g) ha
  have h5 := sumF_a (f := fun x => prt os left (sumQ os g) x) (g := fun x => bn os left (sumQ os g) x (left - sumP os left (sumQ os g) g) g) g
  have h6 : sumF (fun x => fG os left g x) g = sumF (fun x => prt os left (sumQ os g) x + bn os left (sumQ os g) x (left - sumP os left (sumQ os g) g) g) g := rfl
  omega
theorem sf_Fil {os : List Od} {w rule v n : Nat} (hr : rule ≤ 1) (h1 : 1 ≤ v) (hv : v ≤ ss os w (fun _ => true) n) : sf os w (fun j => Fil os w rule v n j) n = v := by
  obtain ⟨y, hy, hys, hL⟩ := Lst_ex h1 hv
  have hl := Lst_left hy hys hL
  by_cases r1 : rule = 1
  · subst r1
    have e : ∀ j, j < n → oS (oa os j) = w → Fil os w 1 v n j = (if bet os w j y = true then qa os j else 0) + (if sameL os y j = true then fG os (v - ss os w (fun z => bet os w z y) n) (gi os w y n) j else 0) := by
      intro j hj hjs
      rw [← Fil_share hj hjs hy hys hL]
      by_cases c : sameL os y j = true
      · have cb : ¬ bet os w j y = true := fun z => by rw [bet_i] at z; rw [sameL_i] at c; omega
        rw [if_pos c, if_pos c, if_neg cb]; omega
      · rw [if_neg c, if_neg c]
        unfold Fil
        rw [if_neg (show ¬ (0 : Nat) = 1 by decide)]
        rw [sameL_i] at c
        obtain ⟨g1, g2⟩ := hL
        by_cases b : bet os w j y = true
        · rw [if_pos b]
          rw [bet_i] at b
          have a2 := ss_plus (os := os) (w := w) (x := j) (n := n) (p := fun z => ahd os w z y) (p1 := fun z => ahd os w z j) hj hjs (by rw [ahd_i]; omega) (by rw [Ne, ahd_i]; omega) (fun z _ _ c1 => by rw [ahd_i] at c1 ⊢; omega)
          omega
        · rw [if_neg b]
          rw [bet_i] at b
          have a1 := ss_plus (os := os) (w := w) (x := y) (n := n) (p := fun z => ahd os w z j) (p1 := fun z => ahd os w z y) hy hys (by rw [ahd_i]; omega) (by rw [Ne, ahd_i]; omega) (fun z _ _ c1 => by rw [ahd_i] at c1 ⊢; omega)
          omega
    rw [sf_c n e, sf_a, sf_p, sf_g, sum_fG (gi_nd n) (by rw [sumQ_gi]; omega) (by rw [sumQ_gi]; omega)]
    omega
  · have r0 : rule = 0 := by omega
    subst r0
    have e : ∀ j, j < n → oS (oa os j) = w → Fil os w 0 v n j = (if ahd os w j y = true then qa os j else 0) + (if j = y then v - ss os w (fun z => ahd os w z y) n else 0) := by
      intro j hj hjs
      unfold Fil
      rw [if_neg (show ¬ (0 : Nat) = 1 by decide)]
      obtain ⟨g1, g2⟩ := hL
      by_cases c : j = y
      · subst c
        have : ¬ ahd os w j j = true := by rw [ahd_i]; omega
        rw [if_neg this, if_pos rfl]; omega
      · rw [if_neg c]
        by_cases b : ahd os w j y = true
        · rw [if_pos b]
          rw [ahd_i] at b
          have a2 := ss_plus (os := os) (w := w) (x := j) (n := n) (p := fun z => ahd os w z y) (p1 := fun z => ahd os w z j) hj hjs (by rw [ahd_i]; omega) (by rw [Ne, ahd_i]; omega) (fun z _ _ c1 => by rw [ahd_i] at c1 ⊢; omega)
          omega
        · rw [if_neg b]
          rw [ahd_i] at b
          have a1 := ss_plus (os := os) (w := w) (x := y) (n := n) (p := fun z => ahd os w z j) (p1 := fun z => ahd os w z y) hy hys (by rw [ahd_i]; omega) (by rw [Ne, ahd_i]; omega) (fun z _ _ c1 => by rw [ahd_i] at c1 ⊢; omega)
          omega
    rw [sf_c n e, sf_a, sf_p, sf_1 hys, if_pos hy]
    have := hL.1
    omega
theorem sf_FilA {os : List Od} {w rule b : Nat} (hw : w ≤ 1) (hr : rule ≤ 1) (hv : 0 < vol os b) : sf os w (FilA os rule (vol os b)) os.length = vol os b := by
  have h := sf_Fil (os := os) (w := w) (rule := rule) (v := vol os b) (n := os.length) hr hv (Nat.le_trans (vol_tp (w := w) hw) (ss_mono _ (fun _ _ _ _ => rfl)))
  rw [sf_c (g := fun j => Fil os w rule (vol os b) os.length j) os.length (fun y hy hs => by unfold FilA; rw [if_pos hy, hs])]
  exact h
def wosA (A : MkA) (os : List Od) : MkA := (A.1, A.2.1, os, A.2.2.2)
end PURE0
