section LWI2
set_option maxRecDepth 100000
/-! ### the law's invariant: its start, the answers, the traders -/
theorem nI_n99 {a : Nat} (h : a < 2 ^ 31) : nI a ≠ -99 := fun z => nI_pos h (by rw [z]; decide)
theorem vol_b {os : List Od} {p : Nat} (hcd : ∀ o ∈ os, CdOk o) (h20 : os.length ≤ 20) : vol os p ≤ 1980 := by
  have := dem_lc hcd p
  unfold vol
  omega
theorem cry_y {A : MkA} {m : Nat} (hI : Inv A m) : ∃ d, d ≤ 1980 ∧ (cryA A).2 = nI d ∧ (cryA A).1.2.2.2.2.1 = A.2.2.2.2.1 + nI d := by
  have hv := vol_b (p := bst A.2.2.1 (nat A.1.2.1)) hI.2.2.2.2.1 hI.2.2.1
  unfold cryA
  simp only []
  by_cases hb : bst A.2.2.1 (nat A.1.2.1) = 0
  · rw [if_pos hb]
    exact ⟨0, by decide, rfl, by rw [show nI 0 = (0 : Int32) from rfl, Int32.add_zero]⟩
  · rw [if_neg hb]
    by_cases hst : stp A.1 (nI (bst A.2.2.1 (nat A.1.2.1))) = true
    · rw [if_pos hst]
      exact ⟨0, by decide, rfl, by rw [show nI 0 = (0 : Int32) from rfl, Int32.add_zero]⟩
    · rw [if_neg hst]
      exact ⟨_, hv, rfl, rfl⟩
theorem min_y {A : MkA} {m : Nat} (hI : Inv A m) : ∃ d, d ≤ 1980 ∧ (minA A).2.2.2.2.1 = A.2.2.2.2.1 + nI d := by
  unfold minA
  by_cases h : msc (lateA A).1 = 0
  · rw [if_pos h]
    obtain ⟨d, h1, -, h2⟩ := cry_y hI.late
    exact ⟨d, h1, h2⟩
  · rw [if_neg h]
    exact ⟨0, by decide, by rw [show nI 0 = (0 : Int32) from rfl, Int32.add_zero]; rfl⟩
theorem pas_y : ∀ (n : Nat) {A : MkA} {m : Nat}, Inv A m → m ≤ 2000 → ∃ d, d ≤ 1980 * n ∧ (pasA n A).2.2.2.2.1 = A.2.2.2.2.1 + nI d := by
  intro n
  induction n with
  | zero => intro A m _ _; exact ⟨0, by decide, by rw [show nI 0 = (0 : Int32) from rfl, Int32.add_zero]; rfl⟩
  | succ n ih =>
    intro A m hI hm
    obtain ⟨d1, h1, e1⟩ := min_y hI
    obtain ⟨d2, h2, e2⟩ := ih (hI.min hm) hm
    refine ⟨d1 + d2, by omega, ?_⟩
    show (pasA n (minA A)).2.2.2.2.1 = _
    rw [e2, e1, Int32.add_assoc, nI_add]
theorem LwI.ans {A : MkA} {n m : Nat} (h : LwI A n) (hn : n ≤ 100) (hI : Inv A m) (hm : m ≤ 2000) : AnsOk A := by
  obtain ⟨-, cf, gf, h2, -, -, h5, -⟩ := h
  obtain ⟨-, ⟨band, eB, hb⟩, ⟨rule, eR, hr⟩, -, -⟩ := hI.1
  obtain ⟨N, eN, hN, -, -⟩ := hI.2.2.2.2.2.1
  refine ⟨fun k _ hk => ?_, ?_, ?_, ?_, fun k hk => ?_, fun t x ht hx => ?_, ?_⟩
  · obtain ⟨d, hd, e⟩ := pas_y k hI hm
    have e2 : ∀ a b : Int32, a + b - a = b := fun a b => by rw [Int32.sub_eq_add_neg, Int32.add_comm a, Int32.add_assoc, Int32.add_comm a, Int32.add_left_neg, Int32.add_zero]
    rw [e, e2]
    exact nI_n99 (by omega)
  · obtain ⟨d, hd, e, -⟩ := cry_y hI
    rw [e]; exact nI_n99 (by omega)
  · rw [eR]; exact nI_n99 (by omega)
  · rw [eB]; exact nI_n99 (by omega)
  · have := (hI.2.2.2.2.1 _ (oa_mem hk)).2.2.2
    exact nI_n99 (by omega)
  · have hct : cf t ≤ 10500000 := by have := sN_le (f := cf) _ ht; omega
    rw [(h2 t ht).1, nI_add]
    exact nI_n99 (by omega)
  · rw [eN]; exact nI_n99 (by omega)
theorem cry_len {A : MkA} : (cryA A).1.2.1.length = A.2.1.length := by
  unfold cryA
  simp only []
  by_cases hb : bst A.2.2.1 (nat A.1.2.1) = 0
  · rw [if_pos hb]
  · rw [if_neg hb]
    by_cases hst : stp A.1 (nI (bst A.2.2.1 (nat A.1.2.1))) = true
    · rw [if_pos hst]
    · rw [if_neg hst]
      exact tsF_len _
theorem pas_len : ∀ (n : Nat) {A : MkA}, (pasA n A).2.1.length = A.2.1.length := by
  intro n
  induction n with
  | zero => intro A; rfl
  | succ n ih =>
    intro A
    show (pasA n (minA A)).2.1.length = _
    rw [ih]
    unfold minA
    by_cases h : msc (lateA A).1 = 0
    · rw [if_pos h, cry_len]; rfl
    · rw [if_neg h]; rfl
theorem StepR.len {A A' : MkA} (h : StepR A A') : A'.2.1.length = A.2.1.length :=
  h.el (P := fun A' => A'.2.1.length = A.2.1.length) (fun n _ => pas_len n) cry_len (fun _ _ => rfl) (fun _ _ => rfl) (fun _ _ => rfl) (fun t x _ _ _ => trU_len) (fun _ _ _ _ _ _ _ _ _ _ _ _ => rfl)
variable {L : Nat} {xs : Nat → Int32}
theorem trsA_y : ∀ (ts : List (List Nat × Nat × Nat)) (A : MkA) (a b : Nat), A.2.2.2.2.2.2.2.2.2.1 = nI a → A.2.2.2.2.2.2.2.2.2.2.1 = nI b → (trsA A ts).2.2.2.2.2.2.2.2.2.1 = nI (a + sF (fun i => (ts.getD i ([], 0, 0)).2.1) (List.range ts.length)) ∧ (trsA A ts).2.2.2.2.2.2.2.2.2.2.1 = nI (b + sF (fun i => (ts.getD i ([], 0, 0)).2.2) (List.range ts.length)) := by
  intro ts
  induction ts with
  | nil => intro A a b h1 h2; exact ⟨h1, h2⟩
  | cons t r ih =>
    intro A a b h1 h2
    have k := ih (trdA A t.1 (nI t.2.1) (nI t.2.2)) (a + t.2.1) (b + t.2.2) (by show A.2.2.2.2.2.2.2.2.2.1 + nI t.2.1 = _; rw [h1, nI_add]) (by show A.2.2.2.2.2.2.2.2.2.2.1 + nI t.2.2 = _; rw [h2, nI_add])
    have key : ∀ (g : (List Nat × Nat × Nat) → Nat), sF (fun i => g ((t :: r).getD i ([], 0, 0))) (List.range (t :: r).length) = g t + sF (fun i => g (r.getD i ([], 0, 0))) (List.range r.length) := by
      intro g
      rw [List.length_cons, List.range_succ_eq_map]
      show g t + sF _ _ = _
      congr 1
      have : ∀ l : List Nat, sF (fun i => g ((t :: r).getD i ([], 0, 0))) (l.map Nat.succ) = sF (fun i => g (r.getD i ([], 0, 0))) l := by
        intro l
        induction l with
        | nil => rfl
        | cons x l ih => show g _ + _ = g _ + _; rw [ih]; rfl
      exact this _
    rw [key (fun p => p.2.1), key (fun p => p.2.2), ← Nat.add_assoc, ← Nat.add_assoc]
    exact k
theorem sF_sN {g : Nat → Nat} : ∀ n, sF g (List.range n) = sN g n := by
  intro n
  induction n with
  | zero => rfl
  | succ n ih =>
    rw [List.range_succ, sF_app, ih]
    show sN g n + (g n + 0) = sN g n + g n
    omega
theorem sN_b {g : Nat → Nat} {b : Nat} (h : ∀ k, g k ≤ b) : ∀ n, sN g n ≤ b * n := by
  intro n
  induction n with
  | zero => exact Nat.zero_le _
  | succ n ih =>
    have := h n
    show sN g n + g n ≤ b * (n + 1)
    rw [Nat.mul_add]
    omega
theorem mk0_lwi : LwI (mk0 L xs) 0 := by
  have htb := sTra_b (L := L) (xs := xs)
  have hy := trsA_y (trsL L xs (sTra L xs)) (mkt0 (nI (sPer L xs)) (nI (sPri L xs)) (nI (sBan L xs)) (nI (sRul L xs))) 0 0 rfl rfl
  have hlen : (trsL L xs (sTra L xs)).length = sTra L xs := by unfold trsL; rw [List.length_map, List.length_range]
  have hat : ∀ i, i < sTra L xs → (trsL L xs (sTra L xs)).getD i ([], 0, 0) = (nms.getD i [], sCoi L xs i, sGoo L xs i) := fun i hi => by
    unfold trsL
    rw [List.getD_eq_getElem?_getD, List.getElem?_map, List.getElem?_range hi]; rfl
  have e1 : sN (fun i => ((trsL L xs (sTra L xs)).getD i ([], 0, 0)).2.1) (sTra L xs) = sN (sCoi L xs) (sTra L xs) := sN_c _ (fun k hk => by show ((trsL L xs (sTra L xs)).getD k ([], 0, 0)).2.1 = _; rw [hat k hk])
  have e2 : sN (fun i => ((trsL L xs (sTra L xs)).getD i ([], 0, 0)).2.2) (sTra L xs) = sN (sGoo L xs) (sTra L xs) := sN_c _ (fun k hk => by show ((trsL L xs (sTra L xs)).getD k ([], 0, 0)).2.2 = _; rw [hat k hk])
  rw [hlen, sF_sN, sF_sN, Nat.zero_add, Nat.zero_add, e1, e2] at hy
  have hc := sN_b (g := sCoi L xs) (b := 90000) (fun k => by have := sCoi_b (L := L) (xs := xs) (k := k); omega) (sTra L xs)
  have hg := sN_b (g := sGoo L xs) (b := 300) (fun k => by have := sGoo_b (L := L) (xs := xs) (k := k); omega) (sTra L xs)
  refine ⟨fun o ho => ?_, sCoi L xs, sGoo L xs, fun t ht => ?_, ?_, ?_, ?_, ?_⟩
  · rw [mk0_os] at ho; cases ho
  · rw [mk0_len] at ht
    rw [mk0_at ht, mk0_os]
    exact ⟨rfl, rfl, Nat.zero_le _, Nat.zero_le _⟩
  · rw [mk0_len]; exact hy.1
  · rw [mk0_len]; exact hy.2
  · rw [mk0_len]
    have : 90000 * sTra L xs ≤ 90000 * 5 := Nat.mul_le_mul_left _ htb
    omega
  · rw [mk0_len]
    have : 300 * sTra L xs ≤ 300 * 5 := Nat.mul_le_mul_left _ htb
    omega
theorem pop_rem {P : List MkA} {A B : MkA} : popA (remP P A) B = A := by
  unfold popA remP
  rw [List.getLast?_append]; rfl
theorem rem_ne {P : List MkA} {A : MkA} : remP P A ≠ [] := by
  unfold remP
  exact List.append_ne_nil_of_right_ne_nil _ (by simp)
end LWI2
