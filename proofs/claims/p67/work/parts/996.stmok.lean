section CSK
set_option maxRecDepth 100000
/-! ### a statement keeps what always holds -/
theorem bd_r {α β : Type} {x : ER ⊕ (α × Nat)} {f : α → Nat → ER ⊕ β} {y : β} (h : bd x f = .inr y) : ∃ a s, x = .inr (a, s) ∧ f a s = .inr y := by
  cases x with
  | inl e => cases h
  | inr p => exact ⟨p.1, p.2, rfl, h⟩
theorem nx_ge {bs : List Nat} {s : Nat} : s ≤ nx bs s := by unfold nx tkS; omega
theorem nx_gt {bs : List Nat} {s : Nat} (h : tkK bs s ≠ 0) : s < nx bs s := by
  have := tkN_1 h
  unfold nx tkS; omega
theorem tNum_r {bs : List Nat} {s lo hi x s' : Nat} (h : tNum bs s lo hi = .inr (x, s')) : lo ≤ x ∧ x ≤ hi ∧ s ≤ s' := by
  unfold tNum at h
  split at h
  · split at h
    · rename_i c
      cases h
      exact ⟨c.1, c.2, nx_ge⟩
    · cases h
  · cases h
theorem tRule_r {bs : List Nat} {s x s' : Nat} (h : tRule bs s = .inr (x, s')) : x ≤ 1 ∧ s ≤ s' := by
  unfold tRule at h
  split at h
  · split at h
    · cases h; exact ⟨by decide, nx_ge⟩
    · split at h
      · cases h; exact ⟨by decide, nx_ge⟩
      · cases h
  · cases h
theorem tTrd_r {bs : List Nat} {ts : List Tr} {s x s' : Nat} (h : tTrd bs ts s = .inr (x, s')) : x < ts.length ∧ s ≤ s' := by
  unfold tTrd at h
  split at h
  · split at h
    · rename_i c
      cases h; exact ⟨c, nx_ge⟩
    · cases h
  · cases h
theorem tTrd2_r {bs : List Nat} {ts : List Tr} {s a x s' : Nat} (h : tTrd2 bs ts s a = .inr (x, s')) : x < ts.length ∧ s ≤ s' := by
  unfold tTrd2 at h
  split at h
  · split at h
    · rename_i c
      split at h
      · cases h
      · cases h; exact ⟨c, nx_ge⟩
    · cases h
  · cases h
theorem tOrd_r {bs : List Nat} {os : List Od} {s x s' : Nat} (h : tOrd bs os s = .inr (x, s')) : x < os.length ∧ s ≤ s' := by
  unfold tOrd at h
  split at h
  · split at h
    · rename_i c
      cases h; exact ⟨c.2, nx_ge⟩
    · cases h
  · cases h
theorem tName_r {bs : List Nat} {ts : List Tr} {s s' : Nat} {w : List Nat} (h : tName bs ts s = .inr (w, s')) : (1 ≤ w.length ∧ w.length ≤ 4 ∧ ∀ c ∈ w, 97 ≤ c ∧ c ≤ 122) ∧ s ≤ s' := by
  unfold tName at h
  split at h
  · rename_i c
    split at h
    · cases h
    · rename_i c4
      split at h
      · cases h
      · cases h
        have hne : tkK bs s ≠ 0 := by omega
        have hl : ¬ bs.length ≤ s := fun z => hne (tkK_0.mpr z)
        refine ⟨⟨?_, by omega, tkW_l c⟩, nx_ge⟩
        rw [tkW_len (by omega)]
        exact tkN_1 hne
  · cases h
theorem tQty_r {bs : List Nat} {A : MkA} {t w l s x s' : Nat} (h : tQty bs A t w l s = .inr (x, s')) : 1 ≤ x ∧ x ≤ 99 ∧ s ≤ s' := by
  obtain ⟨q, s1, h1, h2⟩ := bd_r h
  have := tNum_r h1
  split at h2
  · cases h2; exact this
  · cases h2
theorem tLess_r {bs : List Nat} {A : MkA} {k s x s' : Nat} (h : tLess bs A k s = .inr (x, s')) : x < oQ (oa A.2.2.1 k) ∧ s ≤ s' := by
  obtain ⟨q, s1, h1, h2⟩ := bd_r h
  have := tNum_r h1
  split at h2
  · rename_i c
    cases h2; exact ⟨c, this.2.2⟩
  · cases h2
theorem tGds_r {bs : List Nat} {A : MkA} {a s x s' : Nat} (h : tGds bs A a s = .inr (x, s')) : s ≤ s' := by
  obtain ⟨q, s1, h1, h2⟩ := bd_r h
  have := tNum_r h1
  split at h2
  · cases h2
  · cases h2; exact this.2.2
theorem aOrder_ok {bs : List Nat} {A A' : MkA} {m w s s' : Nat} (hw : w ≤ 1) (hn : A.2.2.1.length ≠ 20) (h : aOrder bs A w s = .inr (A', s')) (hi : Inv A m) (hm : m ≤ 1000) : Inv A' (m + 1) ∧ s ≤ s' := by
  obtain ⟨t, s1, h1, h⟩ := bd_r h
  obtain ⟨l, s2, h2, h⟩ := bd_r h
  obtain ⟨q, s3, h3, h⟩ := bd_r h
  obtain ⟨x, s4, h4, h⟩ := bd_r h
  obtain ⟨rfl, rfl⟩ := Prod.mk.inj (Sum.inr.inj h)
  have g1 := tTrd_r h1
  have g2 := tNum_r h2
  have g3 := tQty_r h3
  have g4 := tNum_r h4
  have := hi.2.2.1
  exact ⟨hi.ord (by omega) (by omega) g1.1 ⟨hw, g2.1, g2.2.1, g3.2.1⟩, by omega⟩
theorem aArgs_ok {bs : List Nat} {A A' : MkA} {m w s s' : Nat} (h : aArgs bs w A s = .inr (A', s')) (hi : Inv A m) (hm : m ≤ 1000) (h1 : w = 1 → A.2.1.length ≠ 8) (h2 : w = 2 ∨ w = 3 → A.2.2.1.length ≠ 20) : Inv A' (m + 1) ∧ s ≤ s' := by
  have hi1 : Inv A (m + 1) := hi.mono (by omega)
  have hw : w = 0 ∨ w = 1 ∨ w = 2 ∨ w = 3 ∨ w = 4 ∨ w = 5 ∨ w = 6 ∨ w = 7 ∨ w = 8 ∨ w = 9 ∨ w = 10 ∨ w = 11 ∨ w = 12 ∨ ∃ k, w = k + 13 := by
    by_cases c : 13 ≤ w
    · exact Or.inr (Or.inr (Or.inr (Or.inr (Or.inr (Or.inr (Or.inr (Or.inr (Or.inr (Or.inr (Or.inr (Or.inr (Or.inr ⟨w - 13, by omega⟩))))))))))))
    · omega
  rcases hw with rfl | rfl | rfl | rfl | rfl | rfl | rfl | rfl | rfl | rfl | rfl | rfl | rfl | ⟨k, rfl⟩
  · have h : aMarket bs s = .inr (A', s') := h
    obtain ⟨p, s1, e1, h⟩ := bd_r h
    obtain ⟨l, s2, e2, h⟩ := bd_r h
    obtain ⟨b, s3, e3, h⟩ := bd_r h
    obtain ⟨u, s4, e4, h⟩ := bd_r h
    obtain ⟨rfl, rfl⟩ := Prod.mk.inj (Sum.inr.inj h)
    have g1 := tNum_r e1
    have g2 := tNum_r e2
    have g3 := tNum_r e3
    have g4 := tRule_r e4
    exact ⟨Inv.mkt ⟨g1.1, g1.2.1⟩ ⟨g2.1, g2.2.1⟩ g3.2.1 g4.1, by omega⟩
  · have h : aTrader bs A s = .inr (A', s') := h
    obtain ⟨w, s1, e1, h⟩ := bd_r h
    obtain ⟨c, s2, e2, h⟩ := bd_r h
    obtain ⟨g, s3, e3, h⟩ := bd_r h
    obtain ⟨rfl, rfl⟩ := Prod.mk.inj (Sum.inr.inj h)
    have g1 := tName_r e1
    have g2 := tNum_r e2
    have g3 := tNum_r e3
    have := hi.2.2.2.1
    have := h1 rfl
    exact ⟨hi1.trd (by omega) g2.2.1 g1.1, by omega⟩
  · exact aOrder_ok (w := 0) (by decide) (h2 (Or.inl rfl)) h hi hm
  · exact aOrder_ok (w := 1) (by decide) (h2 (Or.inr rfl)) h hi hm
  · have h : aWithdraw bs A s = .inr (A', s') := h
    obtain ⟨k, s1, e1, h⟩ := bd_r h
    obtain ⟨rfl, rfl⟩ := Prod.mk.inj (Sum.inr.inj h)
    have g1 := tOrd_r e1
    exact ⟨hi1.drp, by omega⟩
  · have h : aAmend bs A s = .inr (A', s') := h
    obtain ⟨k, s1, e1, h⟩ := bd_r h
    obtain ⟨q, s2, e2, h⟩ := bd_r h
    obtain ⟨rfl, rfl⟩ := Prod.mk.inj (Sum.inr.inj h)
    have g1 := tOrd_r e1
    have g2 := tLess_r e2
    exact ⟨hi1.amd g1.1 g2.1, by omega⟩
  · have h : aExtend bs A s = .inr (A', s') := h
    obtain ⟨k, s1, e1, h⟩ := bd_r h
    obtain ⟨q, s2, e2, h⟩ := bd_r h
    obtain ⟨rfl, rfl⟩ := Prod.mk.inj (Sum.inr.inj h)
    have g1 := tOrd_r e1
    have g2 := tNum_r e2
    exact ⟨hi1.ext g1.1, by omega⟩
  · have h : aClear bs A s = .inr (A', s') := h
    obtain ⟨k, s1, e1, h⟩ := bd_r h
    obtain ⟨rfl, rfl⟩ := Prod.mk.inj (Sum.inr.inj h)
    have g1 := tTrd_r e1
    exact ⟨hi1.wos List.filter_sublist, by omega⟩
  · have h : aGive bs A s = .inr (A', s') := h
    obtain ⟨a, s1, e1, h⟩ := bd_r h
    obtain ⟨b, s2, e2, h⟩ := bd_r h
    obtain ⟨g, s3, e3, h⟩ := bd_r h
    obtain ⟨rfl, rfl⟩ := Prod.mk.inj (Sum.inr.inj h)
    have g1 := tTrd_r e1
    have g2 := tTrd2_r e2
    have g3 := tGds_r e3
    exact ⟨hi1.giv, by omega⟩
  · have h : aPeriod bs A s = .inr (A', s') := h
    obtain ⟨x, s1, e1, h⟩ := bd_r h
    obtain ⟨rfl, rfl⟩ := Prod.mk.inj (Sum.inr.inj h)
    have g1 := tNum_r e1
    exact ⟨hi1.per g1.1 g1.2.1, by omega⟩
  · have h : aRule bs A s = .inr (A', s') := h
    obtain ⟨x, s1, e1, h⟩ := bd_r h
    obtain ⟨rfl, rfl⟩ := Prod.mk.inj (Sum.inr.inj h)
    have g1 := tRule_r e1
    exact ⟨hi1.rul g1.1, by omega⟩
  · have h : aBand bs A s = .inr (A', s') := h
    obtain ⟨x, s1, e1, h⟩ := bd_r h
    obtain ⟨rfl, rfl⟩ := Prod.mk.inj (Sum.inr.inj h)
    have g1 := tNum_r e1
    exact ⟨hi1.ban g1.2.1, by omega⟩
  · have h : aPass bs A s = .inr (A', s') := h
    obtain ⟨x, s1, e1, h⟩ := bd_r h
    obtain ⟨rfl, rfl⟩ := Prod.mk.inj (Sum.inr.inj h)
    have g1 := tNum_r e1
    exact ⟨hi1.pas x (by omega), by omega⟩
  · have h : aCry A s = .inr (A', s') := h
    obtain ⟨rfl, rfl⟩ := Prod.mk.inj (Sum.inr.inj h)
    exact ⟨hi1.cry (by omega), Nat.le_refl _⟩
theorem stm_ok {bs : List Nat} {first : Bool} {A A' : MkA} {m s s' : Nat} (h : stm bs first A s = .inr (A', s')) (hi : Inv A m) (hm : m ≤ 1000) : Inv A' (m + 1) ∧ s < s' := by
  unfold stm at h
  split at h
  · cases h
  · split at h
    · cases h
    · rename_i c1
      split at h
      · cases h
      · rename_i c2
        obtain ⟨A1, s1, h1, h2⟩ := bd_r h
        split at h2
        · rename_i c3
          obtain ⟨rfl, rfl⟩ := Prod.mk.inj (Sum.inr.inj h2)
          have g := aArgs_ok h1 hi hm (fun z q => c1 ⟨z, q⟩) (fun z q => c2 ⟨z, q⟩)
          have g2 := nx_gt (bs := bs) (s := s1) (by omega)
          have g3 := nx_ge (bs := bs) (s := s)
          exact ⟨g.1, by omega⟩
        · cases h2
theorem mk00_ok : Inv mk00 0 := Inv.mkt (p := 1) (l := 1) (b := 0) (u := 0) (m := 0) (by decide) (by decide) (by decide) (by decide)
theorem prs_ok {bs : List Nat} : ∀ (n m : Nat) (A A' : MkA) (s : Nat), Inv A m → m + n ≤ 1000 → prs bs n A s = .inr A' → Inv A' (m + n) := by
  intro n
  induction n with
  | zero => intro m A A' s _ _ h; cases h
  | succ n ih =>
    intro m A A' s hi hm h
    rw [prs] at h
    split at h
    · cases h; exact hi.mono (by omega)
    · split at h
      · cases h
      · rename_i p hp
        have g := stm_ok (A' := p.1) (s' := p.2) hp hi (by omega)
        have := ih (m + 1) p.1 A' p.2 g.1 (by omega) h
        exact this.mono (by omega)
theorem parse_ok {bs : List Nat} {A : MkA} (h : parse bs = .inr A) : Inv A 601 := by
  unfold parse at h
  split at h
  · cases h
  · rename_i p hp
    have g := stm_ok (A' := p.1) (s' := p.2) hp mk00_ok (by decide)
    exact prs_ok 600 1 p.1 A p.2 g.1 (by decide) h
end CSK
