section OG0
set_option maxRecDepth 100000
/-! ### one call of the class's in the law -/
variable {Mt : gM} {d mc ms : Nat} {h0 : gH} {Q : Option Value → gH → Prop} {QX : String → gH → Prop} {c9 n9 pc : Nat} {ls : List (Option Value)} {rest : List Value} {r : gH} {X : NsT} {V : VwT} {m idx : Nat}
theorem oG_coinsOf {p0 : Int32} (hR : NR X V) (hV : InV V m) (hb : isTr V.1 p0 = true) (hd : decode (mC Mt) pc = .ok (.invokevirtual idx, 3)) (hlk : gLkV (mY Mt).cls idx m8_coinsOf 1) (hT : mT Mt = []) (hdd : 8 ≤ d) (hcat : (rest.map fun v => v.category).sum ≤ 8) (hc : c9 + 1 ≤ mc) (hn : n9 + 6 ≤ ms)
    (k : ∀ X' : NsT, NR X' V → G Mt d mc ms h0 Q QX (c9 + 1) (n9 + 6) (pc + 3) ls (.int ((ta V.1.2.1 (nat p0)).2.1) :: rest) (hX X' r)) : G Mt d mc ms h0 Q QX c9 n9 pc ls (.int p0 :: .ref 0 :: rest) (hX X r) := by
  obtain ⟨Z, T, B, Y, C, O, S, ZD, TD, BD, YD, c, n, k9, v⟩ := X
  have hR9 := hR
  obtain ⟨hA, hC, hO, hS, hE, hD, hH, hSl⟩ := hR9
  refine g_callV (ci := 8) [0, 1, 2, 3, 4, 5, 6, 7, 8, 9, 10, 11, 12, 13, 14, 15, 16, 17, 18, 19] (c8_coinsOf hA) hd hlk rfl rfl rfl rfl hX_sN (Or.inl (gAllS rfl)) hT hdd hcat hc hn (fun X9 h9 z => ?_) ?_
  · have z1 := z.1
    rw [hb] at z1; cases z1
  · rintro u h1 ⟨-, rfl, rfl⟩
    rw [hX_pN]
    exact k _ hR
theorem oG_goodsOf {p0 : Int32} (hR : NR X V) (hV : InV V m) (hb : isTr V.1 p0 = true) (hd : decode (mC Mt) pc = .ok (.invokevirtual idx, 3)) (hlk : gLkV (mY Mt).cls idx m8_goodsOf 1) (hT : mT Mt = []) (hdd : 8 ≤ d) (hcat : (rest.map fun v => v.category).sum ≤ 8) (hc : c9 + 1 ≤ mc) (hn : n9 + 6 ≤ ms)
    (k : ∀ X' : NsT, NR X' V → G Mt d mc ms h0 Q QX (c9 + 1) (n9 + 6) (pc + 3) ls (.int ((ta V.1.2.1 (nat p0)).2.2) :: rest) (hX X' r)) : G Mt d mc ms h0 Q QX c9 n9 pc ls (.int p0 :: .ref 0 :: rest) (hX X r) := by
  obtain ⟨Z, T, B, Y, C, O, S, ZD, TD, BD, YD, c, n, k9, v⟩ := X
  have hR9 := hR
  obtain ⟨hA, hC, hO, hS, hE, hD, hH, hSl⟩ := hR9
  refine g_callV (ci := 8) [0, 1, 2, 3, 4, 5, 6, 7, 8, 9, 10, 11, 12, 13, 14, 15, 16, 17, 18, 19] (c8_goodsOf hA) hd hlk rfl rfl rfl rfl hX_sN (Or.inl (gAllS rfl)) hT hdd hcat hc hn (fun X9 h9 z => ?_) ?_
  · have z1 := z.1
    rw [hb] at z1; cases z1
  · rintro u h1 ⟨-, rfl, rfl⟩
    rw [hX_pN]
    exact k _ hR
theorem oG_freeCoins {p0 : Int32} (hR : NR X V) (hV : InV V m) (hb : isTr V.1 p0 = true) (hd : decode (mC Mt) pc = .ok (.invokevirtual idx, 3)) (hlk : gLkV (mY Mt).cls idx m8_freeCoins 1) (hT : mT Mt = []) (hdd : 8 ≤ d) (hcat : (rest.map fun v => v.category).sum ≤ 8) (hc : c9 + 1 ≤ mc) (hn : n9 + 6 ≤ ms)
    (k : ∀ X' : NsT, NR X' V → G Mt d mc ms h0 Q QX (c9 + 1) (n9 + 6) (pc + 3) ls (.int ((ta V.1.2.1 (nat p0)).2.1 - nI (heldC V.1.2.2.1 (nat p0))) :: rest) (hX X' r)) : G Mt d mc ms h0 Q QX c9 n9 pc ls (.int p0 :: .ref 0 :: rest) (hX X r) := by
  obtain ⟨Z, T, B, Y, C, O, S, ZD, TD, BD, YD, c, n, k9, v⟩ := X
  have hR9 := hR
  obtain ⟨hA, hC, hO, hS, hE, hD, hH, hSl⟩ := hR9
  refine g_callV (ci := 8) [0, 1, 2, 3, 4, 5, 6, 7, 8, 9, 10, 11, 12, 13, 14, 15, 16, 17, 18, 19] (c8_freeCoins hA) hd hlk rfl rfl rfl rfl hX_sN (Or.inl (gAllS rfl)) hT hdd hcat hc hn (fun X9 h9 z => ?_) ?_
  · have z1 := z.1
    rw [hb] at z1; cases z1
  · rintro u h1 ⟨-, rfl, rfl⟩
    rw [hX_pN]
    exact k _ hR
theorem oG_freeGoods {p0 : Int32} (hR : NR X V) (hV : InV V m) (hb : isTr V.1 p0 = true) (hd : decode (mC Mt) pc = .ok (.invokevirtual idx, 3)) (hlk : gLkV (mY Mt).cls idx m8_freeGoods 1) (hT : mT Mt = []) (hdd : 8 ≤ d) (hcat : (rest.map fun v => v.category).sum ≤ 8) (hc : c9 + 1 ≤ mc) (hn : n9 + 6 ≤ ms)
    (k : ∀ X' : NsT, NR X' V → G Mt d mc ms h0 Q QX (c9 + 1) (n9 + 6) (pc + 3) ls (.int ((ta V.1.2.1 (nat p0)).2.2 - nI (heldG V.1.2.2.1 (nat p0))) :: rest) (hX X' r)) : G Mt d mc ms h0 Q QX c9 n9 pc ls (.int p0 :: .ref 0 :: rest) (hX X r) := by
  obtain ⟨Z, T, B, Y, C, O, S, ZD, TD, BD, YD, c, n, k9, v⟩ := X
  have hR9 := hR
  obtain ⟨hA, hC, hO, hS, hE, hD, hH, hSl⟩ := hR9
  refine g_callV (ci := 8) [0, 1, 2, 3, 4, 5, 6, 7, 8, 9, 10, 11, 12, 13, 14, 15, 16, 17, 18, 19] (c8_freeGoods hA) hd hlk rfl rfl rfl rfl hX_sN (Or.inl (gAllS rfl)) hT hdd hcat hc hn (fun X9 h9 z => ?_) ?_
  · have z1 := z.1
    rw [hb] at z1; cases z1
  · rintro u h1 ⟨-, rfl, rfl⟩
    rw [hX_pN]
    exact k _ hR
theorem oG_orderAt {p0 : Int32} (hR : NR X V) (hV : InV V m) (hb : isAt V.1 p0 = true) (hd : decode (mC Mt) pc = .ok (.invokevirtual idx, 3)) (hlk : gLkV (mY Mt).cls idx m8_orderAt 1) (hT : mT Mt = []) (hdd : 8 ≤ d) (hcat : (rest.map fun v => v.category).sum ≤ 8) (hc : c9 + 1 ≤ mc) (hn : n9 + 6 ≤ ms)
    (k : ∀ X' : NsT, NR X' V → G Mt d mc ms h0 Q QX (c9 + 1) (n9 + 6) (pc + 3) ls (.int ((oa V.1.2.2.1 (nat p0)).1) :: rest) (hX X' r)) : G Mt d mc ms h0 Q QX c9 n9 pc ls (.int p0 :: .ref 0 :: rest) (hX X r) := by
  obtain ⟨Z, T, B, Y, C, O, S, ZD, TD, BD, YD, c, n, k9, v⟩ := X
  have hR9 := hR
  obtain ⟨hA, hC, hO, hS, hE, hD, hH, hSl⟩ := hR9
  refine g_callV (ci := 8) [0, 1, 2, 3, 4, 5, 6, 7, 8, 9, 10, 11, 12, 13, 14, 15, 16, 17, 18, 19] (c8_orderAt hA) hd hlk rfl rfl rfl rfl hX_sN (Or.inl (gAllS rfl)) hT hdd hcat hc hn (fun X9 h9 z => ?_) ?_
  · have z1 := z.1
    rw [hb] at z1; cases z1
  · rintro u h1 ⟨-, rfl, rfl⟩
    rw [hX_pN]
    exact k _ hR
theorem oG_traderOf {p0 : Int32} (hR : NR X V) (hV : InV V m) (hb : isOr V.1 p0 = true) (hd : decode (mC Mt) pc = .ok (.invokevirtual idx, 3)) (hlk : gLkV (mY Mt).cls idx m8_traderOf 1) (hT : mT Mt = []) (hdd : 8 ≤ d) (hcat : (rest.map fun v => v.category).sum ≤ 8) (hc : c9 + 1 ≤ mc) (hn : n9 + 6 ≤ ms)
    (k : ∀ X' : NsT, NR X' V → G Mt d mc ms h0 Q QX (c9 + 1) (n9 + 6) (pc + 3) ls (.int (nI (oT (oa V.1.2.2.1 (ixO V.1 p0)))) :: rest) (hX X' r)) : G Mt d mc ms h0 Q QX c9 n9 pc ls (.int p0 :: .ref 0 :: rest) (hX X r) := by
  obtain ⟨Z, T, B, Y, C, O, S, ZD, TD, BD, YD, c, n, k9, v⟩ := X
  have hR9 := hR
  obtain ⟨hA, hC, hO, hS, hE, hD, hH, hSl⟩ := hR9
  refine g_callV (ci := 8) [0, 1, 2, 3, 4, 5, 6, 7, 8, 9, 10, 11, 12, 13, 14, 15, 16, 17, 18, 19] (c8_traderOf hA) hd hlk rfl rfl rfl rfl hX_sN (Or.inl (gAllS rfl)) hT hdd hcat hc hn (fun X9 h9 z => ?_) ?_
  · have z1 := z.1
    rw [hb] at z1; cases z1
  · rintro u h1 ⟨-, rfl, rfl⟩
    rw [hX_pN]
    exact k _ hR
theorem oG_sideOf {p0 : Int32} (hR : NR X V) (hV : InV V m) (hb : isOr V.1 p0 = true) (hd : decode (mC Mt) pc = .ok (.invokevirtual idx, 3)) (hlk : gLkV (mY Mt).cls idx m8_sideOf 1) (hT : mT Mt = []) (hdd : 8 ≤ d) (hcat : (rest.map fun v => v.category).sum ≤ 8) (hc : c9 + 1 ≤ mc) (hn : n9 + 6 ≤ ms)
    (k : ∀ X' : NsT, NR X' V → G Mt d mc ms h0 Q QX (c9 + 1) (n9 + 6) (pc + 3) ls (.int (nI (oS (oa V.1.2.2.1 (ixO V.1 p0)))) :: rest) (hX X' r)) : G Mt d mc ms h0 Q QX c9 n9 pc ls (.int p0 :: .ref 0 :: rest) (hX X r) := by
  obtain ⟨Z, T, B, Y, C, O, S, ZD, TD, BD, YD, c, n, k9, v⟩ := X
  have hR9 := hR
  obtain ⟨hA, hC, hO, hS, hE, hD, hH, hSl⟩ := hR9
  refine g_callV (ci := 8) [0, 1, 2, 3, 4, 5, 6, 7, 8, 9, 10, 11, 12, 13, 14, 15, 16, 17, 18, 19] (c8_sideOf hA) hd hlk rfl rfl rfl rfl hX_sN (Or.inl (gAllS rfl)) hT hdd hcat hc hn (fun X9 h9 z => ?_) ?_
  · have z1 := z.1
    rw [hb] at z1; cases z1
  · rintro u h1 ⟨-, rfl, rfl⟩
    rw [hX_pN]
    exact k _ hR
theorem oG_limitOf {p0 : Int32} (hR : NR X V) (hV : InV V m) (hb : isOr V.1 p0 = true) (hd : decode (mC Mt) pc = .ok (.invokevirtual idx, 3)) (hlk : gLkV (mY Mt).cls idx m8_limitOf 1) (hT : mT Mt = []) (hdd : 8 ≤ d) (hcat : (rest.map fun v => v.category).sum ≤ 8) (hc : c9 + 1 ≤ mc) (hn : n9 + 6 ≤ ms)
    (k : ∀ X' : NsT, NR X' V → G Mt d mc ms h0 Q QX (c9 + 1) (n9 + 6) (pc + 3) ls (.int (nI (oL (oa V.1.2.2.1 (ixO V.1 p0)))) :: rest) (hX X' r)) : G Mt d mc ms h0 Q QX c9 n9 pc ls (.int p0 :: .ref 0 :: rest) (hX X r) := by
  obtain ⟨Z, T, B, Y, C, O, S, ZD, TD, BD, YD, c, n, k9, v⟩ := X
  have hR9 := hR
  obtain ⟨hA, hC, hO, hS, hE, hD, hH, hSl⟩ := hR9
  refine g_callV (ci := 8) [0, 1, 2, 3, 4, 5, 6, 7, 8, 9, 10, 11, 12, 13, 14, 15, 16, 17, 18, 19] (c8_limitOf hA) hd hlk rfl rfl rfl rfl hX_sN (Or.inl (gAllS rfl)) hT hdd hcat hc hn (fun X9 h9 z => ?_) ?_
  · have z1 := z.1
    rw [hb] at z1; cases z1
  · rintro u h1 ⟨-, rfl, rfl⟩
    rw [hX_pN]
    exact k _ hR
theorem oG_quantityOf {p0 : Int32} (hR : NR X V) (hV : InV V m) (hb : isOr V.1 p0 = true) (hd : decode (mC Mt) pc = .ok (.invokevirtual idx, 3)) (hlk : gLkV (mY Mt).cls idx m8_quantityOf 1) (hT : mT Mt = []) (hdd : 8 ≤ d) (hcat : (rest.map fun v => v.category).sum ≤ 8) (hc : c9 + 1 ≤ mc) (hn : n9 + 6 ≤ ms)
    (k : ∀ X' : NsT, NR X' V → G Mt d mc ms h0 Q QX (c9 + 1) (n9 + 6) (pc + 3) ls (.int (nI (oQ (oa V.1.2.2.1 (ixO V.1 p0)))) :: rest) (hX X' r)) : G Mt d mc ms h0 Q QX c9 n9 pc ls (.int p0 :: .ref 0 :: rest) (hX X r) := by
  obtain ⟨Z, T, B, Y, C, O, S, ZD, TD, BD, YD, c, n, k9, v⟩ := X
  have hR9 := hR
  obtain ⟨hA, hC, hO, hS, hE, hD, hH, hSl⟩ := hR9
  refine g_callV (ci := 8) [0, 1, 2, 3, 4, 5, 6, 7, 8, 9, 10, 11, 12, 13, 14, 15, 16, 17, 18, 19] (c8_quantityOf hA) hd hlk rfl rfl rfl rfl hX_sN (Or.inl (gAllS rfl)) hT hdd hcat hc hn (fun X9 h9 z => ?_) ?_
  · have z1 := z.1
    rw [hb] at z1; cases z1
  · rintro u h1 ⟨-, rfl, rfl⟩
    rw [hX_pN]
    exact k _ hR
theorem oG_minutesLeft {p0 : Int32} (hR : NR X V) (hV : InV V m) (hb : isOr V.1 p0 = true) (hd : decode (mC Mt) pc = .ok (.invokevirtual idx, 3)) (hlk : gLkV (mY Mt).cls idx m8_minutesLeft 1) (hT : mT Mt = []) (hdd : 8 ≤ d) (hcat : (rest.map fun v => v.category).sum ≤ 8) (hc : c9 + 1 ≤ mc) (hn : n9 + 6 ≤ ms)
    (k : ∀ X' : NsT, NR X' V → G Mt d mc ms h0 Q QX (c9 + 1) (n9 + 6) (pc + 3) ls (.int (oM (oa V.1.2.2.1 (ixO V.1 p0)) - V.1.1.1 + 1) :: rest) (hX X' r)) : G Mt d mc ms h0 Q QX c9 n9 pc ls (.int p0 :: .ref 0 :: rest) (hX X r) := by
  obtain ⟨Z, T, B, Y, C, O, S, ZD, TD, BD, YD, c, n, k9, v⟩ := X
  have hR9 := hR
  obtain ⟨hA, hC, hO, hS, hE, hD, hH, hSl⟩ := hR9
  refine g_callV (ci := 8) [0, 1, 2, 3, 4, 5, 6, 7, 8, 9, 10, 11, 12, 13, 14, 15, 16, 17, 18, 19] (c8_minutesLeft hA) hd hlk rfl rfl rfl rfl hX_sN (Or.inl (gAllS rfl)) hT hdd hcat hc hn (fun X9 h9 z => ?_) ?_
  · have z1 := z.1
    rw [hb] at z1; cases z1
  · rintro u h1 ⟨-, rfl, rfl⟩
    rw [hX_pN]
    exact k _ hR
theorem oG_rankOf {p0 : Int32} (hR : NR X V) (hV : InV V m) (hb : isOr V.1 p0 = true) (hd : decode (mC Mt) pc = .ok (.invokevirtual idx, 3)) (hlk : gLkV (mY Mt).cls idx m8_rankOf 1) (hT : mT Mt = []) (hdd : 8 ≤ d) (hcat : (rest.map fun v => v.category).sum ≤ 8) (hc : c9 + 1 ≤ mc) (hn : n9 + 6 ≤ ms)
    (k : ∀ X' : NsT, NR X' V → G Mt d mc ms h0 Q QX (c9 + 1) (n9 + 6) (pc + 3) ls (.int (nI (cn V.1.2.2.1 (oS (oa V.1.2.2.1 (ixO V.1 p0))) (fun y => ahd V.1.2.2.1 (oS (oa V.1.2.2.1 (ixO V.1 p0))) y (ixO V.1 p0)) V.1.2.2.1.length)) :: rest) (hX X' r)) : G Mt d mc ms h0 Q QX c9 n9 pc ls (.int p0 :: .ref 0 :: rest) (hX X r) := by
  obtain ⟨Z, T, B, Y, C, O, S, ZD, TD, BD, YD, c, n, k9, v⟩ := X
  have hR9 := hR
  obtain ⟨hA, hC, hO, hS, hE, hD, hH, hSl⟩ := hR9
  refine g_callV (ci := 8) [0, 1, 2, 3, 4, 5, 6, 7, 8, 9, 10, 11, 12, 13, 14, 15, 16, 17, 18, 19] (c8_rankOf hA hC) hd hlk rfl rfl rfl rfl hX_sN (Or.inl (gAllS rfl)) hT hdd hcat hc hn (fun X9 h9 z => ?_) ?_
  · have z1 := z.1
    rw [hb] at z1; cases z1
  · rintro u h1 ⟨-, rfl, C', rfl, hC'⟩
    rw [hX_pN]
    exact k (Z, T, B, Y, C', O, S, ZD, TD, BD, YD, c, n, k9, v) ⟨hA, hC', hO, hS, hE, hD, hH, hSl⟩
theorem oG_demandAt {p0 : Int32} (hR : NR X V) (hV : InV V m) (hb : inI p0 1 999 = true) (hd : decode (mC Mt) pc = .ok (.invokevirtual idx, 3)) (hlk : gLkV (mY Mt).cls idx m8_demandAt 1) (hT : mT Mt = []) (hdd : 8 ≤ d) (hcat : (rest.map fun v => v.category).sum ≤ 8) (hc : c9 + 1 ≤ mc) (hn : n9 + 6 ≤ ms)
    (k : ∀ X' : NsT, NR X' V → G Mt d mc ms h0 Q QX (c9 + 1) (n9 + 6) (pc + 3) ls (.int (nI (dem V.1.2.2.1 (nat p0))) :: rest) (hX X' r)) : G Mt d mc ms h0 Q QX c9 n9 pc ls (.int p0 :: .ref 0 :: rest) (hX X r) := by
  obtain ⟨Z, T, B, Y, C, O, S, ZD, TD, BD, YD, c, n, k9, v⟩ := X
  have hR9 := hR
  obtain ⟨hA, hC, hO, hS, hE, hD, hH, hSl⟩ := hR9
  refine g_callV (ci := 8) [0, 1, 2, 3, 4, 5, 6, 7, 8, 9, 10, 11, 12, 13, 14, 15, 16, 17, 18, 19] (c8_demandAt hA) hd hlk rfl rfl rfl rfl hX_sN (Or.inl (gAllS rfl)) hT hdd hcat hc hn (fun X9 h9 z => ?_) ?_
  · have z1 := z.1
    rw [hb] at z1; cases z1
  · rintro u h1 ⟨-, rfl, rfl⟩
    rw [hX_pN]
    exact k _ hR
theorem oG_supplyAt {p0 : Int32} (hR : NR X V) (hV : InV V m) (hb : inI p0 1 999 = true) (hd : decode (mC Mt) pc = .ok (.invokevirtual idx, 3)) (hlk : gLkV (mY Mt).cls idx m8_supplyAt 1) (hT : mT Mt = []) (hdd : 8 ≤ d) (hcat : (rest.map fun v => v.category).sum ≤ 8) (hc : c9 + 1 ≤ mc) (hn : n9 + 6 ≤ ms)
    (k : ∀ X' : NsT, NR X' V → G Mt d mc ms h0 Q QX (c9 + 1) (n9 + 6) (pc + 3) ls (.int (nI (sup V.1.2.2.1 (nat p0))) :: rest) (hX X' r)) : G Mt d mc ms h0 Q QX c9 n9 pc ls (.int p0 :: .ref 0 :: rest) (hX X r) := by
  obtain ⟨Z, T, B, Y, C, O, S, ZD, TD, BD, YD, c, n, k9, v⟩ := X
  have hR9 := hR
  obtain ⟨hA, hC, hO, hS, hE, hD, hH, hSl⟩ := hR9
  refine g_callV (ci := 8) [0, 1, 2, 3, 4, 5, 6, 7, 8, 9, 10, 11, 12, 13, 14, 15, 16, 17, 18, 19] (c8_supplyAt hA) hd hlk rfl rfl rfl rfl hX_sN (Or.inl (gAllS rfl)) hT hdd hcat hc hn (fun X9 h9 z => ?_) ?_
  · have z1 := z.1
    rw [hb] at z1; cases z1
  · rintro u h1 ⟨-, rfl, rfl⟩
    rw [hX_pN]
    exact k _ hR
theorem oG_volumeAt {p0 : Int32} (hR : NR X V) (hV : InV V m) (hb : inI p0 1 999 = true) (hd : decode (mC Mt) pc = .ok (.invokevirtual idx, 3)) (hlk : gLkV (mY Mt).cls idx m8_volumeAt 1) (hT : mT Mt = []) (hdd : 8 ≤ d) (hcat : (rest.map fun v => v.category).sum ≤ 8) (hc : c9 + 1 ≤ mc) (hn : n9 + 6 ≤ ms)
    (k : ∀ X' : NsT, NR X' V → G Mt d mc ms h0 Q QX (c9 + 1) (n9 + 6) (pc + 3) ls (.int (nI (vol V.1.2.2.1 (nat p0))) :: rest) (hX X' r)) : G Mt d mc ms h0 Q QX c9 n9 pc ls (.int p0 :: .ref 0 :: rest) (hX X r) := by
  obtain ⟨Z, T, B, Y, C, O, S, ZD, TD, BD, YD, c, n, k9, v⟩ := X
  have hR9 := hR
  obtain ⟨hA, hC, hO, hS, hE, hD, hH, hSl⟩ := hR9
  refine g_callV (ci := 8) [0, 1, 2, 3, 4, 5, 6, 7, 8, 9, 10, 11, 12, 13, 14, 15, 16, 17, 18, 19] (c8_volumeAt hA) hd hlk rfl rfl rfl rfl hX_sN (Or.inl (gAllS rfl)) hT hdd hcat hc hn (fun X9 h9 z => ?_) ?_
  · have z1 := z.1
    rw [hb] at z1; cases z1
  · rintro u h1 ⟨-, rfl, rfl⟩
    rw [hX_pN]
    exact k _ hR
theorem oG_excessAt {p0 : Int32} (hR : NR X V) (hV : InV V m) (hb : inI p0 1 999 = true) (hd : decode (mC Mt) pc = .ok (.invokevirtual idx, 3)) (hlk : gLkV (mY Mt).cls idx m8_excessAt 1) (hT : mT Mt = []) (hdd : 8 ≤ d) (hcat : (rest.map fun v => v.category).sum ≤ 8) (hc : c9 + 1 ≤ mc) (hn : n9 + 6 ≤ ms)
    (k : ∀ X' : NsT, NR X' V → G Mt d mc ms h0 Q QX (c9 + 1) (n9 + 6) (pc + 3) ls (.int (nI (dem V.1.2.2.1 (nat p0)) - nI (sup V.1.2.2.1 (nat p0))) :: rest) (hX X' r)) : G Mt d mc ms h0 Q QX c9 n9 pc ls (.int p0 :: .ref 0 :: rest) (hX X r) := by
  obtain ⟨Z, T, B, Y, C, O, S, ZD, TD, BD, YD, c, n, k9, v⟩ := X
  have hR9 := hR
  obtain ⟨hA, hC, hO, hS, hE, hD, hH, hSl⟩ := hR9
  refine g_callV (ci := 8) [0, 1, 2, 3, 4, 5, 6, 7, 8, 9, 10, 11, 12, 13, 14, 15, 16, 17, 18, 19] (c8_excessAt hA) hd hlk rfl rfl rfl rfl hX_sN (Or.inl (gAllS rfl)) hT hdd hcat hc hn (fun X9 h9 z => ?_) ?_
  · have z1 := z.1
    rw [hb] at z1; cases z1
  · rintro u h1 ⟨-, rfl, rfl⟩
    rw [hX_pN]
    exact k _ hR
theorem oG_fillOf {p0 : Int32} (hR : NR X V) (hV : InV V m) (hb : isOr V.1 p0 = true) (hd : decode (mC Mt) pc = .ok (.invokevirtual idx, 3)) (hlk : gLkV (mY Mt).cls idx m8_fillOf 1) (hT : mT Mt = []) (hdd : 8 ≤ d) (hcat : (rest.map fun v => v.category).sum ≤ 8) (hc : c9 + 1 ≤ mc) (hn : n9 + 6 ≤ ms)
    (k : ∀ X' : NsT, NR X' V → G Mt d mc ms h0 Q QX (c9 + 1) (n9 + 6) (pc + 3) ls (.int (nI (qf V.1 (ixO V.1 p0))) :: rest) (hX X' r)) : G Mt d mc ms h0 Q QX c9 n9 pc ls (.int p0 :: .ref 0 :: rest) (hX X r) := by
  obtain ⟨Z, T, B, Y, C, O, S, ZD, TD, BD, YD, c, n, k9, v⟩ := X
  have hR9 := hR
  obtain ⟨hA, hC, hO, hS, hE, hD, hH, hSl⟩ := hR9
  refine g_callV (ci := 8) [0, 1, 2, 3, 4, 5, 6, 7, 8, 9, 10, 11, 12, 13, 14, 15, 16, 17, 18, 19] (c8_fillOf hA hV.1.1 hC) hd hlk rfl rfl rfl rfl hX_sN (Or.inl (gAllS rfl)) hT hdd hcat hc hn (fun X9 h9 z => ?_) ?_
  · have z1 := z.1
    rw [hb] at z1; cases z1
  · rintro u h1 ⟨-, rfl, C', rfl, hC'⟩
    rw [hX_pN]
    exact k (Z, T, B, Y, C', O, S, ZD, TD, BD, YD, c, n, k9, v) ⟨hA, hC', hO, hS, hE, hD, hH, hSl⟩
theorem oG_lastLimit {p0 : Int32} (hR : NR X V) (hV : InV V m) (hb : inI p0 0 1 = true) (hd : decode (mC Mt) pc = .ok (.invokevirtual idx, 3)) (hlk : gLkV (mY Mt).cls idx m8_lastLimit 1) (hT : mT Mt = []) (hdd : 8 ≤ d) (hcat : (rest.map fun v => v.category).sum ≤ 8) (hc : c9 + 1 ≤ mc) (hn : n9 + 6 ≤ ms)
    (k : ∀ X' : NsT, NR X' V → ∀ x : Int32, LaF V.1.2.2.1 (nat p0) (qf V.1) V.1.2.2.1.length x → G Mt d mc ms h0 Q QX (c9 + 1) (n9 + 6) (pc + 3) ls (.int (x) :: rest) (hX X' r)) : G Mt d mc ms h0 Q QX c9 n9 pc ls (.int p0 :: .ref 0 :: rest) (hX X r) := by
  obtain ⟨Z, T, B, Y, C, O, S, ZD, TD, BD, YD, c, n, k9, v⟩ := X
  have hR9 := hR
  obtain ⟨hA, hC, hO, hS, hE, hD, hH, hSl⟩ := hR9
  refine g_callV (ci := 8) [0, 1, 2, 3, 4, 5, 6, 7, 8, 9, 10, 11, 12, 13, 14, 15, 16, 17, 18, 19] (c8_lastLimit hA hV.1.1 hC) hd hlk rfl rfl rfl rfl hX_sN (Or.inl (gAllS rfl)) hT hdd hcat hc hn (fun X9 h9 z => ?_) ?_
  · have z1 := z.1
    rw [hb] at z1; cases z1
  · rintro u h1 ⟨-, ⟨x, rfl, hx⟩, C', rfl, hC'⟩
    rw [hX_pN]
    exact k (Z, T, B, Y, C', O, S, ZD, TD, BD, YD, c, n, k9, v) ⟨hA, hC', hO, hS, hE, hD, hH, hSl⟩ x hx
theorem oG_priceToBuy {p0 : Int32} (hR : NR X V) (hV : InV V m) (hb : inI p0 1 999 = true) (hd : decode (mC Mt) pc = .ok (.invokevirtual idx, 3)) (hlk : gLkV (mY Mt).cls idx m8_priceToBuy 1) (hT : mT Mt = []) (hdd : 8 ≤ d) (hcat : (rest.map fun v => v.category).sum ≤ 8) (hc : c9 + 1 ≤ mc) (hn : n9 + 6 ≤ ms)
    (k : ∀ X' : NsT, NR X' V → ∀ x : Int32, ReS V.1.2.2.1 (nat p0) x → G Mt d mc ms h0 Q QX (c9 + 1) (n9 + 6) (pc + 3) ls (.int (x) :: rest) (hX X' r)) : G Mt d mc ms h0 Q QX c9 n9 pc ls (.int p0 :: .ref 0 :: rest) (hX X r) := by
  obtain ⟨Z, T, B, Y, C, O, S, ZD, TD, BD, YD, c, n, k9, v⟩ := X
  have hR9 := hR
  obtain ⟨hA, hC, hO, hS, hE, hD, hH, hSl⟩ := hR9
  refine g_callV (ci := 8) [0, 1, 2, 3, 4, 5, 6, 7, 8, 9, 10, 11, 12, 13, 14, 15, 16, 17, 18, 19] (c8_priceToBuy hA) hd hlk rfl rfl rfl rfl hX_sN (Or.inl (gAllS rfl)) hT hdd hcat hc hn (fun X9 h9 z => ?_) ?_
  · have z1 := z.1
    rw [hb] at z1; cases z1
  · rintro u h1 ⟨-, ⟨x, rfl, hx⟩, rfl⟩
    rw [hX_pN]
    exact k _ hR x hx
theorem oG_priceToSell {p0 : Int32} (hR : NR X V) (hV : InV V m) (hb : inI p0 1 999 = true) (hd : decode (mC Mt) pc = .ok (.invokevirtual idx, 3)) (hlk : gLkV (mY Mt).cls idx m8_priceToSell 1) (hT : mT Mt = []) (hdd : 8 ≤ d) (hcat : (rest.map fun v => v.category).sum ≤ 8) (hc : c9 + 1 ≤ mc) (hn : n9 + 6 ≤ ms)
    (k : ∀ X' : NsT, NR X' V → ∀ x : Int32, ReD V.1.2.2.1 (nat p0) x → G Mt d mc ms h0 Q QX (c9 + 1) (n9 + 6) (pc + 3) ls (.int (x) :: rest) (hX X' r)) : G Mt d mc ms h0 Q QX c9 n9 pc ls (.int p0 :: .ref 0 :: rest) (hX X r) := by
  obtain ⟨Z, T, B, Y, C, O, S, ZD, TD, BD, YD, c, n, k9, v⟩ := X
  have hR9 := hR
  obtain ⟨hA, hC, hO, hS, hE, hD, hH, hSl⟩ := hR9
  refine g_callV (ci := 8) [0, 1, 2, 3, 4, 5, 6, 7, 8, 9, 10, 11, 12, 13, 14, 15, 16, 17, 18, 19] (c8_priceToSell hA) hd hlk rfl rfl rfl rfl hX_sN (Or.inl (gAllS rfl)) hT hdd hcat hc hn (fun X9 h9 z => ?_) ?_
  · have z1 := z.1
    rw [hb] at z1; cases z1
  · rintro u h1 ⟨-, ⟨x, rfl, hx⟩, rfl⟩
    rw [hX_pN]
    exact k _ hR x hx
theorem oG_orderRefusal {p0 p1 p2 p3 : Int32} (hR : NR X V) (hV : InV V m) (hb : (isTr V.1 p0 && like p1 p2 p3) = true) (hd : decode (mC Mt) pc = .ok (.invokevirtual idx, 3)) (hlk : gLkV (mY Mt).cls idx m8_orderRefusal 4) (hT : mT Mt = []) (hdd : 9 ≤ d) (hcat : (rest.map fun v => v.category).sum ≤ 8) (hc : c9 + 4 ≤ mc) (hn : n9 + 24 ≤ ms)
    (k : ∀ X' : NsT, NR X' V → G Mt d mc ms h0 Q QX (c9 + 4) (n9 + 24) (pc + 3) ls (.int (nI (rfs V.1.2.2.1 (ta V.1.2.1 (nat p0)) (nat p0) (nat p1) (nat p2) (nat p3))) :: rest) (hX X' r)) : G Mt d mc ms h0 Q QX c9 n9 pc ls (.int p3 :: .int p2 :: .int p1 :: .int p0 :: .ref 0 :: rest) (hX X r) := by
  obtain ⟨Z, T, B, Y, C, O, S, ZD, TD, BD, YD, c, n, k9, v⟩ := X
  have hR9 := hR
  obtain ⟨hA, hC, hO, hS, hE, hD, hH, hSl⟩ := hR9
  refine g_callV (ci := 8) [0, 1, 2, 3, 4, 5, 6, 7, 8, 9, 10, 11, 12, 13, 14, 15, 16, 17, 18, 19] (c8_orderRefusal hA) hd hlk rfl rfl rfl rfl hX_sN (Or.inl (gAllS rfl)) hT hdd hcat hc hn (fun X9 h9 z => ?_) ?_
  · rcases z with ⟨(⟨z1, -⟩ | ⟨z1, z2, -⟩), -⟩ <;> simp [z1] at hb <;> simp [z2] at hb
  · rintro u h1 ⟨-, rfl, rfl⟩
    rw [hX_pN]
    exact k _ hR
theorem oG_worthOf {p0 : Int32} (hR : NR X V) (hV : InV V m) (hb : isOr V.1 p0 = true) (hd : decode (mC Mt) pc = .ok (.invokevirtual idx, 3)) (hlk : gLkV (mY Mt).cls idx m8_worthOf 1) (hT : mT Mt = []) (hdd : 8 ≤ d) (hcat : (rest.map fun v => v.category).sum ≤ 8) (hc : c9 + 1 ≤ mc) (hn : n9 + 6 ≤ ms)
    (k : ∀ X' : NsT, NR X' V → G Mt d mc ms h0 Q QX (c9 + 1) (n9 + 6) (pc + 3) ls (.int (nI (qf V.1 (ixO V.1 p0)) * qp V.1) :: rest) (hX X' r)) : G Mt d mc ms h0 Q QX c9 n9 pc ls (.int p0 :: .ref 0 :: rest) (hX X r) := by
  obtain ⟨Z, T, B, Y, C, O, S, ZD, TD, BD, YD, c, n, k9, v⟩ := X
  have hR9 := hR
  obtain ⟨hA, hC, hO, hS, hE, hD, hH, hSl⟩ := hR9
  refine g_callV (ci := 8) [0, 1, 2, 3, 4, 5, 6, 7, 8, 9, 10, 11, 12, 13, 14, 15, 16, 17, 18, 19] (c8_worthOf hA hV.1.1 hC) hd hlk rfl rfl rfl rfl hX_sN (Or.inl (gAllS rfl)) hT hdd hcat hc hn (fun X9 h9 z => ?_) ?_
  · have z1 := z.1
    rw [hb] at z1; cases z1
  · rintro u h1 ⟨-, rfl, C', rfl, hC'⟩
    rw [hX_pN]
    exact k (Z, T, B, Y, C', O, S, ZD, TD, BD, YD, c, n, k9, v) ⟨hA, hC', hO, hS, hE, hD, hH, hSl⟩
theorem oG_coinsAfterCry {p0 : Int32} (hR : NR X V) (hV : InV V m) (hb : isTr V.1 p0 = true) (hd : decode (mC Mt) pc = .ok (.invokevirtual idx, 3)) (hlk : gLkV (mY Mt).cls idx m8_coinsAfterCry 1) (hT : mT Mt = []) (hdd : 8 ≤ d) (hcat : (rest.map fun v => v.category).sum ≤ 8) (hc : c9 + 1 ≤ mc) (hn : n9 + 6 ≤ ms)
    (k : ∀ X' : NsT, NR X' V → G Mt d mc ms h0 Q QX (c9 + 1) (n9 + 6) (pc + 3) ls (.int ((ta V.1.2.1 (nat p0)).2.1 + cct V.1.2.2.1 (qf V.1) (qp V.1) (nat p0) V.1.2.2.1.length) :: rest) (hX X' r)) : G Mt d mc ms h0 Q QX c9 n9 pc ls (.int p0 :: .ref 0 :: rest) (hX X r) := by
  obtain ⟨Z, T, B, Y, C, O, S, ZD, TD, BD, YD, c, n, k9, v⟩ := X
  have hR9 := hR
  obtain ⟨hA, hC, hO, hS, hE, hD, hH, hSl⟩ := hR9
  refine g_callV (ci := 8) [0, 1, 2, 3, 4, 5, 6, 7, 8, 9, 10, 11, 12, 13, 14, 15, 16, 17, 18, 19] (c8_coinsAfterCry hA hV.1.1 hC) hd hlk rfl rfl rfl rfl hX_sN (Or.inl (gAllS rfl)) hT hdd hcat hc hn (fun X9 h9 z => ?_) ?_
  · have z1 := z.1
    rw [hb] at z1; cases z1
  · rintro u h1 ⟨-, rfl, C', rfl, hC'⟩
    rw [hX_pN]
    exact k (Z, T, B, Y, C', O, S, ZD, TD, BD, YD, c, n, k9, v) ⟨hA, hC', hO, hS, hE, hD, hH, hSl⟩
theorem oG_append {p0 p1 p2 p3 p4 : Int32} (hR : NR X V) (hV : InV V m) (hb : decide (V.2.2.2.1.length ≤ 580) = true) (hd : decode (mC Mt) pc = .ok (.invokevirtual idx, 3)) (hlk : gLkV (mY Mt).cls idx m8_append 5) (hT : mT Mt = []) (hdd : 8 ≤ d) (hcat : (rest.map fun v => v.category).sum ≤ 8) (hc : c9 + 1 ≤ mc) (hn : n9 + 6 ≤ ms)
    (k : ∀ X' : NsT, NR X' ((V.1, V.2.1, V.2.2.1, V.2.2.2.1 ++ b20 p0 p1 p2 p3 p4, V.2.2.2.2)) → G Mt d mc ms h0 Q QX (c9 + 1) (n9 + 6) (pc + 3) ls (.int (nI (V.2.2.2.1.length + 20)) :: rest) (hX X' r)) : G Mt d mc ms h0 Q QX c9 n9 pc ls (.int p4 :: .int p3 :: .int p2 :: .int p1 :: .int p0 :: .ref 0 :: rest) (hX X r) := by
  obtain ⟨Z, T, B, Y, C, O, S, ZD, TD, BD, YD, c, n, k9, v⟩ := X
  have hR9 := hR
  obtain ⟨hA, hC, hO, hS, hE, hD, hH, hSl⟩ := hR9
  refine g_callV (ci := 8) [0, 1, 2, 3, 4, 5, 6, 7, 8, 9, 10, 11, 12, 13, 14, 15, 16, 17, 18, 19, 20, 21, 22, 23, 24] (c8_append hS (Z := Z) (T := T) (B := B) (Y := Y) (C := C) (O := O)) hd hlk rfl rfl rfl rfl hX_sS (Or.inl (gAllS rfl)) hT hdd hcat hc hn (fun X9 h9 z => ?_) ?_
  · have z1 := z.1
    rw [hb] at z1; cases z1
  · rintro u h1 ⟨-, rfl, S', rfl, hS', e1, e2, e3⟩
    rw [hX_pS]
    exact k (Z, T, B, Y, C, O, S', ZD, TD, BD, YD, c, n, k9, v) ⟨hA, hC, hO, hS', ⟨e1.trans hE.1, e2.trans hE.2⟩, hD, hH, hSl⟩
theorem oG_truncate {p0 : Int32} (hR : NR X V) (hV : InV V m) (hb : isLn V.2.2.2.1 p0 = true) (hd : decode (mC Mt) pc = .ok (.invokevirtual idx, 3)) (hlk : gLkV (mY Mt).cls idx m8_truncate 1) (hT : mT Mt = []) (hdd : 8 ≤ d) (hcat : (rest.map fun v => v.category).sum ≤ 8) (hc : c9 + 1 ≤ mc) (hn : n9 + 6 ≤ ms)
    (k : ∀ X' : NsT, NR X' ((V.1, V.2.1, V.2.2.1, V.2.2.2.1.take (nat p0), V.2.2.2.2)) → G Mt d mc ms h0 Q QX (c9 + 1) (n9 + 6) (pc + 3) ls (.int (p0) :: rest) (hX X' r)) : G Mt d mc ms h0 Q QX c9 n9 pc ls (.int p0 :: .ref 0 :: rest) (hX X r) := by
  obtain ⟨Z, T, B, Y, C, O, S, ZD, TD, BD, YD, c, n, k9, v⟩ := X
  have hR9 := hR
  obtain ⟨hA, hC, hO, hS, hE, hD, hH, hSl⟩ := hR9
  refine g_callV (ci := 8) [0, 1, 2, 3, 4, 5, 6, 7, 8, 9, 10, 11, 12, 13, 14, 15, 16, 17, 18, 19, 20, 21, 22, 23, 24] (c8_truncate hS (Z := Z) (T := T) (B := B) (Y := Y) (C := C) (O := O)) hd hlk rfl rfl rfl rfl hX_sS (Or.inl (gAllS rfl)) hT hdd hcat hc hn (fun X9 h9 z => ?_) ?_
  · have z1 := z.1
    rw [hb] at z1; cases z1
  · rintro u h1 ⟨-, rfl, S', rfl, hS', e1, e2, e3⟩
    rw [hX_pS]
    exact k (Z, T, B, Y, C, O, S', ZD, TD, BD, YD, c, n, k9, v) ⟨hA, hC, hO, hS', ⟨e1.trans hE.1, e2.trans hE.2⟩, hD, hH, hSl⟩
theorem oG_setRule {p0 : Int32} (hR : NR X V) (hV : InV V m) (hb : inI p0 0 1 = true) (hd : decode (mC Mt) pc = .ok (.invokevirtual idx, 3)) (hlk : gLkV (mY Mt).cls idx m8_setRule 1) (hT : mT Mt = []) (hdd : 8 ≤ d) (hcat : (rest.map fun v => v.category).sum ≤ 8) (hc : c9 + 14 ≤ mc) (hn : n9 + 178 ≤ ms) (hr : rFar r = true) (hls : rLs ls = true) (hsk : rSk rest = true)
    (k : ∀ X' : NsT, NR X' (cmV V (rulA V.1 p0)) → G Mt d mc ms h0 Q QX (c9 + 14) (n9 + 178) (pc + 3) ls (.int (V.1.1.2.2.2.1) :: rest) (hX X' r)) : G Mt d mc ms h0 Q QX c9 n9 pc ls (.int p0 :: .ref 0 :: rest) (hX X r) := by
  obtain ⟨Z, T, B, Y, C, O, S, ZD, TD, BD, YD, c, n, k9, v⟩ := X
  have hR9 := hR
  obtain ⟨hA, hC, hO, hS, hE, hD, hH, hSl⟩ := hR9
  obtain ⟨ρ, K, W, h0c, hlt, hs, kp, q1, q0, qp9, qs⟩ := hR.keepA (r := r)
  refine g_callV (ci := 8) ρ (c8_setRule hA hC kp) hd hlk rfl rfl rfl (by rw [gRen_at h0c]; rfl) hs (gNn_K hs hlt hr (fun _ _ h => q1 h) (fun _ _ h => by obtain ⟨-, -, rfl⟩ := h; exact q0) hls hsk) hT hdd hcat hc hn (fun X9 h9 z => ?_) ?_
  · have z1 := z.1
    rw [hb] at z1; cases z1
  · rintro u h1 hh
    obtain ⟨-, rfl, X', e1, hR'⟩ := qp9 _ _ _ _ _ hh
    rw [e1]
    exact k X' hR'
end OG0
