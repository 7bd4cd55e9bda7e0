section OG1
set_option maxRecDepth 100000
/-! ### one call of the class's in the law -/
variable {Mt : gM} {d mc ms : Nat} {h0 : gH} {Q : Option Value → gH → Prop} {QX : String → gH → Prop} {c9 n9 pc : Nat} {ls : List (Option Value)} {rest : List Value} {r : gH} {X : NsT} {V : VwT} {m idx : Nat}
theorem oG_setBand {p0 : Int32} (hR : NR X V) (hV : InV V m) (hb : inI p0 0 999 = true) (hd : decode (mC Mt) pc = .ok (.invokevirtual idx, 3)) (hlk : gLkV (mY Mt).cls idx m8_setBand 1) (hT : mT Mt = []) (hdd : 8 ≤ d) (hcat : (rest.map fun v => v.category).sum ≤ 8) (hc : c9 + 14 ≤ mc) (hn : n9 + 178 ≤ ms) (hr : rFar r = true) (hls : rLs ls = true) (hsk : rSk rest = true)
    (k : ∀ X' : NsT, NR X' (cmV V (banA V.1 p0)) → G Mt d mc ms h0 Q QX (c9 + 14) (n9 + 178) (pc + 3) ls (.int (V.1.1.2.2.1) :: rest) (hX X' r)) : G Mt d mc ms h0 Q QX c9 n9 pc ls (.int p0 :: .ref 0 :: rest) (hX X r) := by
  obtain ⟨Z, T, B, Y, C, O, S, ZD, TD, BD, YD, c, n, k9, v⟩ := X
  have hR9 := hR
  obtain ⟨hA, hC, hO, hS, hE, hD, hH, hSl⟩ := hR9
  obtain ⟨ρ, K, W, h0c, hlt, hs, kp, q1, q0, qp9, qs⟩ := hR.keepA (r := r)
  refine g_callV (ci := 8) ρ (c8_setBand hA hC kp) hd hlk rfl rfl rfl (by rw [gRen_at h0c]; rfl) hs (gNn_K hs hlt hr (fun _ _ h => q1 h) (fun _ _ h => by obtain ⟨-, -, rfl⟩ := h; exact q0) hls hsk) hT hdd hcat hc hn (fun X9 h9 z => ?_) ?_
  · have z1 := z.1
    rw [hb] at z1; cases z1
  · rintro u h1 hh
    obtain ⟨-, rfl, X', e1, hR'⟩ := qp9 _ _ _ _ _ hh
    rw [e1]
    exact k X' hR'
theorem oG_pass {p0 : Int32} (hR : NR X V) (hV : InV V m) (hb : inI p0 1 300 = true) (hd : decode (mC Mt) pc = .ok (.invokevirtual idx, 3)) (hlk : gLkV (mY Mt).cls idx m8_pass 1) (hT : mT Mt = []) (hdd : 8 ≤ d) (hcat : (rest.map fun v => v.category).sum ≤ 8) (hc : c9 + 14 ≤ mc) (hn : n9 + 178 ≤ ms) (hr : rFar r = true) (hls : rLs ls = true) (hsk : rSk rest = true)
    (k : ∀ X' : NsT, NR X' (cmV V (pasA (nat p0) V.1)) → G Mt d mc ms h0 Q QX (c9 + 14) (n9 + 178) (pc + 3) ls (.int ((pasA (nat p0) V.1).2.2.2.2.1 - V.1.2.2.2.2.1) :: rest) (hX X' r)) : G Mt d mc ms h0 Q QX c9 n9 pc ls (.int p0 :: .ref 0 :: rest) (hX X r) := by
  obtain ⟨Z, T, B, Y, C, O, S, ZD, TD, BD, YD, c, n, k9, v⟩ := X
  have hR9 := hR
  obtain ⟨hA, hC, hO, hS, hE, hD, hH, hSl⟩ := hR9
  obtain ⟨ρ, K, W, h0c, hlt, hs, kp, q1, q0, qp9, qs⟩ := hR.keepA (r := r)
  refine g_callV (ci := 8) ρ (c8_pass hA hV.1.1 hC kp) hd hlk rfl rfl rfl (by rw [gRen_at h0c]; rfl) hs (gNn_K hs hlt hr (fun _ _ h => q1 h) (fun _ _ h => by obtain ⟨-, -, rfl⟩ := h; exact q0) hls hsk) hT hdd hcat hc hn (fun X9 h9 z => ?_) ?_
  · have z1 := z.1
    rw [hb] at z1; cases z1
  · rintro u h1 hh
    obtain ⟨-, rfl, X', e1, hR'⟩ := qp9 _ _ _ _ _ hh
    rw [e1]
    exact k X' hR'
theorem oG_withdraw {p0 : Int32} (hR : NR X V) (hV : InV V m) (hb : isOr V.1 p0 = true) (hd : decode (mC Mt) pc = .ok (.invokevirtual idx, 3)) (hlk : gLkV (mY Mt).cls idx m8_withdraw 1) (hT : mT Mt = []) (hdd : 8 ≤ d) (hcat : (rest.map fun v => v.category).sum ≤ 8) (hc : c9 + 14 ≤ mc) (hn : n9 + 178 ≤ ms) (hr : rFar r = true) (hls : rLs ls = true) (hsk : rSk rest = true)
    (k : ∀ X' : NsT, NR X' (cmV V (drpA V.1 (ixO V.1 p0))) → G Mt d mc ms h0 Q QX (c9 + 14) (n9 + 178) (pc + 3) ls (.int (nI (oQ (oa V.1.2.2.1 (ixO V.1 p0)))) :: rest) (hX X' r)) : G Mt d mc ms h0 Q QX c9 n9 pc ls (.int p0 :: .ref 0 :: rest) (hX X r) := by
  obtain ⟨Z, T, B, Y, C, O, S, ZD, TD, BD, YD, c, n, k9, v⟩ := X
  have hR9 := hR
  obtain ⟨hA, hC, hO, hS, hE, hD, hH, hSl⟩ := hR9
  obtain ⟨ρ, K, W, h0c, hlt, hs, kp, q1, q0, qp9, qs⟩ := hR.keepA (r := r)
  refine g_callV (ci := 8) ρ (c8_withdraw hA hC kp) hd hlk rfl rfl rfl (by rw [gRen_at h0c]; rfl) hs (gNn_K hs hlt hr (fun _ _ h => q1 h) (fun _ _ h => by obtain ⟨-, -, rfl⟩ := h; exact q0) hls hsk) hT hdd hcat hc hn (fun X9 h9 z => ?_) ?_
  · have z1 := z.1
    rw [hb] at z1; cases z1
  · rintro u h1 hh
    obtain ⟨-, rfl, X', e1, hR'⟩ := qp9 _ _ _ _ _ hh
    rw [e1]
    exact k X' hR'
theorem oG_cry (hR : NR X V) (hV : InV V m) (hd : decode (mC Mt) pc = .ok (.invokevirtual idx, 3)) (hlk : gLkV (mY Mt).cls idx m8_cry 0) (hT : mT Mt = []) (hdd : 6 ≤ d) (hcat : (rest.map fun v => v.category).sum ≤ 8) (hc : c9 + 13 ≤ mc) (hn : n9 + 172 ≤ ms) (hr : rFar r = true) (hls : rLs ls = true) (hsk : rSk rest = true)
    (k : ∀ X' : NsT, NR X' (cmV V (cryA V.1).1) → G Mt d mc ms h0 Q QX (c9 + 13) (n9 + 172) (pc + 3) ls (.int ((cryA V.1).2) :: rest) (hX X' r)) : G Mt d mc ms h0 Q QX c9 n9 pc ls (.ref 0 :: rest) (hX X r) := by
  obtain ⟨Z, T, B, Y, C, O, S, ZD, TD, BD, YD, c, n, k9, v⟩ := X
  have hR9 := hR
  obtain ⟨hA, hC, hO, hS, hE, hD, hH, hSl⟩ := hR9
  obtain ⟨ρ, K, W, h0c, hlt, hs, kp, q1, q0, qp9, qs⟩ := hR.keepA (r := r)
  refine g_callV (ci := 8) ρ (c8_cry hA hV.1.1 hC kp) hd hlk rfl rfl rfl (by rw [gRen_at h0c]; rfl) hs (gNn_K hs hlt hr (fun _ _ h => q1 h) (fun _ _ h => h.elim) hls hsk) hT hdd hcat hc hn (fun X9 h9 z => ?_) ?_
  · exact z.elim
  · rintro u h1 hh
    obtain ⟨-, rfl, X', e1, hR'⟩ := qp9 _ _ _ _ _ hh
    rw [e1]
    exact k X' hR'
theorem oG_errorCode (hR : NR X V) (hV : InV V m) (hd : decode (mC Mt) pc = .ok (.invokevirtual idx, 3)) (hlk : gLkV (mY Mt).cls idx m8_errorCode 0) (hT : mT Mt = []) (hdd : 2 ≤ d) (hcat : (rest.map fun v => v.category).sum ≤ 8) (hc : c9 + 0 ≤ mc) (hn : n9 + 0 ≤ ms)
    (k : ∀ X' : NsT, NR X' V → G Mt d mc ms h0 Q QX (c9 + 0) (n9 + 0) (pc + 3) ls (.int (V.2.2.2.2.1.1) :: rest) (hX X' r)) : G Mt d mc ms h0 Q QX c9 n9 pc ls (.ref 0 :: rest) (hX X r) := by
  obtain ⟨Z, T, B, Y, C, O, S, ZD, TD, BD, YD, c, n, k9, v⟩ := X
  have hR9 := hR
  obtain ⟨hA, hC, hO, hS, hE, hD, hH, hSl⟩ := hR9
  refine g_callV (ci := 8) [0, 1, 2, 3, 4, 5, 6, 7, 8, 9, 10, 11, 12, 13, 14, 15, 16, 17, 18, 19, 20, 21, 22, 23, 24] (c8_errorCode (Z := Z) (T := T) (B := B) (Y := Y) (C := C) (O := O) (S := S)) hd hlk rfl rfl rfl rfl hX_sS (Or.inl (gAllS rfl)) hT hdd hcat hc hn (fun X9 h9 z => ?_) ?_
  · exact z.elim
  · rintro u h1 ⟨-, rfl, rfl⟩
    rw [hX_pS]
    have k' := k _ hR
    rw [← hE.1] at k'
    exact k'
theorem oG_errorOffset (hR : NR X V) (hV : InV V m) (hd : decode (mC Mt) pc = .ok (.invokevirtual idx, 3)) (hlk : gLkV (mY Mt).cls idx m8_errorOffset 0) (hT : mT Mt = []) (hdd : 2 ≤ d) (hcat : (rest.map fun v => v.category).sum ≤ 8) (hc : c9 + 0 ≤ mc) (hn : n9 + 0 ≤ ms)
    (k : ∀ X' : NsT, NR X' V → G Mt d mc ms h0 Q QX (c9 + 0) (n9 + 0) (pc + 3) ls (.int (V.2.2.2.2.1.2) :: rest) (hX X' r)) : G Mt d mc ms h0 Q QX c9 n9 pc ls (.ref 0 :: rest) (hX X r) := by
  obtain ⟨Z, T, B, Y, C, O, S, ZD, TD, BD, YD, c, n, k9, v⟩ := X
  have hR9 := hR
  obtain ⟨hA, hC, hO, hS, hE, hD, hH, hSl⟩ := hR9
  refine g_callV (ci := 8) [0, 1, 2, 3, 4, 5, 6, 7, 8, 9, 10, 11, 12, 13, 14, 15, 16, 17, 18, 19, 20, 21, 22, 23, 24] (c8_errorOffset (Z := Z) (T := T) (B := B) (Y := Y) (C := C) (O := O) (S := S)) hd hlk rfl rfl rfl rfl hX_sS (Or.inl (gAllS rfl)) hT hdd hcat hc hn (fun X9 h9 z => ?_) ?_
  · exact z.elim
  · rintro u h1 ⟨-, rfl, rfl⟩
    rw [hX_pS]
    have k' := k _ hR
    rw [← hE.2] at k'
    exact k'
theorem oG_minute (hR : NR X V) (hV : InV V m) (hd : decode (mC Mt) pc = .ok (.invokevirtual idx, 3)) (hlk : gLkV (mY Mt).cls idx m8_minute 0) (hT : mT Mt = []) (hdd : 2 ≤ d) (hcat : (rest.map fun v => v.category).sum ≤ 8) (hc : c9 + 0 ≤ mc) (hn : n9 + 0 ≤ ms)
    (k : ∀ X' : NsT, NR X' V → G Mt d mc ms h0 Q QX (c9 + 0) (n9 + 0) (pc + 3) ls (.int (V.1.1.1) :: rest) (hX X' r)) : G Mt d mc ms h0 Q QX c9 n9 pc ls (.ref 0 :: rest) (hX X r) := by
  obtain ⟨Z, T, B, Y, C, O, S, ZD, TD, BD, YD, c, n, k9, v⟩ := X
  have hR9 := hR
  obtain ⟨hA, hC, hO, hS, hE, hD, hH, hSl⟩ := hR9
  refine g_callV (ci := 8) [0, 1, 2, 3, 4, 5, 6, 7, 8, 9, 10, 11, 12, 13, 14, 15, 16, 17, 18, 19] (c8_minute hA) hd hlk rfl rfl rfl rfl hX_sN (Or.inl (gAllS rfl)) hT hdd hcat hc hn (fun X9 h9 z => ?_) ?_
  · exact z.elim
  · rintro u h1 ⟨-, rfl, rfl⟩
    rw [hX_pN]
    exact k _ hR
theorem oG_lastPrice (hR : NR X V) (hV : InV V m) (hd : decode (mC Mt) pc = .ok (.invokevirtual idx, 3)) (hlk : gLkV (mY Mt).cls idx m8_lastPrice 0) (hT : mT Mt = []) (hdd : 2 ≤ d) (hcat : (rest.map fun v => v.category).sum ≤ 8) (hc : c9 + 0 ≤ mc) (hn : n9 + 0 ≤ ms)
    (k : ∀ X' : NsT, NR X' V → G Mt d mc ms h0 Q QX (c9 + 0) (n9 + 0) (pc + 3) ls (.int (V.1.1.2.1) :: rest) (hX X' r)) : G Mt d mc ms h0 Q QX c9 n9 pc ls (.ref 0 :: rest) (hX X r) := by
  obtain ⟨Z, T, B, Y, C, O, S, ZD, TD, BD, YD, c, n, k9, v⟩ := X
  have hR9 := hR
  obtain ⟨hA, hC, hO, hS, hE, hD, hH, hSl⟩ := hR9
  refine g_callV (ci := 8) [0, 1, 2, 3, 4, 5, 6, 7, 8, 9, 10, 11, 12, 13, 14, 15, 16, 17, 18, 19] (c8_lastPrice hA) hd hlk rfl rfl rfl rfl hX_sN (Or.inl (gAllS rfl)) hT hdd hcat hc hn (fun X9 h9 z => ?_) ?_
  · exact z.elim
  · rintro u h1 ⟨-, rfl, rfl⟩
    rw [hX_pN]
    exact k _ hR
theorem oG_band (hR : NR X V) (hV : InV V m) (hd : decode (mC Mt) pc = .ok (.invokevirtual idx, 3)) (hlk : gLkV (mY Mt).cls idx m8_band 0) (hT : mT Mt = []) (hdd : 2 ≤ d) (hcat : (rest.map fun v => v.category).sum ≤ 8) (hc : c9 + 0 ≤ mc) (hn : n9 + 0 ≤ ms)
    (k : ∀ X' : NsT, NR X' V → G Mt d mc ms h0 Q QX (c9 + 0) (n9 + 0) (pc + 3) ls (.int (V.1.1.2.2.1) :: rest) (hX X' r)) : G Mt d mc ms h0 Q QX c9 n9 pc ls (.ref 0 :: rest) (hX X r) := by
  obtain ⟨Z, T, B, Y, C, O, S, ZD, TD, BD, YD, c, n, k9, v⟩ := X
  have hR9 := hR
  obtain ⟨hA, hC, hO, hS, hE, hD, hH, hSl⟩ := hR9
  refine g_callV (ci := 8) [0, 1, 2, 3, 4, 5, 6, 7, 8, 9, 10, 11, 12, 13, 14, 15, 16, 17, 18, 19] (c8_band hA) hd hlk rfl rfl rfl rfl hX_sN (Or.inl (gAllS rfl)) hT hdd hcat hc hn (fun X9 h9 z => ?_) ?_
  · exact z.elim
  · rintro u h1 ⟨-, rfl, rfl⟩
    rw [hX_pN]
    exact k _ hR
theorem oG_rule (hR : NR X V) (hV : InV V m) (hd : decode (mC Mt) pc = .ok (.invokevirtual idx, 3)) (hlk : gLkV (mY Mt).cls idx m8_rule 0) (hT : mT Mt = []) (hdd : 2 ≤ d) (hcat : (rest.map fun v => v.category).sum ≤ 8) (hc : c9 + 0 ≤ mc) (hn : n9 + 0 ≤ ms)
    (k : ∀ X' : NsT, NR X' V → G Mt d mc ms h0 Q QX (c9 + 0) (n9 + 0) (pc + 3) ls (.int (V.1.1.2.2.2.1) :: rest) (hX X' r)) : G Mt d mc ms h0 Q QX c9 n9 pc ls (.ref 0 :: rest) (hX X r) := by
  obtain ⟨Z, T, B, Y, C, O, S, ZD, TD, BD, YD, c, n, k9, v⟩ := X
  have hR9 := hR
  obtain ⟨hA, hC, hO, hS, hE, hD, hH, hSl⟩ := hR9
  refine g_callV (ci := 8) [0, 1, 2, 3, 4, 5, 6, 7, 8, 9, 10, 11, 12, 13, 14, 15, 16, 17, 18, 19] (c8_rule hA) hd hlk rfl rfl rfl rfl hX_sN (Or.inl (gAllS rfl)) hT hdd hcat hc hn (fun X9 h9 z => ?_) ?_
  · exact z.elim
  · rintro u h1 ⟨-, rfl, rfl⟩
    rw [hX_pN]
    exact k _ hR
theorem oG_minutesToCry (hR : NR X V) (hV : InV V m) (hd : decode (mC Mt) pc = .ok (.invokevirtual idx, 3)) (hlk : gLkV (mY Mt).cls idx m8_minutesToCry 0) (hT : mT Mt = []) (hdd : 8 ≤ d) (hcat : (rest.map fun v => v.category).sum ≤ 8) (hc : c9 + 0 ≤ mc) (hn : n9 + 0 ≤ ms)
    (k : ∀ X' : NsT, NR X' V → G Mt d mc ms h0 Q QX (c9 + 0) (n9 + 0) (pc + 3) ls (.int (V.1.1.2.2.2.2 - msc V.1.1) :: rest) (hX X' r)) : G Mt d mc ms h0 Q QX c9 n9 pc ls (.ref 0 :: rest) (hX X r) := by
  obtain ⟨Z, T, B, Y, C, O, S, ZD, TD, BD, YD, c, n, k9, v⟩ := X
  have hR9 := hR
  obtain ⟨hA, hC, hO, hS, hE, hD, hH, hSl⟩ := hR9
  refine g_callV (ci := 8) [0, 1, 2, 3, 4, 5, 6, 7, 8, 9, 10, 11, 12, 13, 14, 15, 16, 17, 18, 19] (c8_minutesToCry hA (by obtain ⟨-, -, -, ⟨per, e, h1, h2⟩, -⟩ := hV.1.1; rw [e, show (1 : Int32) = nI 1 from rfl, nI_leI (by omega) (by omega)]; exact h1)) hd hlk rfl rfl rfl rfl hX_sN (Or.inl (gAllS rfl)) hT hdd hcat hc hn (fun X9 h9 z => ?_) ?_
  · exact z.elim
  · rintro u h1 ⟨-, rfl, rfl⟩
    rw [hX_pN]
    exact k _ hR
theorem oG_traderCount (hR : NR X V) (hV : InV V m) (hd : decode (mC Mt) pc = .ok (.invokevirtual idx, 3)) (hlk : gLkV (mY Mt).cls idx m8_traderCount 0) (hT : mT Mt = []) (hdd : 2 ≤ d) (hcat : (rest.map fun v => v.category).sum ≤ 8) (hc : c9 + 0 ≤ mc) (hn : n9 + 0 ≤ ms)
    (k : ∀ X' : NsT, NR X' V → G Mt d mc ms h0 Q QX (c9 + 0) (n9 + 0) (pc + 3) ls (.int (nI V.1.2.1.length) :: rest) (hX X' r)) : G Mt d mc ms h0 Q QX c9 n9 pc ls (.ref 0 :: rest) (hX X r) := by
  obtain ⟨Z, T, B, Y, C, O, S, ZD, TD, BD, YD, c, n, k9, v⟩ := X
  have hR9 := hR
  obtain ⟨hA, hC, hO, hS, hE, hD, hH, hSl⟩ := hR9
  refine g_callV (ci := 8) [0, 1, 2, 3, 4, 5, 6, 7, 8, 9, 10, 11, 12, 13, 14, 15, 16, 17, 18, 19] (c8_traderCount hA) hd hlk rfl rfl rfl rfl hX_sN (Or.inl (gAllS rfl)) hT hdd hcat hc hn (fun X9 h9 z => ?_) ?_
  · exact z.elim
  · rintro u h1 ⟨-, rfl, rfl⟩
    rw [hX_pN]
    exact k _ hR
theorem oG_orderCount (hR : NR X V) (hV : InV V m) (hd : decode (mC Mt) pc = .ok (.invokevirtual idx, 3)) (hlk : gLkV (mY Mt).cls idx m8_orderCount 0) (hT : mT Mt = []) (hdd : 2 ≤ d) (hcat : (rest.map fun v => v.category).sum ≤ 8) (hc : c9 + 0 ≤ mc) (hn : n9 + 0 ≤ ms)
    (k : ∀ X' : NsT, NR X' V → G Mt d mc ms h0 Q QX (c9 + 0) (n9 + 0) (pc + 3) ls (.int (nI V.1.2.2.1.length) :: rest) (hX X' r)) : G Mt d mc ms h0 Q QX c9 n9 pc ls (.ref 0 :: rest) (hX X r) := by
  obtain ⟨Z, T, B, Y, C, O, S, ZD, TD, BD, YD, c, n, k9, v⟩ := X
  have hR9 := hR
  obtain ⟨hA, hC, hO, hS, hE, hD, hH, hSl⟩ := hR9
  refine g_callV (ci := 8) [0, 1, 2, 3, 4, 5, 6, 7, 8, 9, 10, 11, 12, 13, 14, 15, 16, 17, 18, 19] (c8_orderCount hA) hd hlk rfl rfl rfl rfl hX_sN (Or.inl (gAllS rfl)) hT hdd hcat hc hn (fun X9 h9 z => ?_) ?_
  · exact z.elim
  · rintro u h1 ⟨-, rfl, rfl⟩
    rw [hX_pN]
    exact k _ hR
theorem oG_bestBid (hR : NR X V) (hV : InV V m) (hd : decode (mC Mt) pc = .ok (.invokevirtual idx, 3)) (hlk : gLkV (mY Mt).cls idx m8_bestBid 0) (hT : mT Mt = []) (hdd : 6 ≤ d) (hcat : (rest.map fun v => v.category).sum ≤ 8) (hc : c9 + 0 ≤ mc) (hn : n9 + 0 ≤ ms)
    (k : ∀ X' : NsT, NR X' V → G Mt d mc ms h0 Q QX (c9 + 0) (n9 + 0) (pc + 3) ls (.int (fst_ V.1.2.2.1 (line V.1.2.2.1 0 V.1.2.2.1.length)) :: rest) (hX X' r)) : G Mt d mc ms h0 Q QX c9 n9 pc ls (.ref 0 :: rest) (hX X r) := by
  obtain ⟨Z, T, B, Y, C, O, S, ZD, TD, BD, YD, c, n, k9, v⟩ := X
  have hR9 := hR
  obtain ⟨hA, hC, hO, hS, hE, hD, hH, hSl⟩ := hR9
  refine g_callV (ci := 8) [0, 1, 2, 3, 4, 5, 6, 7, 8, 9, 10, 11, 12, 13, 14, 15, 16, 17, 18, 19] (c8_bestBid hA hC) hd hlk rfl rfl rfl rfl hX_sN (Or.inl (gAllS rfl)) hT hdd hcat hc hn (fun X9 h9 z => ?_) ?_
  · exact z.elim
  · rintro u h1 ⟨-, rfl, C', rfl, hC'⟩
    rw [hX_pN]
    exact k (Z, T, B, Y, C', O, S, ZD, TD, BD, YD, c, n, k9, v) ⟨hA, hC', hO, hS, hE, hD, hH, hSl⟩
theorem oG_bestOffer (hR : NR X V) (hV : InV V m) (hd : decode (mC Mt) pc = .ok (.invokevirtual idx, 3)) (hlk : gLkV (mY Mt).cls idx m8_bestOffer 0) (hT : mT Mt = []) (hdd : 6 ≤ d) (hcat : (rest.map fun v => v.category).sum ≤ 8) (hc : c9 + 0 ≤ mc) (hn : n9 + 0 ≤ ms)
    (k : ∀ X' : NsT, NR X' V → G Mt d mc ms h0 Q QX (c9 + 0) (n9 + 0) (pc + 3) ls (.int (fst_ V.1.2.2.1 (line V.1.2.2.1 1 V.1.2.2.1.length)) :: rest) (hX X' r)) : G Mt d mc ms h0 Q QX c9 n9 pc ls (.ref 0 :: rest) (hX X r) := by
  obtain ⟨Z, T, B, Y, C, O, S, ZD, TD, BD, YD, c, n, k9, v⟩ := X
  have hR9 := hR
  obtain ⟨hA, hC, hO, hS, hE, hD, hH, hSl⟩ := hR9
  refine g_callV (ci := 8) [0, 1, 2, 3, 4, 5, 6, 7, 8, 9, 10, 11, 12, 13, 14, 15, 16, 17, 18, 19] (c8_bestOffer hA hC) hd hlk rfl rfl rfl rfl hX_sN (Or.inl (gAllS rfl)) hT hdd hcat hc hn (fun X9 h9 z => ?_) ?_
  · exact z.elim
  · rintro u h1 ⟨-, rfl, C', rfl, hC'⟩
    rw [hX_pN]
    exact k (Z, T, B, Y, C', O, S, ZD, TD, BD, YD, c, n, k9, v) ⟨hA, hC', hO, hS, hE, hD, hH, hSl⟩
theorem oG_cryPrice (hR : NR X V) (hV : InV V m) (hd : decode (mC Mt) pc = .ok (.invokevirtual idx, 3)) (hlk : gLkV (mY Mt).cls idx m8_cryPrice 0) (hT : mT Mt = []) (hdd : 5 ≤ d) (hcat : (rest.map fun v => v.category).sum ≤ 8) (hc : c9 + 0 ≤ mc) (hn : n9 + 0 ≤ ms)
    (k : ∀ X' : NsT, NR X' V → G Mt d mc ms h0 Q QX (c9 + 0) (n9 + 0) (pc + 3) ls (.int (qp V.1) :: rest) (hX X' r)) : G Mt d mc ms h0 Q QX c9 n9 pc ls (.ref 0 :: rest) (hX X r) := by
  obtain ⟨Z, T, B, Y, C, O, S, ZD, TD, BD, YD, c, n, k9, v⟩ := X
  have hR9 := hR
  obtain ⟨hA, hC, hO, hS, hE, hD, hH, hSl⟩ := hR9
  refine g_callV (ci := 8) [0, 1, 2, 3, 4, 5, 6, 7, 8, 9, 10, 11, 12, 13, 14, 15, 16, 17, 18, 19] (c8_cryPrice hA hV.1.1 hC) hd hlk rfl rfl rfl rfl hX_sN (Or.inl (gAllS rfl)) hT hdd hcat hc hn (fun X9 h9 z => ?_) ?_
  · exact z.elim
  · rintro u h1 ⟨-, rfl, C', rfl, hC'⟩
    rw [hX_pN]
    exact k (Z, T, B, Y, C', O, S, ZD, TD, BD, YD, c, n, k9, v) ⟨hA, hC', hO, hS, hE, hD, hH, hSl⟩
theorem oG_cryVolume (hR : NR X V) (hV : InV V m) (hd : decode (mC Mt) pc = .ok (.invokevirtual idx, 3)) (hlk : gLkV (mY Mt).cls idx m8_cryVolume 0) (hT : mT Mt = []) (hdd : 5 ≤ d) (hcat : (rest.map fun v => v.category).sum ≤ 8) (hc : c9 + 0 ≤ mc) (hn : n9 + 0 ≤ ms)
    (k : ∀ X' : NsT, NR X' V → G Mt d mc ms h0 Q QX (c9 + 0) (n9 + 0) (pc + 3) ls (.int (nI (cvA V.1.2.2.1 (bst V.1.2.2.1 (nat V.1.1.2.1)))) :: rest) (hX X' r)) : G Mt d mc ms h0 Q QX c9 n9 pc ls (.ref 0 :: rest) (hX X r) := by
  obtain ⟨Z, T, B, Y, C, O, S, ZD, TD, BD, YD, c, n, k9, v⟩ := X
  have hR9 := hR
  obtain ⟨hA, hC, hO, hS, hE, hD, hH, hSl⟩ := hR9
  refine g_callV (ci := 8) [0, 1, 2, 3, 4, 5, 6, 7, 8, 9, 10, 11, 12, 13, 14, 15, 16, 17, 18, 19] (c8_cryVolume hA hV.1.1 hC) hd hlk rfl rfl rfl rfl hX_sN (Or.inl (gAllS rfl)) hT hdd hcat hc hn (fun X9 h9 z => ?_) ?_
  · exact z.elim
  · rintro u h1 ⟨-, rfl, C', rfl, hC'⟩
    rw [hX_pN]
    exact k (Z, T, B, Y, C', O, S, ZD, TD, BD, YD, c, n, k9, v) ⟨hA, hC', hO, hS, hE, hD, hH, hSl⟩
theorem oG_wouldStop (hR : NR X V) (hV : InV V m) (hd : decode (mC Mt) pc = .ok (.invokevirtual idx, 3)) (hlk : gLkV (mY Mt).cls idx m8_wouldStop 0) (hT : mT Mt = []) (hdd : 5 ≤ d) (hcat : (rest.map fun v => v.category).sum ≤ 8) (hc : c9 + 0 ≤ mc) (hn : n9 + 0 ≤ ms)
    (k : ∀ X' : NsT, NR X' V → G Mt d mc ms h0 Q QX (c9 + 0) (n9 + 0) (pc + 3) ls (.int ((if stp V.1.1 (qp V.1) = true then 1 else 0)) :: rest) (hX X' r)) : G Mt d mc ms h0 Q QX c9 n9 pc ls (.ref 0 :: rest) (hX X r) := by
  obtain ⟨Z, T, B, Y, C, O, S, ZD, TD, BD, YD, c, n, k9, v⟩ := X
  have hR9 := hR
  obtain ⟨hA, hC, hO, hS, hE, hD, hH, hSl⟩ := hR9
  refine g_callV (ci := 8) [0, 1, 2, 3, 4, 5, 6, 7, 8, 9, 10, 11, 12, 13, 14, 15, 16, 17, 18, 19] (c8_wouldStop hA hV.1.1 hC) hd hlk rfl rfl rfl rfl hX_sN (Or.inl (gAllS rfl)) hT hdd hcat hc hn (fun X9 h9 z => ?_) ?_
  · exact z.elim
  · rintro u h1 ⟨-, rfl, C', rfl, hC'⟩
    rw [hX_pN]
    exact k (Z, T, B, Y, C', O, S, ZD, TD, BD, YD, c, n, k9, v) ⟨hA, hC', hO, hS, hE, hD, hH, hSl⟩
theorem oG_partialFills (hR : NR X V) (hV : InV V m) (hd : decode (mC Mt) pc = .ok (.invokevirtual idx, 3)) (hlk : gLkV (mY Mt).cls idx m8_partialFills 0) (hT : mT Mt = []) (hdd : 5 ≤ d) (hcat : (rest.map fun v => v.category).sum ≤ 8) (hc : c9 + 0 ≤ mc) (hn : n9 + 0 ≤ ms)
    (k : ∀ X' : NsT, NR X' V → G Mt d mc ms h0 Q QX (c9 + 0) (n9 + 0) (pc + 3) ls (.int (nI (pfc V.1.2.2.1 (qf V.1) V.1.2.2.1.length)) :: rest) (hX X' r)) : G Mt d mc ms h0 Q QX c9 n9 pc ls (.ref 0 :: rest) (hX X r) := by
  obtain ⟨Z, T, B, Y, C, O, S, ZD, TD, BD, YD, c, n, k9, v⟩ := X
  have hR9 := hR
  obtain ⟨hA, hC, hO, hS, hE, hD, hH, hSl⟩ := hR9
  refine g_callV (ci := 8) [0, 1, 2, 3, 4, 5, 6, 7, 8, 9, 10, 11, 12, 13, 14, 15, 16, 17, 18, 19] (c8_partialFills hA hV.1.1 hC) hd hlk rfl rfl rfl rfl hX_sN (Or.inl (gAllS rfl)) hT hdd hcat hc hn (fun X9 h9 z => ?_) ?_
  · exact z.elim
  · rintro u h1 ⟨-, rfl, C', rfl, hC'⟩
    rw [hX_pN]
    exact k (Z, T, B, Y, C', O, S, ZD, TD, BD, YD, c, n, k9, v) ⟨hA, hC', hO, hS, hE, hD, hH, hSl⟩
theorem oG_tradedPieces (hR : NR X V) (hV : InV V m) (hd : decode (mC Mt) pc = .ok (.invokevirtual idx, 3)) (hlk : gLkV (mY Mt).cls idx m8_tradedPieces 0) (hT : mT Mt = []) (hdd : 2 ≤ d) (hcat : (rest.map fun v => v.category).sum ≤ 8) (hc : c9 + 0 ≤ mc) (hn : n9 + 0 ≤ ms)
    (k : ∀ X' : NsT, NR X' V → G Mt d mc ms h0 Q QX (c9 + 0) (n9 + 0) (pc + 3) ls (.int (V.1.2.2.2.2.1) :: rest) (hX X' r)) : G Mt d mc ms h0 Q QX c9 n9 pc ls (.ref 0 :: rest) (hX X r) := by
  obtain ⟨Z, T, B, Y, C, O, S, ZD, TD, BD, YD, c, n, k9, v⟩ := X
  have hR9 := hR
  obtain ⟨hA, hC, hO, hS, hE, hD, hH, hSl⟩ := hR9
  refine g_callV (ci := 8) [0, 1, 2, 3, 4, 5, 6, 7, 8, 9, 10, 11, 12, 13, 14, 15, 16, 17, 18, 19] (c8_tradedPieces hA) hd hlk rfl rfl rfl rfl hX_sN (Or.inl (gAllS rfl)) hT hdd hcat hc hn (fun X9 h9 z => ?_) ?_
  · exact z.elim
  · rintro u h1 ⟨-, rfl, rfl⟩
    rw [hX_pN]
    exact k _ hR
theorem oG_goodCries (hR : NR X V) (hV : InV V m) (hd : decode (mC Mt) pc = .ok (.invokevirtual idx, 3)) (hlk : gLkV (mY Mt).cls idx m8_goodCries 0) (hT : mT Mt = []) (hdd : 2 ≤ d) (hcat : (rest.map fun v => v.category).sum ≤ 8) (hc : c9 + 0 ≤ mc) (hn : n9 + 0 ≤ ms)
    (k : ∀ X' : NsT, NR X' V → G Mt d mc ms h0 Q QX (c9 + 0) (n9 + 0) (pc + 3) ls (.int (V.1.2.2.2.2.2.2.1) :: rest) (hX X' r)) : G Mt d mc ms h0 Q QX c9 n9 pc ls (.ref 0 :: rest) (hX X r) := by
  obtain ⟨Z, T, B, Y, C, O, S, ZD, TD, BD, YD, c, n, k9, v⟩ := X
  have hR9 := hR
  obtain ⟨hA, hC, hO, hS, hE, hD, hH, hSl⟩ := hR9
  refine g_callV (ci := 8) [0, 1, 2, 3, 4, 5, 6, 7, 8, 9, 10, 11, 12, 13, 14, 15, 16, 17, 18, 19] (c8_goodCries hA) hd hlk rfl rfl rfl rfl hX_sN (Or.inl (gAllS rfl)) hT hdd hcat hc hn (fun X9 h9 z => ?_) ?_
  · exact z.elim
  · rintro u h1 ⟨-, rfl, rfl⟩
    rw [hX_pN]
    exact k _ hR
theorem oG_stoppedCries (hR : NR X V) (hV : InV V m) (hd : decode (mC Mt) pc = .ok (.invokevirtual idx, 3)) (hlk : gLkV (mY Mt).cls idx m8_stoppedCries 0) (hT : mT Mt = []) (hdd : 2 ≤ d) (hcat : (rest.map fun v => v.category).sum ≤ 8) (hc : c9 + 0 ≤ mc) (hn : n9 + 0 ≤ ms)
    (k : ∀ X' : NsT, NR X' V → G Mt d mc ms h0 Q QX (c9 + 0) (n9 + 0) (pc + 3) ls (.int (V.1.2.2.2.2.2.2.2.1) :: rest) (hX X' r)) : G Mt d mc ms h0 Q QX c9 n9 pc ls (.ref 0 :: rest) (hX X r) := by
  obtain ⟨Z, T, B, Y, C, O, S, ZD, TD, BD, YD, c, n, k9, v⟩ := X
  have hR9 := hR
  obtain ⟨hA, hC, hO, hS, hE, hD, hH, hSl⟩ := hR9
  refine g_callV (ci := 8) [0, 1, 2, 3, 4, 5, 6, 7, 8, 9, 10, 11, 12, 13, 14, 15, 16, 17, 18, 19] (c8_stoppedCries hA) hd hlk rfl rfl rfl rfl hX_sN (Or.inl (gAllS rfl)) hT hdd hcat hc hn (fun X9 h9 z => ?_) ?_
  · exact z.elim
  · rintro u h1 ⟨-, rfl, rfl⟩
    rw [hX_pN]
    exact k _ hR
theorem oG_lateOrders (hR : NR X V) (hV : InV V m) (hd : decode (mC Mt) pc = .ok (.invokevirtual idx, 3)) (hlk : gLkV (mY Mt).cls idx m8_lateOrders 0) (hT : mT Mt = []) (hdd : 2 ≤ d) (hcat : (rest.map fun v => v.category).sum ≤ 8) (hc : c9 + 0 ≤ mc) (hn : n9 + 0 ≤ ms)
    (k : ∀ X' : NsT, NR X' V → G Mt d mc ms h0 Q QX (c9 + 0) (n9 + 0) (pc + 3) ls (.int (V.1.2.2.2.2.2.2.2.2.1) :: rest) (hX X' r)) : G Mt d mc ms h0 Q QX c9 n9 pc ls (.ref 0 :: rest) (hX X r) := by
  obtain ⟨Z, T, B, Y, C, O, S, ZD, TD, BD, YD, c, n, k9, v⟩ := X
  have hR9 := hR
  obtain ⟨hA, hC, hO, hS, hE, hD, hH, hSl⟩ := hR9
  refine g_callV (ci := 8) [0, 1, 2, 3, 4, 5, 6, 7, 8, 9, 10, 11, 12, 13, 14, 15, 16, 17, 18, 19] (c8_lateOrders hA) hd hlk rfl rfl rfl rfl hX_sN (Or.inl (gAllS rfl)) hT hdd hcat hc hn (fun X9 h9 z => ?_) ?_
  · exact z.elim
  · rintro u h1 ⟨-, rfl, rfl⟩
    rw [hX_pN]
    exact k _ hR
theorem oG_coinDifference (hR : NR X V) (hV : InV V m) (hd : decode (mC Mt) pc = .ok (.invokevirtual idx, 3)) (hlk : gLkV (mY Mt).cls idx m8_coinDifference 0) (hT : mT Mt = []) (hdd : 3 ≤ d) (hcat : (rest.map fun v => v.category).sum ≤ 8) (hc : c9 + 0 ≤ mc) (hn : n9 + 0 ≤ ms)
    (k : ∀ X' : NsT, NR X' V → G Mt d mc ms h0 Q QX (c9 + 0) (n9 + 0) (pc + 3) ls (.int (V.1.2.2.2.2.2.2.2.2.2.1 - sumC V.1.2.1) :: rest) (hX X' r)) : G Mt d mc ms h0 Q QX c9 n9 pc ls (.ref 0 :: rest) (hX X r) := by
  obtain ⟨Z, T, B, Y, C, O, S, ZD, TD, BD, YD, c, n, k9, v⟩ := X
  have hR9 := hR
  obtain ⟨hA, hC, hO, hS, hE, hD, hH, hSl⟩ := hR9
  refine g_callV (ci := 8) [0, 1, 2, 3, 4, 5, 6, 7, 8, 9, 10, 11, 12, 13, 14, 15, 16, 17, 18, 19] (c8_coinDifference hA) hd hlk rfl rfl rfl rfl hX_sN (Or.inl (gAllS rfl)) hT hdd hcat hc hn (fun X9 h9 z => ?_) ?_
  · exact z.elim
  · rintro u h1 ⟨-, rfl, rfl⟩
    rw [hX_pN]
    exact k _ hR
theorem oG_goodDifference (hR : NR X V) (hV : InV V m) (hd : decode (mC Mt) pc = .ok (.invokevirtual idx, 3)) (hlk : gLkV (mY Mt).cls idx m8_goodDifference 0) (hT : mT Mt = []) (hdd : 5 ≤ d) (hcat : (rest.map fun v => v.category).sum ≤ 8) (hc : c9 + 0 ≤ mc) (hn : n9 + 0 ≤ ms)
    (k : ∀ X' : NsT, NR X' V → G Mt d mc ms h0 Q QX (c9 + 0) (n9 + 0) (pc + 3) ls (.int (V.1.2.2.2.2.2.2.2.2.2.2.1 - sumG V.1.2.1 + abI (ofd V.1.2.2.1 (qf V.1) V.1.2.2.1.length)) :: rest) (hX X' r)) : G Mt d mc ms h0 Q QX c9 n9 pc ls (.ref 0 :: rest) (hX X r) := by
  obtain ⟨Z, T, B, Y, C, O, S, ZD, TD, BD, YD, c, n, k9, v⟩ := X
  have hR9 := hR
  obtain ⟨hA, hC, hO, hS, hE, hD, hH, hSl⟩ := hR9
  refine g_callV (ci := 8) [0, 1, 2, 3, 4, 5, 6, 7, 8, 9, 10, 11, 12, 13, 14, 15, 16, 17, 18, 19] (c8_goodDifference hA hV.1.1 hC) hd hlk rfl rfl rfl rfl hX_sN (Or.inl (gAllS rfl)) hT hdd hcat hc hn (fun X9 h9 z => ?_) ?_
  · exact z.elim
  · rintro u h1 ⟨-, rfl, C', rfl, hC'⟩
    rw [hX_pN]
    exact k (Z, T, B, Y, C', O, S, ZD, TD, BD, YD, c, n, k9, v) ⟨hA, hC', hO, hS, hE, hD, hH, hSl⟩
end OG1
