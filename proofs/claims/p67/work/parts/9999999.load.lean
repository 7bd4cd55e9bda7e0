section LOADT
set_option maxRecDepth 100000
/-! ### the market's text, as the law builds it -/
variable {b0 L : Nat} {xs : Nat → Int32}
def nms : List (List Nat) := [[97, 109, 121], [98], [98, 105, 100], [99, 114, 121], [101]]
def trsL (L : Nat) (xs : Nat → Int32) (n : Nat) : List (List Nat × Nat × Nat) := (List.range n).map (fun k => (nms.getD k [], sCoi L xs k, sGoo L xs k))
def txt0 (L : Nat) (xs : Nat → Int32) (k : Nat) : List Nat := tMkt (sPer L xs) (sPri L xs) (sBan L xs) (sRul L xs) (tTrs (trsL L xs k))
theorem tMkt_app {p l b u : Nat} {r : List Nat} : tMkt p l b u r = tMkt p l b u [] ++ r := by unfold tMkt; simp
theorem tTr_app {t : List Nat × Nat × Nat} {r : List Nat} : tTr t r = tTr t [] ++ r := by unfold tTr; simp
theorem tTrs_app (a c : List (List Nat × Nat × Nat)) : tTrs (a ++ c) = tTrs a ++ tTrs c := by
  induction a with
  | nil => rfl
  | cons t a ih => show tTr t (tTrs (a ++ c)) = tTr t (tTrs a) ++ tTrs c; rw [ih, tTr_app, tTr_app (r := tTrs a), List.append_assoc]
theorem txt0_s {k : Nat} : txt0 L xs (k + 1) = txt0 L xs k ++ tTr (nms.getD k [], sCoi L xs k, sGoo L xs k) [] := by
  unfold txt0 trsL
  rw [List.range_succ, List.map_append, tTrs_app, tMkt_app, tMkt_app (r := tTrs _), List.append_assoc]; rfl
theorem sPer_b : 1 ≤ sPer L xs ∧ sPer L xs ≤ 12 := by have := drw_lt (L := L) (xs := xs) (k := 0) (n := 12) (by decide); unfold sPer; omega
theorem sPri_b : 1 ≤ sPri L xs ∧ sPri L xs ≤ 60 := by have := drw_lt (L := L) (xs := xs) (k := 1) (n := 60) (by decide); unfold sPri; omega
theorem sBan_b : sBan L xs ≤ 40 := by have := drw_lt (L := L) (xs := xs) (k := 3) (n := 40) (by decide); unfold sBan; split <;> omega
theorem sRul_b : sRul L xs ≤ 1 := by have := drw_lt (L := L) (xs := xs) (k := 4) (n := 2) (by decide); unfold sRul; omega
theorem sTra_b : sTra L xs ≤ 5 := by have := drw_lt (L := L) (xs := xs) (k := 5) (n := 6) (by decide); unfold sTra; omega
theorem sCoi_b {k : Nat} : sCoi L xs k < 90000 := by
  unfold sCoi
  split
  · have := drw_lt (L := L) (xs := xs) (k := 6 + k) (n := 900) (by decide); omega
  · exact drw_lt (by decide)
theorem sGoo_b {k : Nat} : sGoo L xs k < 300 := drw_lt (by decide)
theorem dl_2 {x : Nat} (h : x < 100) : (decT x).length ≤ 2 := by rw [decT_len (by omega)]; unfold dlen; split <;> (try split) <;> omega
theorem dl_3 {x : Nat} (h : x < 1000) : (decT x).length ≤ 3 := by rw [decT_len (by omega)]; unfold dlen; split <;> (try split) <;> (try split) <;> omega
theorem dl_5 {x : Nat} (h : x < 100000) : (decT x).length ≤ 5 := by rw [decT_len h]; unfold dlen; split <;> (try split) <;> (try split) <;> (try split) <;> omega
theorem dl_1 {x : Nat} (h : x < 100000) : 1 ≤ (decT x).length := by rw [decT_len h]; unfold dlen; split <;> (try split) <;> (try split) <;> (try split) <;> omega
theorem ruW_l (u : Nat) : 4 ≤ (ruW u).length ∧ (ruW u).length ≤ 5 := by unfold ruW; split <;> decide
theorem nms_l (k : Nat) : (nms.getD k []).length ≤ 3 := by
  rcases k with _ | _ | _ | _ | _ | k <;> first | decide | (show ([] : List Nat).length ≤ 3; decide)
theorem txt0_h : (tMkt (sPer L xs) (sPri L xs) (sBan L xs) (sRul L xs) []).length ≤ 22 ∧ 18 ≤ (tMkt (sPer L xs) (sPri L xs) (sBan L xs) (sRul L xs) []).length := by
  have h1 := sPer_b (L := L) (xs := xs)
  have h2 := sPri_b (L := L) (xs := xs)
  have h3 := sBan_b (L := L) (xs := xs)
  have a1 := dl_2 (x := sPer L xs) (by omega)
  have a2 := dl_2 (x := sPri L xs) (by omega)
  have a3 := dl_2 (x := sBan L xs) (by omega)
  have c1 := dl_1 (x := sPer L xs) (by omega)
  have c2 := dl_1 (x := sPri L xs) (by omega)
  have c3 := dl_1 (x := sBan L xs) (by omega)
  have a4 := ruW_l (sRul L xs)
  unfold tMkt wMkt
  simp only [List.length_append, List.length_cons, List.length_nil]
  omega
theorem txt0_l (k : Nat) : (txt0 L xs k).length ≤ 22 + 21 * k ∧ 18 ≤ (txt0 L xs k).length := by
  induction k with
  | zero => exact ⟨txt0_h.1, txt0_h.2⟩
  | succ k ih =>
    rw [txt0_s, List.length_append]
    have a1 := dl_5 (x := sCoi L xs k) (by have := sCoi_b (L := L) (xs := xs) (k := k); omega)
    have a2 := dl_3 (x := sGoo L xs k) (by have := sGoo_b (L := L) (xs := xs) (k := k); omega)
    have a3 := nms_l k
    unfold tTr wTrd
    simp only [List.length_append, List.length_cons, List.length_nil]
    omega
theorem st27 : StOk 27 [109, 97, 114, 107, 101, 116, 32] := ⟨_, rfl, rfl, by decide, by decide⟩
theorem st28 : StOk 28 [32] := ⟨_, rfl, rfl, by decide, by decide⟩
theorem st29 : StOk 29 [59] := ⟨_, rfl, rfl, by decide, by decide⟩
theorem st30 : StOk 30 [116, 114, 97, 100, 101, 114, 32] := ⟨_, rfl, rfl, by decide, by decide⟩
theorem stRu {u : Nat} (h : u ≤ 1) : StOk (31 + u) (ruW u) := by
  rcases (show u = 0 ∨ u = 1 by omega) with rfl | rfl
  · exact ⟨_, rfl, rfl, by decide, by decide⟩
  · exact ⟨_, rfl, rfl, by decide, by decide⟩
theorem stNm {k : Nat} (h : k < 5) : StOk (33 + k) (nms.getD k []) := by
  rcases k with _ | _ | _ | _ | _ | k
  · exact ⟨_, rfl, rfl, by decide, by decide⟩
  · exact ⟨_, rfl, rfl, by decide, by decide⟩
  · exact ⟨_, rfl, rfl, by decide, by decide⟩
  · exact ⟨_, rfl, rfl, by decide, by decide⟩
  · exact ⟨_, rfl, rfl, by decide, by decide⟩
  · omega
theorem StOk.a {i : Nat} {w : List Nat} (h : StOk i w) : ∀ c ∈ w, c < 128 := by obtain ⟨t, -, -, -, h4⟩ := h; exact h4
theorem vcl_c {i : Nat} : ∀ ρ : List Nat, ρ.length ≤ 1000 → ([.ref (1000 + i)] : List Value).map (tv (gRen ρ)) = [.ref (1000 + i)] := fun ρ h => by
  show [Value.ref (gRen ρ (1000 + i))] = _
  rw [gRen_big h]
theorem vcl_i {x : Int32} : ∀ ρ : List Nat, ρ.length ≤ 1000 → ([.int x] : List Value).map (tv (gRen ρ)) = [.int x] := fun ρ h => rfl
def ldV (V : VwT) (A : MkA) : VwT := (A, remP V.2.1 V.1, V.2.2.1, [], (0, -1), V.2.2.2.2.2)
section
variable {Mt : gM} {d mc ms : Nat} {h0 : gH} {Q : Option Value → gH → Prop} {QX : String → gH → Prop} {c9 n9 pc : Nat} {ls : List (Option Value)} {rest : List Value} {r : gH} {X : NsT} {V : VwT} {m idx : Nat}
theorem oG_load {A' : MkA} (hR : NR X V) (hp9 : parse V.2.2.2.1 = .inr A') (hd : decode (mC Mt) pc = .ok (.invokevirtual idx, 3)) (hlk : gLkV (mY Mt).cls idx m8_load 0) (hT : mT Mt = []) (hdd : 11 ≤ d) (hcat : (rest.map fun v => v.category).sum ≤ 8) (hc : c9 + 13 ≤ mc) (hn : n9 + 172 ≤ ms) (hr : rFar r = true) (hls : rLs ls = true) (hsk : rSk rest = true)
    (k : ∀ X', NR X' (ldV V A') → G Mt d mc ms h0 Q QX (c9 + 13) (n9 + 172) (pc + 3) ls (.int (nI A'.2.2.1.length) :: rest) (hX X' r)) : G Mt d mc ms h0 Q QX c9 n9 pc ls (.ref 0 :: rest) (hX X r) := by
  obtain ⟨Z, T, B, Y, C, O, S, ZD, TD, BD, YD, c, n, k9, v⟩ := X
  have hR9 := hR
  obtain ⟨hA, hC, hO, hS, hE, hD, hH, hSl⟩ := hR9
  obtain ⟨ρ, K, W, hs, hlt, hl, r0, hkl, hkd, -, -, hkr, hq1, hq0, hp1, hp0⟩ := hW_A (Z := Z) (T := T) (B := B) (Y := Y) (C := C) (O := O) (S := S) (ZD := ZD) (TD := TD) (BD := BD) (YD := YD) (c := c) (n := n) (k := k9) (v := v) (r := r) hH.2.2.1
  refine g_callV (ci := 8) ρ (c8_load hA hC ⟨hH.2.1, hH.2.2.1, hkl, hkd, hkr, fun x hx => hH.2.2.2.2 n x hH.2.2.1 hx⟩ hS hD.1 hD.2) hd hlk rfl rfl rfl (by rw [gRen_at r0]; rfl) hs (gNn_K hs hlt hr (fun _ _ h => ?_) (fun _ _ z => z.elim) hls hsk) hT hdd hcat hc hn (fun _ _ z => z.elim) ?_
  · obtain ⟨-, S', -, (⟨A', -, -, -, Z', T', B', Y', C', rfl, -, -⟩ | ⟨cc, oo, -, -, -, Z', T', B', Y', C', rfl, -, -, -⟩)⟩ := h
    · exact hK_clo hl hq1
    · exact hK_clo hl hq0
  · rintro u h1 ⟨rfl, S', hS', (⟨A2, hp, f1, f2, Z', T', B', Y', C', rfl, hA', hC'⟩ | ⟨cc, oo, hp, f1, f2, Z', T', B', Y', C', rfl, hT', hB', hC'⟩)⟩
    · have hp2 : gPb ρ ρ (hK Z' T' B' Y' C' O S' Z' T' B' Y' (nI (min 6 (c + 1)), nI (nxt n)) (K.set n (some 41)) W (some (Z, T, B, Y)) none) (hX (Z, T, B, Y, C, O, S, ZD, TD, BD, YD, c, n, k9, v) r) = hX (Z', T', B', Y', C', O, S', Z', T', B', Y', min 6 (c + 1), nxt n, ks k9 n (some (Z, T, B, Y)), v) r := hp1 _ _ _ _ _ _ _ _ _ _ _ _ _ _
      rw [hp2]
      rw [hp9] at hp
      cases hp
      rw [hp9]
      exact k _ ⟨hA', hC', hO, hS', ⟨f1, f2⟩, ⟨hA'.2.1.2.2.1, hA'.2.2.1.2.2.1⟩, hH.keep hA, hSl⟩
    · rw [hp9] at hp; cases hp
end
end LOADT
