section LAWB
set_option maxRecDepth 100000
/-! ### the law's cases -/
def okE (e : Option Value) : Bool := match e with | some (.ref q) => Nat.blt q 41 || Nat.ble 174 q | _ => true
def LH (L mc ms c n j : Nat) (X : NsT) (S : MoT) (V : VwT) (m : Nat) (e5 e6 e7 e8 : Option Value) : Prop := 6 * j + 6 ≤ L ∧ L ≤ 3072 ∧ c + 25 ≤ mc ∧ n + 250 ≤ ms ∧ (okE e5 && (okE e6 && (okE e7 && okE e8))) = true ∧ NR X V ∧ MSt S V ∧ InV V m ∧ 601 ≤ m ∧ m ≤ 1900
def Qw : Option Value → gH → Prop := fun u _ => u = some (.int 1)
def LK (b L : Nat) (xs : Nat → Int32) (mc ms : Nat) (h0 : gH) (QX : String → gH → Prop) (c n j m : Nat) : Prop := ∀ (c' n' : Nat) (X' : NsT) (S' : MoT) (z' : Int64) (V' : VwT) (f5 f6 f7 f8 : Option Value), c' ≤ c + 25 → n' ≤ n + 250 → NR X' V' → MSt S' V' → InV V' (m + 1) → (okE f5 && (okE f6 && (okE f7 && okE f8))) = true →
  G (mL_law (some (b, L, xs))) 14 mc ms h0 Qw QX c' n' 3059 [some (.ref 2000), some (.ref 0), some (.ref 174), some (.ref 184), some (.int (nI (6 * j))), f5, f6, f7, f8] [] (hX X' S' z')
theorem vp_s {L j : Nat} (k : Nat) (h : 6 * j + 6 ≤ L) (hL : L ≤ 3072) (hk : k ≤ 5) : vp_in (nI (6 * j) + nI k) L := by
  have e : nI (6 * j) + nI k = nI (6 * j + k) := by
    show Int32.ofNat _ + Int32.ofNat _ = Int32.ofNat _
    rw [Int32.ofNat_add]
  rw [e]
  rintro (h1 | h1)
  · rw [Int32.lt_iff_toInt_lt, nI_ti (by omega)] at h1
    rw [show (0 : Int32).toInt = 0 from rfl] at h1
    omega
  · have : (nI (6 * j + k)).toNatClampNeg = 6 * j + k := nIc (by omega)
    rw [this] at h1
    omega
theorem lsOk {i : Int32} {e5 e6 e7 e8 : Option Value} (h : (okE e5 && (okE e6 && (okE e7 && okE e8))) = true) : ([some (.ref 2000), some (.ref 0), some (.ref 174), some (.ref 184), some (.int i), e5, e6, e7, e8] : List (Option Value)).all (fun o => match o with | some (.ref q) => Nat.blt q 41 || Nat.ble 174 q | _ => true) = true := by
  simp only [Bool.and_eq_true] at h
  show (true && (true && (true && (true && (true && (okE e5 && (okE e6 && (okE e7 && (okE e8 && true))))))))) = true
  rw [h.1, h.2.1, h.2.2.1, h.2.2.2]; rfl
theorem okF {e5 e6 e7 e8 : Option Value} {y x : Int32} (h : (okE e5 && (okE e6 && (okE e7 && okE e8))) = true) : (okE (some (.int y)) && (okE (some (.int x)) && (okE e7 && okE e8))) = true := by
  simp only [Bool.and_eq_true] at h
  show (true && (true && (okE e7 && okE e8))) = true
  rw [h.2.2.1, h.2.2.2]; rfl
theorem lcmp_s {x : Int64} : lg_cmp ([x].getD (Int32.toNatClampNeg 0) 0) x = 0 := by
  show lg_cmp x x = 0
  unfold lg_cmp
  simp
theorem zz_f {y x v : Int32} {z : Int64} (hz : y = 0 → ∃ x, x = v ∧ z = x.toInt64) (hb : y = 0 → x = v) : y = 0 → z = x.toInt64 := fun h => by
  obtain ⟨w, rfl, h2⟩ := hz h
  rw [h2, hb h]
theorem zz_s {y x : Int32} {os : List Od} {q : Nat} {z : Int64} (hz : y = 0 → ∃ x, ReS os q x ∧ z = x.toInt64) (hb : y = 0 → ReS os q x) : y = 0 → z = x.toInt64 := fun h => by
  obtain ⟨w, h1, h2⟩ := hz h
  rw [h2, ReS_u h1 (hb h)]
theorem zz_d {y x : Int32} {os : List Od} {q : Nat} {z : Int64} (hz : y = 0 → ∃ x, ReD os q x ∧ z = x.toInt64) (hb : y = 0 → ReD os q x) : y = 0 → z = x.toInt64 := fun h => by
  obtain ⟨w, h1, h2⟩ := hz h
  rw [h2, ReD_u h1 (hb h)]
theorem zz_l {y x : Int32} {os : List Od} {w n : Nat} {f : Nat → Nat} {z : Int64} (hz : y = 0 → ∃ x, LaF os w f n x ∧ z = x.toInt64) (hb : y = 0 → LaF os w f n x) : y = 0 → z = x.toInt64 := fun h => by
  obtain ⟨w, h1, h2⟩ := hz h
  rw [h2, LaF_u h1 (hb h)]
theorem tsh_nn (A : MkA) : Jvm.FP.Core.fIsNaN (tshA A) = false := by
  unfold tshA
  split
  · decide +kernel
  · rename_i h; exact fq_n h
theorem tsh_n (A : MkA) : vf_n64 (FP.f2d (tshA A)) := n64_of (by
  have h := Jvm.FP.f2d_core (tsh_nn A)
  have h2 : FP.f2d (tshA A) = Jvm.FP.Core.f2d (tshA A) := h
  rw [h2]; exact Jvm.FP.Core.f2d_out (tsh_nn A))
theorem per1 {V : VwT} {m : Nat} (hV : InV V m) : 1 ≤ V.1.1.2.2.2.2 := by
  obtain ⟨-, -, -, ⟨per, e, h1, h2⟩, -⟩ := hV.1.1
  rw [e, Int32.le_iff_toInt_le, nI_ti (by omega)]
  rw [show (1 : Int32).toInt = 1 from rfl]
  omega
section
variable {L9 : gM} {d mc ms : Nat} {h0 : gH} {Q : Option Value → gH → Prop} {QX : String → gH → Prop} {c n pc : Nat} {ls : List (Option Value)} {X : NsT} {Mo : MoT} {z : Int64}
theorem g_cry {idx m : Nat} {V : VwT} (hR : NR X V) (hV : InV V m) (hd : decode (mC L9) pc = .ok (.invokevirtual idx, 3)) (hlk : gLkV (mY L9).cls idx m8_cry 0) (hT : mT L9 = []) (hdd : 6 ≤ d) (hc : c + 13 ≤ mc) (hn : n + 172 ≤ ms)
    (hls : ls.all (fun o => match o with | some (.ref q) => Nat.blt q 41 || Nat.ble 174 q | _ => true) = true) (k : ∀ X', NR X' (cmV V (cryA V.1).1) → G L9 d mc ms h0 Q QX (c + 13) (n + 172) (pc + 3) ls [.int (cryA V.1).2] (hX X' Mo z)) : G L9 d mc ms h0 Q QX c n pc ls [.ref 0] (hX X Mo z) := by
  obtain ⟨Z, T, B, Y, C, O, S, ZD, TD, BD, YD, c9, n9, k9, v⟩ := X
  have hR9 := hR
  obtain ⟨hA, hC, hO, hS, hE, hD, hH, hSl⟩ := hR9
  obtain ⟨ρ, K, W, r0, hs, kp, q1, q0, qp, qs⟩ := hR.keepA (M := Mo) (z := z)
  refine g_callV ρ (c8_cry hA hV.1.1 hC kp) hd hlk rfl rfl rfl (by rw [gRen_at r0]; rfl) hs (gNn_K hs (fun _ _ h => q1 h) (fun _ _ z => z.elim) hls rfl) hT hdd (by decide) hc hn (fun _ _ z => z.elim) ?_
  intro u h1 hh
  obtain ⟨hb, rfl, X', e1, hR'⟩ := qp _ _ _ _ _ hh
  rw [e1]
  exact k X' hR'
theorem g_load {idx : Nat} {V : VwT} (hR : NR X V) (hd : decode (mC L9) pc = .ok (.invokevirtual idx, 3)) (hlk : gLkV (mY L9).cls idx m8_load 0) (hT : mT L9 = []) (hdd : 11 ≤ d) (hc : c + 13 ≤ mc) (hn : n + 172 ≤ ms)
    (hls : ls.all (fun o => match o with | some (.ref q) => Nat.blt q 41 || Nat.ble 174 q | _ => true) = true) (k : ∀ X', NR X' (ldV V (parse V.2.2.2.1)) → G L9 d mc ms h0 Q QX (c + 13) (n + 172) (pc + 3) ls [.int (ldR (parse V.2.2.2.1))] (hX X' Mo z)) : G L9 d mc ms h0 Q QX c n pc ls [.ref 0] (hX X Mo z) := by
  obtain ⟨Z, T, B, Y, C, O, S, ZD, TD, BD, YD, c9, n9, k9, v⟩ := X
  have hR9 := hR
  obtain ⟨hA, hC, hO, hS, hE, hD, hH, hSl⟩ := hR9
  obtain ⟨ρ, K, W, hs, hl, r0, hkl, hkd, -, -, hkr, hq1, hq0, hp1, hp0⟩ := hW_A (Z := Z) (T := T) (B := B) (Y := Y) (C := C) (O := O) (S := S) (ZD := ZD) (TD := TD) (BD := BD) (YD := YD) (c := c9) (n := n9) (k := k9) (v := v) (M := Mo) (o := [z]) hH.2.2.1
  refine g_callV ρ (c8_load hA hC ⟨hH.2.1, hH.2.2.1, hkl, hkd, hkr, fun x hx => hH.2.2.2.2 n9 x hH.2.2.1 hx⟩ hS hD.1 hD.2) hd hlk rfl rfl rfl (by rw [gRen_at r0]; rfl) hs (gNn_K hs (fun _ _ h => ?_) (fun _ _ z => z.elim) hls rfl) hT hdd (by decide) hc hn (fun _ _ z => z.elim) ?_
  · obtain ⟨-, S', -, (⟨A', -, -, -, Z', T', B', Y', C', rfl, -, -⟩ | ⟨cc, oo, -, -, -, Z', T', B', Y', C', rfl, -, -, -⟩)⟩ := h
    · exact hK_clo hl hq1
    · exact hK_clo hl hq0
  · rintro u h1 ⟨rfl, S', hS', (⟨A', hp, f1, f2, Z', T', B', Y', C', rfl, hA', hC'⟩ | ⟨cc, oo, hp, f1, f2, Z', T', B', Y', C', rfl, hT', hB', hC'⟩)⟩
    · have hp2 : gPb ρ ρ (hK Z' T' B' Y' C' O S' Z' T' B' Y' (nI (min 6 (c9 + 1)), nI (nxt n9)) (K.set n9 (some 41)) W (some (Z, T, B, Y)) none) (hX (Z, T, B, Y, C, O, S, ZD, TD, BD, YD, c9, n9, k9, v) Mo z) = hX (Z', T', B', Y', C', O, S', Z', T', B', Y', min 6 (c9 + 1), nxt n9, ks k9 n9 (some (Z, T, B, Y)), v) Mo z := hp1 _ _ _ _ _ _ _ _ _ _ _ _ _ _
      rw [hp2]
      refine k _ ?_
      rw [hp]
      exact ⟨hA', hC', hO, hS', ⟨f1, f2⟩, hA'.lens, hH.keep hA, hSl⟩
    · have hp2 : gPb ρ ρ (hK Z T B Y C' O S' Z' T' B' Y' (nI c9, nI n9) K W (kg k9 n9) none) (hX (Z, T, B, Y, C, O, S, ZD, TD, BD, YD, c9, n9, k9, v) Mo z) = hX (Z, T, B, Y, C', O, S', Z', T', B', Y', c9, n9, k9, v) Mo z := hp0 _ _ _ _ _ _ _ _ _ _ _ _ _
      rw [hp2]
      refine k _ ?_
      rw [hp]
      exact ⟨hA, hC', hO, hS', ⟨f1, f2⟩, ⟨hT', hB'⟩, hH, hSl⟩
end
end LAWB
