section LAWG
set_option maxRecDepth 100000
/-! ### the law's helpers -/
theorem kLc_13 : Cond.classLink RL 13 "java/lang/IllegalStateException" ∈ gG := gG_in 897 (by decide +kernel) (by decide +kernel)
theorem kLc_19 : Cond.classLink RL 19 "java/lang/IllegalArgumentException" ∈ gG := gG_in 977 (by decide +kernel) (by decide +kernel)
theorem kLc_24 : Cond.classLink RL 24 "java/lang/IndexOutOfBoundsException" ∈ gG := gG_in 1001 (by decide +kernel) (by decide +kernel)
theorem kLc_41 : Cond.classLink RL 41 "java/util/NoSuchElementException" ∈ gG := gG_in 1060 (by decide +kernel) (by decide +kernel)
theorem NR.keepA {Z ZD : MhT} {T TD : TrT} {B BD : BkT} {Y YD : TaT} {C : CrT} {O : OuT} {S : SeT} {c n : Nat} {k : K6} {v : V2} {M : MoT} {z : Int64} {V : VwT} (hR : NR (Z, T, B, Y, C, O, S, ZD, TD, BD, YD, c, n, k, v) V) :
    ∃ (ρ : List Nat) (K W : List (Option Nat)), ρ[0]? = some 0 ∧ gSub ρ (hX (Z, T, B, Y, C, O, S, ZD, TD, BD, YD, c, n, k, v) M z) (hK Z T B Y C O S ZD TD BD YD (nI c, nI n) K W (kg k n) none) ∧ KpOk c n K W (kg k n) none ∧
      (∀ {A' : MkA} {b : Bool} {w : Value} {u : Option Value} {h1 : gH}, PoK Z T B Y O S ZD TD BD YD c n K W none A' b w u h1 → gClo ρ h1) ∧ gClo ρ (hK Z T B Y C O S ZD TD BD YD (nI c, nI n) K W (kg k n) none) ∧
      (∀ (A' : MkA) (b : Bool) (w : Value) (u : Option Value) (h1 : gH), PoK Z T B Y O S ZD TD BD YD c n K W none A' b w u h1 → b = true ∧ u = some w ∧ ∃ X', gPb ρ ρ h1 (hX (Z, T, B, Y, C, O, S, ZD, TD, BD, YD, c, n, k, v) M z) = hX X' M z ∧ NR X' (cmV V A')) ∧
      gPb ρ ρ (hK Z T B Y C O S ZD TD BD YD (nI c, nI n) K W (kg k n) none) (hX (Z, T, B, Y, C, O, S, ZD, TD, BD, YD, c, n, k, v) M z) = hX (Z, T, B, Y, C, O, S, ZD, TD, BD, YD, c, n, k, v) M z := by
  have hR9 := hR
  obtain ⟨hA, hC, hO, hS, hE, hD, hH, hSl⟩ := hR9
  obtain ⟨ρ, K, W, hs, hl, h0, hkl, hkd, -, -, hkr, hq1, hq0, hp1, hp0⟩ := hW_A (Z := Z) (T := T) (B := B) (Y := Y) (C := C) (O := O) (S := S) (ZD := ZD) (TD := TD) (BD := BD) (YD := YD) (c := c) (n := n) (k := k) (v := v) (M := M) (o := [z]) hH.2.2.1
  refine ⟨ρ, K, W, h0, hs, ⟨hH.2.1, hH.2.2.1, hkl, hkd, hkr, fun x hx => hH.2.2.2.2 n x hH.2.2.1 hx⟩, ?_, hK_clo hl hq0, ?_, hp0 _ _ _ _ _ _ _ _ _ _ _ _ _⟩
  · rintro A' b w u h1 ⟨-, -, Z', T', B', Y', C', rfl, -, -⟩
    exact hK_clo hl hq1
  · rintro A' b w u h1 ⟨hb, hu, Z', T', B', Y', C', rfl, hA', hC'⟩
    exact ⟨hb, hu, (Z', T', B', Y', C', O, S, ZD, TD, BD, YD, min 6 (c + 1), nxt n, ks k n (some (Z, T, B, Y)), v), hp1 _ _ _ _ _ _ _ _ _ _ _ _ _ _, hA', hC', hO, hS, hE, hD, hH.keep hA, hSl⟩
end LAWG
