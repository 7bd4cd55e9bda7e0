section LAWX
set_option maxRecDepth 100000
/-! ### the class's state and what is meant -/
abbrev NsT : Type := MhT × TrT × BkT × TaT × CrT × OuT × SeT × MhT × TrT × BkT × TaT × Nat × Nat × K6 × V2
def hX : NsT → gH → gH
  | (Z, T, B, Y, C, O, S, ZD, TD, BD, YD, c, n, k, v), r => hW Z T B Y C O S ZD TD BD YD c n k v r
def HisR (c n : Nat) (k : K6) (P : List MkA) : Prop := c = P.length ∧ c ≤ 6 ∧ n < 6 ∧ (∀ j A, P[j]? = some A → ∃ x, kg k ((n + 6 - c + j) % 6) = some x ∧ MkR x.1 x.2.1 x.2.2.1 x.2.2.2 A) ∧ ∀ i x, i < 6 → kg k i = some x → TrLen x.2.1 ∧ BkLen x.2.2.1
def SlX : Option MkX → Option MkA → Prop
  | none, none => True
  | some x, some A => MkR x.1 x.2.1 x.2.2.1 x.2.2.2 A
  | _, _ => False
def SloR (v : V2) (X : SlT) : Prop := SlX v.1 X.1 ∧ SlX v.2 X.2
def NR : NsT → VwT → Prop
  | (Z, T, B, Y, C, O, S, _, TD, BD, _, c, n, k, v), V => MkR Z T B Y V.1 ∧ CrLen C ∧ True ∧ SuR S V.2.2.2.1 ∧ (S.2.1 = V.2.2.2.2.1.1 ∧ S.2.2.1 = V.2.2.2.2.1.2) ∧ (TrLen TD ∧ BkLen BD) ∧ HisR c n k V.2.1 ∧ SloR v V.2.2.1
def InV (V : VwT) (m : Nat) : Prop := Inv V.1 m ∧ (∀ A ∈ V.2.1, Inv A m) ∧ (∀ a, V.2.2.1.1 = some a → Inv a m) ∧ (∀ a, V.2.2.1.2 = some a → Inv a m)
def cmV (V : VwT) (A : MkA) : VwT := (A, remP V.2.1 V.1, V.2.2)
theorem kg_ks {k : K6} {i j : Nat} {x : Option MkX} (hi : i < 6) (hj : j < 6) : kg (ks k i x) j = if j = i then x else kg k j := by
  have a : i = 0 ∨ i = 1 ∨ i = 2 ∨ i = 3 ∨ i = 4 ∨ i = 5 := by omega
  have b : j = 0 ∨ j = 1 ∨ j = 2 ∨ j = 3 ∨ j = 4 ∨ j = 5 := by omega
  rcases a with rfl | rfl | rfl | rfl | rfl | rfl <;> rcases b with rfl | rfl | rfl | rfl | rfl | rfl <;> rfl
theorem get_app {α : Type} {l : List α} {a b : α} {j : Nat} (h : (l ++ [a])[j]? = some b) : (j < l.length ∧ l[j]? = some b) ∨ (j = l.length ∧ b = a) := by
  rcases Nat.lt_trichotomy j l.length with c | c | c
  · rw [List.getElem?_append_left c] at h
    exact Or.inl ⟨c, h⟩
  · subst c
    rw [List.getElem?_append_right (Nat.le_refl _), Nat.sub_self] at h
    exact Or.inr ⟨rfl, (Option.some.inj h).symm⟩
  · rw [List.getElem?_append_right (by omega)] at h
    obtain ⟨q, hq⟩ : ∃ q, j - l.length = q + 1 := ⟨j - l.length - 1, by omega⟩
    rw [hq] at h
    cases h
theorem HisR.keep {c n : Nat} {k : K6} {P : List MkA} {Z : MhT} {T : TrT} {B : BkT} {Y : TaT} {A : MkA} (h : HisR c n k P) (hx : MkR Z T B Y A) : HisR (min 6 (c + 1)) (nxt n) (ks k n (some (Z, T, B, Y))) (remP P A) := by
  obtain ⟨rfl, h6, hn, hP, hL⟩ := h
  refine ⟨?_, Nat.min_le_left _ _, ?_, ?_, ?_⟩
  · unfold remP
    split
    · rw [List.length_append, List.length_drop]; show _ = _ - 1 + 1; omega
    · rw [List.length_append]; show _ = _ + 1; omega
  · unfold nxt; split <;> omega
  · intro j A' hj
    unfold remP at hj
    by_cases e : P.length = 6
    · rw [if_pos e] at hj
      rcases get_app hj with ⟨q1, q2⟩ | ⟨q1, q2⟩
      · rw [List.length_drop] at q1
        rw [List.getElem?_drop] at q2
        obtain ⟨x, x1, x2⟩ := hP _ _ q2
        refine ⟨x, ?_, x2⟩
        rw [kg_ks hn (Nat.mod_lt _ (by decide)), if_neg (by unfold nxt; split <;> omega), ← x1]
        exact congrArg (kg k) (by unfold nxt; split <;> omega)
      · rw [List.length_drop] at q1
        subst q2
        refine ⟨(Z, T, B, Y), ?_, hx⟩
        rw [kg_ks hn (Nat.mod_lt _ (by decide)), if_pos (by unfold nxt; split <;> omega)]
    · rw [if_neg e] at hj
      rcases get_app hj with ⟨q1, q2⟩ | ⟨q1, q2⟩
      · obtain ⟨x, x1, x2⟩ := hP _ _ q2
        refine ⟨x, ?_, x2⟩
        rw [kg_ks hn (Nat.mod_lt _ (by decide)), if_neg (by unfold nxt; split <;> omega), ← x1]
        exact congrArg (kg k) (by unfold nxt; split <;> omega)
      · subst q2
        refine ⟨(Z, T, B, Y), ?_, hx⟩
        rw [kg_ks hn (Nat.mod_lt _ (by decide)), if_pos (by unfold nxt; split <;> omega)]
  · intro i x hi hk
    rw [kg_ks hn hi] at hk
    by_cases e : i = n
    · rw [if_pos e] at hk
      cases hk
      exact ⟨hx.2.1.2.2.1, hx.2.2.1.2.2.1⟩
    · rw [if_neg e] at hk
      exact hL i x hi hk
theorem HisR.undo {c n : Nat} {k : K6} {P : List MkA} {A : MkA} (h : HisR c n k P) (hc : 1 ≤ c) : (∃ x, kg k (prv n) = some x ∧ MkR x.1 x.2.1 x.2.2.1 x.2.2.2 (popA P A)) ∧ HisR (c - 1) (prv n) k P.dropLast := by
  obtain ⟨rfl, h6, hn, hP, hL⟩ := h
  have hpn : prv n = (n + 5) % 6 := by unfold prv; split <;> omega
  have hl : P.length - 1 < P.length := by omega
  refine ⟨?_, ?_, by omega, by rw [hpn]; exact Nat.mod_lt _ (by decide), ?_, hL⟩
  · obtain ⟨x, x1, x2⟩ := hP (P.length - 1) _ (List.getElem?_eq_getElem hl)
    refine ⟨x, ?_, ?_⟩
    · rw [← x1]; exact congrArg (kg k) (by rw [hpn]; omega)
    · rw [popA, List.getLast?_eq_getElem?, List.getElem?_eq_getElem hl, Option.getD_some]
      exact x2
  · rw [List.length_dropLast]
  · intro j A' hj
    rw [List.getElem?_dropLast] at hj
    split at hj
    · rename_i hlt
      obtain ⟨x, x1, x2⟩ := hP _ _ hj
      refine ⟨x, ?_, x2⟩
      rw [← x1]
      exact congrArg (kg k) (by rw [hpn]; omega)
    · cases hj
theorem SloR.at {v : V2} {X : SlT} (h : SloR v X) (j : Nat) : SlX (vg v j) (slo X j) := by
  unfold vg slo
  split
  · exact h.1
  · exact h.2
theorem SloR.set {v : V2} {X : SlT} {j : Nat} {x : MkX} {A : MkA} (h : SloR v X) (hj : j ≤ 1) (hx : MkR x.1 x.2.1 x.2.2.1 x.2.2.2 A) : SloR (vs v j (some x)) (sloS X j A) := by
  have : j = 0 ∨ j = 1 := by omega
  rcases this with rfl | rfl
  · exact ⟨hx, h.2⟩
  · exact ⟨h.1, hx⟩
/-! ### what always holds, command by command -/
theorem InV.mono {V : VwT} {m m' : Nat} (h : InV V m) (hm : m ≤ m') : InV V m' := ⟨h.1.mono hm, fun A hA => (h.2.1 A hA).mono hm, fun a ha => (h.2.2.1 a ha).mono hm, fun a ha => (h.2.2.2 a ha).mono hm⟩
theorem remP_mem {P : List MkA} {A B : MkA} (h : B ∈ remP P A) : B ∈ P ∨ B = A := by
  unfold remP at h
  rcases List.mem_append.mp h with q | q
  · refine Or.inl ?_
    split at q
    · exact List.mem_of_mem_drop q
    · exact q
  · exact Or.inr (List.mem_singleton.mp q)
theorem InV.cm {V : VwT} {m m' : Nat} {A : MkA} (h : InV V m) (hm : m ≤ m') (hA : Inv A m') : InV (cmV V A) m' := by
  refine ⟨hA, fun B hB => ?_, (h.mono hm).2.2.1, (h.mono hm).2.2.2⟩
  rcases remP_mem hB with q | rfl
  · exact (h.2.1 B q).mono hm
  · exact h.1.mono hm
theorem InV.undo {V : VwT} {m : Nat} (h : InV V m) : InV (popA V.2.1 V.1, V.2.1.dropLast, V.2.2) m := by
  refine ⟨?_, fun B hB => h.2.1 B (List.dropLast_subset _ hB), h.2.2.1, h.2.2.2⟩
  show Inv (popA V.2.1 V.1) m
  unfold popA
  cases hl : V.2.1.getLast? with
  | none => exact h.1
  | some B => exact h.2.1 B (List.mem_of_getLast? hl)
theorem InV.save {V : VwT} {m j : Nat} (h : InV V m) : InV (V.1, V.2.1, sloS V.2.2.1 j V.1, V.2.2.2) m := by
  unfold sloS
  split
  · exact ⟨h.1, h.2.1, fun a ha => by cases ha; exact h.1, h.2.2.2⟩
  · exact ⟨h.1, h.2.1, h.2.2.1, fun a ha => by cases ha; exact h.1⟩
theorem InV.sl {V : VwT} {m j : Nat} {A : MkA} (h : InV V m) (hA : slo V.2.2.1 j = some A) : Inv A m := by
  unfold slo at hA
  split at hA
  · exact h.2.2.1 A hA
  · exact h.2.2.2 A hA
theorem hX_len {X : NsT} {r : gH} : (hX X r).length = r.length + 174 := by
  obtain ⟨Z, T, B, Y, C, O, S, ZD, TD, BD, YD, c, n, k, v⟩ := X
  exact hL_len
theorem hX_app {X : NsT} {r : gH} : hX X r = hX X [] ++ r := by
  obtain ⟨Z, T, B, Y, C, O, S, ZD, TD, BD, YD, c, n, k, v⟩ := X
  exact hW_app
theorem hX_get {X : NsT} {r : gH} (j : Nat) : (hX X r)[174 + j]? = r[j]? := by
  rw [hX_app, List.getElem?_append_right (by rw [hX_len]; exact Nat.le_add_right _ _), hX_len]
  congr 1; simp
theorem hX_set {X : NsT} {r : gH} (j : Nat) (c : Option gC) : (hX X r).set (174 + j) c = hX X (r.set j c) := by
  rw [hX_app, List.set_append_right _ _ (by rw [hX_len]; exact Nat.le_add_right _ _), hX_len, hX_app (r := r.set j c)]
  congr 2; simp
section
variable {Z ZD : MhT} {T TD : TrT} {B BD : BkT} {Y YD : TaT} {C C' : CrT} {O O' : OuT} {S S' : SeT} {c n : Nat} {k : K6} {v : V2} {r : gH} {V : VwT}
theorem hX_sN : gSub [0, 1, 2, 3, 4, 5, 6, 7, 8, 9, 10, 11, 12, 13, 14, 15, 16, 17, 18, 19] (hX (Z, T, B, Y, C, O, S, ZD, TD, BD, YD, c, n, k, v) r) (hN Z T B Y C) := hL_sN
theorem hX_sO : gSub [0, 1, 2, 3, 4, 5, 6, 7, 8, 9, 10, 11, 12, 13, 14, 15, 16, 17, 18, 19, 20, 21] (hX (Z, T, B, Y, C, O, S, ZD, TD, BD, YD, c, n, k, v) r) (hNO Z T B Y C O) := hL_sO
theorem hX_sS : gSub [0, 1, 2, 3, 4, 5, 6, 7, 8, 9, 10, 11, 12, 13, 14, 15, 16, 17, 18, 19, 20, 21, 22, 23, 24] (hX (Z, T, B, Y, C, O, S, ZD, TD, BD, YD, c, n, k, v) r) (hNS Z T B Y C O S) := hL_sS
theorem hX_pN : gPb [0, 1, 2, 3, 4, 5, 6, 7, 8, 9, 10, 11, 12, 13, 14, 15, 16, 17, 18, 19] [0, 1, 2, 3, 4, 5, 6, 7, 8, 9, 10, 11, 12, 13, 14, 15, 16, 17, 18, 19] (hN Z T B Y C') (hX (Z, T, B, Y, C, O, S, ZD, TD, BD, YD, c, n, k, v) r) = hX (Z, T, B, Y, C', O, S, ZD, TD, BD, YD, c, n, k, v) r := hL_pN
theorem hX_pO : gPb [0, 1, 2, 3, 4, 5, 6, 7, 8, 9, 10, 11, 12, 13, 14, 15, 16, 17, 18, 19, 20, 21] [0, 1, 2, 3, 4, 5, 6, 7, 8, 9, 10, 11, 12, 13, 14, 15, 16, 17, 18, 19, 20, 21] (hNO Z T B Y C' O') (hX (Z, T, B, Y, C, O, S, ZD, TD, BD, YD, c, n, k, v) r) = hX (Z, T, B, Y, C', O', S, ZD, TD, BD, YD, c, n, k, v) r := hL_pO
theorem hX_pS : gPb [0, 1, 2, 3, 4, 5, 6, 7, 8, 9, 10, 11, 12, 13, 14, 15, 16, 17, 18, 19, 20, 21, 22, 23, 24] [0, 1, 2, 3, 4, 5, 6, 7, 8, 9, 10, 11, 12, 13, 14, 15, 16, 17, 18, 19, 20, 21, 22, 23, 24] (hNS Z T B Y C O S') (hX (Z, T, B, Y, C, O, S, ZD, TD, BD, YD, c, n, k, v) r) = hX (Z, T, B, Y, C, O, S', ZD, TD, BD, YD, c, n, k, v) r := hL_pS
/-- what a place may be that a frame holds: the object, or of the law's own -/
def rLs (ls : List (Option Value)) : Bool := ls.all (fun o => match o with | some (.ref q) => Nat.blt q 41 || Nat.ble 174 q | _ => true)
def rSk (sk : List Value) : Bool := sk.all (fun o => match o with | .ref q => Nat.blt q 41 || Nat.ble 174 q | _ => true)
/-- the commands that keep: the callee's cells, and what comes back -/
theorem gNn_K {ρ : List Nat} {K W : List (Option Nat)} {X W' : Option MkX} {ls : List (Option Value)} {rest : List Value} {Q' : Option Value → gH → Prop} {QX' : String → gH → Prop} (hs : gSub ρ (hX (Z, T, B, Y, C, O, S, ZD, TD, BD, YD, c, n, k, v) r) (hK Z T B Y C O S ZD TD BD YD (nI c, nI n) K W X W')) (hlt : ∀ q ∈ ρ, q < 174) (hr : rFar r = true)
    (h1 : ∀ u h, Q' u h → gClo ρ h) (h2 : ∀ u h, QX' u h → gClo ρ h) (hls : rLs ls = true) (hsk : rSk rest = true) :
    gNn ρ ls rest (hX (Z, T, B, Y, C, O, S, ZD, TD, BD, YD, c, n, k, v) r) (hK Z T B Y C O S ZD TD BD YD (nI c, nI n) K W X W') Q' QX' := by
  refine Or.inr ⟨h1, h2, fun i hi => ?_⟩
  obtain ⟨j, j1, j2⟩ := hs.at hi
  rw [gRen_at j1]
  exact hW_free (hlt j (List.mem_of_getElem? j1)) hr j2 hls hsk
theorem NR.keepA (hR : NR (Z, T, B, Y, C, O, S, ZD, TD, BD, YD, c, n, k, v) V) :
    ∃ (ρ : List Nat) (K W : List (Option Nat)), ρ[0]? = some 0 ∧ (∀ q ∈ ρ, q < 174) ∧ gSub ρ (hX (Z, T, B, Y, C, O, S, ZD, TD, BD, YD, c, n, k, v) r) (hK Z T B Y C O S ZD TD BD YD (nI c, nI n) K W (kg k n) none) ∧ KpOk c n K W (kg k n) none ∧
      (∀ {A' : MkA} {b : Bool} {w : Value} {u : Option Value} {h1 : gH}, PoK Z T B Y O S ZD TD BD YD c n K W none A' b w u h1 → gClo ρ h1) ∧ gClo ρ (hK Z T B Y C O S ZD TD BD YD (nI c, nI n) K W (kg k n) none) ∧
      (∀ (A' : MkA) (b : Bool) (w : Value) (u : Option Value) (h1 : gH), PoK Z T B Y O S ZD TD BD YD c n K W none A' b w u h1 → b = true ∧ u = some w ∧ ∃ X', gPb ρ ρ h1 (hX (Z, T, B, Y, C, O, S, ZD, TD, BD, YD, c, n, k, v) r) = hX X' r ∧ NR X' (cmV V A')) ∧
      gPb ρ ρ (hK Z T B Y C O S ZD TD BD YD (nI c, nI n) K W (kg k n) none) (hX (Z, T, B, Y, C, O, S, ZD, TD, BD, YD, c, n, k, v) r) = hX (Z, T, B, Y, C, O, S, ZD, TD, BD, YD, c, n, k, v) r := by
  have hR9 := hR
  obtain ⟨hA, hC, hO, hS, hE, hD, hH, hSl⟩ := hR9
  obtain ⟨ρ, K, W, hs, hlt, hl, h0, hkl, hkd, -, -, hkr, hq1, hq0, hp1, hp0⟩ := hW_A (Z := Z) (T := T) (B := B) (Y := Y) (C := C) (O := O) (S := S) (ZD := ZD) (TD := TD) (BD := BD) (YD := YD) (c := c) (n := n) (k := k) (v := v) (r := r) hH.2.2.1
  refine ⟨ρ, K, W, h0, hlt, hs, ⟨hH.2.1, hH.2.2.1, hkl, hkd, hkr, fun x hx => hH.2.2.2.2 n x hH.2.2.1 hx⟩, ?_, hK_clo hl hq0, ?_, hp0 _ _ _ _ _ _ _ _ _ _ _ _ _⟩
  · rintro A' b w u h1 ⟨-, -, Z', T', B', Y', C', rfl, -, -⟩
    exact hK_clo hl hq1
  · rintro A' b w u h1 ⟨hb, hu, Z', T', B', Y', C', rfl, hA', hC'⟩
    exact ⟨hb, hu, (Z', T', B', Y', C', O, S, ZD, TD, BD, YD, min 6 (c + 1), nxt n, ks k n (some (Z, T, B, Y)), v), hp1 _ _ _ _ _ _ _ _ _ _ _ _ _ _, hA', hC', hO, hS, hE, hD, hH.keep hA, hSl⟩
end
end LAWX
