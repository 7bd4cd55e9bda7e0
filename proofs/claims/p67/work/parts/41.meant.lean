section CMN
/-! ### the market as it is meant -/
/-- the price of the cry, as a function -/
def bst (os : List Od) (last : Nat) : Nat := (List.range 999).foldl (fun cur i => wg os last cur (i + 1)) 0
theorem bst_b (os : List Od) (last : Nat) : Best os last (bst os last) := by
  have key : ∀ n, n ≤ 999 → Sel os last ((List.range n).foldl (fun cur i => wg os last cur (i + 1)) 0) (fun c => 1 ≤ c ∧ c ≤ n) := by
    intro n
    induction n with
    | zero => intro _; exact Or.inl ⟨rfl, fun c hc => by omega⟩
    | succ n ih =>
      intro hn
      rw [List.range_succ, List.foldl_append]
      exact Sel_w (Sel_s (ih (by omega)) (by omega) hn) (fun c hc => by omega)
  rcases key 999 (Nat.le_refl _) with ⟨h1, h2⟩ | ⟨h1, h2, h3, h4⟩
  · exact Or.inl ⟨h1, fun p q1 q2 => h2 p ⟨q1, q2⟩⟩
  · exact Or.inr ⟨h1, h2, h3, fun p q1 q2 => h4 p ⟨q1, q2⟩⟩
/-- head, traders, orders, next number, tally -/
abbrev MkA : Type := MhT × List Tr × List Od × Int32 × TaT
def nat (x : Int32) : Nat := x.toNatClampNeg
/-- one cry: the market behind it, and the pieces -/
def cryA (A : MkA) : MkA × Int32 :=
  let b := bst A.2.2.1 (nat A.1.2.1)
  if b = 0 then (A, 0)
  else if stp A.1 (nI b) = true then (((A.1.1, (if nat A.1.2.1 < b then A.1.2.1 + A.1.2.2.1 else A.1.2.1 + -A.1.2.2.1), A.1.2.2), A.2.1, A.2.2.1, A.2.2.2.1, (A.2.2.2.2.1, A.2.2.2.2.2.1, A.2.2.2.2.2.2.1, A.2.2.2.2.2.2.2.1 + 1, A.2.2.2.2.2.2.2.2)), 0)
  else (((A.1.1, nI b, A.1.2.2), tsF A.2.2.1 (FilA A.2.2.1 (nat A.1.2.2.2.1) (vol A.2.2.1 b)) (nI b) A.2.1 A.2.2.1.length, (osF A.2.2.1 (FilA A.2.2.1 (nat A.1.2.2.2.1) (vol A.2.2.1 b)) A.2.2.1.length).filter (fun o => oQ o != 0), A.2.2.2.1, taT A.2.2.2.2 (nI (vol A.2.2.1 b)) (nI b)), nI (vol A.2.2.1 b))
/-- a market of the class that means A -/
def MkR (Z : MhT) (T : TrT) (B : BkT) (Y : TaT) (A : MkA) : Prop := Z = A.1 ∧ TrR T A.2.1 ∧ BkR B A.2.2.1 ∧ B.2.1 = A.2.2.2.1 ∧ Y = A.2.2.2.2
/-- what always holds of a market -/
def MkOk (A : MkA) : Prop := (∃ last, A.1.2.1 = nI last ∧ 1 ≤ last ∧ last ≤ 999) ∧ (∃ band, A.1.2.2.1 = nI band ∧ band ≤ 999) ∧ (∃ rule, A.1.2.2.2.1 = nI rule ∧ rule ≤ 1) ∧ (∃ per, A.1.2.2.2.2 = nI per ∧ 1 ≤ per ∧ per ≤ 60) ∧ ∀ o ∈ A.2.2.1, oT o < A.2.1.length
theorem nat_nI {a : Nat} (h : a < 1000000) : nat (nI a) = a := nIc h
theorem gQc_mono {ret : Option FieldType} {base : Nat} {D : va_G} {E : Nat → ClassId} {h0 : gH} {L0 : List Nat} {f0 : Nat → va_E} {ad0 : Nat → Nat} {Q Q' : Option Value → gH → Prop} (hQ : ∀ v h, Q v h → Q' v h) {a : Array Value} {s : State} {o : Outcome} {t : State} (h : gQc ret base D E h0 L0 f0 ad0 Q a s o t) : gQc ret base D E h0 L0 f0 ad0 Q' a s o t := by
  cases ret with
  | none =>
    obtain ⟨⟨u, h1, ⟨h2, h3⟩, h4⟩, hF⟩ := h
    exact ⟨⟨u, h1, ⟨hQ _ _ h2, h3⟩, h4⟩, hF⟩
  | some ty =>
    cases ty
    all_goals
      obtain ⟨⟨r, u, h1, ⟨h2, h3⟩, h4⟩, hF⟩ := h
      first
        | exact ⟨⟨r, u, h1, ⟨hQ _ _ h2, h3⟩, h4⟩, hF⟩
        | exact ⟨⟨r, u, h1, ⟨⟨h2.1, hQ _ _ h2.2⟩, h3⟩, h4⟩, hF⟩
theorem gCt_mono {M : gM} {d mc ms : Nat} {args : List Value} {h : gH} {Q Q' : Option Value → gH → Prop} {QX QX' : String → gH → Prop} (hc : gCt M d mc ms args h Q QX) (hQ : ∀ v h, Q v h → Q' v h) (hX : ∀ E h, QX E h → QX' E h) : gCt M d mc ms args h Q' QX' := by
  intro l hl base D E st av L f ad hR hst p e h1 h2 h3 s m a below h4 h5 h6 h7
  obtain ⟨n, o, g1, g2, g3, g4⟩ := hc l hl base D E st av L f ad hR hst p e h1 h2 h3 s m a below h4 h5 h6 h7
  refine ⟨n, o, g1, g2, g3, ?_⟩
  rcases g4 with ⟨k1, k2⟩ | ⟨q, k1, X, ce, Lc, ⟨u, ⟨k2, k3⟩, k4, k5⟩, k6⟩
  · exact Or.inl ⟨gQc_mono hQ k1, k2⟩
  · exact Or.inr ⟨q, k1, X, ce, Lc, ⟨u, ⟨hX _ _ k2, k3⟩, k4, k5⟩, k6⟩
end CMN
