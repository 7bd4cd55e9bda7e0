section CTX
/-! ### THE SETUP TEXT, AS IT IS MEANT: bytes below 256, tokens by the place where they begin -/
def byv (b : Nat) : Int32 := (nI b).toInt8.toInt32
theorem byv_255 : ∀ b : Nat, b < 256 → byv b &&& 255 = nI b := by decide +kernel
def letr (b : Nat) : Bool := decide (97 ≤ b ∧ b ≤ 122)
def digt (b : Nat) : Bool := decide (48 ≤ b ∧ b ≤ 57)
def blnk (b : Nat) : Bool := decide (b = 32 ∨ b = 10)
/-- how many bytes of a kind lie ahead -/
def runB (f : Nat → Bool) : List Nat → Nat
  | [] => 0
  | b :: r => if f b = true then runB f r + 1 else 0
def tkS (bs : List Nat) (p : Nat) : Nat := p + runB blnk (bs.drop p)
def tkK (bs : List Nat) (s : Nat) : Nat := match bs[s]? with
  | none => 0
  | some b => if letr b = true then 1 else if digt b = true then 2 else if b = 59 then 3 else 4
def tkN (bs : List Nat) (s : Nat) : Nat := if tkK bs s = 0 then 0 else if tkK bs s = 1 then runB letr (bs.drop s) else if tkK bs s = 2 then runB digt (bs.drop s) else 1
def tkW (bs : List Nat) (s : Nat) : List Nat := (bs.drop s).take (tkN bs s)
def nx (bs : List Nat) (s : Nat) : Nat := tkS bs (s + tkN bs s)
def vl (l : List Nat) : Nat := l.foldl (fun a c => a * 10 + (c - 48)) 0
/-- what went wrong: code and place -/
abbrev ER : Type := Nat × Nat
def bd {α β : Type} (x : ER ⊕ (α × Nat)) (f : α → Nat → ER ⊕ β) : ER ⊕ β := match x with
  | .inl e => .inl e
  | .inr p => f p.1 p.2
def wds : List (List Nat) := [[109, 97, 114, 107, 101, 116], [116, 114, 97, 100, 101, 114], [98, 105, 100], [111, 102, 102, 101, 114], [119, 105, 116, 104, 100, 114, 97, 119], [97, 109, 101, 110, 100], [101, 120, 116, 101, 110, 100], [99, 108, 101, 97, 114], [103, 105, 118, 101], [112, 101, 114, 105, 111, 100], [114, 117, 108, 101], [98, 97, 110, 100], [112, 97, 115, 115], [99, 114, 121]]
def wTime : List Nat := [116, 105, 109, 101]
def wShare : List Nat := [115, 104, 97, 114, 101]
def stw (bs : List Nat) (s : Nat) : Nat := wds.idxOf (tkW bs s)
def tNum (bs : List Nat) (s lo hi : Nat) : ER ⊕ (Nat × Nat) := if tkK bs s = 2 then (if lo ≤ vl (tkW bs s) ∧ vl (tkW bs s) ≤ hi then .inr (vl (tkW bs s), nx bs s) else .inl (2, s)) else .inl (1, s)
def tRule (bs : List Nat) (s : Nat) : ER ⊕ (Nat × Nat) := if tkK bs s = 1 then (if tkW bs s = wTime then .inr (0, nx bs s) else if tkW bs s = wShare then .inr (1, nx bs s) else .inl (4, s)) else .inl (1, s)
def trX (ts : List Tr) (w : List Nat) : Nat := (ts.map (fun t => t.1)).idxOf w
def tTrd (bs : List Nat) (ts : List Tr) (s : Nat) : ER ⊕ (Nat × Nat) := if tkK bs s = 1 then (if trX ts (tkW bs s) < ts.length then .inr (trX ts (tkW bs s), nx bs s) else .inl (4, s)) else .inl (1, s)
def tTrd2 (bs : List Nat) (ts : List Tr) (s a : Nat) : ER ⊕ (Nat × Nat) := if tkK bs s = 1 then (if trX ts (tkW bs s) < ts.length then (if trX ts (tkW bs s) = a then .inl (3, s) else .inr (trX ts (tkW bs s), nx bs s)) else .inl (4, s)) else .inl (1, s)
def orX (os : List Od) (v : Nat) : Nat := (os.map (fun o => o.1)).idxOf (nI v)
def tOrd (bs : List Nat) (os : List Od) (s : Nat) : ER ⊕ (Nat × Nat) := if tkK bs s = 2 then (if vl (tkW bs s) < 1000000 ∧ orX os (vl (tkW bs s)) < os.length then .inr (orX os (vl (tkW bs s)), nx bs s) else .inl (4, s)) else .inl (1, s)
def tName (bs : List Nat) (ts : List Tr) (s : Nat) : ER ⊕ (List Nat × Nat) := if tkK bs s = 1 then (if 4 < (tkW bs s).length then .inl (2, s) else if trX ts (tkW bs s) < ts.length then .inl (3, s) else .inr (tkW bs s, nx bs s)) else .inl (1, s)
/-- the market with another quantity, last minute, head .. -/
def amdA (A : MkA) (k q : Nat) : MkA := wosA A (A.2.2.1.set k (odQ (oa A.2.2.1 k) q))
def extA (A : MkA) (k : Nat) (m : Int32) : MkA := wosA A (A.2.2.1.set k ((oa A.2.2.1 k).1, oT (oa A.2.2.1 k), oS (oa A.2.2.1 k), oL (oa A.2.2.1 k), oQ (oa A.2.2.1 k), A.1.1 + m))
def givA (A : MkA) (a b : Nat) (g : Int32) : MkA := (A.1, trU (trU A.2.1 a 0 (-g)) b 0 g, A.2.2)
def perA (A : MkA) (x : Int32) : MkA := ((A.1.1, A.1.2.1, A.1.2.2.1, A.1.2.2.2.1, x), A.2)
def rulA (A : MkA) (x : Int32) : MkA := ((A.1.1, A.1.2.1, A.1.2.2.1, x, A.1.2.2.2.2), A.2)
def banA (A : MkA) (x : Int32) : MkA := ((A.1.1, A.1.2.1, x, A.1.2.2.2), A.2)
def ta (ts : List Tr) (k : Nat) : Tr := ts.getD k ([], 0, 0)
abbrev PR : Type := ER ⊕ (MkA × Nat)
def aMarket (bs : List Nat) (s : Nat) : PR := bd (tNum bs s 1 60) fun p s => bd (tNum bs s 1 999) fun l s => bd (tNum bs s 0 999) fun b s => bd (tRule bs s) fun u s => .inr (mkt0 (nI p) (nI l) (nI b) (nI u), s)
def aTrader (bs : List Nat) (A : MkA) (s : Nat) : PR := bd (tName bs A.2.1 s) fun w s => bd (tNum bs s 0 999999) fun c s => bd (tNum bs s 0 9999) fun g s => .inr (trdA A w (nI c) (nI g), s)
def tQty (bs : List Nat) (A : MkA) (t w l s : Nat) : ER ⊕ (Nat × Nat) := bd (tNum bs s 1 99) fun q s' => if rfs A.2.2.1 (ta A.2.1 t) t w l q = 0 then .inr (q, s') else .inl (6, s)
def aOrder (bs : List Nat) (A : MkA) (w s : Nat) : PR := bd (tTrd bs A.2.1 s) fun t s => bd (tNum bs s 1 999) fun l s => bd (tQty bs A t w l s) fun q s => bd (tNum bs s 0 999) fun m s => .inr (ordA A t w l q (nI m), s)
def aWithdraw (bs : List Nat) (A : MkA) (s : Nat) : PR := bd (tOrd bs A.2.2.1 s) fun k s => .inr (drpA A k, s)
def tLess (bs : List Nat) (A : MkA) (k s : Nat) : ER ⊕ (Nat × Nat) := bd (tNum bs s 1 99) fun q s' => if q < oQ (oa A.2.2.1 k) then .inr (q, s') else .inl (6, s)
def aAmend (bs : List Nat) (A : MkA) (s : Nat) : PR := bd (tOrd bs A.2.2.1 s) fun k s => bd (tLess bs A k s) fun q s => .inr (amdA A k q, s)
def aExtend (bs : List Nat) (A : MkA) (s : Nat) : PR := bd (tOrd bs A.2.2.1 s) fun k s => bd (tNum bs s 0 999) fun m s => .inr (extA A k (nI m), s)
def aClear (bs : List Nat) (A : MkA) (s : Nat) : PR := bd (tTrd bs A.2.1 s) fun t s => .inr (wosA A (A.2.2.1.filter (fun o => oT o != t)), s)
def tGds (bs : List Nat) (A : MkA) (a s : Nat) : ER ⊕ (Nat × Nat) := bd (tNum bs s 1 9999) fun g s' => if (ta A.2.1 a).2.2 - nI (heldG A.2.2.1 a) < nI g then .inl (6, s) else .inr (g, s')
def aGive (bs : List Nat) (A : MkA) (s : Nat) : PR := bd (tTrd bs A.2.1 s) fun a s => bd (tTrd2 bs A.2.1 s a) fun b s => bd (tGds bs A a s) fun g s => .inr (givA A a b (nI g), s)
def aPeriod (bs : List Nat) (A : MkA) (s : Nat) : PR := bd (tNum bs s 1 60) fun x s => .inr (perA A (nI x), s)
def aRule (bs : List Nat) (A : MkA) (s : Nat) : PR := bd (tRule bs s) fun x s => .inr (rulA A (nI x), s)
def aBand (bs : List Nat) (A : MkA) (s : Nat) : PR := bd (tNum bs s 0 999) fun x s => .inr (banA A (nI x), s)
def aPass (bs : List Nat) (A : MkA) (s : Nat) : PR := bd (tNum bs s 0 300) fun x s => .inr (pasA x A, s)
def aCry (A : MkA) (s : Nat) : PR := .inr ((cryA A).1, s)
/-- what stands behind a statement's word, and the end of the statement -/
def tEnd (bs : List Nat) (x : PR) : PR := bd x fun A s => if tkK bs s = 3 then .inr (A, nx bs s) else .inl (1, s)
def aArgs (bs : List Nat) (w : Nat) (A : MkA) (s : Nat) : PR := match w with
  | 0 => aMarket bs s
  | 1 => aTrader bs A s
  | 2 => aOrder bs A 0 s
  | 3 => aOrder bs A 1 s
  | 4 => aWithdraw bs A s
  | 5 => aAmend bs A s
  | 6 => aExtend bs A s
  | 7 => aClear bs A s
  | 8 => aGive bs A s
  | 9 => aPeriod bs A s
  | 10 => aRule bs A s
  | 11 => aBand bs A s
  | 12 => aPass bs A s
  | _ => aCry A s
def stm (bs : List Nat) (first : Bool) (A : MkA) (s : Nat) : PR :=
  if stw bs s = 14 ∨ first ≠ decide (stw bs s = 0) then .inl (1, s)
  else if stw bs s = 1 ∧ A.2.1.length = 8 then .inl (5, s)
  else if (stw bs s = 2 ∨ stw bs s = 3) ∧ A.2.2.1.length = 20 then .inl (5, s)
  else tEnd bs (aArgs bs (stw bs s) A (nx bs s))
/-- the statements behind the first one -/
def prs (bs : List Nat) : Nat → MkA → Nat → ER ⊕ MkA
  | 0, _, s => .inl (0, s)
  | n + 1, A, s => if tkK bs s = 0 then .inr A else match stm bs false A s with
    | .inl e => .inl e
    | .inr p => prs bs n p.1 p.2
def mk00 : MkA := ((0, 1, 0, 0, 1), [], [], 0, (0, 0, 0, 0, 0, 0, 0, 0))
def parse (bs : List Nat) : ER ⊕ MkA := match stm bs true mk00 (tkS bs 0) with
  | .inl e => .inl e
  | .inr p => prs bs 600 p.1 p.2
theorem runB_le {f : Nat → Bool} : ∀ l : List Nat, runB f l ≤ l.length := by
  intro l
  induction l with
  | nil => exact Nat.le_refl _
  | cons b r ih =>
    rw [runB]
    split
    · simp only [List.length_cons]; omega
    · omega
theorem tkS_le {bs : List Nat} {p : Nat} (h : p ≤ bs.length) : tkS bs p ≤ bs.length := by
  have := runB_le (f := blnk) (bs.drop p)
  rw [List.length_drop] at this
  unfold tkS; omega
theorem tkK_0 {bs : List Nat} {s : Nat} : tkK bs s = 0 ↔ bs.length ≤ s := by
  unfold tkK
  cases h : bs[s]? with
  | none => simp only [true_iff]; exact List.getElem?_eq_none_iff.mp h
  | some b =>
    have := (List.getElem?_eq_some_iff.mp h).1
    simp only
    constructor
    · intro z
      split at z
      · omega
      · split at z
        · omega
        · split at z <;> omega
    · intro z; omega
theorem tkN_le {bs : List Nat} {s : Nat} (h : s ≤ bs.length) : s + tkN bs s ≤ bs.length := by
  unfold tkN
  have h1 := runB_le (f := letr) (bs.drop s)
  have h2 := runB_le (f := digt) (bs.drop s)
  rw [List.length_drop] at h1 h2
  by_cases c : tkK bs s = 0
  · rw [if_pos c]; omega
  · rw [if_neg c]
    rw [tkK_0] at c
    split
    · omega
    · split <;> omega
theorem nx_le {bs : List Nat} {s : Nat} (h : s ≤ bs.length) : nx bs s ≤ bs.length := tkS_le (tkN_le h)
theorem tkN_1 {bs : List Nat} {s : Nat} (h : tkK bs s ≠ 0) : 1 ≤ tkN bs s := by
  unfold tkN
  rw [if_neg h]
  cases hb : bs[s]? with
  | none => exact absurd (tkK_0.mpr (List.getElem?_eq_none_iff.mp hb)) h
  | some b =>
    obtain ⟨h1, h2⟩ := List.getElem?_eq_some_iff.mp hb
    have hd : bs.drop s = b :: bs.drop (s + 1) := by rw [← h2]; exact List.drop_eq_getElem_cons h1
    by_cases c1 : tkK bs s = 1
    · rw [if_pos c1, hd, runB]
      have : letr b = true := by
        unfold tkK at c1
        rw [hb] at c1
        simp only at c1
        split at c1
        · assumption
        · split at c1
          · omega
          · split at c1 <;> omega
      rw [if_pos this]; omega
    · rw [if_neg c1]
      by_cases c2 : tkK bs s = 2
      · rw [if_pos c2, hd, runB]
        have : digt b = true := by
          unfold tkK at c2
          rw [hb] at c2
          simp only at c2
          split at c2
          · omega
          · split at c2
            · assumption
            · split at c2 <;> omega
        rw [if_pos this]; omega
      · rw [if_neg c2]; omega
end CTX
