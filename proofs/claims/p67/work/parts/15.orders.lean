/-! ORDERS, as they are meant: number, trader, side, limit, quantity, last minute -/
abbrev Od : Type := Int32 × Nat × Nat × Nat × Nat × Int32
abbrev oT (o : Od) : Nat := o.2.1
abbrev oS (o : Od) : Nat := o.2.2.1
abbrev oL (o : Od) : Nat := o.2.2.2.1
abbrev oQ (o : Od) : Nat := o.2.2.2.2.1
abbrev oM (o : Od) : Int32 := o.2.2.2.2.2
def OdOk (o : Od) : Prop := oT o < 8 ∧ oS o ≤ 1 ∧ 1 ≤ oL o ∧ oL o ≤ 999 ∧ oQ o ≤ 99
/-- the rows of a book hold the orders os -/
def BkRow (B : BkT) (k : Nat) (o : Od) : Prop := B.2.2.1.getD k 0 = o.1 ∧ B.2.2.2.1.getD k 0 = nI (oT o) ∧ B.2.2.2.2.1.getD k 0 = nI (oS o) ∧ B.2.2.2.2.2.1.getD k 0 = nI (oL o) ∧ B.2.2.2.2.2.2.1.getD k 0 = nI (oQ o) ∧ B.2.2.2.2.2.2.2.getD k 0 = oM o
def BkLen (B : BkT) : Prop := B.2.2.1.length = 20 ∧ B.2.2.2.1.length = 20 ∧ B.2.2.2.2.1.length = 20 ∧ B.2.2.2.2.2.1.length = 20 ∧ B.2.2.2.2.2.2.1.length = 20 ∧ B.2.2.2.2.2.2.2.length = 20
def BkR (B : BkT) (os : List Od) : Prop := B.1 = nI os.length ∧ os.length ≤ 20 ∧ BkLen B ∧ (∀ o ∈ os, OdOk o) ∧ ∀ (k : Nat) (o : Od), os[k]? = some o → BkRow B k o
def dem : List Od → Nat → Nat
  | [], _ => 0
  | o :: r, p => (if oS o = 0 ∧ p ≤ oL o then oQ o else 0) + dem r p
def sup : List Od → Nat → Nat
  | [], _ => 0
  | o :: r, p => (if oS o = 1 ∧ oL o ≤ p then oQ o else 0) + sup r p
theorem dem_app (a b : List Od) (p : Nat) : dem (a ++ b) p = dem a p + dem b p := by
  induction a with
  | nil => simp [dem]
  | cons o r ih => simp [dem, ih]; omega
theorem sup_app (a b : List Od) (p : Nat) : sup (a ++ b) p = sup a p + sup b p := by
  induction a with
  | nil => simp [sup]
  | cons o r ih => simp [sup, ih]; omega
theorem take_s {α : Type} {l : List α} {k : Nat} {o : α} (h : l[k]? = some o) : l.take (k + 1) = l.take k ++ [o] := by
  rw [List.take_succ, h]; rfl
theorem vIn {k : Nat} {l : List Int32} (hl : l.length = 20) (hk : k < 20) : vp_in (nI k) l.length := by
  rw [hl]; exact vp_in_nI hk (by decide)
theorem nIc {k : Nat} (h : k < 1000000) : (nI k).toNatClampNeg = k := nI_clamp (by omega)
theorem nI_z {a : Nat} (ha : a < 1000000) : nI a = 0 ↔ a = 0 := by rw [show (0 : Int32) = nI 0 from rfl]; exact nI_eq (by omega) (by decide)
theorem nI_o {a : Nat} (ha : a < 1000000) : nI a = 1 ↔ a = 1 := by rw [show (1 : Int32) = nI 1 from rfl]; exact nI_eq (by omega) (by decide)
