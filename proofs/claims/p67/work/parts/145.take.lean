/-! parts of blocks -/
theorem gAt_take {M : gM} : ∀ (n : Nat) {pc : Nat} {is : List gI}, gAt M pc is = true → gAt M pc (is.take n) = true := by
  intro n
  induction n with
  | zero => intro pc is _; rfl
  | succ n ih =>
    intro pc is h
    cases is with
    | nil => exact h
    | cons i r =>
      rw [gAt, Bool.and_eq_true, Bool.and_eq_true] at h
      rw [List.take_succ_cons, gAt, Bool.and_eq_true, Bool.and_eq_true]
      exact ⟨h.1, ih h.2⟩
def gPc : Nat → Nat → List gI → Nat
  | 0, pc, _ => pc
  | _ + 1, pc, [] => pc
  | n + 1, pc, i :: r => gPc n (pc + gLen i.1) r
theorem gAt_drop {M : gM} : ∀ (n : Nat) {pc : Nat} {is : List gI}, gAt M pc is = true → gAt M (gPc n pc is) (is.drop n) = true := by
  intro n
  induction n with
  | zero => intro pc is h; exact h
  | succ n ih =>
    intro pc is h
    cases is with
    | nil => exact h
    | cons i r =>
      rw [gAt, Bool.and_eq_true, Bool.and_eq_true] at h
      exact ih h.2
section GTK
variable {M : gM} {d mc ms : Nat} {h0 : gH} {Q : Option Value → gH → Prop} {QX : String → gH → Prop} {c n : Nat}
theorem wpb_t (k : Nat) (ho : gOwn M.1 = (mY M).cls) (hc : c ≤ mc) (hn : n ≤ ms) (is : List gI) {pc : Nat} {ls : List (Option Value)} {sk : List Value} {h : gH} (hg : gAt M pc is = true)
    (hw : wpb M (fun pc ls sk h => G M d mc ms h0 Q QX c n pc ls sk h) Q (is.take k) pc ls sk h) : G M d mc ms h0 Q QX c n pc ls sk h :=
  wpb_s ho hc hn _ (gAt_take k hg) hw
theorem wpb_d (k : Nat) (ho : gOwn M.1 = (mY M).cls) (hc : c ≤ mc) (hn : n ≤ ms) (is : List gI) {p0 pc : Nat} {ls : List (Option Value)} {sk : List Value} {h : gH} (hg : gAt M p0 is = true) (hp : pc = gPc k p0 is)
    (hw : wpb M (fun pc ls sk h => G M d mc ms h0 Q QX c n pc ls sk h) Q (is.drop k) pc ls sk h) : G M d mc ms h0 Q QX c n pc ls sk h := by
  subst hp
  exact wpb_s ho hc hn _ (gAt_drop k hg) hw
/-- from i on, k instructions -/
theorem wpb_m (i k : Nat) (ho : gOwn M.1 = (mY M).cls) (hc : c ≤ mc) (hn : n ≤ ms) (is : List gI) {p0 pc : Nat} {ls : List (Option Value)} {sk : List Value} {h : gH} (hg : gAt M p0 is = true) (hp : pc = gPc i p0 is)
    (hw : wpb M (fun pc ls sk h => G M d mc ms h0 Q QX c n pc ls sk h) Q ((is.drop i).take k) pc ls sk h) : G M d mc ms h0 Q QX c n pc ls sk h := by
  subst hp
  exact wpb_s ho hc hn _ (gAt_take k (gAt_drop i hg)) hw
end GTK
