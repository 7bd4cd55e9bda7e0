section PUR
/-! ### what is meant determines the answer -/
theorem ReS_u {os : List Od} {q : Nat} {r r' : Int32} (h : ReS os q r) (h' : ReS os q r') : r = r' := by
  rcases h with ⟨rfl, h1⟩ | ⟨p, rfl, p1, p9, h2, h3⟩ <;> rcases h' with ⟨rfl, h1'⟩ | ⟨p', rfl, p1', p9', h2', h3'⟩
  · rfl
  · have := h1 p' p9'; omega
  · have := h1' p p9; omega
  · have : p = p' := by
      rcases Nat.lt_trichotomy p p' with c | c | c
      · have := h3' p c; omega
      · exact c
      · have := h3 p' c; omega
    rw [this]
theorem ReD_u {os : List Od} {q : Nat} {r r' : Int32} (h : ReD os q r) (h' : ReD os q r') : r = r' := by
  rcases h with ⟨rfl, h1⟩ | ⟨p, rfl, p1, p9, h2, h3⟩ <;> rcases h' with ⟨rfl, h1'⟩ | ⟨p', rfl, p1', p9', h2', h3'⟩
  · rfl
  · have := h1 p' p1'; omega
  · have := h1' p p1; omega
  · have : p = p' := by
      rcases Nat.lt_trichotomy p p' with c | c | c
      · have := h3 p' c; omega
      · exact c
      · have := h3' p c; omega
    rw [this]
theorem ahd_as {os : List Od} {w a b : Nat} (h : ahd os w a b = true) (h' : ahd os w b a = true) : False := by
  rw [ahd_i] at h h'
  omega
theorem LaF_u {os : List Od} {w : Nat} {f : Nat → Nat} {n : Nat} {r r' : Int32} (h : LaF os w f n r) (h' : LaF os w f n r') : r = r' := by
  rcases h with ⟨rfl, h1⟩ | ⟨y, y1, y2, y3, rfl, y4⟩ <;> rcases h' with ⟨rfl, h1'⟩ | ⟨z, z1, z2, z3, rfl, z4⟩
  · rfl
  · have := h1 z z1 z2; omega
  · have := h1' y y1 y2; omega
  · have : y = z := by
      rcases y4 z z1 z2 z3 with c | c
      · exact c.symm
      · rcases z4 y y1 y2 y3 with c' | c'
        · exact c'
        · exact (ahd_as c c').elim
    rw [this]
theorem cn_0 {os : List Od} {w : Nat} {p : Nat → Bool} : ∀ n, cn os w p n = 0 → ∀ y, y < n → oS (oa os y) = w → p y = false := by
  intro n
  induction n with
  | zero => intro _ y hy; omega
  | succ n ih =>
    intro h y hy hs
    rw [cn] at h
    by_cases e : y = n
    · subst e
      cases hp : p y with
      | false => rfl
      | true => rw [if_pos ⟨hs, hp⟩] at h; omega
    · exact ih (by omega) y (by omega) hs
/-- the best limit, and the limit of the first in line -/
theorem BeF_fst {os : List Od} {w : Nat} {r : Int32} (hw : w ≤ 1) (h : BeF os w os.length r) : r = fst_ os (line os w os.length) := by
  have hmem := fun x => line_mem (os := os) (w := w) os.length x
  have hrk : ∀ x, (line os w os.length)[0]? = some x → x < os.length ∧ oS (oa os x) = w ∧ cn os w (fun y => ahd os w y x) os.length = 0 := by
    intro x hx
    have hm := (hmem x).mp (List.mem_of_getElem? hx)
    exact ⟨hm.1, hm.2, (line_rk hm.1 hm.2).mp hx⟩
  generalize line os w os.length = l at hmem hrk ⊢
  cases l with
  | nil =>
    rcases h with ⟨rfl, _⟩ | ⟨y, y1, y2, _, _⟩
    · rfl
    · exact absurd ((hmem y).mpr ⟨y1, y2⟩) (by simp)
  | cons x l =>
    obtain ⟨x1, x2, x3⟩ := hrk x rfl
    rcases h with ⟨_, h1⟩ | ⟨y, y1, y2, rfl, y4⟩
    · exact absurd x2 (h1 x x1)
    · have a1 := cn_0 _ x3 y y1 y2
      have a2 := y4 x x1 x2
      rw [bet_f] at a2
      have a3 : ¬ (ahd os w y x = true) := by rw [a1]; decide
      rw [ahd_i] at a3
      rw [fst_]
      congr 1
      omega
theorem cryA_tr {A : MkA} : (cryA A).2 = (cryA A).1.2.2.2.2.1 - A.2.2.2.2.1 := by
  unfold cryA
  simp only
  split
  · exact (Int32.sub_self _).symm
  · split
    · exact (Int32.sub_self _).symm
    · show nI _ = A.2.2.2.2.1 + nI _ - A.2.2.2.2.1
      rw [Int32.add_comm, Int32.add_sub_cancel]
/-- the two mean prices -/
theorem mpr_eq {A : MkA} {m : Nat} (h : Inv A m) (hm : m ≤ 2000) : mprC A = mprA A := by
  obtain ⟨-, -, -, -, -, -, T, PL, P, -, -, hP, h1, h2, h3, -⟩ := h
  unfold mprC mprA
  split
  · rfl
  · have e : FP.l2d A.2.2.2.2.2.2.2.2.2.2.2 = FP.i2d A.2.2.2.2.2.2.2.2.2.2.2.toInt32 := by
      rw [hP]
      have hb : P < 2 ^ 31 := by omega
      have e1 : (lN P).toInt = (P : Int) := pk_lT (by omega)
      have e2 : (lN P).toInt32.toInt = (P : Int) := by
        have e3 : (lN P).toInt32 = nI P := by
          show (Int64.ofNat P).toInt32 = Int32.ofNat P
          exact Int64.toInt32_ofNat' 
        rw [e3, nI_ti hb]
      show (Jvm.FP.Core.l2d (lN P)) = Jvm.FP.Core.i2d (lN P).toInt32
      unfold Jvm.FP.Core.l2d Jvm.FP.Core.i2d
      rw [e1, e2]
    rw [e]
theorem Inv.co {A : MkA} {m : Nat} (h : Inv A m) (hm : m ≤ 2000) : ∀ t ∈ A.2.1, -1000000000 ≤ t.2.1.toInt ∧ t.2.1.toInt ≤ 1000000000 := by
  obtain ⟨-, -, -, -, -, -, T, PL, P, -, -, hP, h1, h2, h3, h4⟩ := h
  intro t ht
  have := h4 t ht
  omega
end PUR
