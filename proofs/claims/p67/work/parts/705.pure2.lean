section PURE1
set_option maxRecDepth 100000
theorem drop_c {bs : List Nat} {p b : Nat} {l : List Nat} (h : bs.drop p = b :: l) : bs[p]? = some b ∧ bs.drop (p + 1) = l := by
  constructor
  · rw [← List.head?_drop, h]; rfl
  · rw [← List.tail_drop, h]; rfl
theorem drop_n {bs : List Nat} {p : Nat} (h : bs.drop p = []) : bs[p]? = none := by rw [← List.head?_drop, h]; rfl
theorem runB_all {f : Nat → Bool} : ∀ (l : List Nat), ∀ b ∈ l.take (runB f l), f b = true := by
  intro l
  induction l with
  | nil => intro b hb; cases hb
  | cons x r ih =>
    intro b hb
    rw [runB] at hb
    by_cases c : f x = true
    · rw [if_pos c, List.take_succ_cons] at hb
      rcases List.mem_cons.mp hb with h | h
      · rw [h]; exact c
      · exact ih b h
    · rw [if_neg c] at hb; cases hb
theorem tkW_1 {bs : List Nat} {s : Nat} (h : tkK bs s = 1) : tkW bs s = (bs.drop s).take (runB letr (bs.drop s)) := by
  unfold tkW tkN; rw [h]; rfl
theorem tkW_2 {bs : List Nat} {s : Nat} (h : tkK bs s = 2) : tkW bs s = (bs.drop s).take (runB digt (bs.drop s)) := by
  unfold tkW tkN; rw [h]; rfl
theorem letr_i {b : Nat} : letr b = true ↔ 97 ≤ b ∧ b ≤ 122 := by unfold letr; exact decide_eq_true_iff
theorem tkW_l {bs : List Nat} {s : Nat} (h : tkK bs s = 1) : ∀ b ∈ tkW bs s, 97 ≤ b ∧ b ≤ 122 := fun b hb => letr_i.mp (runB_all _ b (by rw [← tkW_1 h]; exact hb))
theorem tkW_len {bs : List Nat} {s : Nat} (h : s ≤ bs.length) : (tkW bs s).length = tkN bs s := by
  have := tkN_le h
  unfold tkW
  rw [List.length_take, List.length_drop]; omega
theorem tkW_k {bs : List Nat} {s b : Nat} {r : List Nat} (h : tkW bs s = b :: r) (hb : 97 ≤ b ∧ b ≤ 122) : tkK bs s = 1 := by
  have hd : bs[s]? = some b := by
    have h2 : (tkW bs s)[0]? = some b := by rw [h]; rfl
    unfold tkW at h2
    rw [List.getElem?_take] at h2
    split at h2
    · rw [List.getElem?_drop] at h2; exact h2
    · cases h2
  unfold tkK
  rw [hd]
  simp only
  rw [if_pos (letr_i.mpr hb)]
theorem vl_app (w : List Nat) (c : Nat) : vl (w ++ [c]) = vl w * 10 + (c - 48) := by
  unfold vl
  rw [List.foldl_append]; rfl
def NmOk (A : MkA) : Prop := ∀ t ∈ A.2.1, 1 ≤ t.1.length ∧ t.1.length ≤ 4 ∧ ∀ c ∈ t.1, 97 ≤ c ∧ c ≤ 122
def OrOk (A : MkA) : Prop := ∀ o ∈ A.2.2.1, ∃ m, m < 1000000 ∧ o.1 = nI m
def Mk2 (A : MkA) : Prop := MkOk A ∧ NmOk A ∧ OrOk A ∧ A.2.2.1.length ≤ 20 ∧ A.2.1.length ≤ 8 ∧ ∀ o ∈ A.2.2.1, CdOk o
theorem rowF_x {os : List Od} {v : Int32} : ∀ (n k : Nat), os.length ≤ n → k < 100 → rowF os v k = if (os.map (fun o => o.1)).idxOf v < os.length then nI (k + (os.map (fun o => o.1)).idxOf v) else -1 := by
  intro n
  induction n generalizing os with
  | zero =>
    intro k h _
    have : os = [] := List.length_eq_zero_iff.mp (by omega)
    subst this
    rfl
  | succ n ih =>
    intro k h hk
    cases os with
    | nil => rfl
    | cons o r =>
      rw [rowF, List.map_cons, List.idxOf_cons]
      by_cases c : o.1 = v
      · rw [if_pos c]
        have : (o.1 == v) = true := by simpa using c
        rw [this]
        simp
      · rw [if_neg c]
        have e : (o.1 == v) = false := by simpa using c
        have key : ∀ m, rowF r v m = if (r.map (fun o => o.1)).idxOf v < r.length then nI (m + (r.map (fun o => o.1)).idxOf v) else -1 := by
          clear ih e c
          induction r with
          | nil => intro m; rfl
          | cons a r ih2 =>
            intro m
            rw [rowF, List.map_cons, List.idxOf_cons]
            by_cases c : a.1 = v
            · have : (a.1 == v) = true := by simpa using c
              rw [if_pos c, this]; simp
            · have : (a.1 == v) = false := by simpa using c
              rw [if_neg c, this, ih2 (by simp at h ⊢; omega)]
              simp only [cond_false, List.length_cons]
              by_cases z : (r.map (fun o => o.1)).idxOf v < r.length
              · rw [if_pos z, if_pos (by omega)]; congr 1; omega
              · rw [if_neg z, if_neg (by omega)]
        rw [e, key]
        simp only [cond_false, List.length_cons]
        by_cases z : (r.map (fun o => o.1)).idxOf v < r.length
        · rw [if_pos z, if_pos (by omega)]; congr 1; omega
        · rw [if_neg z, if_neg (by omega)]
theorem rowF_o {os : List Od} {v : Nat} : rowF os (nI v) 0 = if orX os v < os.length then nI (orX os v) else -1 := by
  rw [rowF_x os.length 0 (Nat.le_refl _) (by decide), Nat.zero_add]; rfl
theorem rowF_no {A : MkA} (h : OrOk A) {v : Nat} (hv : 1000000 ≤ v) (hv9 : v < 2 ^ 31) : rowF A.2.2.1 (nI v) 0 = -1 := by
  rw [rowF_o, if_neg]
  intro hlt
  unfold orX at hlt
  have h' : (A.2.2.1.map (fun o : Od => o.1)).idxOf (nI v) < (A.2.2.1.map (fun o : Od => o.1)).length := by rw [List.length_map]; exact hlt
  have := List.getElem_idxOf h'
  rw [List.getElem_map] at this
  obtain ⟨m, m1, m2⟩ := h _ (List.getElem_mem hlt)
  rw [m2] at this
  have := (nI_eq (by omega) hv9).mp this
  omega
theorem ta_at {ts : List Tr} {k : Nat} (h : k < ts.length) : ts[k]? = some (ta ts k) := by
  unfold ta
  rw [List.getD_eq_getElem?_getD, List.getElem?_eq_getElem h]; rfl
theorem rfs_le {os : List Od} {x : Tr} {t s p q : Nat} : rfs os x t s p q ≤ 3 := by
  unfold rfs
  split
  · omega
  · split
    · split <;> omega
    · split <;> omega
def inI (v lo hi : Int32) : Bool := decide (lo ≤ v ∧ v ≤ hi)
def isTr (A : MkA) (t : Int32) : Bool := inI t 0 (nI A.2.1.length - 1)
theorem nI_ofL {t : Int32} (h : 0 ≤ t) : ∃ k, k < 2 ^ 31 ∧ t = nI k := by
  rw [Int32.le_iff_toInt_le, show (0 : Int32).toInt = 0 from rfl] at h
  have hl := Int32.toInt_lt t
  refine ⟨t.toInt.toNat, by omega, Int32.toInt_inj.mp ?_⟩
  show t.toInt = (Int32.ofNat t.toInt.toNat).toInt
  rw [Int32.toInt_ofNat_of_lt (by omega)]
  omega
theorem isTr_i {A : MkA} {t : Int32} (hn : A.2.1.length ≤ 8) : isTr A t = true ↔ ∃ k, t = nI k ∧ k < A.2.1.length := by
  unfold isTr inI
  rw [decide_eq_true_iff]
  constructor
  · rintro ⟨h1, h2⟩
    obtain ⟨k, hk, rfl⟩ := nI_ofL h1
    refine ⟨k, rfl, ?_⟩
    by_cases z : A.2.1.length = 0
    · rw [z, show nI 0 - 1 = (-1 : Int32) from rfl] at h2
      exact absurd (Int32.lt_of_lt_of_le neg1.2 h1) (fun q => absurd h2 (Int32.not_le.mpr q))
    · rw [show (1 : Int32) = nI 1 from rfl, nI_sub (by omega), nI_leI hk (by omega)] at h2
      omega
  · rintro ⟨k, rfl, hk⟩
    refine ⟨nI_pos' (by omega), ?_⟩
    rw [show (1 : Int32) = nI 1 from rfl, nI_sub (by omega), nI_leI (by omega) (by omega)]
    omega
theorem isTr_n {A : MkA} {t : Int32} (hn : A.2.1.length ≤ 8) (h : isTr A t = true) : ∃ k, t = nI k ∧ k < A.2.1.length := (isTr_i hn).mp h
def ixO (A : MkA) (v : Int32) : Nat := (A.2.2.1.map (fun o => o.1)).idxOf v
def isOr (A : MkA) (v : Int32) : Bool := decide (ixO A v < A.2.2.1.length)
theorem rowF_i {A : MkA} {v : Int32} : rowF A.2.2.1 v 0 = if isOr A v = true then nI (ixO A v) else -1 := by
  rw [rowF_x A.2.2.1.length 0 (Nat.le_refl _) (by decide), Nat.zero_add]
  unfold isOr ixO
  by_cases c : (A.2.2.1.map (fun o => o.1)).idxOf v < A.2.2.1.length
  · rw [if_pos c, if_pos (decide_eq_true c)]
  · rw [if_neg c, if_neg (by rw [decide_eq_true_iff]; exact c)]
theorem isOr_lt {A : MkA} {v : Int32} (h : isOr A v = true) : ixO A v < A.2.2.1.length := of_decide_eq_true h
def isAt (A : MkA) (i : Int32) : Bool := inI i 0 (nI A.2.2.1.length - 1)
theorem isAt_n {A : MkA} {t : Int32} (hn : A.2.2.1.length ≤ 21) (h : isAt A t = true) : ∃ k, t = nI k ∧ k < A.2.2.1.length := by
  unfold isAt inI at h
  rw [decide_eq_true_iff] at h
  obtain ⟨h1, h2⟩ := h
  obtain ⟨k, hk, rfl⟩ := nI_ofL h1
  refine ⟨k, rfl, ?_⟩
  by_cases z : A.2.2.1.length = 0
  · rw [z, show nI 0 - 1 = (-1 : Int32) from rfl] at h2
    exact absurd (Int32.lt_of_lt_of_le neg1.2 h1) (fun q => absurd h2 (Int32.not_le.mpr q))
  · rw [show (1 : Int32) = nI 1 from rfl, nI_sub (by omega), nI_leI hk (by omega)] at h2
    omega
theorem inI_n {v : Int32} {lo hi : Nat} (hl : lo < 1000000) (hh : hi < 1000000) (h : inI v (nI lo) (nI hi) = true) : ∃ p, v = nI p ∧ lo ≤ p ∧ p ≤ hi := by
  unfold inI at h
  rw [decide_eq_true_iff] at h
  obtain ⟨h1, h2⟩ := h
  obtain ⟨k, hk, rfl⟩ := nI_ofL (Int32.le_trans (nI_pos' (n := lo) (by omega)) h1)
  exact ⟨k, rfl, (nI_leI (by omega) hk).mp h1, (nI_leI hk (by omega)).mp h2⟩
def cvA (os : List Od) (b : Nat) : Nat := if b = 0 then 0 else vol os b
def qf (A : MkA) (k : Nat) : Nat := FilB A.2.2.1 (nat A.1.2.1) (nat A.1.2.2.2.1) k
def qp (A : MkA) : Int32 := prI (bst A.2.2.1 (nat A.1.2.1))
theorem FilB_le {os : List Od} {last rule j : Nat} : FilB os last rule j ≤ qa os j := by
  unfold FilB
  split
  · exact Nat.zero_le _
  · exact FilA_le
theorem qf_le {A : MkA} {k : Nat} : qf A k ≤ qa A.2.2.1 k := FilB_le
theorem qf_99 {A : MkA} (h : ∀ o ∈ A.2.2.1, CdOk o) (k : Nat) : qf A k ≤ 99 := Nat.le_trans qf_le (qa_ok h k)
def ofd (os : List Od) (f : Nat → Nat) : Nat → Int32
  | 0 => 0
  | k + 1 => ofd os f k + if oS (oa os k) = 0 then nI (f k) else -nI (f k)
def pfc (os : List Od) (f : Nat → Nat) : Nat → Nat
  | 0 => 0
  | k + 1 => pfc os f k + if 0 < f k ∧ f k < qa os k then 1 else 0
def like (s p q : Int32) : Bool := inI s 0 1 && inI p 1 999 && inI q 1 99
theorem like_n {s p q : Int32} (h : like s p q = true) : ∃ a b c, s = nI a ∧ p = nI b ∧ q = nI c ∧ a ≤ 1 ∧ 1 ≤ b ∧ b ≤ 999 ∧ 1 ≤ c ∧ c ≤ 99 := by
  unfold like at h
  rw [Bool.and_eq_true, Bool.and_eq_true] at h
  obtain ⟨a, e1, -, h1⟩ := inI_n (lo := 0) (hi := 1) (by decide) (by decide) h.1.1
  obtain ⟨b, e2, h2, h3⟩ := inI_n (lo := 1) (hi := 999) (by decide) (by decide) h.1.2
  obtain ⟨c, e3, h4, h5⟩ := inI_n (lo := 1) (hi := 99) (by decide) (by decide) h.2
  exact ⟨a, b, c, e1, e2, e3, h1, h2, h3, h4, h5⟩
def remP (P : List MkA) (A : MkA) : List MkA := (if P.length = 6 then P.drop 1 else P) ++ [A]
def rfB (A : MkA) (t s p q : Int32) : Bool := decide (rfs A.2.2.1 (ta A.2.1 (nat t)) (nat t) (nat s) (nat p) (nat q) = 0)
def rtB (s p q m : Int32) : Bool := like s p q && inI m 0 999
def plB (A : MkA) (t s p q m : Int32) : Bool := isTr A t && rtB s p q m && rfB A t s p q
def payC (A : MkA) (t x : Int32) : Bool := decide ((ta A.2.1 (nat t)).2.1 + x ≤ 999999)
def payB (A : MkA) (t x : Int32) : Bool := isTr A t && inI x 1 99999 && payC A t x
def payA (A : MkA) (t : Nat) (x : Int32) : MkA := (A.1, trU A.2.1 t x 0, A.2.2.1, A.2.2.2.1, (A.2.2.2.2.1, A.2.2.2.2.2.1, A.2.2.2.2.2.2.1, A.2.2.2.2.2.2.2.1, A.2.2.2.2.2.2.2.2.1, A.2.2.2.2.2.2.2.2.2.1 + x, A.2.2.2.2.2.2.2.2.2.2))
abbrev SlT : Type := Option MkA × Option MkA
def slo (X : SlT) (m : Nat) : Option MkA := if m = 0 then X.1 else X.2
def sloS (X : SlT) (m : Nat) (A : MkA) : SlT := if m = 0 then (some A, X.2) else (X.1, some A)
def popA (P : List MkA) (A : MkA) : MkA := P.getLast?.getD A
def bN (x : Int32) : Nat := (x.toInt % 256).toNat
theorem bN_lt (x : Int32) : bN x < 256 := by
  unfold bN
  have h1 := Int.emod_nonneg x.toInt (show (256 : Int) ≠ 0 by decide)
  have h2 := Int.emod_lt_of_pos x.toInt (show (0 : Int) < 256 by decide)
  omega
theorem byv_bN (x : Int32) : byv (bN x) = x.toInt8.toInt32 := by
  unfold byv
  refine congrArg Int8.toInt32 ?_
  rw [← Int8.toInt_inj, Int32.toInt_toInt8, Int32.toInt_toInt8]
  have h := bN_lt x
  have e : (nI (bN x)).toInt = (bN x : Int) := by
    show (Int32.ofNat (bN x)).toInt = _
    rw [Int32.toInt_ofNat_of_lt (by omega)]
  rw [e]
  have h1 := Int.emod_nonneg x.toInt (show (256 : Int) ≠ 0 by decide)
  have e2 : (bN x : Int) = x.toInt % 256 := by
    unfold bN; omega
  rw [e2]
  show (x.toInt % (256 : Nat)).bmod 256 = x.toInt.bmod 256
  exact Int.emod_bmod _ _
theorem i8_32 (x : Int8) : x.toInt32.toInt8 = x := Int8.toInt8_toInt32 x
def by4 (v : Int32) : List Nat := [bN (v >>> (24 &&& 31)), bN (v >>> (16 &&& 31)), bN (v >>> (8 &&& 31)), bN (v >>> (0 &&& 31))]
abbrev VwT : Type := MkA × List MkA × SlT × List Nat × (Int32 × Int32) × List Nat
def b20 (a b c d e : Int32) : List Nat := by4 a ++ by4 b ++ by4 c ++ by4 d ++ by4 e
def isLn (bs : List Nat) (v : Int32) : Bool := inI v 0 (nI bs.length)
def ldR : ER ⊕ MkA → Int32
  | .inl _ => -7
  | .inr A => nI A.2.2.1.length
theorem by_id : ∀ b : Nat, b < 128 → (nI b).toInt8.toInt32 = nI b := by decide +kernel
def NuOk (A : MkA) : Prop := (A.2.2.1.map (fun o => o.1)).Nodup
end PURE1
