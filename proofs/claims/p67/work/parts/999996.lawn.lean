section LAWN
set_option maxRecDepth 100000
/-! ### the class's state, as the law sees it -/
abbrev K6 : Type := Option MkX × Option MkX × Option MkX × Option MkX × Option MkX × Option MkX
abbrev V2 : Type := Option MkX × Option MkX
def kr (k : K6) : List (Option Nat) := [k.1.map (fun _ => 70), k.2.1.map (fun _ => 83), k.2.2.1.map (fun _ => 96), k.2.2.2.1.map (fun _ => 109), k.2.2.2.2.1.map (fun _ => 122), k.2.2.2.2.2.map (fun _ => 135)]
def vr (v : V2) : List (Option Nat) := [v.1.map (fun _ => 148), v.2.map (fun _ => 161)]
def kg (k : K6) (i : Nat) : Option MkX := if i = 0 then k.1 else if i = 1 then k.2.1 else if i = 2 then k.2.2.1 else if i = 3 then k.2.2.2.1 else if i = 4 then k.2.2.2.2.1 else k.2.2.2.2.2
def ks (k : K6) (i : Nat) (x : Option MkX) : K6 := (if i = 0 then x else k.1, if i = 1 then x else k.2.1, if i = 2 then x else k.2.2.1, if i = 3 then x else k.2.2.2.1, if i = 4 then x else k.2.2.2.2.1, if i = 5 then x else k.2.2.2.2.2)
def vg (v : V2) (j : Nat) : Option MkX := if j = 0 then v.1 else v.2
def vs (v : V2) (j : Nat) (x : Option MkX) : V2 := (if j = 0 then x else v.1, if j = 1 then x else v.2)
def hW (Z : MhT) (T : TrT) (B : BkT) (Y : TaT) (C : CrT) (O : OuT) (S : SeT) (ZD : MhT) (TD : TrT) (BD : BkT) (YD : TaT) (c n : Nat) (k : K6) (v : V2) (r : gH) : gH :=
  hL Z T B Y C O S ZD TD BD YD (nI c, nI n) (kr k) (vr v) k.1 k.2.1 k.2.2.1 k.2.2.2.1 k.2.2.2.2.1 k.2.2.2.2.2 v.1 v.2 r
theorem om (o : Option MkX) (a b : Nat) (g : Nat → Nat) (h : g a = b) : o.map (fun _ => b) = (o.map (fun _ => a)).map g := by
  cases o <;> simp [h]
theorem cc2 {a b : Option Nat} {l m : List (Option Nat)} (h : a = b) (g : l = m) : a :: l = b :: m := by rw [h, g]
theorem om1 (a b : Nat) (g : Nat → Nat) (h : g a = b) : some b = (some a).map g := by simp [h]
theorem mem6 {a0 a1 a2 a3 a4 a5 : Option MkX} {n0 n1 n2 n3 n4 n5 q : Nat} (h : some q ∈ [a0.map (fun _ => n0), a1.map (fun _ => n1), a2.map (fun _ => n2), a3.map (fun _ => n3), a4.map (fun _ => n4), a5.map (fun _ => n5)]) :
    (q = n0 ∧ a0 ≠ none) ∨ (q = n1 ∧ a1 ≠ none) ∨ (q = n2 ∧ a2 ≠ none) ∨ (q = n3 ∧ a3 ≠ none) ∨ (q = n4 ∧ a4 ≠ none) ∨ (q = n5 ∧ a5 ≠ none) := by
  have key : ∀ (a : Option MkX) (m : Nat), some q = a.map (fun _ => m) → q = m ∧ a ≠ none := by
    intro a m e
    cases a with
    | none => cases e
    | some x => exact ⟨Option.some.inj e, fun z => by cases z⟩
  simp only [List.mem_cons, List.not_mem_nil, or_false] at h
  rcases h with h | h | h | h | h | h
  · exact Or.inl (key _ _ h)
  · exact Or.inr (Or.inl (key _ _ h))
  · exact Or.inr (Or.inr (Or.inl (key _ _ h)))
  · exact Or.inr (Or.inr (Or.inr (Or.inl (key _ _ h))))
  · exact Or.inr (Or.inr (Or.inr (Or.inr (Or.inl (key _ _ h)))))
  · exact Or.inr (Or.inr (Or.inr (Or.inr (Or.inr (key _ _ h)))))
theorem mem2 {a0 a1 : Option MkX} {n0 n1 q : Nat} (h : some q ∈ [a0.map (fun _ => n0), a1.map (fun _ => n1)]) : (q = n0 ∧ a0 ≠ none) ∨ (q = n1 ∧ a1 ≠ none) := by
  have key : ∀ (a : Option MkX) (m : Nat), some q = a.map (fun _ => m) → q = m ∧ a ≠ none := by
    intro a m e
    cases a with
    | none => cases e
    | some x => exact ⟨Option.some.inj e, fun z => by cases z⟩
  simp only [List.mem_cons, List.not_mem_nil, or_false] at h
  rcases h with h | h
  · exact Or.inl (key _ _ h)
  · exact Or.inr (key _ _ h)
section
variable {Z ZD : MhT} {T TD : TrT} {B BD : BkT} {Y YD : TaT} {C : CrT} {O : OuT} {S : SeT} {H : HiT} {K V : List (Option Nat)} {X W : Option MkX}
/-- a callee's end leaves nothing that points at a place of the caller's by chance -/
theorem hK_clo {ρ : List Nat} (hl : ρ.length = 67) (hq : ∀ q, (some q ∈ K ∨ some q ∈ V) → q < 67 ∨ q ∉ ρ) : gClo ρ (hK Z T B Y C O S ZD TD BD YD H K V X W) := by
  intro k c' hk r h1 h2
  rw [hl] at h1
  have hkl := (List.getElem?_eq_some_iff.mp hk).1
  rw [hK_len] at hkl
  by_cases k1 : k < 39
  · have h9 : (List.range 39).all (fun k => match (hK Z T B Y C O S ZD TD BD YD H K V X W)[k]? with | some (some c) => cIn 0 41 c | _ => true) = true := rfl
    have h8 := List.all_eq_true.mp h9 k (List.mem_range.mpr k1)
    rw [hk] at h8
    exact cIn_no h8 (by omega)
  · by_cases k2 : k = 39
    · subst k2
      have e : some (some (.inr (.inr (.inl K)))) = some (some c') := hk
      cases e
      intro o ho hz
      subst hz
      rcases hq r (Or.inl ho) with z | z
      · omega
      · exact z h2
    · by_cases k3 : k = 40
      · subst k3
        have e : some (some (.inr (.inr (.inl V)))) = some (some c') := hk
        cases e
        intro o ho hz
        subst hz
        rcases hq r (Or.inr ho) with z | z
        · omega
        · exact z h2
      · by_cases k4 : k < 54
        · cases X with
          | none =>
            have h9 : (List.range' 41 13).all (fun i => isNn (hK Z T B Y C O S ZD TD BD YD H K V none W)[i]?) = true := rfl
            have h8 := List.all_eq_true.mp h9 k (List.mem_range'_1.mpr ⟨by omega, by omega⟩)
            rw [hk] at h8
            cases h8
          | some x =>
            have h9 : (List.range' 41 13).all (fun k => match (hK Z T B Y C O S ZD TD BD YD H K V (some x) W)[k]? with | some (some c) => cIn 41 54 c | _ => true) = true := rfl
            have h8 := List.all_eq_true.mp h9 k (List.mem_range'_1.mpr ⟨by omega, by omega⟩)
            rw [hk] at h8
            exact cIn_no h8 (by omega)
        · cases W with
          | none =>
            have h9 : (List.range' 54 13).all (fun i => isNn (hK Z T B Y C O S ZD TD BD YD H K V X none)[i]?) = true := rfl
            have h8 := List.all_eq_true.mp h9 k (List.mem_range'_1.mpr ⟨by omega, by omega⟩)
            rw [hk] at h8
            cases h8
          | some x =>
            have h9 : (List.range' 54 13).all (fun k => match (hK Z T B Y C O S ZD TD BD YD H K V X (some x))[k]? with | some (some c) => cIn 54 67 c | _ => true) = true := rfl
            have h8 := List.all_eq_true.mp h9 k (List.mem_range'_1.mpr ⟨by omega, by omega⟩)
            rw [hk] at h8
            exact cIn_no h8 (by omega)
end
variable {Z ZD : MhT} {T TD : TrT} {B BD : BkT} {Y YD : TaT} {C : CrT} {O : OuT} {S : SeT} {c n : Nat} {k : K6} {v : V2} {r : gH}
theorem hW_app : hW Z T B Y C O S ZD TD BD YD c n k v ([] ++ r) = hW Z T B Y C O S ZD TD BD YD c n k v [] ++ r := rfl
theorem sg_no {l : gH} {lo hi p : Nat} (h : l.all (fun o => match o with | some c => cIn lo hi c | none => true) = true) (hp : p < lo ∨ hi ≤ p) {c' : gC} (hm : some c' ∈ l) : gNo p c' := cIn_no (List.all_eq_true.mp h _ hm) hp
theorem vN_ {v : V2} : ∀ j, j ≤ 1 → vg v j = none → [v.1.map (fun _ => 148), v.2.map (fun _ => 161)].getD j none = none := by
  intro j hj hv
  have two : j = 0 ∨ j = 1 := by omega
  rcases two with rfl | rfl
  · have h2 : v.1 = none := hv
    show v.1.map (fun _ => 148) = none
    rw [h2]; rfl
  · have h2 : v.2 = none := hv
    show v.2.map (fun _ => 161) = none
    rw [h2]; rfl
def cI2 (lo hi : Nat) : gC → Bool
  | .inl o => o.2.all (fun v => match v with | .ref k => Nat.ble lo k && Nat.blt k hi | _ => true)
  | .inr (.inr (.inl l)) => l.all (fun o => match o with | some k => Nat.ble lo k && Nat.blt k hi | none => true)
  | .inr (.inr (.inr l)) => l.all (fun o => match o with | some k => Nat.ble lo k && Nat.blt k hi | none => true)
  | _ => true
theorem cI2_no {lo hi i : Nat} {c : gC} (h : cI2 lo hi c = true) (hi' : i < lo ∨ hi ≤ i) : gNo i c := by
  rcases c with o | a | l | l
  · intro v hv hz
    subst hz
    have := List.all_eq_true.mp h _ hv
    simp only [Bool.and_eq_true] at this
    have h1 := Nat.le_of_ble_eq_true this.1
    have h2 := Nat.blt_eq.mp this.2
    omega
  · trivial
  · intro v hv hz
    subst hz
    have := List.all_eq_true.mp h _ hv
    simp only [Bool.and_eq_true] at this
    have h1 := Nat.le_of_ble_eq_true this.1
    have h2 := Nat.blt_eq.mp this.2
    omega
  · intro v hv hz
    subst hz
    have := List.all_eq_true.mp h _ hv
    simp only [Bool.and_eq_true] at this
    have h1 := Nat.le_of_ble_eq_true this.1
    have h2 := Nat.blt_eq.mp this.2
    omega
def rFar (r : gH) : Bool := r.all (fun o => match o with | some c => cI2 174 1000 c | none => true)
theorem hW_free {p : Nat} {ls : List (Option Value)} {sk : List Value} (r1 : p < 174) (hr : rFar r = true) (hp : (hW Z T B Y C O S ZD TD BD YD c n k v r)[p]? = some none) (hls : ls.all (fun o => match o with | some (.ref q) => Nat.blt q 41 || Nat.ble 174 q | _ => true) = true) (hsk : sk.all (fun o => match o with | .ref q => Nat.blt q 41 || Nat.ble 174 q | _ => true) = true) : gFree p ls sk (hW Z T B Y C O S ZD TD BD YD c n k v r) := by
  have r0 : 41 ≤ p := by
    refine Nat.le_of_not_lt (fun hlt => ?_)
    have h9 : (List.range 41).all (fun i => !(isNn (hW Z T B Y C O S ZD TD BD YD c n k v r)[i]?)) = true := rfl
    have h8 := List.all_eq_true.mp h9 p (List.mem_range.mpr hlt)
    rw [hp] at h8; cases h8
  have s0 : k.1 ≠ none → p < 70 ∨ 83 ≤ p := by
    intro hk
    rcases Nat.lt_or_ge p 70 with z | z
    · exact Or.inl z
    · refine Or.inr (Nat.le_of_not_lt (fun hlt => ?_))
      obtain ⟨x, hx⟩ := Option.ne_none_iff_exists'.mp hk
      have h9 : (List.range' 70 13).all (fun i => !(isNn (hW Z T B Y C O S ZD TD BD YD c n k v r)[i]?)) = true := by
        unfold hW; rw [hx]; rfl
      have h8 := List.all_eq_true.mp h9 p (List.mem_range'_1.mpr ⟨z, by omega⟩)
      rw [hp] at h8; cases h8
  have s1 : k.2.1 ≠ none → p < 83 ∨ 96 ≤ p := by
    intro hk
    rcases Nat.lt_or_ge p 83 with z | z
    · exact Or.inl z
    · refine Or.inr (Nat.le_of_not_lt (fun hlt => ?_))
      obtain ⟨x, hx⟩ := Option.ne_none_iff_exists'.mp hk
      have h9 : (List.range' 83 13).all (fun i => !(isNn (hW Z T B Y C O S ZD TD BD YD c n k v r)[i]?)) = true := by
        unfold hW; rw [hx]; rfl
      have h8 := List.all_eq_true.mp h9 p (List.mem_range'_1.mpr ⟨z, by omega⟩)
      rw [hp] at h8; cases h8
  have s2 : k.2.2.1 ≠ none → p < 96 ∨ 109 ≤ p := by
    intro hk
    rcases Nat.lt_or_ge p 96 with z | z
    · exact Or.inl z
    · refine Or.inr (Nat.le_of_not_lt (fun hlt => ?_))
      obtain ⟨x, hx⟩ := Option.ne_none_iff_exists'.mp hk
      have h9 : (List.range' 96 13).all (fun i => !(isNn (hW Z T B Y C O S ZD TD BD YD c n k v r)[i]?)) = true := by
        unfold hW; rw [hx]; rfl
      have h8 := List.all_eq_true.mp h9 p (List.mem_range'_1.mpr ⟨z, by omega⟩)
      rw [hp] at h8; cases h8
  have s3 : k.2.2.2.1 ≠ none → p < 109 ∨ 122 ≤ p := by
    intro hk
    rcases Nat.lt_or_ge p 109 with z | z
    · exact Or.inl z
    · refine Or.inr (Nat.le_of_not_lt (fun hlt => ?_))
      obtain ⟨x, hx⟩ := Option.ne_none_iff_exists'.mp hk
      have h9 : (List.range' 109 13).all (fun i => !(isNn (hW Z T B Y C O S ZD TD BD YD c n k v r)[i]?)) = true := by
        unfold hW; rw [hx]; rfl
      have h8 := List.all_eq_true.mp h9 p (List.mem_range'_1.mpr ⟨z, by omega⟩)
      rw [hp] at h8; cases h8
  have s4 : k.2.2.2.2.1 ≠ none → p < 122 ∨ 135 ≤ p := by
    intro hk
    rcases Nat.lt_or_ge p 122 with z | z
    · exact Or.inl z
    · refine Or.inr (Nat.le_of_not_lt (fun hlt => ?_))
      obtain ⟨x, hx⟩ := Option.ne_none_iff_exists'.mp hk
      have h9 : (List.range' 122 13).all (fun i => !(isNn (hW Z T B Y C O S ZD TD BD YD c n k v r)[i]?)) = true := by
        unfold hW; rw [hx]; rfl
      have h8 := List.all_eq_true.mp h9 p (List.mem_range'_1.mpr ⟨z, by omega⟩)
      rw [hp] at h8; cases h8
  have s5 : k.2.2.2.2.2 ≠ none → p < 135 ∨ 148 ≤ p := by
    intro hk
    rcases Nat.lt_or_ge p 135 with z | z
    · exact Or.inl z
    · refine Or.inr (Nat.le_of_not_lt (fun hlt => ?_))
      obtain ⟨x, hx⟩ := Option.ne_none_iff_exists'.mp hk
      have h9 : (List.range' 135 13).all (fun i => !(isNn (hW Z T B Y C O S ZD TD BD YD c n k v r)[i]?)) = true := by
        unfold hW; rw [hx]; rfl
      have h8 := List.all_eq_true.mp h9 p (List.mem_range'_1.mpr ⟨z, by omega⟩)
      rw [hp] at h8; cases h8
  have s6 : v.1 ≠ none → p < 148 ∨ 161 ≤ p := by
    intro hk
    rcases Nat.lt_or_ge p 148 with z | z
    · exact Or.inl z
    · refine Or.inr (Nat.le_of_not_lt (fun hlt => ?_))
      obtain ⟨x, hx⟩ := Option.ne_none_iff_exists'.mp hk
      have h9 : (List.range' 148 13).all (fun i => !(isNn (hW Z T B Y C O S ZD TD BD YD c n k v r)[i]?)) = true := by
        unfold hW; rw [hx]; rfl
      have h8 := List.all_eq_true.mp h9 p (List.mem_range'_1.mpr ⟨z, by omega⟩)
      rw [hp] at h8; cases h8
  have s7 : v.2 ≠ none → p < 161 ∨ 174 ≤ p := by
    intro hk
    rcases Nat.lt_or_ge p 161 with z | z
    · exact Or.inl z
    · refine Or.inr (Nat.le_of_not_lt (fun hlt => ?_))
      obtain ⟨x, hx⟩ := Option.ne_none_iff_exists'.mp hk
      have h9 : (List.range' 161 13).all (fun i => !(isNn (hW Z T B Y C O S ZD TD BD YD c n k v r)[i]?)) = true := by
        unfold hW; rw [hx]; rfl
      have h8 := List.all_eq_true.mp h9 p (List.mem_range'_1.mpr ⟨z, by omega⟩)
      rw [hp] at h8; cases h8
  refine ⟨hp, by omega, fun v hv hz => ?_, fun v hv hz => ?_, fun q c' hq => ?_⟩
  · subst hz
    have := List.all_eq_true.mp hls _ hv
    simp only [Bool.or_eq_true] at this
    rcases this with h | h
    · have := Nat.blt_eq.mp h; omega
    · have := Nat.le_of_ble_eq_true h; omega
  · subst hz
    have := List.all_eq_true.mp hsk _ hv
    simp only [Bool.or_eq_true] at this
    rcases this with h | h
    · have := Nat.blt_eq.mp h; omega
    · have := Nat.le_of_ble_eq_true h; omega
  · have hm := List.mem_of_getElem? hq
    unfold hW hL at hm
    simp only [List.mem_append] at hm
    rcases hm with hm | hm | hm | hm | hm | hm | hm | hm | hm | hm | hm | hm
    · exact sg_no (lo := 0) (hi := 41) rfl (by omega) hm
    · simp only [List.mem_cons, List.not_mem_nil, or_false] at hm
      rcases hm with hm | hm
      · cases hm
        intro e he hz
        subst hz
        rcases mem6 he with ⟨h1, h2⟩ | ⟨h1, h2⟩ | ⟨h1, h2⟩ | ⟨h1, h2⟩ | ⟨h1, h2⟩ | ⟨h1, h2⟩
        · have := s0 h2; omega
        · have := s1 h2; omega
        · have := s2 h2; omega
        · have := s3 h2; omega
        · have := s4 h2; omega
        · have := s5 h2; omega
      · cases hm
        intro e he hz
        subst hz
        rcases mem2 he with ⟨h1, h2⟩ | ⟨h1, h2⟩
        · have := s6 h2; omega
        · have := s7 h2; omega
    · rw [List.mem_replicate] at hm
      cases hm.2
    · by_cases hk : k.1 = none
      · rw [hk] at hm
        simp [mkC] at hm
      · obtain ⟨x, hx⟩ := Option.ne_none_iff_exists'.mp hk
        rw [hx] at hm
        exact sg_no (lo := 70) (hi := 83) rfl (s0 hk) hm
    · by_cases hk : k.2.1 = none
      · rw [hk] at hm
        simp [mkC] at hm
      · obtain ⟨x, hx⟩ := Option.ne_none_iff_exists'.mp hk
        rw [hx] at hm
        exact sg_no (lo := 83) (hi := 96) rfl (s1 hk) hm
    · by_cases hk : k.2.2.1 = none
      · rw [hk] at hm
        simp [mkC] at hm
      · obtain ⟨x, hx⟩ := Option.ne_none_iff_exists'.mp hk
        rw [hx] at hm
        exact sg_no (lo := 96) (hi := 109) rfl (s2 hk) hm
    · by_cases hk : k.2.2.2.1 = none
      · rw [hk] at hm
        simp [mkC] at hm
      · obtain ⟨x, hx⟩ := Option.ne_none_iff_exists'.mp hk
        rw [hx] at hm
        exact sg_no (lo := 109) (hi := 122) rfl (s3 hk) hm
    · by_cases hk : k.2.2.2.2.1 = none
      · rw [hk] at hm
        simp [mkC] at hm
      · obtain ⟨x, hx⟩ := Option.ne_none_iff_exists'.mp hk
        rw [hx] at hm
        exact sg_no (lo := 122) (hi := 135) rfl (s4 hk) hm
    · by_cases hk : k.2.2.2.2.2 = none
      · rw [hk] at hm
        simp [mkC] at hm
      · obtain ⟨x, hx⟩ := Option.ne_none_iff_exists'.mp hk
        rw [hx] at hm
        exact sg_no (lo := 135) (hi := 148) rfl (s5 hk) hm
    · by_cases hk : v.1 = none
      · rw [hk] at hm
        simp [mkC] at hm
      · obtain ⟨x, hx⟩ := Option.ne_none_iff_exists'.mp hk
        rw [hx] at hm
        exact sg_no (lo := 148) (hi := 161) rfl (s6 hk) hm
    · by_cases hk : v.2 = none
      · rw [hk] at hm
        simp [mkC] at hm
      · obtain ⟨x, hx⟩ := Option.ne_none_iff_exists'.mp hk
        rw [hx] at hm
        exact sg_no (lo := 161) (hi := 174) rfl (s7 hk) hm
    · exact cI2_no (List.all_eq_true.mp hr _ hm) (Or.inl r1)
/-- the class's cells for a command that keeps at i -/
theorem hW_A {i : Nat} (hi : i < 6) : ∃ (ρ : List Nat) (K V : List (Option Nat)), gSub ρ (hW Z T B Y C O S ZD TD BD YD c n k v r) (hK Z T B Y C O S ZD TD BD YD (nI c, nI n) K V (kg k i) none) ∧ (∀ q ∈ ρ, q < 174) ∧ ρ.length = 67 ∧ ρ[0]? = some 0 ∧ K.length = 6 ∧ K.getD i none = (kg k i).map (fun _ => 41) ∧ V.length = 2 ∧ (∀ j, j ≤ 1 → vg v j = none → V.getD j none = none) ∧ KRef (kg k i) none K V ∧
    (∀ q, (some q ∈ K.set i (some 41) ∨ some q ∈ V) → q < 67 ∨ q ∉ ρ) ∧ (∀ q, (some q ∈ K ∨ some q ∈ V) → q < 67 ∨ q ∉ ρ) ∧
    (∀ (Z' : MhT) (T' : TrT) (B' : BkT) (Y' : TaT) (C' : CrT) (O' : OuT) (S' : SeT) (ZD' : MhT) (TD' : TrT) (BD' : BkT) (YD' : TaT) (c' n' : Nat) (x : MkX), gPb ρ ρ (hK Z' T' B' Y' C' O' S' ZD' TD' BD' YD' (nI c', nI n') (K.set i (some 41)) V (some x) none) (hW Z T B Y C O S ZD TD BD YD c n k v r) = hW Z' T' B' Y' C' O' S' ZD' TD' BD' YD' c' n' (ks k i (some x)) v r) ∧
    (∀ (Z' : MhT) (T' : TrT) (B' : BkT) (Y' : TaT) (C' : CrT) (O' : OuT) (S' : SeT) (ZD' : MhT) (TD' : TrT) (BD' : BkT) (YD' : TaT) (c' n' : Nat), gPb ρ ρ (hK Z' T' B' Y' C' O' S' ZD' TD' BD' YD' (nI c', nI n') K V (kg k i) none) (hW Z T B Y C O S ZD TD BD YD c n k v r) = hW Z' T' B' Y' C' O' S' ZD' TD' BD' YD' c' n' k v r) := by
  have six : i = 0 ∨ i = 1 ∨ i = 2 ∨ i = 3 ∨ i = 4 ∨ i = 5 := by omega
  rcases six with rfl | rfl | rfl | rfl | rfl | rfl
  · have eK : kr k = ([k.1.map (fun _ => 41), k.2.1.map (fun _ => 83), k.2.2.1.map (fun _ => 96), k.2.2.2.1.map (fun _ => 109), k.2.2.2.2.1.map (fun _ => 122), k.2.2.2.2.2.map (fun _ => 135)] : List (Option Nat)).map (Option.map (gRen rhA0)) := cc2 (om _ 41 70 _ rfl) (cc2 (om _ 83 83 _ rfl) (cc2 (om _ 96 96 _ rfl) (cc2 (om _ 109 109 _ rfl) (cc2 (om _ 122 122 _ rfl) (cc2 (om _ 135 135 _ rfl) (rfl))))))
    have eS : kr (ks k 0 (some ((0, 0, 0, 0, 0), T00, B00, Y00))) = ([some 41, k.2.1.map (fun _ => 83), k.2.2.1.map (fun _ => 96), k.2.2.2.1.map (fun _ => 109), k.2.2.2.2.1.map (fun _ => 122), k.2.2.2.2.2.map (fun _ => 135)] : List (Option Nat)).map (Option.map (gRen rhA0)) := cc2 (om1 41 70 _ rfl) (cc2 (om _ 83 83 _ rfl) (cc2 (om _ 96 96 _ rfl) (cc2 (om _ 109 109 _ rfl) (cc2 (om _ 122 122 _ rfl) (cc2 (om _ 135 135 _ rfl) (rfl))))))
    have eV : vr v = ([v.1.map (fun _ => 148), v.2.map (fun _ => 161)] : List (Option Nat)).map (Option.map (gRen rhA0)) := cc2 (om _ 148 148 _ rfl) (cc2 (om _ 161 161 _ rfl) (rfl))
    refine ⟨rhA0, [k.1.map (fun _ => 41), k.2.1.map (fun _ => 83), k.2.2.1.map (fun _ => 96), k.2.2.2.1.map (fun _ => 109), k.2.2.2.2.1.map (fun _ => 122), k.2.2.2.2.2.map (fun _ => 135)], [v.1.map (fun _ => 148), v.2.map (fun _ => 161)], ?_, by decide, rfl, rfl, rfl, rfl, rfl, vN_, ?_, ?_, ?_, ?_, ?_⟩
    · show gSub rhA0 (hL Z T B Y C O S ZD TD BD YD (nI c, nI n) (kr k) (vr v) k.1 k.2.1 k.2.2.1 k.2.2.2.1 k.2.2.2.2.1 k.2.2.2.2.2 v.1 v.2 r) _
      rw [eK, eV]
      exact rhA0_s
    · intro q hq
      rcases hq with hq | hq
      · have := mem6 hq
        show (q = 41 ∧ k.1 ≠ none) ∨ _ ∨ _
        rcases this with ⟨h1, h2⟩ | ⟨h1, h2⟩ | ⟨h1, h2⟩ | ⟨h1, h2⟩ | ⟨h1, h2⟩ | ⟨h1, h2⟩ <;> first | exact Or.inl ⟨h1, h2⟩ | exact Or.inr (Or.inr (by omega))
      · have := mem2 hq
        exact Or.inr (Or.inr (by omega))
    · intro q hq
      rcases hq with hq | hq
      · have hq : some q ∈ [some 41, k.2.1.map (fun _ => 83), k.2.2.1.map (fun _ => 96), k.2.2.2.1.map (fun _ => 109), k.2.2.2.2.1.map (fun _ => 122), k.2.2.2.2.2.map (fun _ => 135)] := hq
        have h9 : q = 41 ∨ q = 83 ∨ q = 96 ∨ q = 109 ∨ q = 122 ∨ q = 135 := by
          have := mem6 (a0 := some ((0, 0, 0, 0, 0), T00, B00, Y00)) hq
          omega
        rcases h9 with rfl | rfl | rfl | rfl | rfl | rfl <;> first | exact Or.inl (by decide) | exact Or.inr (by decide)
      · have h9 : q = 148 ∨ q = 161 := by
          have := mem2 hq
          omega
        rcases h9 with rfl | rfl <;> exact Or.inr (by decide)
    · intro q hq
      rcases hq with hq | hq
      · have h9 : q = 41 ∨ q = 83 ∨ q = 96 ∨ q = 109 ∨ q = 122 ∨ q = 135 := by
          have := mem6 hq
          omega
        rcases h9 with rfl | rfl | rfl | rfl | rfl | rfl <;> first | exact Or.inl (by decide) | exact Or.inr (by decide)
      · have h9 : q = 148 ∨ q = 161 := by
          have := mem2 hq
          omega
        rcases h9 with rfl | rfl <;> exact Or.inr (by decide)
    · intro Z' T' B' Y' C' O' S' ZD' TD' BD' YD' c' n' x
      have eS : kr (ks k 0 (some x)) = ([some 41, k.2.1.map (fun _ => 83), k.2.2.1.map (fun _ => 96), k.2.2.2.1.map (fun _ => 109), k.2.2.2.2.1.map (fun _ => 122), k.2.2.2.2.2.map (fun _ => 135)] : List (Option Nat)).map (Option.map (gRen rhA0)) := cc2 (om1 41 70 _ rfl) (cc2 (om _ 83 83 _ rfl) (cc2 (om _ 96 96 _ rfl) (cc2 (om _ 109 109 _ rfl) (cc2 (om _ 122 122 _ rfl) (cc2 (om _ 135 135 _ rfl) (rfl))))))
      refine Eq.trans rhA0_p ?_
      show _ = hL Z' T' B' Y' C' O' S' ZD' TD' BD' YD' (nI c', nI n') (kr (ks k 0 (some x))) (vr v) (some x) k.2.1 k.2.2.1 k.2.2.2.1 k.2.2.2.2.1 k.2.2.2.2.2 v.1 v.2 r
      rw [eS, eV]; rfl
    · intro Z' T' B' Y' C' O' S' ZD' TD' BD' YD' c' n'
      refine Eq.trans rhA0_p ?_
      show _ = hL Z' T' B' Y' C' O' S' ZD' TD' BD' YD' (nI c', nI n') (kr k) (vr v) k.1 k.2.1 k.2.2.1 k.2.2.2.1 k.2.2.2.2.1 k.2.2.2.2.2 v.1 v.2 r
      rw [eK, eV]; rfl
  · have eK : kr k = ([k.1.map (fun _ => 70), k.2.1.map (fun _ => 41), k.2.2.1.map (fun _ => 96), k.2.2.2.1.map (fun _ => 109), k.2.2.2.2.1.map (fun _ => 122), k.2.2.2.2.2.map (fun _ => 135)] : List (Option Nat)).map (Option.map (gRen rhA1)) := cc2 (om _ 70 70 _ rfl) (cc2 (om _ 41 83 _ rfl) (cc2 (om _ 96 96 _ rfl) (cc2 (om _ 109 109 _ rfl) (cc2 (om _ 122 122 _ rfl) (cc2 (om _ 135 135 _ rfl) (rfl))))))
    have eS : kr (ks k 1 (some ((0, 0, 0, 0, 0), T00, B00, Y00))) = ([k.1.map (fun _ => 70), some 41, k.2.2.1.map (fun _ => 96), k.2.2.2.1.map (fun _ => 109), k.2.2.2.2.1.map (fun _ => 122), k.2.2.2.2.2.map (fun _ => 135)] : List (Option Nat)).map (Option.map (gRen rhA1)) := cc2 (om _ 70 70 _ rfl) (cc2 (om1 41 83 _ rfl) (cc2 (om _ 96 96 _ rfl) (cc2 (om _ 109 109 _ rfl) (cc2 (om _ 122 122 _ rfl) (cc2 (om _ 135 135 _ rfl) (rfl))))))
    have eV : vr v = ([v.1.map (fun _ => 148), v.2.map (fun _ => 161)] : List (Option Nat)).map (Option.map (gRen rhA1)) := cc2 (om _ 148 148 _ rfl) (cc2 (om _ 161 161 _ rfl) (rfl))
    refine ⟨rhA1, [k.1.map (fun _ => 70), k.2.1.map (fun _ => 41), k.2.2.1.map (fun _ => 96), k.2.2.2.1.map (fun _ => 109), k.2.2.2.2.1.map (fun _ => 122), k.2.2.2.2.2.map (fun _ => 135)], [v.1.map (fun _ => 148), v.2.map (fun _ => 161)], ?_, by decide, rfl, rfl, rfl, rfl, rfl, vN_, ?_, ?_, ?_, ?_, ?_⟩
    · show gSub rhA1 (hL Z T B Y C O S ZD TD BD YD (nI c, nI n) (kr k) (vr v) k.1 k.2.1 k.2.2.1 k.2.2.2.1 k.2.2.2.2.1 k.2.2.2.2.2 v.1 v.2 r) _
      rw [eK, eV]
      exact rhA1_s
    · intro q hq
      rcases hq with hq | hq
      · have := mem6 hq
        show (q = 41 ∧ k.2.1 ≠ none) ∨ _ ∨ _
        rcases this with ⟨h1, h2⟩ | ⟨h1, h2⟩ | ⟨h1, h2⟩ | ⟨h1, h2⟩ | ⟨h1, h2⟩ | ⟨h1, h2⟩ <;> first | exact Or.inl ⟨h1, h2⟩ | exact Or.inr (Or.inr (by omega))
      · have := mem2 hq
        exact Or.inr (Or.inr (by omega))
    · intro q hq
      rcases hq with hq | hq
      · have hq : some q ∈ [k.1.map (fun _ => 70), some 41, k.2.2.1.map (fun _ => 96), k.2.2.2.1.map (fun _ => 109), k.2.2.2.2.1.map (fun _ => 122), k.2.2.2.2.2.map (fun _ => 135)] := hq
        have h9 : q = 41 ∨ q = 70 ∨ q = 96 ∨ q = 109 ∨ q = 122 ∨ q = 135 := by
          have := mem6 (a1 := some ((0, 0, 0, 0, 0), T00, B00, Y00)) hq
          omega
        rcases h9 with rfl | rfl | rfl | rfl | rfl | rfl <;> first | exact Or.inl (by decide) | exact Or.inr (by decide)
      · have h9 : q = 148 ∨ q = 161 := by
          have := mem2 hq
          omega
        rcases h9 with rfl | rfl <;> exact Or.inr (by decide)
    · intro q hq
      rcases hq with hq | hq
      · have h9 : q = 41 ∨ q = 70 ∨ q = 96 ∨ q = 109 ∨ q = 122 ∨ q = 135 := by
          have := mem6 hq
          omega
        rcases h9 with rfl | rfl | rfl | rfl | rfl | rfl <;> first | exact Or.inl (by decide) | exact Or.inr (by decide)
      · have h9 : q = 148 ∨ q = 161 := by
          have := mem2 hq
          omega
        rcases h9 with rfl | rfl <;> exact Or.inr (by decide)
    · intro Z' T' B' Y' C' O' S' ZD' TD' BD' YD' c' n' x
      have eS : kr (ks k 1 (some x)) = ([k.1.map (fun _ => 70), some 41, k.2.2.1.map (fun _ => 96), k.2.2.2.1.map (fun _ => 109), k.2.2.2.2.1.map (fun _ => 122), k.2.2.2.2.2.map (fun _ => 135)] : List (Option Nat)).map (Option.map (gRen rhA1)) := cc2 (om _ 70 70 _ rfl) (cc2 (om1 41 83 _ rfl) (cc2 (om _ 96 96 _ rfl) (cc2 (om _ 109 109 _ rfl) (cc2 (om _ 122 122 _ rfl) (cc2 (om _ 135 135 _ rfl) (rfl))))))
      refine Eq.trans rhA1_p ?_
      show _ = hL Z' T' B' Y' C' O' S' ZD' TD' BD' YD' (nI c', nI n') (kr (ks k 1 (some x))) (vr v) k.1 (some x) k.2.2.1 k.2.2.2.1 k.2.2.2.2.1 k.2.2.2.2.2 v.1 v.2 r
      rw [eS, eV]; rfl
    · intro Z' T' B' Y' C' O' S' ZD' TD' BD' YD' c' n'
      refine Eq.trans rhA1_p ?_
      show _ = hL Z' T' B' Y' C' O' S' ZD' TD' BD' YD' (nI c', nI n') (kr k) (vr v) k.1 k.2.1 k.2.2.1 k.2.2.2.1 k.2.2.2.2.1 k.2.2.2.2.2 v.1 v.2 r
      rw [eK, eV]; rfl
  · have eK : kr k = ([k.1.map (fun _ => 70), k.2.1.map (fun _ => 83), k.2.2.1.map (fun _ => 41), k.2.2.2.1.map (fun _ => 109), k.2.2.2.2.1.map (fun _ => 122), k.2.2.2.2.2.map (fun _ => 135)] : List (Option Nat)).map (Option.map (gRen rhA2)) := cc2 (om _ 70 70 _ rfl) (cc2 (om _ 83 83 _ rfl) (cc2 (om _ 41 96 _ rfl) (cc2 (om _ 109 109 _ rfl) (cc2 (om _ 122 122 _ rfl) (cc2 (om _ 135 135 _ rfl) (rfl))))))
    have eS : kr (ks k 2 (some ((0, 0, 0, 0, 0), T00, B00, Y00))) = ([k.1.map (fun _ => 70), k.2.1.map (fun _ => 83), some 41, k.2.2.2.1.map (fun _ => 109), k.2.2.2.2.1.map (fun _ => 122), k.2.2.2.2.2.map (fun _ => 135)] : List (Option Nat)).map (Option.map (gRen rhA2)) := cc2 (om _ 70 70 _ rfl) (cc2 (om _ 83 83 _ rfl) (cc2 (om1 41 96 _ rfl) (cc2 (om _ 109 109 _ rfl) (cc2 (om _ 122 122 _ rfl) (cc2 (om _ 135 135 _ rfl) (rfl))))))
    have eV : vr v = ([v.1.map (fun _ => 148), v.2.map (fun _ => 161)] : List (Option Nat)).map (Option.map (gRen rhA2)) := cc2 (om _ 148 148 _ rfl) (cc2 (om _ 161 161 _ rfl) (rfl))
    refine ⟨rhA2, [k.1.map (fun _ => 70), k.2.1.map (fun _ => 83), k.2.2.1.map (fun _ => 41), k.2.2.2.1.map (fun _ => 109), k.2.2.2.2.1.map (fun _ => 122), k.2.2.2.2.2.map (fun _ => 135)], [v.1.map (fun _ => 148), v.2.map (fun _ => 161)], ?_, by decide, rfl, rfl, rfl, rfl, rfl, vN_, ?_, ?_, ?_, ?_, ?_⟩
    · show gSub rhA2 (hL Z T B Y C O S ZD TD BD YD (nI c, nI n) (kr k) (vr v) k.1 k.2.1 k.2.2.1 k.2.2.2.1 k.2.2.2.2.1 k.2.2.2.2.2 v.1 v.2 r) _
      rw [eK, eV]
      exact rhA2_s
    · intro q hq
      rcases hq with hq | hq
      · have := mem6 hq
        show (q = 41 ∧ k.2.2.1 ≠ none) ∨ _ ∨ _
        rcases this with ⟨h1, h2⟩ | ⟨h1, h2⟩ | ⟨h1, h2⟩ | ⟨h1, h2⟩ | ⟨h1, h2⟩ | ⟨h1, h2⟩ <;> first | exact Or.inl ⟨h1, h2⟩ | exact Or.inr (Or.inr (by omega))
      · have := mem2 hq
        exact Or.inr (Or.inr (by omega))
    · intro q hq
      rcases hq with hq | hq
      · have hq : some q ∈ [k.1.map (fun _ => 70), k.2.1.map (fun _ => 83), some 41, k.2.2.2.1.map (fun _ => 109), k.2.2.2.2.1.map (fun _ => 122), k.2.2.2.2.2.map (fun _ => 135)] := hq
        have h9 : q = 41 ∨ q = 70 ∨ q = 83 ∨ q = 109 ∨ q = 122 ∨ q = 135 := by
          have := mem6 (a2 := some ((0, 0, 0, 0, 0), T00, B00, Y00)) hq
          omega
        rcases h9 with rfl | rfl | rfl | rfl | rfl | rfl <;> first | exact Or.inl (by decide) | exact Or.inr (by decide)
      · have h9 : q = 148 ∨ q = 161 := by
          have := mem2 hq
          omega
        rcases h9 with rfl | rfl <;> exact Or.inr (by decide)
    · intro q hq
      rcases hq with hq | hq
      · have h9 : q = 41 ∨ q = 70 ∨ q = 83 ∨ q = 109 ∨ q = 122 ∨ q = 135 := by
          have := mem6 hq
          omega
        rcases h9 with rfl | rfl | rfl | rfl | rfl | rfl <;> first | exact Or.inl (by decide) | exact Or.inr (by decide)
      · have h9 : q = 148 ∨ q = 161 := by
          have := mem2 hq
          omega
        rcases h9 with rfl | rfl <;> exact Or.inr (by decide)
    · intro Z' T' B' Y' C' O' S' ZD' TD' BD' YD' c' n' x
      have eS : kr (ks k 2 (some x)) = ([k.1.map (fun _ => 70), k.2.1.map (fun _ => 83), some 41, k.2.2.2.1.map (fun _ => 109), k.2.2.2.2.1.map (fun _ => 122), k.2.2.2.2.2.map (fun _ => 135)] : List (Option Nat)).map (Option.map (gRen rhA2)) := cc2 (om _ 70 70 _ rfl) (cc2 (om _ 83 83 _ rfl) (cc2 (om1 41 96 _ rfl) (cc2 (om _ 109 109 _ rfl) (cc2 (om _ 122 122 _ rfl) (cc2 (om _ 135 135 _ rfl) (rfl))))))
      refine Eq.trans rhA2_p ?_
      show _ = hL Z' T' B' Y' C' O' S' ZD' TD' BD' YD' (nI c', nI n') (kr (ks k 2 (some x))) (vr v) k.1 k.2.1 (some x) k.2.2.2.1 k.2.2.2.2.1 k.2.2.2.2.2 v.1 v.2 r
      rw [eS, eV]; rfl
    · intro Z' T' B' Y' C' O' S' ZD' TD' BD' YD' c' n'
      refine Eq.trans rhA2_p ?_
      show _ = hL Z' T' B' Y' C' O' S' ZD' TD' BD' YD' (nI c', nI n') (kr k) (vr v) k.1 k.2.1 k.2.2.1 k.2.2.2.1 k.2.2.2.2.1 k.2.2.2.2.2 v.1 v.2 r
      rw [eK, eV]; rfl
  · have eK : kr k = ([k.1.map (fun _ => 70), k.2.1.map (fun _ => 83), k.2.2.1.map (fun _ => 96), k.2.2.2.1.map (fun _ => 41), k.2.2.2.2.1.map (fun _ => 122), k.2.2.2.2.2.map (fun _ => 135)] : List (Option Nat)).map (Option.map (gRen rhA3)) := cc2 (om _ 70 70 _ rfl) (cc2 (om _ 83 83 _ rfl) (cc2 (om _ 96 96 _ rfl) (cc2 (om _ 41 109 _ rfl) (cc2 (om _ 122 122 _ rfl) (cc2 (om _ 135 135 _ rfl) (rfl))))))
    have eS : kr (ks k 3 (some ((0, 0, 0, 0, 0), T00, B00, Y00))) = ([k.1.map (fun _ => 70), k.2.1.map (fun _ => 83), k.2.2.1.map (fun _ => 96), some 41, k.2.2.2.2.1.map (fun _ => 122), k.2.2.2.2.2.map (fun _ => 135)] : List (Option Nat)).map (Option.map (gRen rhA3)) := cc2 (om _ 70 70 _ rfl) (cc2 (om _ 83 83 _ rfl) (cc2 (om _ 96 96 _ rfl) (cc2 (om1 41 109 _ rfl) (cc2 (om _ 122 122 _ rfl) (cc2 (om _ 135 135 _ rfl) (rfl))))))
    have eV : vr v = ([v.1.map (fun _ => 148), v.2.map (fun _ => 161)] : List (Option Nat)).map (Option.map (gRen rhA3)) := cc2 (om _ 148 148 _ rfl) (cc2 (om _ 161 161 _ rfl) (rfl))
    refine ⟨rhA3, [k.1.map (fun _ => 70), k.2.1.map (fun _ => 83), k.2.2.1.map (fun _ => 96), k.2.2.2.1.map (fun _ => 41), k.2.2.2.2.1.map (fun _ => 122), k.2.2.2.2.2.map (fun _ => 135)], [v.1.map (fun _ => 148), v.2.map (fun _ => 161)], ?_, by decide, rfl, rfl, rfl, rfl, rfl, vN_, ?_, ?_, ?_, ?_, ?_⟩
    · show gSub rhA3 (hL Z T B Y C O S ZD TD BD YD (nI c, nI n) (kr k) (vr v) k.1 k.2.1 k.2.2.1 k.2.2.2.1 k.2.2.2.2.1 k.2.2.2.2.2 v.1 v.2 r) _
      rw [eK, eV]
      exact rhA3_s
    · intro q hq
      rcases hq with hq | hq
      · have := mem6 hq
        show (q = 41 ∧ k.2.2.2.1 ≠ none) ∨ _ ∨ _
        rcases this with ⟨h1, h2⟩ | ⟨h1, h2⟩ | ⟨h1, h2⟩ | ⟨h1, h2⟩ | ⟨h1, h2⟩ | ⟨h1, h2⟩ <;> first | exact Or.inl ⟨h1, h2⟩ | exact Or.inr (Or.inr (by omega))
      · have := mem2 hq
        exact Or.inr (Or.inr (by omega))
    · intro q hq
      rcases hq with hq | hq
      · have hq : some q ∈ [k.1.map (fun _ => 70), k.2.1.map (fun _ => 83), k.2.2.1.map (fun _ => 96), some 41, k.2.2.2.2.1.map (fun _ => 122), k.2.2.2.2.2.map (fun _ => 135)] := hq
        have h9 : q = 41 ∨ q = 70 ∨ q = 83 ∨ q = 96 ∨ q = 122 ∨ q = 135 := by
          have := mem6 (a3 := some ((0, 0, 0, 0, 0), T00, B00, Y00)) hq
          omega
        rcases h9 with rfl | rfl | rfl | rfl | rfl | rfl <;> first | exact Or.inl (by decide) | exact Or.inr (by decide)
      · have h9 : q = 148 ∨ q = 161 := by
          have := mem2 hq
          omega
        rcases h9 with rfl | rfl <;> exact Or.inr (by decide)
    · intro q hq
      rcases hq with hq | hq
      · have h9 : q = 41 ∨ q = 70 ∨ q = 83 ∨ q = 96 ∨ q = 122 ∨ q = 135 := by
          have := mem6 hq
          omega
        rcases h9 with rfl | rfl | rfl | rfl | rfl | rfl <;> first | exact Or.inl (by decide) | exact Or.inr (by decide)
      · have h9 : q = 148 ∨ q = 161 := by
          have := mem2 hq
          omega
        rcases h9 with rfl | rfl <;> exact Or.inr (by decide)
    · intro Z' T' B' Y' C' O' S' ZD' TD' BD' YD' c' n' x
      have eS : kr (ks k 3 (some x)) = ([k.1.map (fun _ => 70), k.2.1.map (fun _ => 83), k.2.2.1.map (fun _ => 96), some 41, k.2.2.2.2.1.map (fun _ => 122), k.2.2.2.2.2.map (fun _ => 135)] : List (Option Nat)).map (Option.map (gRen rhA3)) := cc2 (om _ 70 70 _ rfl) (cc2 (om _ 83 83 _ rfl) (cc2 (om _ 96 96 _ rfl) (cc2 (om1 41 109 _ rfl) (cc2 (om _ 122 122 _ rfl) (cc2 (om _ 135 135 _ rfl) (rfl))))))
      refine Eq.trans rhA3_p ?_
      show _ = hL Z' T' B' Y' C' O' S' ZD' TD' BD' YD' (nI c', nI n') (kr (ks k 3 (some x))) (vr v) k.1 k.2.1 k.2.2.1 (some x) k.2.2.2.2.1 k.2.2.2.2.2 v.1 v.2 r
      rw [eS, eV]; rfl
    · intro Z' T' B' Y' C' O' S' ZD' TD' BD' YD' c' n'
      refine Eq.trans rhA3_p ?_
      show _ = hL Z' T' B' Y' C' O' S' ZD' TD' BD' YD' (nI c', nI n') (kr k) (vr v) k.1 k.2.1 k.2.2.1 k.2.2.2.1 k.2.2.2.2.1 k.2.2.2.2.2 v.1 v.2 r
      rw [eK, eV]; rfl
  · have eK : kr k = ([k.1.map (fun _ => 70), k.2.1.map (fun _ => 83), k.2.2.1.map (fun _ => 96), k.2.2.2.1.map (fun _ => 109), k.2.2.2.2.1.map (fun _ => 41), k.2.2.2.2.2.map (fun _ => 135)] : List (Option Nat)).map (Option.map (gRen rhA4)) := cc2 (om _ 70 70 _ rfl) (cc2 (om _ 83 83 _ rfl) (cc2 (om _ 96 96 _ rfl) (cc2 (om _ 109 109 _ rfl) (cc2 (om _ 41 122 _ rfl) (cc2 (om _ 135 135 _ rfl) (rfl))))))
    have eS : kr (ks k 4 (some ((0, 0, 0, 0, 0), T00, B00, Y00))) = ([k.1.map (fun _ => 70), k.2.1.map (fun _ => 83), k.2.2.1.map (fun _ => 96), k.2.2.2.1.map (fun _ => 109), some 41, k.2.2.2.2.2.map (fun _ => 135)] : List (Option Nat)).map (Option.map (gRen rhA4)) := cc2 (om _ 70 70 _ rfl) (cc2 (om _ 83 83 _ rfl) (cc2 (om _ 96 96 _ rfl) (cc2 (om _ 109 109 _ rfl) (cc2 (om1 41 122 _ rfl) (cc2 (om _ 135 135 _ rfl) (rfl))))))
    have eV : vr v = ([v.1.map (fun _ => 148), v.2.map (fun _ => 161)] : List (Option Nat)).map (Option.map (gRen rhA4)) := cc2 (om _ 148 148 _ rfl) (cc2 (om _ 161 161 _ rfl) (rfl))
    refine ⟨rhA4, [k.1.map (fun _ => 70), k.2.1.map (fun _ => 83), k.2.2.1.map (fun _ => 96), k.2.2.2.1.map (fun _ => 109), k.2.2.2.2.1.map (fun _ => 41), k.2.2.2.2.2.map (fun _ => 135)], [v.1.map (fun _ => 148), v.2.map (fun _ => 161)], ?_, by decide, rfl, rfl, rfl, rfl, rfl, vN_, ?_, ?_, ?_, ?_, ?_⟩
    · show gSub rhA4 (hL Z T B Y C O S ZD TD BD YD (nI c, nI n) (kr k) (vr v) k.1 k.2.1 k.2.2.1 k.2.2.2.1 k.2.2.2.2.1 k.2.2.2.2.2 v.1 v.2 r) _
      rw [eK, eV]
      exact rhA4_s
    · intro q hq
      rcases hq with hq | hq
      · have := mem6 hq
        show (q = 41 ∧ k.2.2.2.2.1 ≠ none) ∨ _ ∨ _
        rcases this with ⟨h1, h2⟩ | ⟨h1, h2⟩ | ⟨h1, h2⟩ | ⟨h1, h2⟩ | ⟨h1, h2⟩ | ⟨h1, h2⟩ <;> first | exact Or.inl ⟨h1, h2⟩ | exact Or.inr (Or.inr (by omega))
      · have := mem2 hq
        exact Or.inr (Or.inr (by omega))
    · intro q hq
      rcases hq with hq | hq
      · have hq : some q ∈ [k.1.map (fun _ => 70), k.2.1.map (fun _ => 83), k.2.2.1.map (fun _ => 96), k.2.2.2.1.map (fun _ => 109), some 41, k.2.2.2.2.2.map (fun _ => 135)] := hq
        have h9 : q = 41 ∨ q = 70 ∨ q = 83 ∨ q = 96 ∨ q = 109 ∨ q = 135 := by
          have := mem6 (a4 := some ((0, 0, 0, 0, 0), T00, B00, Y00)) hq
          omega
        rcases h9 with rfl | rfl | rfl | rfl | rfl | rfl <;> first | exact Or.inl (by decide) | exact Or.inr (by decide)
      · have h9 : q = 148 ∨ q = 161 := by
          have := mem2 hq
          omega
        rcases h9 with rfl | rfl <;> exact Or.inr (by decide)
    · intro q hq
      rcases hq with hq | hq
      · have h9 : q = 41 ∨ q = 70 ∨ q = 83 ∨ q = 96 ∨ q = 109 ∨ q = 135 := by
          have := mem6 hq
          omega
        rcases h9 with rfl | rfl | rfl | rfl | rfl | rfl <;> first | exact Or.inl (by decide) | exact Or.inr (by decide)
      · have h9 : q = 148 ∨ q = 161 := by
          have := mem2 hq
          omega
        rcases h9 with rfl | rfl <;> exact Or.inr (by decide)
    · intro Z' T' B' Y' C' O' S' ZD' TD' BD' YD' c' n' x
      have eS : kr (ks k 4 (some x)) = ([k.1.map (fun _ => 70), k.2.1.map (fun _ => 83), k.2.2.1.map (fun _ => 96), k.2.2.2.1.map (fun _ => 109), some 41, k.2.2.2.2.2.map (fun _ => 135)] : List (Option Nat)).map (Option.map (gRen rhA4)) := cc2 (om _ 70 70 _ rfl) (cc2 (om _ 83 83 _ rfl) (cc2 (om _ 96 96 _ rfl) (cc2 (om _ 109 109 _ rfl) (cc2 (om1 41 122 _ rfl) (cc2 (om _ 135 135 _ rfl) (rfl))))))
      refine Eq.trans rhA4_p ?_
      show _ = hL Z' T' B' Y' C' O' S' ZD' TD' BD' YD' (nI c', nI n') (kr (ks k 4 (some x))) (vr v) k.1 k.2.1 k.2.2.1 k.2.2.2.1 (some x) k.2.2.2.2.2 v.1 v.2 r
      rw [eS, eV]; rfl
    · intro Z' T' B' Y' C' O' S' ZD' TD' BD' YD' c' n'
      refine Eq.trans rhA4_p ?_
      show _ = hL Z' T' B' Y' C' O' S' ZD' TD' BD' YD' (nI c', nI n') (kr k) (vr v) k.1 k.2.1 k.2.2.1 k.2.2.2.1 k.2.2.2.2.1 k.2.2.2.2.2 v.1 v.2 r
      rw [eK, eV]; rfl
  · have eK : kr k = ([k.1.map (fun _ => 70), k.2.1.map (fun _ => 83), k.2.2.1.map (fun _ => 96), k.2.2.2.1.map (fun _ => 109), k.2.2.2.2.1.map (fun _ => 122), k.2.2.2.2.2.map (fun _ => 41)] : List (Option Nat)).map (Option.map (gRen rhA5)) := cc2 (om _ 70 70 _ rfl) (cc2 (om _ 83 83 _ rfl) (cc2 (om _ 96 96 _ rfl) (cc2 (om _ 109 109 _ rfl) (cc2 (om _ 122 122 _ rfl) (cc2 (om _ 41 135 _ rfl) (rfl))))))
    have eS : kr (ks k 5 (some ((0, 0, 0, 0, 0), T00, B00, Y00))) = ([k.1.map (fun _ => 70), k.2.1.map (fun _ => 83), k.2.2.1.map (fun _ => 96), k.2.2.2.1.map (fun _ => 109), k.2.2.2.2.1.map (fun _ => 122), some 41] : List (Option Nat)).map (Option.map (gRen rhA5)) := cc2 (om _ 70 70 _ rfl) (cc2 (om _ 83 83 _ rfl) (cc2 (om _ 96 96 _ rfl) (cc2 (om _ 109 109 _ rfl) (cc2 (om _ 122 122 _ rfl) (cc2 (om1 41 135 _ rfl) (rfl))))))
    have eV : vr v = ([v.1.map (fun _ => 148), v.2.map (fun _ => 161)] : List (Option Nat)).map (Option.map (gRen rhA5)) := cc2 (om _ 148 148 _ rfl) (cc2 (om _ 161 161 _ rfl) (rfl))
    refine ⟨rhA5, [k.1.map (fun _ => 70), k.2.1.map (fun _ => 83), k.2.2.1.map (fun _ => 96), k.2.2.2.1.map (fun _ => 109), k.2.2.2.2.1.map (fun _ => 122), k.2.2.2.2.2.map (fun _ => 41)], [v.1.map (fun _ => 148), v.2.map (fun _ => 161)], ?_, by decide, rfl, rfl, rfl, rfl, rfl, vN_, ?_, ?_, ?_, ?_, ?_⟩
    · show gSub rhA5 (hL Z T B Y C O S ZD TD BD YD (nI c, nI n) (kr k) (vr v) k.1 k.2.1 k.2.2.1 k.2.2.2.1 k.2.2.2.2.1 k.2.2.2.2.2 v.1 v.2 r) _
      rw [eK, eV]
      exact rhA5_s
    · intro q hq
      rcases hq with hq | hq
      · have := mem6 hq
        show (q = 41 ∧ k.2.2.2.2.2 ≠ none) ∨ _ ∨ _
        rcases this with ⟨h1, h2⟩ | ⟨h1, h2⟩ | ⟨h1, h2⟩ | ⟨h1, h2⟩ | ⟨h1, h2⟩ | ⟨h1, h2⟩ <;> first | exact Or.inl ⟨h1, h2⟩ | exact Or.inr (Or.inr (by omega))
      · have := mem2 hq
        exact Or.inr (Or.inr (by omega))
    · intro q hq
      rcases hq with hq | hq
      · have hq : some q ∈ [k.1.map (fun _ => 70), k.2.1.map (fun _ => 83), k.2.2.1.map (fun _ => 96), k.2.2.2.1.map (fun _ => 109), k.2.2.2.2.1.map (fun _ => 122), some 41] := hq
        have h9 : q = 41 ∨ q = 70 ∨ q = 83 ∨ q = 96 ∨ q = 109 ∨ q = 122 := by
          have := mem6 (a5 := some ((0, 0, 0, 0, 0), T00, B00, Y00)) hq
          omega
        rcases h9 with rfl | rfl | rfl | rfl | rfl | rfl <;> first | exact Or.inl (by decide) | exact Or.inr (by decide)
      · have h9 : q = 148 ∨ q = 161 := by
          have := mem2 hq
          omega
        rcases h9 with rfl | rfl <;> exact Or.inr (by decide)
    · intro q hq
      rcases hq with hq | hq
      · have h9 : q = 41 ∨ q = 70 ∨ q = 83 ∨ q = 96 ∨ q = 109 ∨ q = 122 := by
          have := mem6 hq
          omega
        rcases h9 with rfl | rfl | rfl | rfl | rfl | rfl <;> first | exact Or.inl (by decide) | exact Or.inr (by decide)
      · have h9 : q = 148 ∨ q = 161 := by
          have := mem2 hq
          omega
        rcases h9 with rfl | rfl <;> exact Or.inr (by decide)
    · intro Z' T' B' Y' C' O' S' ZD' TD' BD' YD' c' n' x
      have eS : kr (ks k 5 (some x)) = ([k.1.map (fun _ => 70), k.2.1.map (fun _ => 83), k.2.2.1.map (fun _ => 96), k.2.2.2.1.map (fun _ => 109), k.2.2.2.2.1.map (fun _ => 122), some 41] : List (Option Nat)).map (Option.map (gRen rhA5)) := cc2 (om _ 70 70 _ rfl) (cc2 (om _ 83 83 _ rfl) (cc2 (om _ 96 96 _ rfl) (cc2 (om _ 109 109 _ rfl) (cc2 (om _ 122 122 _ rfl) (cc2 (om1 41 135 _ rfl) (rfl))))))
      refine Eq.trans rhA5_p ?_
      show _ = hL Z' T' B' Y' C' O' S' ZD' TD' BD' YD' (nI c', nI n') (kr (ks k 5 (some x))) (vr v) k.1 k.2.1 k.2.2.1 k.2.2.2.1 k.2.2.2.2.1 (some x) v.1 v.2 r
      rw [eS, eV]; rfl
    · intro Z' T' B' Y' C' O' S' ZD' TD' BD' YD' c' n'
      refine Eq.trans rhA5_p ?_
      show _ = hL Z' T' B' Y' C' O' S' ZD' TD' BD' YD' (nI c', nI n') (kr k) (vr v) k.1 k.2.1 k.2.2.1 k.2.2.2.1 k.2.2.2.2.1 k.2.2.2.2.2 v.1 v.2 r
      rw [eK, eV]; rfl
end LAWN
