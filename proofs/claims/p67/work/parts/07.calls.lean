/-! calls: the callee's small heap lies in the caller's at the places ρ -/
def gRen (ρ : List Nat) (k : Nat) : Nat := if k < ρ.length then ρ.getD k 0 else k
def rc (ρ : List Nat) : gC → gC
  | .inl o => .inl (o.1, o.2.map (tv (gRen ρ)))
  | .inr (.inl a) => .inr (.inl a)
  | .inr (.inr (.inl l)) => .inr (.inr (.inl (l.map (Option.map (gRen ρ)))))
  | .inr (.inr (.inr l)) => .inr (.inr (.inr (l.map (Option.map (gRen ρ)))))
theorem tv_tv (a b : Nat → Nat) (v : Value) : tv a (tv b v) = tv (fun k => a (b k)) v := by cases v <;> rfl
theorem tc_rc (E : Nat → ClassId) (ad : Nat → Nat) (ρ : List Nat) (c : gC) : tc E ad (rc ρ c) = tc E (fun k => ad (gRen ρ k)) c := by
  match c with
  | .inl o =>
    show (.inr (o.1, (o.2.map (tv (gRen ρ))).map (tv ad)) : va_E) = .inr (o.1, o.2.map (tv (fun k => ad (gRen ρ k))))
    rw [List.map_map]
    congr 2
    exact List.map_congr_left (fun v _ => tv_tv ad (gRen ρ) v)
  | .inr (.inl a) => rfl
  | .inr (.inr (.inl l)) =>
    show (.inl (E 2, (l.map (Option.map (gRen ρ))).length, .inr (.inr (.inr (.inr (fun j => ((l.map (Option.map (gRen ρ))).getD j none).map ad))))) : va_E) = .inl (E 2, l.length, .inr (.inr (.inr (.inr (fun j => (l.getD j none).map (fun k => ad (gRen ρ k)))))))
    rw [List.length_map]
    congr 7
    funext j
    rw [List.getD_eq_getElem?_getD, List.getD_eq_getElem?_getD, List.getElem?_map]
    cases l[j]? with
    | none => rfl
    | some o => cases o <;> rfl
  | .inr (.inr (.inr l)) =>
    show (.inl (E 3, (l.map (Option.map (gRen ρ))).length, .inr (.inr (.inr (.inr (fun j => ((l.map (Option.map (gRen ρ))).getD j none).map ad))))) : va_E) = .inl (E 3, l.length, .inr (.inr (.inr (.inr (fun j => (l.getD j none).map (fun k => ad (gRen ρ k)))))))
    rw [List.length_map]
    congr 7
    funext j
    rw [List.getD_eq_getElem?_getD, List.getD_eq_getElem?_getD, List.getElem?_map]
    cases l[j]? with
    | none => rfl
    | some o => cases o <;> rfl
theorem tc_congr {E : Nat → ClassId} {a b : Nat → Nat} {c : gC} (h : ∀ r, ¬ gNo r c → a r = b r) : tc E a c = tc E b c := by
  match c, h with
  | .inl o, h =>
    show (.inr (o.1, o.2.map (tv a)) : va_E) = .inr (o.1, o.2.map (tv b))
    congr 2
    refine List.map_congr_left (fun v hv => ?_)
    cases v <;> first | rfl | skip
    rename_i r
    exact congrArg Value.ref (h r (fun z => z _ hv rfl))
  | .inr (.inl _), _ => rfl
  | .inr (.inr (.inl l)), h =>
    show (.inl (E 2, l.length, .inr (.inr (.inr (.inr (fun j => (l.getD j none).map a))))) : va_E) = .inl (E 2, l.length, .inr (.inr (.inr (.inr (fun j => (l.getD j none).map b)))))
    congr 7
    funext j
    cases ho : l.getD j none with
    | none => rfl
    | some r =>
      have hm : l.getD j none ∈ l := by
        by_cases hj : j < l.length
        · rw [List.getD_eq_getElem?_getD, List.getElem?_eq_getElem hj]; exact List.getElem_mem hj
        · rw [List.getD_eq_getElem?_getD, List.getElem?_eq_none (by omega)] at ho; cases ho
      rw [ho] at hm
      exact congrArg some (h r (fun z => z _ hm rfl))
  | .inr (.inr (.inr l)), h =>
    show (.inl (E 3, l.length, .inr (.inr (.inr (.inr (fun j => (l.getD j none).map a))))) : va_E) = .inl (E 3, l.length, .inr (.inr (.inr (.inr (fun j => (l.getD j none).map b)))))
    congr 7
    funext j
    cases ho : l.getD j none with
    | none => rfl
    | some r =>
      have hm : l.getD j none ∈ l := by
        by_cases hj : j < l.length
        · rw [List.getD_eq_getElem?_getD, List.getElem?_eq_getElem hj]; exact List.getElem_mem hj
        · rw [List.getD_eq_getElem?_getD, List.getElem?_eq_none (by omega)] at ho; cases ho
      rw [ho] at hm
      exact congrArg some (h r (fun z => z _ hm rfl))
def gSub (ρ : List Nat) (h h' : gH) : Prop := ρ.map (fun k => h[k]?) = h'.map (fun o => some (o.map (rc ρ))) ∧ ρ.Nodup ∧ ∀ k ∈ ρ, k < 1000
/-- the callee's cells put back -/
def gPb (σ : List Nat) : List Nat → gH → gH → gH
  | r :: rs, o :: os, h => gPb σ rs os (h.set r (o.map (rc σ)))
  | _, _, h => h
theorem gPb_len (σ : List Nat) : ∀ (ρ : List Nat) (h1 h : gH), (gPb σ ρ h1 h).length = h.length := by
  intro ρ
  induction ρ with
  | nil => intro h1 h; rfl
  | cons r rs ih =>
    intro h1 h
    cases h1 with
    | nil => rfl
    | cons o os => rw [gPb, ih, List.length_set]
theorem gPb_out (σ : List Nat) : ∀ (ρ : List Nat) (h1 h : gH) (j : Nat), j ∉ ρ → (gPb σ ρ h1 h)[j]? = h[j]? := by
  intro ρ
  induction ρ with
  | nil => intro h1 h j _; rfl
  | cons r rs ih =>
    intro h1 h j hj
    cases h1 with
    | nil => rfl
    | cons o os =>
      rw [gPb, ih _ _ _ (fun z => hj (List.mem_cons_of_mem _ z)), List.getElem?_set_ne (fun z => hj (by rw [z]; exact List.mem_cons_self))]
theorem gPb_in (σ : List Nat) : ∀ (ρ : List Nat) (h1 h : gH), ρ.Nodup → (∀ k ∈ ρ, k < h.length) → ρ.length = h1.length → ∀ (i j : Nat), ρ[i]? = some j → ∃ o, h1[i]? = some o ∧ (gPb σ ρ h1 h)[j]? = some (o.map (rc σ)) := by
  intro ρ
  induction ρ with
  | nil => intro h1 h _ _ _ i j hi; simp at hi
  | cons r rs ih =>
    intro h1 h hnd hlt hlen i j hi
    cases h1 with
    | nil => simp at hlen
    | cons o os =>
      obtain ⟨n1, n2⟩ := List.nodup_cons.mp hnd
      cases i with
      | zero =>
        simp at hi
        subst hi
        refine ⟨o, rfl, ?_⟩
        rw [gPb, gPb_out _ _ _ _ _ n1, List.getElem?_set_self (hlt r List.mem_cons_self)]
      | succ i =>
        rw [List.getElem?_cons_succ] at hi
        obtain ⟨o', q1, q2⟩ := ih os (h.set r (o.map (rc σ))) n2 (fun k hk => by rw [List.length_set]; exact hlt k (List.mem_cons_of_mem _ hk)) (by simpa using hlen) i j hi
        exact ⟨o', by rw [List.getElem?_cons_succ]; exact q1, by rw [gPb]; exact q2⟩
def gClo (ρ : List Nat) (h1 : gH) : Prop := ∀ (k : Nat) (c : gC), h1[k]? = some (some c) → ∀ r, ρ.length ≤ r → r ∈ ρ → gNo r c
/-- the caller's addresses behind a call -/
def gAd (ρ : List Nat) (ad ad1 : Nat → Nat) : Nat → Nat := fun j => if j ∈ ρ then ad1 (ρ.idxOf j) else ad j
theorem idx_of : ∀ {ρ : List Nat}, ρ.Nodup → ∀ {i j : Nat}, ρ[i]? = some j → ρ.idxOf j = i := by
  intro ρ
  induction ρ with
  | nil => intro _ i j hi; simp at hi
  | cons r rs ih =>
    intro h i j hi
    obtain ⟨n1, n2⟩ := List.nodup_cons.mp h
    cases i with
    | zero => simp at hi; subst hi; simp [List.idxOf_cons]
    | succ i =>
      rw [List.getElem?_cons_succ] at hi
      have hne : r ≠ j := fun z => n1 (z ▸ List.mem_of_getElem? hi)
      have hb : (r == j) = false := by simpa using hne
      rw [List.idxOf_cons, ih n2 hi, hb]
      rfl
section GW3
variable {M : gM} {base : Nat} {D : va_G} {E : Nat → ClassId} {st av : Nat → Nat} {s : State} {h0 : gH} {L0 : List Nat} {f0 : Nat → va_E} {ad0 : Nat → Nat} {H : Heap} {locs : List Loc} {L : List Nat} {f : Nat → va_E} {ad : Nat → Nat} {h : gH}
theorem gSub.at {ρ : List Nat} {h h' : gH} (hs : gSub ρ h h') {i : Nat} {o : Option gC} (hi : h'[i]? = some o) : ∃ j, ρ[i]? = some j ∧ h[j]? = some (o.map (rc ρ)) := by
  have h1 := congrArg (fun l => l[i]?) hs.1
  simp only [List.getElem?_map, hi, Option.map_some] at h1
  cases hr : ρ[i]? with
  | none => rw [hr] at h1; cases h1
  | some j => rw [hr] at h1; exact ⟨j, rfl, Option.some.inj h1⟩
theorem gSub.len {ρ : List Nat} {h h' : gH} (hs : gSub ρ h h') : ρ.length = h'.length := by
  have h1 := congrArg List.length hs.1
  simpa using h1
theorem gSub.back {ρ : List Nat} {h h' : gH} (hs : gSub ρ h h') {i j : Nat} (hi : ρ[i]? = some j) : ∃ o, h'[i]? = some o ∧ h[j]? = some (o.map (rc ρ)) := by
  have hlt : i < h'.length := by rw [← hs.len]; exact (List.getElem?_eq_some_iff.mp hi).1
  obtain ⟨j', q1, q2⟩ := hs.at (List.getElem?_eq_getElem hlt)
  rw [hi] at q1
  cases q1
  exact ⟨_, List.getElem?_eq_getElem hlt, q2⟩
theorem gRen_at {ρ : List Nat} {i j : Nat} (hi : ρ[i]? = some j) : gRen ρ i = j := by
  obtain ⟨h1, h2⟩ := List.getElem?_eq_some_iff.mp hi
  unfold gRen
  rw [if_pos h1, List.getD_eq_getElem?_getD, hi]; rfl
theorem gRen_out {ρ : List Nat} {i : Nat} (hi : ρ.length ≤ i) : gRen ρ i = i := by
  unfold gRen
  rw [if_neg (by omega)]
/-- the callee's world, before the call -/
theorem gWd.sub (w : gWd M base D E st av s h0 L0 f0 ad0 H locs L f ad h) {ρ : List Nat} {h' : gH} (hs : gSub ρ h h') : gR E (fun k => ad (gRen ρ k)) h' L f ∧ ∀ i, ad (gRen ρ (1000 + i)) = st i := by
  obtain ⟨hJ, hb, hK, hS, hP, hD, hR, hst, hF, hsc⟩ := w
  refine ⟨⟨fun k c hk => ?_, fun j k c c' hj hk hjk => ?_⟩, fun i => ?_⟩
  · obtain ⟨j, q1, q2⟩ := hs.at hk
    obtain ⟨g1, g2⟩ := hR.1 j _ q2
    show ad (gRen ρ k) ∈ L ∧ f (ad (gRen ρ k)) = _
    rw [gRen_at q1]
    exact ⟨g1, g2.trans (tc_rc E ad ρ c)⟩
  · obtain ⟨j1, q1, q2⟩ := hs.at hj
    obtain ⟨k1, q3, q4⟩ := hs.at hk
    have hjk : ad (gRen ρ j) = ad (gRen ρ k) := hjk
    rw [gRen_at q1, gRen_at q3] at hjk
    have := hR.2 j1 k1 _ _ q2 q4 hjk
    subst this
    rw [← idx_of hs.2.1 q1, ← idx_of hs.2.1 q3]
  · rw [gRen_out]
    · exact hst i
    · have h1 : ∀ (l : List Nat), l.Nodup → (∀ k ∈ l, k < 1000) → l.length ≤ 1000 := by
        intro l hn hl
        have := List.Nodup.length_le_of_subset (l₂ := List.range 1000) hn (fun k hk => List.mem_range.mpr (hl k hk))
        simpa using this
      have := h1 ρ hs.2.1 hs.2.2
      omega
/-- the caller's world, behind the call -/
theorem gWd.call (w : gWd M base D E st av s h0 L0 f0 ad0 H locs L f ad h) {ρ : List Nat} {h' h1 : gH} (hs : gSub ρ h h') {L1 : List Nat} {f1 : Nat → va_E} {ad1 : Nat → Nat}
    (hN : (∀ i : Nat, h'[i]? ≠ some none) ∨ (gClo ρ h1 ∧ ∀ i : Nat, h'[i]? = some none → ∀ (k : Nat) (c' : gC), h[k]? = some (some c') → gNo (gRen ρ i) c'))
    (hR1 : gR E ad1 h1 L1 f1) (hF1 : gFr h' L f (fun k => ad (gRen ρ k)) h1 L1 f1 ad1) {H1 : Heap} {locs1 : List Loc} (hP1 : va_P D vwCl (va_pl L1 f1) H1) (hD1 : va_D (gA base) (va_pl L1 f1)) (hS1 : va_S (gA base) s.heap H1 locs1) :
    gWd M base D E st av s h0 L0 f0 ad0 H1 locs1 L1 f1 (gAd ρ ad ad1) (gPb ρ ρ h1 h) := by
  obtain ⟨hJ, hb, hK, hS, hP, hD, hR, hst, hF, hsc⟩ := w
  obtain ⟨b1, b2, b3, b4, b5, b6⟩ := hF1
  obtain ⟨a1, a2, a3, a4, a5, a6⟩ := hF
  have hlt : ∀ k ∈ ρ, k < h.length := by
    intro k hk
    obtain ⟨i, hi⟩ := List.getElem?_of_mem hk
    obtain ⟨o, -, q⟩ := hs.back hi
    exact (List.getElem?_eq_some_iff.mp q).1
  have hlen1 : ρ.length = h1.length := by rw [hs.len, b5]
  have inn : ∀ {i j : Nat}, ρ[i]? = some j → gAd ρ ad ad1 j = ad1 i := by
    intro i j hi
    unfold gAd
    rw [if_pos (List.mem_of_getElem? hi), idx_of hs.2.1 hi]
  have out : ∀ {j : Nat}, j ∉ ρ → gAd ρ ad ad1 j = ad j := by
    intro j hj
    unfold gAd
    rw [if_neg hj]
  have old : ∀ {i j : Nat}, ρ[i]? = some j → h'[i]? ≠ some none → ad1 i = ad j := by
    intro i j hi hn
    have this : ad1 i = ad (gRen ρ i) := b1 i hn
    rw [gRen_at hi] at this
    exact this
  have keep : ∀ r : Nat, (∀ i : Nat, ρ[i]? = some r → h'[i]? ≠ some none) → gAd ρ ad ad1 r = ad r := by
    intro r hr
    by_cases hm : r ∈ ρ
    · obtain ⟨i, hi⟩ := List.getElem?_of_mem hm
      rw [inn hi, old hi (hr i hi)]
    · exact out hm
  have cellIn : ∀ (k : Nat) (c1 : gC), h1[k]? = some (some c1) → tc E (gAd ρ ad ad1) (rc ρ c1) = tc E ad1 c1 := by
    intro k c1 hk
    rw [tc_rc]
    refine tc_congr (fun r hr => ?_)
    show gAd ρ ad ad1 (gRen ρ r) = ad1 r
    by_cases hrl : r < ρ.length
    · have hi : ρ[r]? = some ρ[r] := List.getElem?_eq_getElem hrl
      rw [gRen_at hi, inn hi]
    · rw [gRen_out (by omega)]
      have hz : h'[r]? ≠ some none := by
        rw [List.getElem?_eq_none (by rw [← hs.len]; omega)]
        intro z; cases z
      have e1 : ad1 r = ad r := by
        have this : ad1 r = ad (gRen ρ r) := b1 r hz
        rw [gRen_out (Nat.le_of_not_lt hrl)] at this
        exact this
      rw [e1]
      refine keep r (fun i hi => ?_)
      rcases hN with hN | ⟨hN, -⟩
      · exact hN i
      · exact absurd (hN k c1 hk r (by omega) (List.mem_of_getElem? hi)) hr
  have at2 : ∀ (j : Nat) (c2 : gC), (gPb ρ ρ h1 h)[j]? = some (some c2) → (∃ (i : Nat) (c1 : gC), ρ[i]? = some j ∧ h1[i]? = some (some c1) ∧ c2 = rc ρ c1) ∨ (j ∉ ρ ∧ h[j]? = some (some c2)) := by
    intro j c2 hj
    by_cases hm : j ∈ ρ
    · obtain ⟨i, hi⟩ := List.getElem?_of_mem hm
      obtain ⟨o, q1, q2⟩ := gPb_in ρ ρ h1 h hs.2.1 hlt hlen1 i j hi
      rw [hj] at q2
      cases o with
      | none => cases q2
      | some c1 => exact Or.inl ⟨i, c1, hi, q1, Option.some.inj (Option.some.inj q2)⟩
    · rw [gPb_out _ _ _ _ _ hm] at hj
      exact Or.inr ⟨hm, hj⟩
  have img : ∀ (j : Nat) (c : gC), j ∉ ρ → h[j]? = some (some c) → ∀ (k : Nat) (c' : gC), h'[k]? = some (some c') → ad (gRen ρ k) ≠ ad j := by
    intro j c hj hc k c' hk z
    obtain ⟨j', q1, q2⟩ := hs.at hk
    rw [gRen_at q1] at z
    have := hR.2 j' j _ _ q2 hc z
    exact hj (this ▸ List.mem_of_getElem? q1)
  refine ⟨hJ, hb, hK, hS1, hP1, hD1, ⟨fun j c2 hj => ?_, fun j k c2 c3 hj hk hjk => ?_⟩, fun i => ?_, ⟨fun k hk => ?_, fun a ha => b2 a (a2 a ha), fun a ha hn => ?_, fun k c2 hk0 hk => ?_, by rw [gPb_len]; exact a5, fun k c0 hk0 hk => ?_⟩, ?_⟩
  · rcases at2 j c2 hj with ⟨i, c1, q1, q2, rfl⟩ | ⟨q1, q2⟩
    · rw [inn q1, cellIn i c1 q2]
      exact hR1.1 i c1 q2
    · obtain ⟨g1, g2⟩ := hR.1 j c2 q2
      rw [out q1, b3 _ g1 (img j c2 q1 q2), g2]
      refine ⟨b2 _ g1, tc_congr (fun r hr => ?_)⟩
      refine (keep r (fun i hi hz => ?_)).symm
      rcases hN with hN | ⟨-, hN⟩
      · exact hN i hz
      · have := hN i hz j c2 q2
        rw [gRen_at hi] at this
        exact hr this
  · rcases at2 j c2 hj with ⟨i, c1, q1, q2, -⟩ | ⟨q1, q2⟩ <;> rcases at2 k c3 hk with ⟨i', c1', q3, q4, -⟩ | ⟨q3, q4⟩
    · rw [inn q1, inn q3] at hjk
      have := hR1.2 i i' _ _ q2 q4 hjk
      subst this
      rw [q1] at q3
      exact Option.some.inj q3
    · rw [inn q1, out q3] at hjk
      have g1 := (hR.1 k c3 q4).1
      cases ho : h'[i]? with
      | none =>
        have h9 := (List.getElem?_eq_some_iff.mp q1).1
        rw [hs.len] at h9
        rw [List.getElem?_eq_getElem h9] at ho
        cases ho
      | some o =>
        cases o with
        | none => exact absurd g1 (by rw [← hjk]; exact b4 i c1 ho q2)
        | some c9 =>
          rw [old q1 (by rw [ho]; intro z; cases z)] at hjk
          obtain ⟨o9, r1, r2⟩ := hs.back q1
          rw [ho] at r1; cases r1
          exact hR.2 j k _ _ r2 q4 hjk
    · rw [out q1, inn q3] at hjk
      have g1 := (hR.1 j c2 q2).1
      cases ho : h'[i']? with
      | none =>
        have h9 := (List.getElem?_eq_some_iff.mp q3).1
        rw [hs.len] at h9
        rw [List.getElem?_eq_getElem h9] at ho
        cases ho
      | some o =>
        cases o with
        | none => exact absurd g1 (by rw [hjk]; exact b4 i' c1' ho q4)
        | some c9 =>
          rw [old q3 (by rw [ho]; intro z; cases z)] at hjk
          obtain ⟨o9, r1, r2⟩ := hs.back q3
          rw [ho] at r1; cases r1
          exact hR.2 j k _ _ q2 r2 hjk
    · rw [out q1, out q3] at hjk
      exact hR.2 j k _ _ q2 q4 hjk
  · rw [out (fun z => by have := hs.2.2 _ z; omega)]
    exact hst i
  · rw [← a1 k hk]
    refine keep k (fun i hi hz => ?_)
    obtain ⟨o, r1, r2⟩ := hs.back hi
    rw [hz] at r1; cases r1
    cases h9 : h0[k]? with
    | none =>
      have := List.getElem?_eq_none_iff.mp h9
      have := (List.getElem?_eq_some_iff.mp r2).1
      omega
    | some o => cases o with
      | none => exact hk h9
      | some c9 => exact a6 k c9 h9 r2
  · rw [b3 a (a2 a ha) (fun k c hk z => ?_)]
    · exact a3 a ha hn
    · obtain ⟨j', q1, q2⟩ := hs.at hk
      have z : ad (gRen ρ k) = a := z
      rw [gRen_at q1] at z
      cases h9 : h0[j']? with
      | none =>
        have := List.getElem?_eq_none_iff.mp h9
        have := (List.getElem?_eq_some_iff.mp q2).1
        omega
      | some o => cases o with
        | none => exact a4 j' _ h9 q2 (by rw [z]; exact ha)
        | some c9 => exact hn j' c9 h9 (by rw [← a1 j' (by rw [h9]; intro z9; cases z9)]; exact z)
  · rcases at2 k c2 hk with ⟨i, c1, q1, q2, -⟩ | ⟨q1, q2⟩
    · rw [inn q1]
      obtain ⟨o, r1, r2⟩ := hs.back q1
      cases o with
      | none => exact fun z => b4 i c1 r1 q2 (a2 _ z)
      | some c9 =>
        rw [old q1 (by rw [r1]; intro z; cases z)]
        exact a4 k _ hk0 r2
    · rw [out q1]
      exact a4 k c2 hk0 q2
  · by_cases hm : k ∈ ρ
    · obtain ⟨i, hi⟩ := List.getElem?_of_mem hm
      obtain ⟨o, q1, q2⟩ := gPb_in ρ ρ h1 h hs.2.1 hlt hlen1 i k hi
      obtain ⟨o9, r1, r2⟩ := hs.back hi
      rw [hk] at q2
      cases o with
      | some c9 => cases q2
      | none =>
        cases o9 with
        | none => exact a6 k c0 hk0 r2
        | some c9 => exact b6 i c9 r1 q1
    · rw [gPb_out _ _ _ _ _ hm] at hk
      exact a6 k c0 hk0 hk
  · intro b L' xs hb'
    obtain ⟨e1, e2⟩ := hsc b L' xs hb'
    exact ⟨by rw [out (fun z => by have := hs.2.2 _ z; omega)]; exact e1, e2⟩
end GW3
