section CUT
/-! ### what a method made and nobody holds may be forgotten -/
def cAd (n K : Nat) (ad ad1 : Nat → Nat) : Nat → Nat := fun j => if n ≤ j ∧ j < n + K then ad j else ad1 j
theorem tc_cAd {E : Nat → ClassId} {n K : Nat} {ad ad1 : Nat → Nat} {c : gC} (h : ∀ p, n ≤ p → p < n + K → gNo p c) : tc E (cAd n K ad ad1) c = tc E ad1 c := by
  have key : ∀ q : Nat, (∀ p, n ≤ p → p < n + K → q ≠ p) → cAd n K ad ad1 q = ad1 q := fun q hq => if_neg (fun z => hq q z.1 z.2 rfl)
  match c with
  | .inl o =>
    show (.inr (o.1, o.2.map (tv (cAd n K ad ad1))) : va_E) = .inr (o.1, o.2.map (tv ad1))
    rw [List.map_congr_left (g := tv ad1) (fun v hv => ?_)]
    cases v <;> first | rfl | skip
    rename_i a
    show Value.ref (cAd n K ad ad1 a) = .ref (ad1 a)
    rw [key a (fun p h1 h2 hz => h p h1 h2 _ hv (by rw [hz]))]
  | .inr (.inl a) => rfl
  | .inr (.inr (.inl l)) =>
    show (.inl (E 2, l.length, .inr (.inr (.inr (.inr (fun j => (l.getD j none).map (cAd n K ad ad1)))))) : va_E) = .inl (E 2, l.length, .inr (.inr (.inr (.inr (fun j => (l.getD j none).map ad1)))))
    refine congrArg (fun g => (.inl (E 2, l.length, .inr (.inr (.inr (.inr g)))) : va_E)) (funext fun j => ?_)
    cases hj : l.getD j none with
    | none => rfl
    | some a =>
      show some _ = some _
      rw [key a (fun p h1 h2 hz => ?_)]
      subst hz
      rw [List.getD_eq_getElem?_getD] at hj
      cases hq : l[j]? with
      | none => rw [hq] at hj; cases hj
      | some o => rw [hq] at hj; exact h a h1 h2 o (List.mem_of_getElem? hq) hj
  | .inr (.inr (.inr l)) =>
    show (.inl (E 3, l.length, .inr (.inr (.inr (.inr (fun j => (l.getD j none).map (cAd n K ad ad1)))))) : va_E) = .inl (E 3, l.length, .inr (.inr (.inr (.inr (fun j => (l.getD j none).map ad1)))))
    refine congrArg (fun g => (.inl (E 3, l.length, .inr (.inr (.inr (.inr g)))) : va_E)) (funext fun j => ?_)
    cases hj : l.getD j none with
    | none => rfl
    | some a =>
      show some _ = some _
      rw [key a (fun p h1 h2 hz => ?_)]
      subst hz
      rw [List.getD_eq_getElem?_getD] at hj
      cases hq : l[j]? with
      | none => rw [hq] at hj; cases hj
      | some o => rw [hq] at hj; exact h a h1 h2 o (List.mem_of_getElem? hq) hj
def gCl (n K : Nat) (H : gH) : Prop := ∀ (k : Nat) (c : gC), k < n → H[k]? = some (some c) → ∀ p, n ≤ p → p < n + K → gNo p c
theorem cut_at {h : gH} {K k : Nat} {c : Option gC} (hk : (h ++ List.replicate K none)[k]? = some c) : (k < h.length ∧ h[k]? = some c) ∨ (h.length ≤ k ∧ k < h.length + K ∧ c = none) := by
  by_cases hl : k < h.length
  · rw [List.getElem?_append_left hl] at hk; exact Or.inl ⟨hl, hk⟩
  · rw [List.getElem?_append_right (by omega), List.getElem?_replicate] at hk
    split at hk
    · exact Or.inr ⟨by omega, by omega, (Option.some.inj hk).symm⟩
    · cases hk
theorem tk_at {H : gH} {n k : Nat} {c : Option gC} (hk : (H.take n)[k]? = some c) : k < n ∧ H[k]? = some c := by
  have := (List.getElem?_eq_some_iff.mp hk).1
  rw [List.length_take] at this
  rw [List.getElem?_take_of_lt (by omega)] at hk
  exact ⟨by omega, hk⟩
theorem cut_core {base : Nat} {D : va_G} {E : Nat → ClassId} {h : gH} {K : Nat} {L : List Nat} {f : Nat → va_E} {ad : Nat → Nat} {u : gU} {t : State} (hF : gFu (h ++ List.replicate K none) L f ad u) (hB : gB base D E u t) (hN : gCl h.length K u.1) :
    gFu h L f ad (u.1.take h.length, u.2.1, u.2.2.1, cAd h.length K ad u.2.2.2) ∧ gB base D E (u.1.take h.length, u.2.1, u.2.2.1, cAd h.length K ad u.2.2.2) t := by
  obtain ⟨H, L1, f1, ad1⟩ := u
  obtain ⟨a1, a2, a3, a4, a5, a6⟩ := hF
  obtain ⟨⟨b1, b2⟩, b3⟩ := hB
  have hlen : H.length = h.length + K := by have : H.length = _ := a5; rw [this, List.length_append, List.length_replicate]
  have hlo : ∀ k, k < h.length → cAd h.length K ad ad1 k = ad1 k := fun k hk => if_neg (by omega)
  refine ⟨⟨fun k hk => ?_, a2, fun a ha hp => a3 a ha (fun k c hc => ?_), fun k c h1 h2 => ?_, ?_, fun k c h1 => ?_⟩, ⟨fun k c hk => ?_, fun j k c c' hj hk he => ?_⟩, b3⟩
  · show cAd h.length K ad ad1 k = ad k
    unfold cAd
    split
    · rfl
    · refine a1 k (fun z => ?_)
      rcases cut_at z with ⟨z1, z2⟩ | ⟨z1, z2, -⟩
      · exact hk z2
      · omega
  · rcases cut_at hc with ⟨z1, z2⟩ | ⟨z1, z2, z3⟩
    · exact hp k c z2
    · cases z3
  · obtain ⟨k1, k2⟩ := tk_at h2
    show cAd h.length K ad ad1 k ∉ L
    rw [hlo k k1]
    exact a4 k c (by rw [List.getElem?_append_left k1]; exact h1) k2
  · show (H.take h.length).length = h.length
    rw [List.length_take]; omega
  · intro z
    obtain ⟨k1, k2⟩ := tk_at z
    exact a6 k c (by rw [List.getElem?_append_left k1]; exact h1) k2
  · obtain ⟨k1, k2⟩ := tk_at hk
    show cAd h.length K ad ad1 k ∈ L1 ∧ f1 (cAd h.length K ad ad1 k) = tc E (cAd h.length K ad ad1) c
    rw [hlo k k1, tc_cAd (hN k c k1 k2)]
    exact b1 k c k2
  · obtain ⟨j1, j2⟩ := tk_at hj
    obtain ⟨k1, k2⟩ := tk_at hk
    have he : cAd h.length K ad ad1 j = cAd h.length K ad ad1 k := he
    rw [hlo j j1, hlo k k1] at he
    exact b2 j k c c' j2 k2 he
theorem gCt_cut {M : gM} {d mc ms : Nat} {args : List Value} {h : gH} {K : Nat} {Q : Option Value → gH → Prop} {QX : String → gH → Prop} (hC : gCt M d mc ms args (h ++ List.replicate K none) Q QX) (hr : gRr (mR M) = false) (hQ : ∀ v H, Q v H → gCl h.length K H) (hX : ∀ X H, QX X H → gCl h.length K H) :
    gCt M d mc ms args h (fun v H1 => ∃ H, Q v H ∧ H1 = H.take h.length) (fun X H1 => ∃ H, QX X H ∧ H1 = H.take h.length) := by
  intro l hl base D E st av L f ad hR hst p e h1 h2 h3 s m a below h4 h5 h6 h7
  have hR' : gR E ad (h ++ List.replicate K none) L f := by
    refine ⟨fun k c hk => ?_, fun j k c c' hj hk he => ?_⟩
    · rcases cut_at hk with ⟨-, z2⟩ | ⟨z1, z2, z3⟩
      · exact hR.1 k c z2
      · cases z3
    · rcases cut_at hj with ⟨-, z2⟩ | ⟨z1, z2, z3⟩
      · rcases cut_at hk with ⟨-, y2⟩ | ⟨y1, y2, y3⟩
        · exact hR.2 j k c c' z2 y2 he
        · cases y3
      · cases z3
  obtain ⟨n, o, g1, g2, g3, g4⟩ := hC l hl base D E st av L f ad hR' hst p e h1 h2 h3 s m a below h4 h5 h6 h7
  refine ⟨n, o, g1, g2, g3, ?_⟩
  rcases g4 with ⟨k1, k2⟩ | ⟨q, k1, X, ce, Lc, ⟨u, ⟨k2, k3⟩, ⟨k4, k5⟩, k7⟩, k6⟩
  · refine Or.inl ⟨?_, k2⟩
    revert k1 hr
    cases hret : mR M with
    | none =>
      intro _ k1
      obtain ⟨⟨u, q1, ⟨q2, q3⟩, q4⟩, hF⟩ := k1
      obtain ⟨r1, r2⟩ := cut_core q3 q4 (hQ _ _ q2)
      exact ⟨⟨_, q1, ⟨⟨_, q2, rfl⟩, r1⟩, r2⟩, hF⟩
    | some ty =>
      cases ty
      all_goals
        intro hr k1
        first
          | (cases hr; done)
          | (obtain ⟨⟨r, u, q1, ⟨q2, q3⟩, q4⟩, hF⟩ := k1
             obtain ⟨r1, r2⟩ := cut_core q3 q4 (hQ _ _ q2)
             exact ⟨⟨r, _, q1, ⟨⟨_, q2, rfl⟩, r1⟩, r2⟩, hF⟩)
  · obtain ⟨r1, r2⟩ := cut_core k3 k5 (hX _ _ k2)
    exact Or.inr ⟨q, k1, X, ce, Lc, ⟨(u.1, (u.2.1.take h.length, u.2.2.1, u.2.2.2.1, cAd h.length K ad u.2.2.2.2)), ⟨⟨_, k2, rfl⟩, r1⟩, ⟨k4, r2⟩, k7⟩, k6⟩
end CUT
