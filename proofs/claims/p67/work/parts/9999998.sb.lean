section SBROWS
set_option maxRecDepth 100000
/-! ### a text grows among the law's own cells -/
theorem far_pb3 {σ : List Nat} {X : NsT} {r : gH} {a b c : Nat} {x y z : Option gC} : gPb σ [174 + a, 174 + b, 174 + c] [x, y, z] (hX X r) = hX X (((r.set a (x.map (rc σ))).set b (y.map (rc σ))).set c (z.map (rc σ))) := by
  simp only [gPb, hX_set]
theorem far_free {X : NsT} {r : gH} {q : Nat} {ls : List (Option Value)} {sk : List Value} (h1 : r[q]? = some none) (h2 : q < 500) (h3 : ls.all (lNo (174 + q)) = true) (h4 : sk.all (vNo (174 + q)) = true) (h5 : r.all (kNo (174 + q)) = true) : gFree (174 + q) ls sk (hX X r) := by
  refine ⟨by rw [hX_get]; exact h1, by omega, fun v hv => vNo_of (List.all_eq_true.mp h3 _ hv), fun v hv => vNo_of (List.all_eq_true.mp h4 _ hv), fun k c hk => ?_⟩
  rw [hX_app] at hk
  by_cases hl : k < (hX X []).length
  · rw [List.getElem?_append_left hl] at hk
    exact cI2_no (rIn_at hX_near hk) (Or.inr (by omega))
  · rw [List.getElem?_append_right (by omega)] at hk
    exact hNo_of h5 _ _ hk
theorem JbR_take {b : List Int32} {t : List Nat} (h : JbR b t) : b.take t.length = t.map nI := by
  refine List.ext_getElem? (fun i => ?_)
  have hl := h.1
  by_cases hi : i < t.length
  · rw [List.getElem?_take_of_lt hi, List.getElem?_map, List.getElem?_eq_getElem hi]
    have := h.2.2 i _ (List.getElem?_eq_getElem hi)
    rw [List.getD_eq_getElem?_getD, List.getElem?_eq_getElem (by omega)] at this
    rw [List.getElem?_eq_getElem (by omega)]
    exact congrArg some this
  · rw [List.getElem?_eq_none (by rw [List.length_take]; omega), List.getElem?_eq_none (by rw [List.length_map]; omega)]
theorem capN_eq {m q : Nat} (h : m < q) (h2 : q ≤ 2 * m + 2) : capN m q = 2 * m + 2 := by unfold capN; split <;> omega
section
variable {Mt : gM} {d mc ms : Nat} {h0 : gH} {Q : Option Value → gH → Prop} {QX : String → gH → Prop} {c9 n9 pc : Nat} {ls : List (Option Value)} {rest sk vs : List Value} {r : gH} {X : NsT} {idx na s p q : Nat} {M' : gM} {b : List Int32} {t w : List Nat}
theorem g_ap (hC : gCt M' 6 1 6000 (.ref 0 :: vs) [some (.inl (10, [.ref 1, .int 0, .int (0), .int (nI t.length)])), some (.inr (.inl (1, b))), none] (fun u h => u = some (.ref 0) ∧ ApC 0 b t w h) (fun _ _ => False)) (hcls : (mY M').cls = "java/lang/StringBuilder") (hvs : ∀ ρ : List Nat, ρ.length ≤ 1000 → vs.map (tv (gRen ρ)) = vs)
    (hs : r[s]? = some (some (.inl (10, [.ref (174 + p), .int 0, .int (0), .int (nI t.length)])))) (hp : r[p]? = some (some (.inr (.inl (1, b))))) (hq : r[q]? = some none) (hsp : s ≠ p) (hsq : s ≠ q) (hpq : p ≠ q) (hlt : s < 500 ∧ p < 500 ∧ q < 500) (hls : ls.all (lNo (174 + q)) = true) (hrs : rest.all (vNo (174 + q)) = true) (hr : r.all (kNo (174 + q)) = true)
    (hd : decode (mC Mt) pc = .ok (.invokevirtual idx, 3)) (hlk : gLkV (mY Mt).cls idx M' na) (hna : vs.length = na) (hsk : sk = vs.reverse ++ .ref (174 + s) :: rest) (hT : mT Mt = []) (hdd : 7 ≤ d) (hcat : (rest.map fun v => v.category).sum ≤ 8) (hc : c9 + 1 ≤ mc) (hn : n9 + 6000 ≤ ms) (hms : mS M' = none ∨ mS M' = mS Mt)
    (k1 : ∀ b', JbR b' (t ++ w) → JbF b' → b'.length = b.length → t.length + w.length ≤ b.length → G Mt d mc ms h0 Q QX (c9 + 1) (n9 + 6000) (pc + 3) ls (.ref (174 + s) :: rest) (hX X (((r.set s (some (.inl (10, [.ref (174 + p), .int 0, .int (0), .int (nI (t ++ w).length)])))).set p (some (.inr (.inl (1, b'))))).set q none)))
    (k2 : ∀ b', JbR b' (t ++ w) → JbF b' → b'.length = capN b.length (t.length + w.length) → b.length < t.length + w.length → G Mt d mc ms h0 Q QX (c9 + 1) (n9 + 6000) (pc + 3) ls (.ref (174 + s) :: rest) (hX X (((r.set s (some (.inl (10, [.ref (174 + q), .int 0, .int (0), .int (nI (t ++ w).length)])))).set p (some (.inr (.inl (1, b))))).set q (some (.inr (.inl (1, b'))))))) : G Mt d mc ms h0 Q QX c9 n9 pc ls sk (hX X r) := by
  refine g_callV (hms := hms) (ci := 10) (k0 := 0) [174 + s, 174 + p, 174 + q] hC hd hlk hna rfl (by rw [hcls]; rfl) (by rw [hvs _ (by simp)]; exact hsk) ?_ (Or.inr ⟨?_, fun _ _ z => z.elim, ?_⟩) hT hdd hcat hc hn (fun _ _ z => z.elim) ?_
  · refine ⟨?_, ?_, ?_⟩
    · show [(hX X r)[174 + s]?, (hX X r)[174 + p]?, (hX X r)[174 + q]?] = _
      rw [hX_get, hX_get, hX_get, hs, hp, hq]; rfl
    · simp; omega
    · intro k hk
      simp at hk; omega
  · rintro v h1 ⟨-, b', r1, r2, ⟨r3, r4, rfl⟩ | ⟨r3, r4, rfl⟩⟩ k c hk z hz1 hz2
    · rcases k with _ | _ | _ | k
      · cases hk
        intro v hv
        simp at hv
        have h3 : 3 ≤ z := hz1
        rcases hv with rfl | rfl | rfl | rfl
        · intro e
          have e2 : (1 : Nat) = z := Value.ref.inj e
          omega
        all_goals (intro e; cases e)
      · cases hk; trivial
      · cases hk
      · cases hk
    · rcases k with _ | _ | _ | k
      · cases hk
        intro v hv
        simp at hv
        have h3 : 3 ≤ z := hz1
        rcases hv with rfl | rfl | rfl | rfl
        · intro e
          have e2 : (2 : Nat) = z := Value.ref.inj e
          omega
        all_goals (intro e; cases e)
      · cases hk; trivial
      · cases hk; trivial
      · cases hk
  · intro i hi
    rcases i with _ | _ | _ | i
    · cases hi
    · cases hi
    · show gFree (174 + q) ls rest (hX X r)
      exact far_free hq hlt.2.2 hls hrs hr
    · cases hi
  · rintro v h1 ⟨rfl, b', r1, r2, ⟨r3, r4, rfl⟩ | ⟨r3, r4, rfl⟩⟩
    · rw [far_pb3]
      have := k1 b' r1 r2 r4 r3
      rw [List.length_append] at this
      exact this
    · rw [far_pb3]
      have := k2 b' r1 r2 r4 r3
      rw [List.length_append] at this
      exact this
end
/-! the inner text: at most one new row -/
def hIt (st : Option (List Int32)) (b : List Int32) (n : Nat) : gH := match st with
  | none => [some (.inl (10, [.null, .int 0, .int 0, .int 0])), none, none, none, none, none, none, some (.inl (10, [.ref 182, .int 0, .int (0), .int (nI n)])), some (.inr (.inl (1, b))), none, none, none]
  | some b0 => [some (.inl (10, [.null, .int 0, .int 0, .int 0])), none, none, none, none, none, none, some (.inl (10, [.ref 183, .int 0, .int (0), .int (nI n)])), some (.inr (.inl (1, b0))), some (.inr (.inl (1, b))), none, none]
def InnR (st : Option (List Int32)) (b : List Int32) (t : List Nat) : Prop := JbR b t ∧ JbF b ∧ b.length = (match st with | none => 16 | some _ => 34)
/-! the outer text: at most two -/
def hOt (st : List (List Int32)) (b : List Int32) (n : Nat) (js : gH) : gH := match st with
  | [] => some (.inl (10, [.ref 175, .int 0, .int (0), .int (nI n)])) :: some (.inr (.inl (1, b))) :: none :: none :: none :: none :: none :: js
  | [b1] => some (.inl (10, [.ref 176, .int 0, .int (0), .int (nI n)])) :: some (.inr (.inl (1, b1))) :: some (.inr (.inl (1, b))) :: none :: none :: none :: none :: js
  | b1 :: b2 :: _ => some (.inl (10, [.ref 177, .int 0, .int (0), .int (nI n)])) :: some (.inr (.inl (1, b1))) :: some (.inr (.inl (1, b2))) :: some (.inr (.inl (1, b))) :: none :: none :: none :: js
def OutR (st : List (List Int32)) (b : List Int32) (t : List Nat) : Prop := JbR b t ∧ JbF b ∧ (match st with | [] => 34 ≤ b.length ∧ b.length ≤ 50 | [_] => 70 ≤ b.length ∧ b.length ≤ 102 | _ => 142 ≤ b.length ∧ b.length ≤ 206)
def rFor (js : gH) : Prop := ∀ q, q < 7 → js.all (kNo (174 + q)) = true
section
variable {Mt : gM} {d mc ms : Nat} {h0 : gH} {Q : Option Value → gH → Prop} {QX : String → gH → Prop} {c9 n9 pc : Nat} {ls : List (Option Value)} {rest sk vs : List Value} {js : gH} {X : NsT} {idx na s p q : Nat} {M' : gM} {b : List Int32} {t w : List Nat}
theorem g_in {st : Option (List Int32)} (hI : InnR st b t) (hw : t.length + w.length ≤ 34) (hC : JbR b t → JbF b → gCt M' 6 1 6000 (.ref 0 :: vs) [some (.inl (10, [.ref 1, .int 0, .int (0), .int (nI t.length)])), some (.inr (.inl (1, b))), none] (fun u h => u = some (.ref 0) ∧ ApC 0 b t w h) (fun _ _ => False)) (hcls : (mY M').cls = "java/lang/StringBuilder") (hvs : ∀ ρ : List Nat, ρ.length ≤ 1000 → vs.map (tv (gRen ρ)) = vs)
    (hls : ∀ q, 174 ≤ q → q < 190 → ls.all (lNo q) = true) (hrs : rest = [.ref 174, .ref 174])
    (hd : decode (mC Mt) pc = .ok (.invokevirtual idx, 3)) (hlk : gLkV (mY Mt).cls idx M' na) (hna : vs.length = na) (hsk : sk = vs.reverse ++ .ref 181 :: rest) (hT : mT Mt = []) (hdd : 7 ≤ d) (hc : c9 + 1 ≤ mc) (hn : n9 + 6000 ≤ ms) (hms : mS M' = none ∨ mS M' = mS Mt)
    (k : ∀ st' b', InnR st' b' (t ++ w) → G Mt d mc ms h0 Q QX (c9 + 1) (n9 + 6000) (pc + 3) ls (.ref 181 :: rest) (hX X (hIt st' b' (t ++ w).length))) : G Mt d mc ms h0 Q QX c9 n9 pc ls sk (hX X (hIt st b t.length)) := by
  obtain ⟨r1, r2, r3⟩ := hI
  subst hrs
  cases st with
  | none =>
    have r3 : b.length = 16 := r3
    refine g_ap (s := 7) (p := 8) (q := 9) (hC r1 r2) hcls hvs rfl rfl rfl (by decide) (by decide) (by decide) (by decide) (hls _ (by decide) (by decide)) rfl rfl hd hlk hna hsk hT hdd (by decide) hc hn hms (fun b' q1 q2 q3 q4 => ?_) (fun b' q1 q2 q3 q4 => ?_)
    · exact k none b' ⟨q1, q2, q3.trans r3⟩
    · exact k (some b) b' ⟨q1, q2, by rw [q3, capN_eq (by omega) (by omega), r3]⟩
  | some b0 =>
    have r3 : b.length = 34 := r3
    refine g_ap (s := 7) (p := 9) (q := 10) (hC r1 r2) hcls hvs rfl rfl rfl (by decide) (by decide) (by decide) (by decide) (hls _ (by decide) (by decide)) rfl rfl hd hlk hna hsk hT hdd (by decide) hc hn hms (fun b' q1 q2 q3 q4 => ?_) (fun b' q1 q2 q3 q4 => ?_)
    · exact k (some b0) b' ⟨q1, q2, q3.trans r3⟩
    · omega
theorem g_ou {st : List (List Int32)} (hst : st.length ≤ 2) (hI : OutR st b t) (hj : rFor js) (hw : t.length + w.length ≤ 142) (hww : w.length ≤ 30) (hC : JbR b t → JbF b → gCt M' 6 1 6000 (.ref 0 :: vs) [some (.inl (10, [.ref 1, .int 0, .int (0), .int (nI t.length)])), some (.inr (.inl (1, b))), none] (fun u h => u = some (.ref 0) ∧ ApC 0 b t w h) (fun _ _ => False)) (hcls : (mY M').cls = "java/lang/StringBuilder") (hvs : ∀ ρ : List Nat, ρ.length ≤ 1000 → vs.map (tv (gRen ρ)) = vs)
    (hls : ∀ q, 175 ≤ q → q < 190 → ls.all (lNo q) = true) (hrs : rest = [])
    (hd : decode (mC Mt) pc = .ok (.invokevirtual idx, 3)) (hlk : gLkV (mY Mt).cls idx M' na) (hna : vs.length = na) (hsk : sk = vs.reverse ++ .ref 174 :: rest) (hT : mT Mt = []) (hdd : 7 ≤ d) (hc : c9 + 1 ≤ mc) (hn : n9 + 6000 ≤ ms) (hms : mS M' = none ∨ mS M' = mS Mt)
    (k : ∀ st' b', st'.length ≤ 2 → OutR st' b' (t ++ w) → G Mt d mc ms h0 Q QX (c9 + 1) (n9 + 6000) (pc + 3) ls (.ref 174 :: rest) (hX X (hOt st' b' (t ++ w).length js))) : G Mt d mc ms h0 Q QX c9 n9 pc ls sk (hX X (hOt st b t.length js)) := by
  obtain ⟨r1, r2, r3⟩ := hI
  subst hrs
  rcases st with _ | ⟨b1, _ | ⟨b2, _ | ⟨b3, st⟩⟩⟩
  · have r3 : 34 ≤ b.length ∧ b.length ≤ 50 := r3
    have hl := r1.1
    refine g_ap (s := 0) (p := 1) (q := 2) (hC r1 r2) hcls hvs rfl rfl rfl (by decide) (by decide) (by decide) (by decide) (hls _ (by decide) (by decide)) rfl (hj 2 (by decide)) hd hlk hna hsk hT hdd (by decide) hc hn hms (fun b' q1 q2 q3 q4 => ?_) (fun b' q1 q2 q3 q4 => ?_)
    · exact k [] b' (by simp) ⟨q1, q2, by show 34 ≤ b'.length ∧ b'.length ≤ 50; omega⟩
    · rw [capN_eq (by omega) (by omega)] at q3
      exact k [b] b' (by simp) ⟨q1, q2, by show 70 ≤ b'.length ∧ b'.length ≤ 102; omega⟩
  · have r3 : 70 ≤ b.length ∧ b.length ≤ 102 := r3
    have hl := r1.1
    refine g_ap (s := 0) (p := 2) (q := 3) (hC r1 r2) hcls hvs rfl rfl rfl (by decide) (by decide) (by decide) (by decide) (hls _ (by decide) (by decide)) rfl (hj 3 (by decide)) hd hlk hna hsk hT hdd (by decide) hc hn hms (fun b' q1 q2 q3 q4 => ?_) (fun b' q1 q2 q3 q4 => ?_)
    · exact k [b1] b' (by simp) ⟨q1, q2, by show 70 ≤ b'.length ∧ b'.length ≤ 102; omega⟩
    · rw [capN_eq (by omega) (by omega)] at q3
      exact k [b1, b] b' (by simp) ⟨q1, q2, by show 142 ≤ b'.length ∧ b'.length ≤ 206; omega⟩
  · have r3 : 142 ≤ b.length ∧ b.length ≤ 206 := r3
    refine g_ap (s := 0) (p := 3) (q := 4) (hC r1 r2) hcls hvs rfl rfl rfl (by decide) (by decide) (by decide) (by decide) (hls _ (by decide) (by decide)) rfl (hj 4 (by decide)) hd hlk hna hsk hT hdd (by decide) hc hn hms (fun b' q1 q2 q3 q4 => ?_) (fun b' q1 q2 q3 q4 => ?_)
    · exact k [b1, b2] b' (by simp) ⟨q1, q2, by show 142 ≤ b'.length ∧ b'.length ≤ 206; omega⟩
    · omega
  · simp at hst
theorem far_pb4 {σ : List Nat} {X : NsT} {r : gH} {a b c e : Nat} {x y z u : Option gC} : gPb σ [174 + a, 174 + b, 174 + c, 174 + e] [x, y, z, u] (hX X r) = hX X ((((r.set a (x.map (rc σ))).set b (y.map (rc σ))).set c (z.map (rc σ))).set e (u.map (rc σ))) := by
  simp only [gPb, hX_set]
theorem far_pb5 {σ : List Nat} {X : NsT} {r : gH} {a b c e f : Nat} {x y z u v : Option gC} : gPb σ [174 + a, 174 + b, 174 + c, 174 + e, 174 + f] [x, y, z, u, v] (hX X r) = hX X (((((r.set a (x.map (rc σ))).set b (y.map (rc σ))).set c (z.map (rc σ))).set e (u.map (rc σ))).set f (v.map (rc σ))) := by
  simp only [gPb, hX_set]
/-- toString: a row of the builder's is copied into a new String at e, its letters at f -/
theorem g_ts {r : gH} {s p e f : Nat} (hJ : JbR b t) (hF : JbF b) (hb : b.length ≤ 100000)
    (hs : r[s]? = some (some (.inl (10, [.ref (174 + p), .int 0, .int (0), .int (nI t.length)])))) (hp : r[p]? = some (some (.inr (.inl (1, b))))) (he : r[e]? = some none) (hf : r[f]? = some none) (hnd : [s, p, e, f].Nodup) (hlt : s < 500 ∧ p < 500 ∧ e < 500 ∧ f < 500) (hls : ls.all (lNo (174 + e)) = true ∧ ls.all (lNo (174 + f)) = true) (hrs : rest.all (vNo (174 + e)) = true ∧ rest.all (vNo (174 + f)) = true) (hr : r.all (kNo (174 + e)) = true ∧ r.all (kNo (174 + f)) = true)
    (hd : decode (mC Mt) pc = .ok (.invokevirtual idx, 3)) (hlk : gLkV (mY Mt).cls idx mJ4_toString_0e30d 0) (hT : mT Mt = []) (hdd : 7 ≤ d) (hcat : (rest.map fun v => v.category).sum ≤ 8) (hc : c9 + 2 ≤ mc) (hn : n9 + (4 + t.length) ≤ ms)
    (k : G Mt d mc ms h0 Q QX (c9 + 2) (n9 + (4 + t.length)) (pc + 3) ls (.ref (174 + e) :: rest) (hX X ((((r.set s (some (.inl (10, [.ref (174 + p), .int 0, .int (0), .int (nI t.length)])))).set p (some (.inr (.inl (1, b))))).set e (some (.inl (9, [.ref (174 + f), .int 0, .int (0), .int (0)])))).set f (some (.inr (.inl (1, t.map nI))))))) : G Mt d mc ms h0 Q QX c9 n9 pc ls (.ref (174 + s) :: rest) (hX X r) := by
  have hC := cJ4_toString (ml := 0) (q := t.length) hJ.1 hb hF
  rw [JbR_take hJ] at hC
  refine g_callV (ci := 10) (k0 := 0) (vs := []) [174 + s, 174 + p, 174 + e, 174 + f] hC hd hlk rfl rfl rfl rfl ?_ (Or.inr ⟨?_, fun _ _ z => z.elim, ?_⟩) hT hdd hcat hc hn (fun _ _ z => z.elim) ?_
  · refine ⟨?_, ?_, ?_⟩
    · show [(hX X r)[174 + s]?, (hX X r)[174 + p]?, (hX X r)[174 + e]?, (hX X r)[174 + f]?] = _
      rw [hX_get, hX_get, hX_get, hX_get, hs, hp, he, hf]; rfl
    · exact List.Pairwise.map (174 + ·) (fun a b hab hz => hab (by omega)) hnd
    · intro k hk
      simp at hk; omega
  · rintro v h1 ⟨-, rfl⟩ k c hk z hz1 hz2
    have h3 : 4 ≤ z := hz1
    rcases k with _ | _ | _ | _ | k
    · cases hk
      intro v hv
      simp at hv
      rcases hv with rfl | rfl | rfl | rfl
      · intro e
        have e2 : (1 : Nat) = z := Value.ref.inj e
        omega
      all_goals (intro e; cases e)
    · cases hk; trivial
    · cases hk
      intro v hv
      simp at hv
      rcases hv with rfl | rfl
      · intro e
        have e2 : (3 : Nat) = z := Value.ref.inj e
        omega
      all_goals (intro e; cases e)
    · cases hk; trivial
    · cases hk
  · intro i hi
    rcases i with _ | _ | _ | _ | i
    · cases hi
    · cases hi
    · show gFree (174 + e) ls rest (hX X r)
      exact far_free he hlt.2.2.1 hls.1 hrs.1 hr.1
    · show gFree (174 + f) ls rest (hX X r)
      exact far_free hf hlt.2.2.2 hls.2 hrs.2 hr.2
    · cases hi
  · rintro v h1 ⟨rfl, rfl⟩
    rw [far_pb4]
    exact k
theorem g_newF {ci : Nat} {r : gH} (q : Nat) (hd : decode (mC Mt) pc = .ok (.new idx, 3)) (hk : gNewOk (mY Mt).cls idx ci) (h1 : r[q]? = some none) (h2 : q < 500) (h3 : ls.all (lNo (174 + q)) = true) (h4 : sk.all (vNo (174 + q)) = true) (h5 : r.all (kNo (174 + q)) = true) (hc9 : c9 + 1 ≤ mc) (hn9 : n9 + (gDef ci).length ≤ ms)
    (k : G Mt d mc ms h0 Q QX (c9 + 1) (n9 + (gDef ci).length) (pc + 3) ls (.ref (174 + q) :: sk) (hX X (r.set q (some (.inl (ci, gDef ci)))))) : G Mt d mc ms h0 Q QX c9 n9 pc ls sk (hX X r) := by
  refine g_new (174 + q) hd hk (far_free h1 h2 h3 h4 h5) hc9 hn9 ?_
  rw [hX_set]
  exact k
theorem gDef_10 : gDef 10 = [.null, .int 0, .int 0, .int 0] := by decide +kernel
/-- a new StringBuilder's own beginning -/
theorem g_i0 {r : gH} {s p : Nat} (hs : r[s]? = some (some (.inl (10, [.null, .int 0, .int 0, .int 0])))) (hp : r[p]? = some none) (hsp : s ≠ p) (hlt : s < 500 ∧ p < 500) (hls : ls.all (lNo (174 + p)) = true) (hrs : rest.all (vNo (174 + p)) = true) (hr : r.all (kNo (174 + p)) = true)
    (hd : decode (mC Mt) pc = .ok (.invokespecial idx, 3)) (hlk : gLkI (mY Mt).cls idx mJ4_init_da8c8 0) (hT : mT Mt = []) (hdd : 3 ≤ d) (hcat : (rest.map fun v => v.category).sum ≤ 8) (hc : c9 + 1 ≤ mc) (hn : n9 + 16 ≤ ms)
    (k : G Mt d mc ms h0 Q QX (c9 + 1) (n9 + 16) (pc + 3) ls rest (hX X ((r.set s (some (.inl (10, [.ref (174 + p), .int 0, .int (0), .int (0)])))).set p (some (.inr (.inl (1, List.replicate 16 0))))))) : G Mt d mc ms h0 Q QX c9 n9 pc ls (.ref (174 + s) :: rest) (hX X r) := by
  refine g_callI (vs := []) [174 + s, 174 + p] cJ4_init0 hd hlk rfl rfl ?_ (Or.inr ⟨?_, fun _ _ z => z.elim, ?_⟩) hT hdd hcat hc hn ?_
  · refine ⟨?_, ?_, ?_⟩
    · show [(hX X r)[174 + s]?, (hX X r)[174 + p]?] = _
      rw [hX_get, hX_get, hs, hp]; rfl
    · simp; omega
    · intro k hk
      simp at hk; omega
  · rintro v h1 ⟨-, rfl⟩ k c hk z hz1 hz2
    have h3 : 2 ≤ z := hz1
    rcases k with _ | _ | k
    · cases hk
      intro v hv
      simp at hv
      rcases hv with rfl | rfl
      · intro e
        have e2 : (1 : Nat) = z := Value.ref.inj e
        omega
      all_goals (intro e; cases e)
    · cases hk; trivial
    · cases hk
  · intro i hi
    rcases i with _ | _ | i
    · cases hi
    · show gFree (174 + p) ls rest (hX X r)
      exact far_free hp hlt.2 hls hrs hr
    · cases hi
  · rintro v h1 ⟨rfl, rfl⟩
    rw [show gPb [174 + s, 174 + p] [174 + s, 174 + p] [some (.inl (10, [.ref 1, .int 0, .int (0), .int (0)])), some (.inr (.inl (1, List.replicate 16 0)))] (hX X r) = hX X ((r.set s (some (.inl (10, [.ref (174 + p), .int 0, .int (0), .int (0)])))).set p (some (.inr (.inl (1, List.replicate 16 0))))) from by simp only [gPb, hX_set]; rfl]
    exact k
/-- a new StringBuilder that begins with a String -/
theorem g_iS {r : gH} {s p e f q : Nat} (h8 : ∀ c ∈ t, c < 128) (hm : t.length ≤ 1000) (hs : r[s]? = some (some (.inl (10, [.null, .int 0, .int 0, .int 0])))) (hp : r[p]? = some none) (he : r[e]? = some (some (.inl (9, [.ref (174 + f), .int 0, .int (0), .int (0)])))) (hf : r[f]? = some (some (.inr (.inl (1, t.map nI))))) (hq : r[q]? = some none) (hnd : [s, p, e, f, q].Nodup) (hlt : s < 500 ∧ p < 500 ∧ e < 500 ∧ f < 500 ∧ q < 500) (hls : ls.all (lNo (174 + p)) = true ∧ ls.all (lNo (174 + q)) = true) (hrs : rest.all (vNo (174 + p)) = true ∧ rest.all (vNo (174 + q)) = true) (hr : r.all (kNo (174 + p)) = true ∧ r.all (kNo (174 + q)) = true)
    (hd : decode (mC Mt) pc = .ok (.invokespecial idx, 3)) (hlk : gLkI (mY Mt).cls idx mJ4_init_a7421 1) (hT : mT Mt = []) (hdd : 10 ≤ d) (hcat : (rest.map fun v => v.category).sum ≤ 8) (hc : c9 + 2 ≤ mc) (hn : n9 + 8000 ≤ ms)
    (k : ∀ b', JbR b' t → JbF b' → b'.length = t.length + 16 → G Mt d mc ms h0 Q QX (c9 + 2) (n9 + 8000) (pc + 3) ls rest (hX X (((((r.set s (some (.inl (10, [.ref (174 + p), .int 0, .int (0), .int (nI t.length)])))).set p (some (.inr (.inl (1, b'))))).set e (some (.inl (9, [.ref (174 + f), .int 0, .int (0), .int (0)])))).set f (some (.inr (.inl (1, t.map nI))))).set q none))) : G Mt d mc ms h0 Q QX c9 n9 pc ls (.ref (174 + e) :: .ref (174 + s) :: rest) (hX X r) := by
  refine g_callI (vs := [.ref 2]) [174 + s, 174 + p, 174 + e, 174 + f, 174 + q] (cJ4_initS (x := 0) (y := 0) h8 hm) hd hlk rfl rfl ?_ (Or.inr ⟨?_, fun _ _ z => z.elim, ?_⟩) hT hdd hcat hc hn ?_
  · refine ⟨?_, ?_, ?_⟩
    · show [(hX X r)[174 + s]?, (hX X r)[174 + p]?, (hX X r)[174 + e]?, (hX X r)[174 + f]?, (hX X r)[174 + q]?] = _
      rw [hX_get, hX_get, hX_get, hX_get, hX_get, hs, hp, he, hf, hq]; rfl
    · exact List.Pairwise.map (174 + ·) (fun a b hab hz => hab (by omega)) hnd
    · intro k hk
      simp at hk; omega
  · rintro v h1 ⟨-, b', -, -, -, rfl⟩ k c hk z hz1 hz2
    have h3 : 5 ≤ z := hz1
    rcases k with _ | _ | _ | _ | _ | k
    · cases hk
      intro v hv
      simp at hv
      rcases hv with rfl | rfl | rfl | rfl
      · intro e
        have e2 : (1 : Nat) = z := Value.ref.inj e
        omega
      all_goals (intro e; cases e)
    · cases hk; trivial
    · cases hk
      intro v hv
      simp at hv
      rcases hv with rfl | rfl
      · intro e
        have e2 : (3 : Nat) = z := Value.ref.inj e
        omega
      all_goals (intro e; cases e)
    · cases hk; trivial
    · cases hk
    · cases hk
  · intro i hi
    rcases i with _ | _ | _ | _ | _ | i
    · cases hi
    · show gFree (174 + p) ls rest (hX X r)
      exact far_free hp hlt.2.1 hls.1 hrs.1 hr.1
    · cases hi
    · cases hi
    · show gFree (174 + q) ls rest (hX X r)
      exact far_free hq hlt.2.2.2.2 hls.2 hrs.2 hr.2
    · cases hi
  · rintro v h1 ⟨rfl, b', r1, r2, r3, rfl⟩
    rw [far_pb5]
    exact k b' r1 r2 r3
end
end SBROWS
