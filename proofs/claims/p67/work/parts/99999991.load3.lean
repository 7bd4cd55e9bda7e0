section LOADE
set_option maxRecDepth 100000
variable {b0 L : Nat} {xs : Nat → Int32}
section
variable {Mt : gM} {d mc ms : Nat} {h0 : gH} {Q : Option Value → gH → Prop} {QX : String → gH → Prop} {c9 n9 pc : Nat} {ls : List (Option Value)} {rest sk vs : List Value} {r r2 : gH} {X : NsT} {V : VwT} {m idx na : Nat} {M' : gM} {d' mc' ms' : Nat} {Q' : Option Value → gH → Prop} {ps : List Nat}
/-- a call of the law's own that has the object and reads some of the law's cells -/
theorem g_oR (hC : gCt M' d' mc' ms' vs (hX X r2) Q' (fun _ _ => False)) (hQ : ∀ v h1, Q' v h1 → ∃ X', h1 = hX X' r2) (hf : ps.map (fun p => r[p]?) = r2.map (fun o => some (o.map (rc (List.range 174 ++ ps.map (174 + ·)))))) (hnd : ps.Nodup) (hps : ∀ p ∈ ps, p < 500) (hal : r2.all (fun o => o.isSome) = true) (hr2 : rIn 174 (174 + ps.length) r2 = true) (hbk : ∀ X' : NsT, gPb (List.range 174 ++ ps.map (174 + ·)) (ps.map (174 + ·)) r2 (hX X' r) = hX X' r)
    (hd : decode (mC Mt) pc = .ok (.invokestatic idx, 3)) (hlk : gLkS (mY Mt).cls idx M' na) (hna : vs.length = na) (hsk : sk = (vs.map (tv (gRen (List.range 174 ++ ps.map (174 + ·))))).reverse ++ rest) (hT : mT Mt = []) (hdd : d' + 1 ≤ d) (hcat : (rest.map fun v => v.category).sum ≤ 8) (hc : c9 + mc' ≤ mc) (hn : n9 + ms' ≤ ms) (hr : rFar r = true) (hls : rLs ls = true) (hrs : rSk rest = true) (hms : mS M' = none ∨ mS M' = mS Mt)
    (k : ∀ u X', Q' u (hX X' r2) → G Mt d mc ms h0 Q QX (c9 + mc') (n9 + ms') (pc + 3) ls ((u.map (tv (gRen (List.range 174 ++ ps.map (174 + ·))))).toList ++ rest) (hX X' r)) : G Mt d mc ms h0 Q QX c9 n9 pc ls sk (hX X r) := by
  refine g_callS (hms := hms) (List.range 174 ++ ps.map (174 + ·)) hC hd hlk hna hsk (ext_sub hf hnd hps) (Or.inr ⟨?_, fun _ _ z => z.elim, fun i hi => ?_⟩) hT hdd hcat hc hn (fun _ _ z => z.elim) ?_
  · intro v h1 hq
    obtain ⟨X', rfl⟩ := hQ v h1 hq
    intro k' c' hk q h1 h2
    rw [List.length_append, List.length_range, List.length_map] at h1
    rw [hX_app] at hk
    by_cases hl : k' < (hX X' []).length
    · rw [List.getElem?_append_left hl] at hk
      exact cI2_no (rIn_at hX_near hk) (Or.inr (by omega))
    · rw [List.getElem?_append_right (by omega)] at hk
      exact cI2_no (rIn_at hr2 hk) (Or.inr h1)
  · have hil := (List.getElem?_eq_some_iff.mp hi).1
    rw [hX_len] at hil
    have h174 : i < 174 := by
      refine Nat.lt_of_not_le (fun hge => ?_)
      obtain ⟨j, rfl⟩ : ∃ j, i = 174 + j := ⟨i - 174, by omega⟩
      rw [hX_get] at hi
      exact gAllS hal j hi
    rw [show gRen (List.range 174 ++ ps.map (174 + ·)) i = i from gRen_at (by rw [List.getElem?_append_left (by rw [List.length_range]; exact h174), List.getElem?_range h174])]
    have hp : (hX X r)[i]? = some none := by
      rw [hX_app, List.getElem?_append_left (by rw [hX_len]; exact Nat.lt_of_lt_of_le h174 (Nat.le_add_left _ _))]
      rw [hX_app, List.getElem?_append_left (by rw [hX_len]; exact Nat.lt_of_lt_of_le h174 (Nat.le_add_left _ _))] at hi
      exact hi
    obtain ⟨Z, T, B, Y, C, O, S, ZD, TD, BD, YD, c, n, k, v⟩ := X
    exact hW_free h174 hr hp hls hrs
  · intro u h1 hq
    obtain ⟨X', rfl⟩ := hQ u h1 hq
    rw [ext_pb, hbk]
    exact k u X' hq
end
theorem trsA_ts (A : MkA) (ts : List (List Nat × Nat × Nat)) : (trsA A ts).2.1 = A.2.1 ++ ts.map (fun t => (t.1, nI t.2.1, nI t.2.2)) ∧ (trsA A ts).1 = A.1 ∧ (trsA A ts).2.2.1 = A.2.2.1 ∧ (trsA A ts).2.2.2.1 = A.2.2.2.1 := by
  unfold trsA
  induction ts generalizing A with
  | nil => exact ⟨(List.append_nil _).symm, rfl, rfl, rfl⟩
  | cons t ts ih =>
    obtain ⟨h1, h2, h3, h4⟩ := ih (trdA A t.1 (nI t.2.1) (nI t.2.2))
    refine ⟨?_, h2, h3, h4⟩
    rw [List.foldl_cons, h1]
    show (A.2.1 ++ [_]) ++ _ = _
    rw [List.append_assoc]; rfl
theorem mk0_ts : (mk0 L xs).2.1 = (trsL L xs (sTra L xs)).map (fun t => (t.1, nI t.2.1, nI t.2.2)) := by unfold mk0; rw [(trsA_ts _ _).1]; rfl
theorem mk0_len : (mk0 L xs).2.1.length = sTra L xs := by rw [mk0_ts, List.length_map]; unfold trsL; rw [List.length_map, List.length_range]
theorem mk0_at {k : Nat} (hk : k < sTra L xs) : ta (mk0 L xs).2.1 k = (nms.getD k [], nI (sCoi L xs k), nI (sGoo L xs k)) := by
  unfold ta
  rw [mk0_ts, List.getD_eq_getElem?_getD, List.getElem?_map]
  unfold trsL
  rw [List.getElem?_map, List.getElem?_range hk]; rfl
theorem mk0_os : (mk0 L xs).2.2.1 = [] := by unfold mk0; rw [(trsA_ts _ _).2.2.1]; rfl
theorem mk0_h : (mk0 L xs).1 = (0, nI (sPri L xs), nI (sBan L xs), nI (sRul L xs), nI (sPer L xs)) := by unfold mk0; rw [(trsA_ts _ _).2.1]; rfl
theorem nms_nd (n : Nat) (h : n ≤ 5) : ((trsL L xs n).map (fun t => t.1)).Nodup ∧ ∀ t ∈ trsL L xs n, (∀ c ∈ t.1, letr c = true) ∧ t.1 ≠ [] ∧ t.1.length ≤ 4 ∧ t.2.1 ≤ 999999 ∧ t.2.2 ≤ 9999 := by
  refine ⟨?_, ?_⟩
  · unfold trsL
    rw [List.map_map]
    show ((List.range n).map (fun k => nms.getD k [])).Nodup
    rcases (show n = 0 ∨ n = 1 ∨ n = 2 ∨ n = 3 ∨ n = 4 ∨ n = 5 by omega) with rfl | rfl | rfl | rfl | rfl | rfl <;> decide
  · intro t ht
    obtain ⟨k, hk, rfl⟩ := List.mem_map.mp ht
    have hk := List.mem_range.mp hk
    have b1 := sCoi_b (L := L) (xs := xs) (k := k)
    have b2 := sGoo_b (L := L) (xs := xs) (k := k)
    have key : (∀ c ∈ nms.getD k [], letr c = true) ∧ nms.getD k [] ≠ [] ∧ (nms.getD k []).length ≤ 4 := by
      rcases (show k = 0 ∨ k = 1 ∨ k = 2 ∨ k = 3 ∨ k = 4 by omega) with rfl | rfl | rfl | rfl | rfl <;> decide
    exact ⟨key.1, key.2.1, key.2.2, by show sCoi L xs k ≤ _; omega, by show sGoo L xs k ≤ _; omega⟩
theorem mk0_parse : parse (txt0 L xs (sTra L xs)) = .inr (mk0 L xs) := by
  have h1 := sPer_b (L := L) (xs := xs)
  have h2 := sPri_b (L := L) (xs := xs)
  have h3 := sBan_b (L := L) (xs := xs)
  have h5 := sTra_b (L := L) (xs := xs)
  obtain ⟨n1, n2⟩ := nms_nd (L := L) (xs := xs) (sTra L xs) h5
  exact parse_txt (by omega) (by omega) (by omega) sRul_b (by unfold trsL; rw [List.length_map, List.length_range]; omega) n2 n1
end LOADE
