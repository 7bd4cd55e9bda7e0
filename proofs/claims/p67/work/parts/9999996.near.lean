section NEAR
set_option maxRecDepth 100000
/-! ### the object's cells point at the object's alone -/
def rIn (lo hi : Nat) (r : gH) : Bool := r.all (fun o => match o with | some c => cI2 lo hi c | none => true)
theorem rIn_app {lo hi : Nat} {a b : gH} : rIn lo hi (a ++ b) = (rIn lo hi a && rIn lo hi b) := List.all_append
theorem mkC_in {b : Nat} {x : Option MkX} (h : b + 13 ≤ 174) : rIn 0 174 (mkC b x) = true := by
  cases x with
  | none => rfl
  | some x =>
    have key : ∀ i, i ≤ 12 → (Nat.ble 0 (b + i) && Nat.blt (b + i) 174) = true := fun i hi => by
      rw [Bool.and_eq_true]; exact ⟨rfl, Nat.blt_eq.mpr (by omega)⟩
    simp [rIn, mkC, cI2, key]
theorem hX_near {X : NsT} : rIn 0 174 (hX X []) = true := by
  obtain ⟨Z, T, B, Y, C, O, S, ZD, TD, BD, YD, c, n, ⟨k0, k1, k2, k3, k4, k5⟩, ⟨v0, v1⟩⟩ := X
  show rIn 0 174 (hL _ _ _ _ _ _ _ _ _ _ _ _ _ _ _ _ _ _ _ _ _ _ []) = true
  unfold hL
  simp only [rIn_app, Bool.and_eq_true]
  refine ⟨rfl, ?_, rfl, mkC_in (by decide), mkC_in (by decide), mkC_in (by decide), mkC_in (by decide), mkC_in (by decide), mkC_in (by decide), mkC_in (by decide), mkC_in (by decide), rfl⟩
  have e1 : ∀ {a0 a1 a2 a3 a4 a5 : Option MkX}, cI2 0 174 (.inr (.inr (.inl (kr (a0, a1, a2, a3, a4, a5))))) = true := by
    intro a0 a1 a2 a3 a4 a5
    refine List.all_eq_true.mpr (fun o ho => ?_)
    cases o with
    | none => rfl
    | some q =>
      have := mem6 ho
      show (Nat.ble 0 q && Nat.blt q 174) = true
      rw [Bool.and_eq_true]
      exact ⟨Nat.ble_eq_true_of_le (Nat.zero_le _), Nat.blt_eq.mpr (by omega)⟩
  have e2 : ∀ {a0 a1 : Option MkX}, cI2 0 174 (.inr (.inr (.inl (vr (a0, a1))))) = true := by
    intro a0 a1
    refine List.all_eq_true.mpr (fun o ho => ?_)
    cases o with
    | none => rfl
    | some q =>
      have := mem2 ho
      show (Nat.ble 0 q && Nat.blt q 174) = true
      rw [Bool.and_eq_true]
      exact ⟨Nat.ble_eq_true_of_le (Nat.zero_le _), Nat.blt_eq.mpr (by omega)⟩
  show (cI2 0 174 _ && (cI2 0 174 _ && true)) = true
  rw [e1, e2]; rfl
theorem rIn_at {lo hi k : Nat} {r : gH} {c : gC} (h : rIn lo hi r = true) (hk : r[k]? = some (some c)) : cI2 lo hi c = true := List.all_eq_true.mp h _ (List.mem_of_getElem? hk)
theorem rc_near {ps : List Nat} {c : gC} (h : cI2 0 174 c = true) : rc (List.range 174 ++ ps) c = c := by
  have key : ∀ q, q < 174 → gRen (List.range 174 ++ ps) q = q := fun q hq => gRen_at (by rw [List.getElem?_append_left (by rw [List.length_range]; exact hq), List.getElem?_range hq])
  rcases c with o | a | l | l
  · show (.inl (o.1, o.2.map (tv (gRen _))) : gC) = .inl o
    have : o.2.map (tv (gRen (List.range 174 ++ ps))) = o.2 := by
      conv => rhs; rw [← List.map_id o.2]
      refine List.map_congr_left (fun v hv => ?_)
      have h9 := List.all_eq_true.mp h _ hv
      cases v <;> first | rfl | skip
      rename_i a
      simp only [Bool.and_eq_true] at h9
      show Value.ref (gRen _ a) = .ref a
      rw [key a (Nat.blt_eq.mp h9.2)]
    rw [this]
  · rfl
  · show (.inr (.inr (.inl (l.map (Option.map (gRen _))))) : gC) = _
    have : l.map (Option.map (gRen (List.range 174 ++ ps))) = l := by
      conv => rhs; rw [← List.map_id l]
      refine List.map_congr_left (fun v hv => ?_)
      have h9 := List.all_eq_true.mp h _ hv
      cases v with
      | none => rfl
      | some a =>
        simp only [Bool.and_eq_true] at h9
        show some (gRen _ a) = some a
        rw [key a (Nat.blt_eq.mp h9.2)]
    rw [this]
  · show (.inr (.inr (.inr (l.map (Option.map (gRen _))))) : gC) = _
    have : l.map (Option.map (gRen (List.range 174 ++ ps))) = l := by
      conv => rhs; rw [← List.map_id l]
      refine List.map_congr_left (fun v hv => ?_)
      have h9 := List.all_eq_true.mp h _ hv
      cases v with
      | none => rfl
      | some a =>
        simp only [Bool.and_eq_true] at h9
        show some (gRen _ a) = some a
        rw [key a (Nat.blt_eq.mp h9.2)]
    rw [this]
theorem rcm_near {ps : List Nat} {X : NsT} : (hX X []).map (fun o => o.map (rc (List.range 174 ++ ps))) = hX X [] := by
  conv => rhs; rw [← List.map_id (hX X [])]
  refine List.map_congr_left (fun o ho => ?_)
  cases o with
  | none => rfl
  | some c =>
    have := List.all_eq_true.mp (hX_near (X := X)) _ ho
    rw [Option.map_some, rc_near this]; rfl
/-- the object and some of the law's own cells, as a callee's heap -/
theorem ext_sub {X : NsT} {r r2 : gH} {ps : List Nat} (h : ps.map (fun p => r[p]?) = r2.map (fun o => some (o.map (rc (List.range 174 ++ ps.map (174 + ·)))))) (hnd : ps.Nodup) (hps : ∀ p ∈ ps, p < 500) : gSub (List.range 174 ++ ps.map (174 + ·)) (hX X r) (hX X r2) := by
  refine ⟨?_, ?_, ?_⟩
  · rw [List.map_append, hX_app (r := r2), List.map_append]
    congr 1
    · have e := rcm_near (ps := ps.map (174 + ·)) (X := X)
      have e2 : (hX X []).map (fun o => some (o.map (rc (List.range 174 ++ ps.map (174 + ·))))) = (hX X []).map some := by
        have := congrArg (List.map some) e
        rw [List.map_map] at this
        exact this
      rw [e2]
      refine List.ext_getElem? (fun i => ?_)
      rw [List.getElem?_map, List.getElem?_map]
      by_cases hi : i < 174
      · rw [List.getElem?_range hi]
        show some ((hX X r)[i]?) = _
        rw [hX_app, List.getElem?_append_left (by rw [hX_len]; exact Nat.lt_of_lt_of_le hi (Nat.le_add_left _ _)), List.getElem?_eq_getElem (by rw [hX_len]; exact Nat.lt_of_lt_of_le hi (Nat.le_add_left _ _))]; rfl
      · rw [List.getElem?_eq_none (by rw [List.length_range]; omega), List.getElem?_eq_none (by rw [hX_len, List.length_nil]; omega)]; rfl
    · rw [← h, List.map_map]
      exact List.map_congr_left (fun p _ => hX_get p)
  · rw [List.nodup_append]
    refine ⟨List.nodup_range, ?_, ?_⟩
    · exact List.Pairwise.map _ (fun a b hab hz => hab (by omega)) hnd
    · intro a ha b hb hz
      obtain ⟨p, hp, rfl⟩ := List.mem_map.mp hb
      have := List.mem_range.mp ha
      omega
  · intro k hk
    rcases List.mem_append.mp hk with h1 | h1
    · have := List.mem_range.mp h1; omega
    · obtain ⟨p, hp, rfl⟩ := List.mem_map.mp h1
      have := hps p hp; omega
theorem ext_pb {X X' : NsT} {r r2 : gH} {ps : List Nat} : gPb (List.range 174 ++ ps.map (174 + ·)) (List.range 174 ++ ps.map (174 + ·)) (hX X' r2) (hX X r) = gPb (List.range 174 ++ ps.map (174 + ·)) (ps.map (174 + ·)) r2 (hX X' r) := by
  have e : gPb (List.range 174 ++ ps.map (174 + ·)) (List.range 174) (hX X' []) (hX X r) = hX X' r := by
    rw [gPb_r (ρ := List.range 174) 0 174 (List.range_eq_range') (by rw [hX_len]; rfl) (by rw [hX_len]; omega), List.take_zero, List.nil_append, rcm_near, hX_app (X := X) (r := r), show 0 + 174 = (hX X []).length from by rw [hX_len]; rfl, List.drop_left]
    exact hX_app.symm
  rw [hX_app (r := r2), gPb_app _ _ _ _ _ _ (by rw [hX_len, List.length_range]; rfl), e]
end NEAR
