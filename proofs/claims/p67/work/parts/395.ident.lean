/-! a callee that has the caller's whole heap -/
theorem gRen_id {ρ : List Nat} (hρ : ρ = List.range ρ.length) (i : Nat) : gRen ρ i = i := by
  by_cases h : i < ρ.length
  · refine gRen_at ?_
    rw [hρ, List.getElem?_range h]
  · exact gRen_out (by omega)
theorem rc_id {ρ : List Nat} (hρ : ρ = List.range ρ.length) (c : gC) : rc ρ c = c := by
  have e : gRen ρ = id := funext (gRen_id hρ)
  match c with
  | .inl o =>
    show (.inl (o.1, o.2.map (tv (gRen ρ))) : gC) = .inl o
    rw [e]
    have : o.2.map (tv id) = o.2 := by
      conv => rhs; rw [← List.map_id o.2]
      exact List.map_congr_left (fun v _ => by cases v <;> rfl)
    rw [this]
  | .inr (.inl a) => rfl
  | .inr (.inr (.inl l)) =>
    show (.inr (.inr (.inl (l.map (Option.map (gRen ρ))))) : gC) = _
    rw [e, Option.map_id, List.map_id]
  | .inr (.inr (.inr l)) =>
    show (.inr (.inr (.inr (l.map (Option.map (gRen ρ))))) : gC) = _
    rw [e, Option.map_id, List.map_id]
theorem gPb_id {ρ : List Nat} (hρ : ρ = List.range ρ.length) {h1 h : gH} (e1 : h1.length = ρ.length) (e2 : h.length = ρ.length) : gPb ρ ρ h1 h = h1 := by
  refine List.ext_getElem? (fun i => ?_)
  by_cases hi : i < ρ.length
  · have hnd : ρ.Nodup := by rw [hρ]; exact List.nodup_range
    obtain ⟨o, q1, q2⟩ := gPb_in ρ ρ h1 h hnd (fun k hk => by rw [hρ] at hk; rw [e2]; exact List.mem_range.mp hk) e1.symm i i (by rw [hρ, List.getElem?_range hi])
    rw [q1, q2]
    cases o with
    | none => rfl
    | some c => rw [Option.map_some, rc_id hρ]
  · rw [List.getElem?_eq_none (by rw [gPb_len]; omega), List.getElem?_eq_none (by omega)]
