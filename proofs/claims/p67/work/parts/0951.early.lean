theorem tv_id {α : Type} (v : Value) : tv (fun k => k) v = v := by cases v <;> rfl
theorem map_tv_id (vs : List Value) : vs.map (tv fun k => k) = vs := by
  conv => rhs; rw [← List.map_id vs]
  exact List.map_congr_left fun v _ => tv_id (α := Nat) v
theorem nil_sub (h : gH) : gSub [] h [] := ⟨rfl, List.nodup_nil, fun k hk => by cases hk⟩
theorem gRen_nil : gRen [] = fun k => k := funext fun i => by unfold gRen; simp
