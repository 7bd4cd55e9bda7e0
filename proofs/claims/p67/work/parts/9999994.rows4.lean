section LROWS
set_option maxRecDepth 100000
/-! ### a call of the law's own: without the object, or with all of it -/
theorem pre_sub {h' r : gH} (hl : h'.length ≤ 1000) : gSub (List.range h'.length) (h' ++ r) h' := by
  refine ⟨?_, List.nodup_range, fun k hk => by have := List.mem_range.mp hk; omega⟩
  refine List.ext_getElem? (fun i => ?_)
  rw [List.getElem?_map, List.getElem?_map]
  by_cases hi : i < h'.length
  · rw [List.getElem?_range hi, List.getElem?_eq_getElem hi]
    show some ((h' ++ r)[i]?) = some (some ((h'[i]).map (rc (List.range h'.length))))
    rw [List.getElem?_append_left hi, List.getElem?_eq_getElem hi]
    congr 2
    cases h'[i] with
    | none => rfl
    | some c => rw [Option.map_some, rc_id (by rw [List.length_range])]
  · rw [List.getElem?_eq_none (by rw [List.length_range]; omega), List.getElem?_eq_none (by omega)]; rfl
theorem pre_pb {h1 h' r : gH} (hl : h1.length = h'.length) : gPb (List.range h'.length) (List.range h'.length) h1 (h' ++ r) = h1 ++ r := by
  rw [gPb_r (ρ := List.range h'.length) 0 h'.length (List.range_eq_range') hl (by rw [List.length_append]; omega), Nat.zero_add, List.take_zero, List.nil_append, List.drop_left]
  congr 1
  conv => rhs; rw [← List.map_id h1]
  refine List.map_congr_left (fun o _ => ?_)
  cases o with
  | none => rfl
  | some c => rw [Option.map_some, rc_id (by rw [List.length_range])]; rfl
theorem tv_pre (n : Nat) (vs : List Value) : vs.map (tv (gRen (List.range n))) = vs := by
  have e : gRen (List.range n) = fun k => k := funext (fun i => gRen_id (by rw [List.length_range]) i)
  rw [e]; exact map_tv_id vs
theorem tvo_pre (n : Nat) (v : Option Value) : v.map (tv (gRen (List.range n))) = v := by
  have e : gRen (List.range n) = fun k => k := funext (fun i => gRen_id (by rw [List.length_range]) i)
  rw [e]
  cases v with
  | none => rfl
  | some x => rw [Option.map_some, tv_id (α := Nat) x]
section
variable {Mt : gM} {d mc ms : Nat} {h0 : gH} {Q : Option Value → gH → Prop} {QX : String → gH → Prop} {c9 n9 pc : Nat} {ls : List (Option Value)} {rest sk vs : List Value} {h r : gH} {X : NsT} {V : VwT} {m idx na : Nat} {M' : gM} {d' mc' ms' : Nat} {Q' : Option Value → gH → Prop} {v : Value}
theorem g_pS (hC : gCt M' d' 0 0 vs [] (fun u h => u = some v ∧ h = []) (fun _ _ => False)) (hd : decode (mC Mt) pc = .ok (.invokestatic idx, 3)) (hlk : gLkS (mY Mt).cls idx M' na) (hna : vs.length = na) (hsk : sk = vs.reverse ++ rest) (hT : mT Mt = []) (hdd : d' + 1 ≤ d) (hcat : (rest.map fun v => v.category).sum ≤ 8) (hc : c9 ≤ mc) (hn : n9 ≤ ms) (hms : mS M' = none ∨ mS M' = mS Mt)
    (k : G Mt d mc ms h0 Q QX c9 n9 (pc + 3) ls (v :: rest) h) : G Mt d mc ms h0 Q QX c9 n9 pc ls sk h := by
  refine g_callS (hms := hms) [] hC hd hlk hna ?_ (nil_sub _) (Or.inl (by simp)) hT hdd hcat hc hn (fun _ _ z => z.elim) ?_
  · rw [gRen_nil, map_tv_id]; exact hsk
  · rintro u h1 ⟨rfl, rfl⟩
    rw [gRen_nil]
    show G _ _ _ _ _ _ _ (c9 + 0) (n9 + 0) _ _ (tv (fun k => k) v :: rest) h
    rw [tv_id (α := Nat) v]
    exact k
theorem gNn_O {ls' : List (Option Value)} {rest' : List Value} {Q2 : Option Value → gH → Prop} {QX2 : String → gH → Prop} (hr : rFar r = true) (hls : rLs ls' = true) (hrs : rSk rest' = true) : gNn (List.range (hX X []).length) ls' rest' (hX X r) (hX X []) Q2 QX2 := by
  refine Or.inr ⟨fun _ _ _ => ?_, fun _ _ _ => ?_, fun i hi => ?_⟩
  · intro k' c' _ q h1 h2
    have := List.mem_range.mp h2
    rw [List.length_range] at h1
    omega
  · intro k' c' _ q h1 h2
    have := List.mem_range.mp h2
    rw [List.length_range] at h1
    omega
  · have hil := (List.getElem?_eq_some_iff.mp hi).1
    rw [hX_len, List.length_nil, Nat.zero_add] at hil
    rw [gRen_id (by rw [List.length_range])]
    have hp : (hX X r)[i]? = some none := by rw [hX_app, List.getElem?_append_left (by rw [hX_len]; exact Nat.lt_of_lt_of_le hil (Nat.le_add_left _ _))]; exact hi
    obtain ⟨Z, T, B, Y, C, O, S, ZD, TD, BD, YD, c, n, k, v⟩ := X
    exact hW_free hil hr hp hls hrs
theorem g_oS (hC : gCt M' d' mc' ms' vs (hX X []) Q' (fun _ _ => False)) (hQ : ∀ v h1, Q' v h1 → ∃ X', h1 = hX X' []) (hd : decode (mC Mt) pc = .ok (.invokestatic idx, 3)) (hlk : gLkS (mY Mt).cls idx M' na) (hna : vs.length = na) (hsk : sk = vs.reverse ++ rest) (hT : mT Mt = []) (hdd : d' + 1 ≤ d) (hcat : (rest.map fun v => v.category).sum ≤ 8) (hc : c9 + mc' ≤ mc) (hn : n9 + ms' ≤ ms) (hr : rFar r = true) (hls : rLs ls = true) (hrs : rSk rest = true) (hms : mS M' = none ∨ mS M' = mS Mt)
    (k : ∀ u X', Q' u (hX X' []) → G Mt d mc ms h0 Q QX (c9 + mc') (n9 + ms') (pc + 3) ls (u.toList ++ rest) (hX X' r)) : G Mt d mc ms h0 Q QX c9 n9 pc ls sk (hX X r) := by
  have hle : (hX X []).length ≤ 1000 := by rw [hX_len]; decide
  refine g_callS (hms := hms) (List.range (hX X []).length) hC hd hlk hna (by rw [tv_pre]; exact hsk) (by rw [hX_app]; exact pre_sub hle) (gNn_O hr hls hrs) hT hdd hcat hc hn (fun _ _ z => z.elim) ?_
  intro u h1 hq
  obtain ⟨X', rfl⟩ := hQ u h1 hq
  rw [tvo_pre, hX_app (X := X) (r := r), pre_pb (by rw [hX_len, hX_len]), ← hX_app]
  exact k u X' hq
theorem g_oSH (hC : gCt M' d' mc' ms' vs (hX X []) Q' (fun _ _ => False)) (hQ : ∀ v h1, Q' v h1 → ∃ X', h1 = hX X' []) (hd : decode (mC Mt) pc = .ok (.invokestatic idx, 3)) (hlk : gLkSH (mY Mt).cls idx M' na) (hna : vs.length = na) (hsk : sk = vs.reverse ++ rest) (hT : mT Mt = []) (hdd : d' + 1 ≤ d) (hcat : (rest.map fun v => v.category).sum ≤ 8) (hc : c9 + mc' ≤ mc) (hn : n9 + ms' ≤ ms) (hr : rFar r = true) (hls : rLs ls = true) (hrs : rSk rest = true) (hms : mS M' = none ∨ mS M' = mS Mt)
    (k : ∀ u X', Q' u (hX X' []) → G Mt d mc ms h0 Q QX (c9 + mc') (n9 + ms') (pc + 3) ls (u.toList ++ rest) (hX X' r)) : G Mt d mc ms h0 Q QX c9 n9 pc ls sk (hX X r) := by
  have hle : (hX X []).length ≤ 1000 := by rw [hX_len]; decide
  refine g_callSH (hms := hms) (List.range (hX X []).length) hC hd hlk hna (by rw [tv_pre]; exact hsk) (by rw [hX_app]; exact pre_sub hle) (gNn_O hr hls hrs) hT hdd hcat hc hn (fun _ _ z => z.elim) ?_
  intro u h1 hq
  obtain ⟨X', rfl⟩ := hQ u h1 hq
  rw [tvo_pre, hX_app (X := X) (r := r), pre_pb (by rw [hX_len, hX_len]), ← hX_app]
  exact k u X' hq
end
theorem nI_rm {n k : Nat} (hn : n < 2 ^ 31) (hk : k < 2 ^ 31) : nI n - nI (n / k) * nI k = nI (n % k) := by
  rw [← nI_div hn hk]; exact nI_rem hn hk
end LROWS
