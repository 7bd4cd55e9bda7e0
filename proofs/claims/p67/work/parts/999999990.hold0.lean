section HOLD0
set_option maxRecDepth 100000
/-! ### calls that make cells among the law's own -/
section
variable {Mt : gM} {d mc ms : Nat} {h0 : gH} {Q : Option Value → gH → Prop} {QX : String → gH → Prop} {c9 n9 pc : Nat} {ls : List (Option Value)} {rest sk vs : List Value} {r r3 : gH} {X : NsT} {idx na a : Nat} {M' : gM} {d' mc' ms' : Nat} {Q' : Option Value → gH → Prop}
/-- with the object, and the first of the law's places, that it fills -/
theorem g_oPn (hC : gCt M' d' mc' ms' vs (hX X (List.replicate a none)) Q' (fun _ _ => False)) (hQ : ∀ v h1, Q' v h1 → ∃ X' r2, h1 = hX X' r2 ∧ r2.length = a) (ha : a ≤ 500) (hd : decode (mC Mt) pc = .ok (.invokestatic idx, 3)) (hlk : gLkS (mY Mt).cls idx M' na) (hna : vs.length = na) (hsk : sk = vs.reverse ++ rest) (hT : mT Mt = []) (hdd : d' + 1 ≤ d) (hcat : (rest.map fun v => v.category).sum ≤ 8) (hc : c9 + mc' ≤ mc) (hn : n9 + ms' ≤ ms) (hr : rFar (List.replicate a none ++ r3) = true) (hls : rLs ls = true) (hrs : rSk rest = true) (hfr : ∀ j, j < a → gFree (174 + j) ls rest (hX X (List.replicate a none ++ r3))) (hms : mS M' = none ∨ mS M' = mS Mt)
    (k : ∀ u X' r2, Q' u (hX X' r2) → r2.length = a → G Mt d mc ms h0 Q QX (c9 + mc') (n9 + ms') (pc + 3) ls (u.toList ++ rest) (hX X' (r2 ++ r3))) : G Mt d mc ms h0 Q QX c9 n9 pc ls sk (hX X (List.replicate a none ++ r3)) := by
  have hap : ∀ (X : NsT) (r2 : gH), hX X (r2 ++ r3) = hX X r2 ++ r3 := fun X r2 => by rw [hX_app, hX_app (r := r2), List.append_assoc]
  refine g_callS (hms := hms) (List.range (hX X (List.replicate a none)).length) hC hd hlk hna (by rw [tv_pre]; exact hsk) (by rw [hap]; exact pre_sub (by rw [hX_len, List.length_replicate]; omega)) (Or.inr ⟨?_, fun _ _ z => z.elim, fun i hi => ?_⟩) hT hdd hcat hc hn (fun _ _ z => z.elim) ?_
  · intro v h1 _ k' c' _ q h1 h2
    have := List.mem_range.mp h2
    rw [List.length_range] at h1
    omega
  · rw [gRen_id (by rw [List.length_range])]
    have hil := (List.getElem?_eq_some_iff.mp hi).1
    rw [hX_len, List.length_replicate] at hil
    by_cases h174 : i < 174
    · have hp : (hX X (List.replicate a none ++ r3))[i]? = some none := by
        rw [hap, List.getElem?_append_left (by rw [hX_len]; omega)]; exact hi
      obtain ⟨Z, T, B, Y, C, O, S, ZD, TD, BD, YD, c, n, k, v⟩ := X
      exact hW_free h174 hr hp hls hrs
    · obtain ⟨j, rfl⟩ : ∃ j, i = 174 + j := ⟨i - 174, by omega⟩
      exact hfr j (by omega)
  · intro u h1 hq
    obtain ⟨X', r2, rfl, hl⟩ := hQ u h1 hq
    rw [tvo_pre, hap X, pre_pb (by rw [hX_len, hX_len, hl, List.length_replicate]), ← hap]
    exact k u X' r2 hq hl
end
theorem gPb_set {ρ : List Nat} {h h' : gH} {p : Nat} {c : gC} (hs : gSub (ρ ++ [p]) h (h' ++ [none])) (hl : ρ.length = h'.length) (hc : rc (ρ ++ [p]) c = c) : gPb (ρ ++ [p]) (ρ ++ [p]) (h' ++ [some c]) h = h.set p (some c) := by
  have hlt : ∀ k ∈ ρ ++ [p], k < h.length := by
    intro k hk
    obtain ⟨i, hi⟩ := List.getElem?_of_mem hk
    obtain ⟨o, -, q⟩ := hs.back hi
    exact (List.getElem?_eq_some_iff.mp q).1
  have hpl : p < h.length := hlt p (by simp)
  refine List.ext_getElem? (fun j => ?_)
  by_cases hj : j ∈ ρ ++ [p]
  · obtain ⟨i, hi⟩ := List.getElem?_of_mem hj
    obtain ⟨o', q1, q2⟩ := gPb_in (ρ ++ [p]) (ρ ++ [p]) (h' ++ [some c]) h hs.2.1 hlt (by simp [hl]) i j hi
    rw [q2]
    by_cases hi2 : i < ρ.length
    · obtain ⟨o, r1, r2⟩ := hs.back hi
      rw [List.getElem?_append_left (by omega)] at r1 q1
      rw [r1] at q1
      cases q1
      have hne : p ≠ j := by
        rintro rfl
        have h2 : (ρ ++ [p])[ρ.length]? = some p := by rw [List.getElem?_append_right (Nat.le_refl _)]; simp
        have := (List.getElem?_inj (List.getElem?_eq_some_iff.mp hi).1 hs.2.1).mp (hi.trans h2.symm)
        omega
      rw [List.getElem?_set_ne hne, r2]
    · have hlen := (List.getElem?_eq_some_iff.mp hi).1
      rw [List.length_append, List.length_singleton] at hlen
      have hie : i = ρ.length := by omega
      subst hie
      rw [List.getElem?_append_right (Nat.le_refl _), Nat.sub_self] at hi
      cases hi
      rw [List.getElem?_append_right (by omega), hl, Nat.sub_self] at q1
      cases q1
      rw [Option.map_some, hc, List.getElem?_set_self hpl]
  · rw [gPb_out _ _ _ _ _ hj, List.getElem?_set_ne (fun q => hj (by rw [← q]; simp))]
section
variable {Mt : gM} {d mc ms : Nat} {h0 : gH} {Q : Option Value → gH → Prop} {QX : String → gH → Prop} {c9 n9 pc : Nat} {ls : List (Option Value)} {rest sk vs : List Value} {r h' : gH} {X : NsT} {idx na p : Nat} {ps : List Nat} {M' : gM} {d' mc' ms' : Nat} {Q' : Option Value → gH → Prop}
/-- on some of the law's own cells, and one more that it makes and gives back -/
theorem g_farH (hC : gCt M' d' mc' ms' vs (h' ++ [none]) Q' (fun _ _ => False)) (hQ : ∀ u h1, Q' u h1 → u = some (.ref h'.length) ∧ ∃ z, h1 = h' ++ [some (.inr (.inl (0, z)))]) (hs : gSub ((ps ++ [p]).map (174 + ·)) (hX X r) (h' ++ [none])) (hpl : ps.length = h'.length) (hal : h'.all (fun o => o.isSome) = true) (hno : ∀ (q k : Nat) (c : gC), h'.length < q → h'[k]? = some (some c) → gNo q c) (h2 : ps.length ≤ 170) (hd : decode (mC Mt) pc = .ok (.invokestatic idx, 3)) (hlk : gLkS (mY Mt).cls idx M' na) (hna : vs.length = na) (hsk : sk = (vs.map (tv (gRen ((ps ++ [p]).map (174 + ·))))).reverse ++ rest) (hT : mT Mt = []) (hdd : d' + 1 ≤ d) (hcat : (rest.map fun v => v.category).sum ≤ 8) (hc : c9 + mc' ≤ mc) (hn : n9 + ms' ≤ ms) (hfr : gFree (174 + p) ls rest (hX X r)) (hms : mS M' = none ∨ mS M' = mS Mt)
    (k : ∀ z, Q' (some (.ref h'.length)) (h' ++ [some (.inr (.inl (0, z)))]) → G Mt d mc ms h0 Q QX (c9 + mc') (n9 + ms') (pc + 3) ls (.ref (174 + p) :: rest) (hX X (r.set p (some (.inr (.inl (0, z))))))) : G Mt d mc ms h0 Q QX c9 n9 pc ls sk (hX X r) := by
  have hsp : (ps ++ [p]).map (174 + ·) = ps.map (174 + ·) ++ [174 + p] := by rw [List.map_append]; rfl
  have hre : gRen ((ps ++ [p]).map (174 + ·)) h'.length = 174 + p := by
    refine gRen_at ?_
    rw [hsp, List.getElem?_append_right (by rw [List.length_map]; omega), List.length_map, hpl, Nat.sub_self]; rfl
  refine g_callS (hms := hms) ((ps ++ [p]).map (174 + ·)) hC hd hlk hna hsk hs (Or.inr ⟨?_, fun _ _ z => z.elim, fun i hi => ?_⟩) hT hdd hcat hc hn (fun _ _ z => z.elim) ?_
  · intro v h1 hq k' c' hk q h3 h4
    obtain ⟨-, z, rfl⟩ := hQ v h1 hq
    rw [List.length_map, List.length_append, List.length_singleton] at h3
    by_cases hk2 : k' < h'.length
    · rw [List.getElem?_append_left hk2] at hk
      exact hno q k' c' (by omega) hk
    · rw [List.getElem?_append_right (by omega)] at hk
      rcases hz : k' - h'.length with _ | j <;> rw [hz] at hk <;> cases hk
      trivial
  · by_cases hi2 : i < h'.length
    · rw [List.getElem?_append_left hi2] at hi
      exact absurd hi (gAllS hal i)
    · have hil := (List.getElem?_eq_some_iff.mp hi).1
      rw [List.length_append, List.length_singleton] at hil
      rw [show i = h'.length by omega, hre]
      exact hfr
  · intro u h1 hq
    obtain ⟨rfl, z, rfl⟩ := hQ u h1 hq
    have e : gPb ((ps ++ [p]).map (174 + ·)) ((ps ++ [p]).map (174 + ·)) (h' ++ [some (.inr (.inl (0, z)))]) (hX X r) = hX X (r.set p (some (.inr (.inl (0, z))))) := by
      rw [hsp] at hs ⊢
      rw [gPb_set hs (by rw [List.length_map, hpl]) rfl, hX_set]
    rw [e]
    show G _ _ _ _ _ _ _ _ _ _ _ (.ref (gRen ((ps ++ [p]).map (174 + ·)) h'.length) :: rest) _
    rw [hre]
    exact k z hq
end
theorem rhoB_e {n : Nat} {ts : List Nat} : (List.range (n + 1) ++ ts).map (174 + ·) = rhoB n ++ ts.map (174 + ·) := by
  rw [List.map_append]; rfl
theorem bkF_subH {os : List Od} {X : NsT} {r3 tc : gH} {ts : List Nat} (h20 : os.length ≤ 20) (ht : ts.map (fun p => (bkF os ++ r3)[p]?) = tc.map some) (hc : ∀ c, some c ∈ tc → ∃ z, c = cIA z) (hnd : (List.range (os.length + 1) ++ ts).Nodup) (hts : ∀ p ∈ ts, p < 500) : gSub ((List.range (os.length + 1) ++ ts).map (174 + ·)) (hX X (bkF os ++ r3)) (bkH os ++ tc) := by
  refine far_sub ?_ hnd (fun p hp => ?_)
  · rw [List.map_append, List.map_append]
    congr 1
    · refine List.ext_getElem? (fun i => ?_)
      rw [List.getElem?_map, List.getElem?_map]
      by_cases hi : i < os.length + 1
      · rw [List.getElem?_range hi, List.getElem?_eq_getElem (by rw [bkH_len]; exact hi)]
        show some ((bkF os ++ r3)[i]?) = some (some (((bkH os)[i]'(by rw [bkH_len]; exact hi)).map (rc _)))
        rw [List.getElem?_append_left (by rw [bkF_len]; exact hi)]
        have e : (bkF os)[i]? = some (((bkH os)[i]'(by rw [bkH_len]; exact hi)).map (rc (rhoB os.length))) := by
          unfold bkF
          rw [List.getElem?_map, List.getElem?_eq_getElem (by rw [bkH_len]; exact hi)]; rfl
        rw [e]
        congr 2
        have hm : (bkH os)[i]'(by rw [bkH_len]; exact hi) ∈ bkH os := List.getElem_mem _
        revert hm
        generalize (bkH os)[i]'(by rw [bkH_len]; exact hi) = o
        intro hm
        unfold bkH at hm
        rcases List.mem_cons.mp hm with rfl | hm
        · show (some (.inr (.inr (.inr ((outL os.length).map (Option.map (gRen (rhoB os.length))))))) : Option gC) = some (.inr (.inr (.inr ((outL os.length).map (Option.map (gRen ((List.range (os.length + 1) ++ ts).map (174 + ·))))))))
          have e : (outL os.length).map (Option.map (gRen (rhoB os.length))) = (outL os.length).map (Option.map (gRen ((List.range (os.length + 1) ++ ts).map (174 + ·)))) := by
            refine List.map_congr_left (fun o ho => ?_)
            unfold outL at ho
            obtain ⟨j, hj, rfl⟩ := List.mem_map.mp ho
            have hj := List.mem_range.mp hj
            show some (gRen (rhoB os.length) (j + 1)) = some (gRen _ (j + 1))
            rw [rhoB_at (by omega), rhoB_e]
            congr 1
            refine (gRen_at ?_).symm
            rw [List.getElem?_append_left (by unfold rhoB; rw [List.length_map, List.length_range]; omega)]
            unfold rhoB
            rw [List.getElem?_map, List.getElem?_range (by omega)]; rfl
          rw [e]
        · obtain ⟨o', -, rfl⟩ := List.mem_map.mp hm
          rfl
      · rw [List.getElem?_eq_none (by rw [List.length_range]; omega), List.getElem?_eq_none (by rw [bkH_len]; omega)]; rfl
    · rw [ht]
      refine List.map_congr_left (fun o ho => ?_)
      cases o with
      | none => rfl
      | some c =>
        obtain ⟨z, rfl⟩ := hc c ho
        rfl
  · rcases List.mem_append.mp hp with hp | hp
    · have := List.mem_range.mp hp; omega
    · exact hts p hp
end HOLD0
