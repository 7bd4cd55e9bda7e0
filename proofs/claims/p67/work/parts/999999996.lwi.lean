section LWI
set_option maxRecDepth 100000
/-! ### the law's invariant: what is held is never more than what is there -/
theorem Fil_tp {os : List Od} {w rule b y : Nat} (hw : w ≤ 1) (h : 0 < Fil os w rule (vol os b) os.length y) (hs : oS (oa os y) = w) : (w = 0 → b ≤ oL (oa os y)) ∧ (w = 1 → oL (oa os y) ≤ b) := by
  by_cases ht : tp os w b y = true
  · rw [tp_i] at ht
    refine ⟨fun z => ?_, fun z => ?_⟩ <;> omega
  · exfalso
    have key : vol os b ≤ ss os w (fun z => bet os w z y) os.length := by
      refine Nat.le_trans (vol_tp hw) (ss_mono _ (fun z _ hzs hzt => ?_))
      show bet os w z y = true
      rw [bet_i]
      rw [tp_i] at hzt ht
      omega
    have key2 : vol os b ≤ ss os w (fun z => ahd os w z y) os.length := Nat.le_trans key (ss_mono _ (fun z _ _ h => by
      show ahd os w z y = true
      unfold ahd
      rw [h]; rfl))
    unfold Fil at h
    split at h
    · rw [Nat.sub_eq_zero_of_le key, fG_0] at h; omega
    · omega
theorem FilA_tp {os : List Od} {rule b y : Nat} (hs : oS (oa os y) ≤ 1) (h : 0 < FilA os rule (vol os b) y) : (oS (oa os y) = 0 → b ≤ oL (oa os y)) ∧ (oS (oa os y) = 1 → oL (oa os y) ≤ b) := by
  unfold FilA at h
  split at h
  · have := Fil_tp hs h rfl
    exact this
  · omega
def Hld (ts : List Tr) (os : List Od) (cf gf : Nat → Nat) : Prop := ∀ t, t < ts.length → (ta ts t).2.1 = nI (cf t) ∧ (ta ts t).2.2 = nI (gf t) ∧ heldC os t ≤ cf t ∧ heldG os t ≤ gf t
def sN (f : Nat → Nat) : Nat → Nat
  | 0 => 0
  | k + 1 => sN f k + f k
def upF (f : Nat → Nat) (t x : Nat) : Nat → Nat := fun i => if i = t then x else f i
theorem sN_up {f : Nat → Nat} {t x : Nat} : ∀ n, sN (upF f t x) n + (if t < n then f t else 0) = sN f n + (if t < n then x else 0) := by
  intro n
  induction n with
  | zero => rfl
  | succ n ih =>
    show sN (upF f t x) n + (if n = t then x else f n) + _ = sN f n + f n + _
    by_cases h : n = t
    · subst h
      rw [if_neg (by omega), if_neg (by omega)] at ih
      rw [if_pos rfl, if_pos (by omega), if_pos (by omega)]; omega
    · rw [if_neg h]
      by_cases h2 : t < n
      · rw [if_pos h2, if_pos h2] at ih
        rw [if_pos (by omega), if_pos (by omega)]; omega
      · rw [if_neg h2, if_neg h2] at ih
        rw [if_neg (by omega), if_neg (by omega)]; omega
theorem sN_le {f : Nat → Nat} {t : Nat} : ∀ n, t < n → f t ≤ sN f n := by
  intro n
  induction n with
  | zero => intro h; omega
  | succ n ih =>
    intro h
    show f t ≤ sN f n + f n
    by_cases e : t = n
    · subst e; omega
    · have := ih (by omega); omega
theorem sN_c {f g : Nat → Nat} : ∀ n, (∀ k, k < n → f k = g k) → sN f n = sN g n := by
  intro n
  induction n with
  | zero => intro _; rfl
  | succ n ih =>
    intro h
    show sN f n + f n = sN g n + g n
    rw [ih (fun k hk => h k (by omega)), h n (by omega)]
theorem ta_s {ts : List Tr} {k : Nat} (h : k < ts.length) : ts[k]? = some (ta ts k) := by
  unfold ta
  rw [List.getD_eq_getElem?_getD, List.getElem?_eq_getElem h]; rfl
theorem ta_trU {ts : List Tr} {t i : Nat} {a b : Int32} (h : t < ts.length) (hi : i < ts.length) : ta (trU ts t a b) i = if i = t then ((ta ts t).1, (ta ts t).2.1 + a, (ta ts t).2.2 + b) else ta ts i := by
  rw [trU_s (ta_s h)]
  by_cases e : i = t
  · subst e
    rw [if_pos rfl]
    unfold ta
    rw [List.getD_eq_getElem?_getD, List.getElem?_set_self h]; rfl
  · rw [if_neg e]
    unfold ta
    rw [List.getD_eq_getElem?_getD, List.getElem?_set_ne (by omega), ← List.getD_eq_getElem?_getD]
theorem sum_tk {ts : List Tr} {cf gf : Nat → Nat} (h : ∀ t, t < ts.length → (ta ts t).2.1 = nI (cf t) ∧ (ta ts t).2.2 = nI (gf t)) : ∀ n, n ≤ ts.length → sumC (ts.take n) = nI (sN cf n) ∧ sumG (ts.take n) = nI (sN gf n) := by
  intro n
  induction n with
  | zero => intro _; exact ⟨rfl, rfl⟩
  | succ n ih =>
    intro hn
    obtain ⟨i1, i2⟩ := ih (by omega)
    obtain ⟨h1, h2⟩ := h n (by omega)
    have e : ts.take (n + 1) = ts.take n ++ [ta ts n] := by rw [List.take_succ, ta_s (by omega)]; rfl
    rw [e, sumC_app, sumG_app, i1, i2]
    refine ⟨?_, ?_⟩
    · show _ + ((ta ts n).2.1 + 0) = nI (sN cf n + cf n)
      rw [h1, Int32.add_zero, nI_add]
    · show _ + ((ta ts n).2.2 + 0) = nI (sN gf n + gf n)
      rw [h2, Int32.add_zero, nI_add]
theorem Hld.sum {ts : List Tr} {os : List Od} {cf gf : Nat → Nat} (h : Hld ts os cf gf) : sumC ts = nI (sN cf ts.length) ∧ sumG ts = nI (sN gf ts.length) := by
  have := sum_tk (fun t ht => ⟨(h t ht).1, (h t ht).2.1⟩) ts.length (Nat.le_refl _)
  rwa [List.take_length] at this
theorem held_set {os : List Od} {k t : Nat} {o' : Od} (hk : k < os.length) : heldC (os.set k o') t + heldC [oa os k] t = heldC os t + heldC [o'] t ∧ heldG (os.set k o') t + heldG [oa os k] t = heldG os t + heldG [o'] t := by
  have e1 : os = os.take k ++ ([oa os k] ++ os.drop (k + 1)) := by
    rw [← List.append_assoc, ← take_oa hk, List.take_append_drop]
  have e2 : os.set k o' = os.take k ++ ([o'] ++ os.drop (k + 1)) := by
    rw [List.set_eq_take_append_cons_drop, if_pos hk]; rfl
  rw [e2]
  have f1 : heldC os t = heldC (os.take k) t + (heldC [oa os k] t + heldC (os.drop (k + 1)) t) := by
    rw [← heldC_app, ← heldC_app, ← e1]
  have f2 : heldG os t = heldG (os.take k) t + (heldG [oa os k] t + heldG (os.drop (k + 1)) t) := by
    rw [← heldG_app, ← heldG_app, ← e1]
  rw [f1, f2, heldC_app, heldC_app, heldG_app, heldG_app]
  omega
theorem held_sub {os os' : List Od} {t : Nat} (h : os'.Sublist os) : heldC os' t ≤ heldC os t ∧ heldG os' t ≤ heldG os t := by
  induction h with
  | slnil => exact ⟨Nat.le_refl _, Nat.le_refl _⟩
  | cons o _ ih => simp only [heldC, heldG]; omega
  | cons_cons o _ ih => simp only [heldC, heldG]; omega
theorem Hld.sub {ts : List Tr} {os os' : List Od} {cf gf : Nat → Nat} (h : Hld ts os cf gf) (hs : os'.Sublist os) : Hld ts os' cf gf := fun t ht => by
  obtain ⟨h1, h2, h3, h4⟩ := h t ht
  have := held_sub (t := t) hs
  exact ⟨h1, h2, by omega, by omega⟩
theorem held_1 {o : Od} {t : Nat} : heldC [o] t = (if oT o = t ∧ oS o = 0 then oL o * oQ o else 0) ∧ heldG [o] t = (if oT o = t ∧ oS o = 1 then oQ o else 0) := ⟨by simp [heldC], by simp [heldG]⟩
theorem odQ_f {o : Od} {q : Nat} : oT (odQ o q) = oT o ∧ oS (odQ o q) = oS o ∧ oL (odQ o q) = oL o ∧ oQ (odQ o q) = q := ⟨rfl, rfl, rfl, rfl⟩
theorem Hld.buy {ts : List Tr} {os : List Od} {cf gf : Nat → Nat} {k f b : Nat} (h : Hld ts os cf gf) (hk : k < os.length) (ht : oT (oa os k) < ts.length) (hf : f ≤ oQ (oa os k)) (hs : oS (oa os k) = 0) (hb : 0 < f → b ≤ oL (oa os k)) :
    f * b ≤ cf (oT (oa os k)) ∧ Hld (trU ts (oT (oa os k)) (-(nI f * nI b)) (nI f)) (os.set k (odQ (oa os k) (oQ (oa os k) - f))) (upF cf (oT (oa os k)) (cf (oT (oa os k)) - f * b)) (upF gf (oT (oa os k)) (gf (oT (oa os k)) + f)) := by
  have hle : f * b ≤ f * oL (oa os k) := by
    rcases Nat.eq_zero_or_pos f with h0 | h0
    · rw [h0, Nat.zero_mul, Nat.zero_mul]; omega
    · exact Nat.mul_le_mul_left _ (hb h0)
  have hlf : f * oL (oa os k) ≤ oL (oa os k) * oQ (oa os k) := by rw [Nat.mul_comm]; exact Nat.mul_le_mul_left _ hf
  have hsp : oL (oa os k) * (oQ (oa os k) - f) = oL (oa os k) * oQ (oa os k) - f * oL (oa os k) := by rw [Nat.mul_sub, Nat.mul_comm f]
  have hle1 : ∀ t, heldC [oa os k] t ≤ heldC os t := fun t => by
    have e1 : os = os.take k ++ ([oa os k] ++ os.drop (k + 1)) := by
      rw [← List.append_assoc, ← take_oa hk, List.take_append_drop]
    have f1 : heldC os t = heldC (os.take k) t + (heldC [oa os k] t + heldC (os.drop (k + 1)) t) := by
      rw [← heldC_app, ← heldC_app, ← e1]
    omega
  obtain ⟨t1, t2, t3, t4⟩ := h _ ht
  have q1 := hle1 (oT (oa os k))
  have q2 : heldC [oa os k] (oT (oa os k)) = oL (oa os k) * oQ (oa os k) := by rw [held_1.1, if_pos ⟨rfl, hs⟩]
  have q3 : f * b ≤ cf (oT (oa os k)) := by omega
  refine ⟨q3, fun i hi => ?_⟩
  rw [trU_len] at hi
  rw [ta_trU ht hi]
  have hset := held_set (os := os) (k := k) (t := i) (o' := odQ (oa os k) (oQ (oa os k) - f)) hk
  obtain ⟨hC, hG⟩ := hset
  rw [held_1.1, held_1.1, odQ_f.1, odQ_f.2.1, odQ_f.2.2.1, odQ_f.2.2.2] at hC
  rw [held_1.2, held_1.2, odQ_f.1, odQ_f.2.1, odQ_f.2.2.2] at hG
  have n01 : oS (oa os k) ≠ 1 := by omega
  rw [if_neg (fun z => n01 z.2), if_neg (fun z => n01 z.2)] at hG
  unfold upF
  by_cases e : i = oT (oa os k)
  · subst e
    rw [if_pos rfl, if_pos rfl, if_pos rfl]
    rw [if_pos ⟨rfl, hs⟩, if_pos ⟨rfl, hs⟩, hsp] at hC
    refine ⟨?_, ?_, ?_, ?_⟩
    · show (ta ts _).2.1 + -(nI f * nI b) = _
      rw [t1, show nI f * nI b = nI (f * b) from pk_mul _ _, ← Int32.sub_eq_add_neg, nI_sub q3]
    · show (ta ts _).2.2 + nI f = _
      rw [t2, nI_add]
    · omega
    · omega
  · rw [if_neg e, if_neg e, if_neg e]
    rw [if_neg (fun z => e z.1.symm), if_neg (fun z => e z.1.symm)] at hC
    obtain ⟨i1, i2, i3, i4⟩ := h i hi
    exact ⟨i1, i2, by omega, by omega⟩
theorem Hld.sell {ts : List Tr} {os : List Od} {cf gf : Nat → Nat} {k f b : Nat} (h : Hld ts os cf gf) (hk : k < os.length) (ht : oT (oa os k) < ts.length) (hf : f ≤ oQ (oa os k)) (hs : oS (oa os k) = 1) :
    f ≤ gf (oT (oa os k)) ∧ Hld (trU ts (oT (oa os k)) (nI f * nI b) (-nI f)) (os.set k (odQ (oa os k) (oQ (oa os k) - f))) (upF cf (oT (oa os k)) (cf (oT (oa os k)) + f * b)) (upF gf (oT (oa os k)) (gf (oT (oa os k)) - f)) := by
  have hle1 : ∀ t, heldG [oa os k] t ≤ heldG os t := fun t => by
    have e1 : os = os.take k ++ ([oa os k] ++ os.drop (k + 1)) := by
      rw [← List.append_assoc, ← take_oa hk, List.take_append_drop]
    have f1 : heldG os t = heldG (os.take k) t + (heldG [oa os k] t + heldG (os.drop (k + 1)) t) := by
      rw [← heldG_app, ← heldG_app, ← e1]
    omega
  obtain ⟨t1, t2, t3, t4⟩ := h _ ht
  have q1 := hle1 (oT (oa os k))
  have q2 : heldG [oa os k] (oT (oa os k)) = oQ (oa os k) := by rw [held_1.2, if_pos ⟨rfl, hs⟩]
  have q3 : f ≤ gf (oT (oa os k)) := by omega
  refine ⟨q3, fun i hi => ?_⟩
  rw [trU_len] at hi
  rw [ta_trU ht hi]
  have hset := held_set (os := os) (k := k) (t := i) (o' := odQ (oa os k) (oQ (oa os k) - f)) hk
  obtain ⟨hC, hG⟩ := hset
  rw [held_1.1, held_1.1, odQ_f.1, odQ_f.2.1, odQ_f.2.2.1, odQ_f.2.2.2] at hC
  rw [held_1.2, held_1.2, odQ_f.1, odQ_f.2.1, odQ_f.2.2.2] at hG
  have n01 : oS (oa os k) ≠ 0 := by omega
  rw [if_neg (fun z => n01 z.2), if_neg (fun z => n01 z.2)] at hC
  unfold upF
  by_cases e : i = oT (oa os k)
  · subst e
    rw [if_pos rfl, if_pos rfl, if_pos rfl]
    rw [if_pos ⟨rfl, hs⟩, if_pos ⟨rfl, hs⟩] at hG
    refine ⟨?_, ?_, ?_, ?_⟩
    · show (ta ts _).2.1 + nI f * nI b = _
      rw [t1, show nI f * nI b = nI (f * b) from pk_mul _ _, nI_add]
    · show (ta ts _).2.2 + -nI f = _
      rw [t2, ← Int32.sub_eq_add_neg, nI_sub q3]
    · omega
    · omega
  · rw [if_neg e, if_neg e, if_neg e]
    rw [if_neg (fun z => e z.1.symm), if_neg (fun z => e z.1.symm)] at hG
    obtain ⟨i1, i2, i3, i4⟩ := h i hi
    exact ⟨i1, i2, by omega, by omega⟩
theorem Hld.trade {ts : List Tr} {os : List Od} {cf gf f : Nat → Nat} {b : Nat} (h : Hld ts os cf gf) (hos : ∀ o ∈ os, oS o ≤ 1) (ht : ∀ o ∈ os, oT o < ts.length) (hf : ∀ k, f k ≤ qa os k) (hb : ∀ k, k < os.length → 0 < f k → oS (oa os k) = 0 → b ≤ oL (oa os k)) : ∀ n, n ≤ os.length → ∃ cf' gf', Hld (tsF os f (nI b) ts n) (osF os f n) cf' gf' ∧ sN cf' ts.length + sf os 0 f n * b = sN cf ts.length + sf os 1 f n * b ∧ sN gf' ts.length + sf os 1 f n = sN gf ts.length + sf os 0 f n := by
  intro n
  induction n with
  | zero =>
    intro _
    exact ⟨cf, gf, h, rfl, rfl⟩
  | succ n ih =>
    intro hn
    obtain ⟨cf', gf', i1, i2, i3⟩ := ih (by omega)
    have hn' : n < os.length := by omega
    have e : oa (osF os f n) n = oa os n := by
      unfold oa
      rw [List.getD_eq_getElem?_getD, osF_hi n n (Nat.le_refl _), ← List.getD_eq_getElem?_getD]
    have hs := hos _ (oa_mem hn')
    have hto := ht _ (oa_mem hn')
    have hfn : f n ≤ oQ (oa os n) := hf n
    show ∃ cf' gf', Hld (trU (tsF os f (nI b) ts n) (oT (oa os n)) (if oS (oa os n) = 0 then -(nI (f n) * nI b) else nI (f n) * nI b) (if oS (oa os n) = 0 then nI (f n) else -nI (f n))) ((osF os f n).set n (odQ (oa os n) (oQ (oa os n) - f n))) cf' gf' ∧ sN cf' ts.length + (sf os 0 f n + if oS (oa os n) = 0 then f n else 0) * b = sN cf ts.length + (sf os 1 f n + if oS (oa os n) = 1 then f n else 0) * b ∧ sN gf' ts.length + (sf os 1 f n + if oS (oa os n) = 1 then f n else 0) = sN gf ts.length + (sf os 0 f n + if oS (oa os n) = 0 then f n else 0)
    rcases (show oS (oa os n) = 0 ∨ oS (oa os n) = 1 by omega) with h0 | h0
    · obtain ⟨j1, j2⟩ := i1.buy (k := n) (f := f n) (b := b) (by rw [osF_len]; exact hn') (by rw [e, tsF_len]; exact hto) (by rw [e]; exact hfn) (by rw [e]; exact h0) (by rw [e]; exact fun z => hb n hn' z h0)
      rw [e] at j1 j2
      refine ⟨_, _, by rw [if_pos h0, if_pos h0]; exact j2, ?_, ?_⟩
      · have := sN_up (f := cf') (t := oT (oa os n)) (x := cf' (oT (oa os n)) - f n * b) ts.length
        rw [if_pos hto, if_pos hto] at this
        rw [if_pos h0, if_neg (by omega), Nat.add_mul, Nat.add_zero]
        omega
      · have := sN_up (f := gf') (t := oT (oa os n)) (x := gf' (oT (oa os n)) + f n) ts.length
        rw [if_pos hto, if_pos hto] at this
        rw [if_pos h0, if_neg (by omega)]
        omega
    · obtain ⟨j1, j2⟩ := i1.sell (k := n) (f := f n) (b := b) (by rw [osF_len]; exact hn') (by rw [e, tsF_len]; exact hto) (by rw [e]; exact hfn) (by rw [e]; exact h0)
      rw [e] at j1 j2
      have n0 : oS (oa os n) ≠ 0 := by omega
      refine ⟨_, _, by rw [if_neg n0, if_neg n0]; exact j2, ?_, ?_⟩
      · have := sN_up (f := cf') (t := oT (oa os n)) (x := cf' (oT (oa os n)) + f n * b) ts.length
        rw [if_pos hto, if_pos hto] at this
        rw [if_pos h0, if_neg n0, Nat.add_zero, Nat.add_mul]
        omega
      · have := sN_up (f := gf') (t := oT (oa os n)) (x := gf' (oT (oa os n)) - f n) ts.length
        rw [if_pos hto, if_pos hto] at this
        rw [if_pos h0, if_neg n0]
        omega
/-- what the law keeps: no order is empty, all is there, nothing is owed -/
def LwI (A : MkA) (n : Nat) : Prop := (∀ o ∈ A.2.2.1, 1 ≤ oQ o) ∧ ∃ cf gf, Hld A.2.1 A.2.2.1 cf gf ∧ A.2.2.2.2.2.2.2.2.2.1 = nI (sN cf A.2.1.length) ∧ A.2.2.2.2.2.2.2.2.2.2.1 = nI (sN gf A.2.1.length) ∧ sN cf A.2.1.length ≤ 500000 + 100000 * n ∧ sN gf A.2.1.length ≤ 1500
theorem LwI.mono {A : MkA} {n n' : Nat} (h : LwI A n) (hn : n ≤ n') : LwI A n' := by
  obtain ⟨h1, cf, gf, h2, h3, h4, h5, h6⟩ := h
  exact ⟨h1, cf, gf, h2, h3, h4, by omega, h6⟩
theorem LwI.late {A : MkA} {n : Nat} (h : LwI A n) : LwI (lateA A) n := by
  obtain ⟨h1, cf, gf, h2, h3, h4, h5, h6⟩ := h
  exact ⟨fun o ho => h1 o (List.mem_filter.mp ho).1, cf, gf, h2.sub List.filter_sublist, h3, h4, h5, h6⟩
theorem LwI.cry3 {Z : MhT} {ts : List Tr} {os : List Od} {nn : Int32} {Y : TaT} {v pr : Int32} {n : Nat} {cf gf : Nat → Nat} (h1 : ∀ o ∈ os, 1 ≤ oQ o) (h2 : Hld ts os cf gf) (h3 : Y.2.2.2.2.2.1 = nI (sN cf ts.length)) (h4 : Y.2.2.2.2.2.2.1 = nI (sN gf ts.length)) (h5 : sN cf ts.length ≤ 500000 + 100000 * n) (h6 : sN gf ts.length ≤ 1500) : LwI (Z, ts, os, nn, taT Y v pr) n := ⟨h1, cf, gf, h2, h3, h4, h5, h6⟩
theorem LwI.cry2 {Z : MhT} {ts : List Tr} {os : List Od} {nn : Int32} {a b c d e : Int32} {f : Int32 × Int32 × Int64} {n : Nat} {cf gf : Nat → Nat} (h1 : ∀ o ∈ os, 1 ≤ oQ o) (h2 : Hld ts os cf gf) (h3 : f.1 = nI (sN cf ts.length)) (h4 : f.2.1 = nI (sN gf ts.length)) (h5 : sN cf ts.length ≤ 500000 + 100000 * n) (h6 : sN gf ts.length ≤ 1500) : LwI (Z, ts, os, nn, (a, b, c, d, e, f)) n := ⟨h1, cf, gf, h2, h3, h4, h5, h6⟩
theorem LwI.head {A A' : MkA} {n : Nat} (h : LwI A n) (e : A'.2 = A.2) : LwI A' n := by
  unfold LwI at h ⊢
  rw [e]; exact h
theorem LwI.cry {A : MkA} {n m : Nat} (h : LwI A n) (hI : Inv A m) : LwI (cryA A).1 n := by
  have h0 := h
  obtain ⟨h1, cf, gf, h2, h3, h4, h5, h6⟩ := h
  obtain ⟨-, -, ⟨rule, eR, hr⟩, -, hoT⟩ := hI.1
  have hcd : ∀ o ∈ A.2.2.1, CdOk o := hI.2.2.2.2.1
  unfold cryA
  simp only []
  by_cases hb : bst A.2.2.1 (nat A.1.2.1) = 0
  · rw [if_pos hb]; exact h0
  · rw [if_neg hb]
    by_cases hst : stp A.1 (nI (bst A.2.2.1 (nat A.1.2.1))) = true
    · rw [if_pos hst]
      exact LwI.cry2 h1 h2 h3 h4 h5 h6
    · rw [if_neg hst]
      have hv : 0 < vol A.2.2.1 (bst A.2.2.1 (nat A.1.2.1)) := by
        rcases bst_b A.2.2.1 (nat A.1.2.1) with ⟨h, -⟩ | ⟨-, -, h, -⟩
        · exact absurd h hb
        · exact h
      have hnr : nat A.1.2.2.2.1 = rule := by rw [eR, nat_nI (by omega)]
      obtain ⟨cf', gf', k1, k2, k3⟩ := h2.trade (f := FilA A.2.2.1 (nat A.1.2.2.2.1) (vol A.2.2.1 (bst A.2.2.1 (nat A.1.2.1)))) (b := bst A.2.2.1 (nat A.1.2.1)) (fun o ho => (hcd o ho).1) hoT (fun k => FilA_le) (fun k hk hp hs => (FilA_tp (by rw [hs]; omega) hp).1 hs) A.2.2.1.length (Nat.le_refl _)
      have s0 := sf_FilA (os := A.2.2.1) (w := 0) (rule := nat A.1.2.2.2.1) (b := bst A.2.2.1 (nat A.1.2.1)) (by decide) (by rw [hnr]; exact hr) hv
      have s1 := sf_FilA (os := A.2.2.1) (w := 1) (rule := nat A.1.2.2.2.1) (b := bst A.2.2.1 (nat A.1.2.1)) (by decide) (by rw [hnr]; exact hr) hv
      rw [s0, s1] at k2 k3
      have k2 := Nat.add_right_cancel k2
      have k3 := Nat.add_right_cancel k3
      refine LwI.cry3 (cf := cf') (gf := gf') (fun o ho => ?_) (k1.sub List.filter_sublist) ?_ ?_ ?_ ?_
      · have := (List.mem_filter.mp ho).2
        have : oQ o ≠ 0 := by simpa using this
        omega
      · rw [tsF_len, k2]; exact h3
      · rw [tsF_len, k3]; exact h4
      · rw [tsF_len, k2]; exact h5
      · rw [tsF_len, k3]; exact h6
theorem LwI.min {A : MkA} {n m : Nat} (h : LwI A n) (hI : Inv A m) : LwI (minA A) n := by
  unfold minA
  split
  · exact h.late.cry hI.late
  · exact h.late
theorem LwI.pas : ∀ (k : Nat) {A : MkA} {n m : Nat}, LwI A n → Inv A m → m ≤ 2000 → LwI (pasA k A) n := by
  intro k
  induction k with
  | zero => intro A n m h _ _; exact h
  | succ k ih => intro A n m h hI hm; exact ih (h.min hI) (hI.min hm) hm
theorem LwI.drp {A : MkA} {n k : Nat} (h : LwI A n) : LwI (drpA A k) n := by
  obtain ⟨h1, cf, gf, h2, h3, h4, h5, h6⟩ := h
  exact ⟨fun o ho => h1 o (List.mem_of_mem_eraseIdx ho), cf, gf, h2.sub (List.eraseIdx_sublist _ _), h3, h4, h5, h6⟩
theorem LwI.pay {A : MkA} {n t x : Nat} (h : LwI A n) (ht : t < A.2.1.length) (hx : x ≤ 99999) : LwI (payA A t (nI x)) (n + 1) := by
  obtain ⟨h1, cf, gf, h2, h3, h4, h5, h6⟩ := h
  have hs := sN_up (f := cf) (t := t) (x := cf t + x) A.2.1.length
  rw [if_pos ht, if_pos ht] at hs
  have hl : (payA A t (nI x)).2.1.length = A.2.1.length := trU_len
  have hs2 : sN (upF cf t (cf t + x)) A.2.1.length = sN cf A.2.1.length + x := by omega
  refine ⟨h1, upF cf t (cf t + x), gf, fun i hi => ?_, ?_, ?_, ?_, ?_⟩
  · rw [hl] at hi
    obtain ⟨i1, i2, i3, i4⟩ := h2 i hi
    show (ta (trU A.2.1 t (nI x) 0) i).2.1 = _ ∧ (ta (trU A.2.1 t (nI x) 0) i).2.2 = _ ∧ heldC A.2.2.1 i ≤ _ ∧ heldG A.2.2.1 i ≤ _
    rw [ta_trU ht hi]
    unfold upF
    by_cases e : i = t
    · subst e
      rw [if_pos rfl, if_pos rfl]
      refine ⟨?_, ?_, by omega, i4⟩
      · show (ta A.2.1 i).2.1 + nI x = _
        rw [i1, nI_add]
      · show (ta A.2.1 i).2.2 + 0 = _
        rw [i2, Int32.add_zero]
    · rw [if_neg e, if_neg e]
      exact ⟨i1, i2, i3, i4⟩
  · show A.2.2.2.2.2.2.2.2.2.1 + nI x = nI (sN _ (payA A t (nI x)).2.1.length)
    rw [hl, h3, nI_add, hs2]
  · show A.2.2.2.2.2.2.2.2.2.2.1 = nI (sN _ (payA A t (nI x)).2.1.length)
    rw [hl]; exact h4
  · rw [hl, hs2]; omega
  · rw [hl]; exact h6
theorem LwI.ord {A : MkA} {n t s p q mm : Nat} (h : LwI A n) (hn : n ≤ 100) (ht : t < A.2.1.length) (h8 : A.2.1.length ≤ 8) (hs : s ≤ 1) (hp : p ≤ 999) (hq1 : 1 ≤ q) (hq : q ≤ 99) (hr : rfB A (nI t) (nI s) (nI p) (nI q) = true) : LwI (ordA A t s p q (nI mm)) n := by
  obtain ⟨h1, cf, gf, h2, h3, h4, h5, h6⟩ := h
  unfold rfB at hr
  rw [decide_eq_true_iff, nat_nI (by omega), nat_nI (by omega), nat_nI (by omega), nat_nI (by omega)] at hr
  have hct : cf t ≤ 10500000 := by have := sN_le (f := cf) _ ht; omega
  have hgt : gf t ≤ 1500 := by have := sN_le (f := gf) _ ht; omega
  have hpq : p * q ≤ 999 * 99 := Nat.mul_le_mul hp hq
  obtain ⟨t1, t2, t3, t4⟩ := h2 t ht
  unfold rfs at hr
  rw [t1, t2, nI_sub t3, nI_sub t4] at hr
  simp only [nI_ltI (show cf t - heldC A.2.2.1 t < 2 ^ 31 by omega) (show p * q < 2 ^ 31 by omega), nI_ltI (show gf t - heldG A.2.2.1 t < 2 ^ 31 by omega) (show q < 2 ^ 31 by omega)] at hr
  refine ⟨fun o ho => ?_, cf, gf, fun i hi => ?_, h3, h4, h5, h6⟩
  · rcases List.mem_append.mp ho with z | z
    · exact h1 o z
    · rw [List.mem_singleton.mp z]; exact hq1
  · obtain ⟨i1, i2, i3, i4⟩ := h2 i hi
    refine ⟨i1, i2, ?_, ?_⟩
    · show heldC (A.2.2.1 ++ [(A.2.2.2.1, t, s, p, q, A.1.1 + nI mm)]) i ≤ cf i
      rw [heldC_app, held_1.1]
      show _ + (if t = i ∧ s = 0 then p * q else 0) ≤ _
      by_cases e : t = i ∧ s = 0
      · rw [if_pos e]
        obtain ⟨e1, e2⟩ := e
        subst e1
        rw [if_pos e2] at hr
        split at hr
        · omega
        · split at hr
          · omega
          · omega
      · rw [if_neg e]; omega
    · show heldG (A.2.2.1 ++ [(A.2.2.2.1, t, s, p, q, A.1.1 + nI mm)]) i ≤ gf i
      rw [heldG_app, held_1.2]
      show _ + (if t = i ∧ s = 1 then q else 0) ≤ _
      by_cases e : t = i ∧ s = 1
      · rw [if_pos e]
        obtain ⟨e1, e2⟩ := e
        subst e1
        rw [if_neg (show ¬ s = 0 by omega)] at hr
        split at hr
        · omega
        · split at hr
          · omega
          · omega
      · rw [if_neg e]; omega
theorem StepR.el {P : MkA → Prop} {A A' : MkA} (h : StepR A A') (h1 : ∀ n, n ≤ 8 → P (pasA n A)) (h2 : P (cryA A).1) (h3 : ∀ x, x ≤ 1 → P (rulA A (nI x))) (h4 : ∀ x, x ≤ 999 → P (banA A (nI x))) (h5 : ∀ k, k < A.2.2.1.length → P (drpA A k)) (h6 : ∀ t x, t < A.2.1.length → x ≤ 99999 → payC A (nI t) (nI x) = true → P (payA A t (nI x)))
    (h7 : ∀ t s p q mm, t < A.2.1.length → s ≤ 1 → 1 ≤ p → p ≤ 999 → 1 ≤ q → q ≤ 99 → rfB A (nI t) (nI s) (nI p) (nI q) = true → P (ordA A t s p q (nI mm))) : P A' := by
  rcases h with h | h | h | h | h | h | h
  · obtain ⟨n, -, hn, e⟩ := h
    rw [e]; exact h1 n hn
  · rw [h]; exact h2
  · obtain ⟨x, hx, e⟩ := h
    rw [e]; exact h3 x hx
  · obtain ⟨x, hx, e⟩ := h
    rw [e]; exact h4 x hx
  · obtain ⟨x, hx, e⟩ := h
    rw [e]; exact h5 x hx
  · obtain ⟨t, x, ht, -, hx, hc, e⟩ := h
    rw [e]; exact h6 t x ht hx hc
  · obtain ⟨t, s, p, q, mm, ht, hs, hp1, hp, hq1, hq, -, hr, e⟩ := h
    rw [e]; exact h7 t s p q mm ht hs hp1 hp hq1 hq hr
theorem LwI.step {A A' : MkA} {n m : Nat} (h : LwI A n) (hn : n ≤ 100) (hI : Inv A m) (hm : m ≤ 1999) (hS : StepR A A') : LwI A' (n + 1) := by
  refine hS.el (P := fun A' => LwI A' (n + 1)) (fun k _ => ?_) ?_ (fun x _ => ?_) (fun x _ => ?_) (fun k _ => ?_) (fun t x ht hx _ => ?_) (fun t s p q mm ht hs _ hp hq1 hq hr => ?_)
  · exact (LwI.pas k h hI (by omega)).mono (by omega)
  · exact (h.cry hI).mono (by omega)
  · exact (h.head (A' := rulA A (nI x)) rfl).mono (by omega)
  · exact (h.head (A' := banA A (nI x)) rfl).mono (by omega)
  · exact (h.drp (k := k)).mono (by omega)
  · exact h.pay ht hx
  · exact (h.ord hn ht hI.2.2.2.1 hs hp hq1 hq hr).mono (by omega)
theorem Inv.step {A A' : MkA} {m : Nat} (hI : Inv A m) (hm : m ≤ 1999) (hS : StepR A A') : Inv A' (m + 1) := by
  refine hS.el (P := fun A' => Inv A' (m + 1)) (fun k _ => ?_) ?_ (fun x hx => ?_) (fun x hx => ?_) (fun k _ => ?_) (fun t x ht hx hc => ?_) (fun t s p q mm ht hs hp1 hp hq1 hq hr => ?_)
  · exact (Inv.pas k hI (by omega)).mono (by omega)
  · exact (hI.cry (by omega)).mono (by omega)
  · exact (hI.rul hx).mono (by omega)
  · exact (hI.ban hx).mono (by omega)
  · exact (hI.drp (k := k)).mono (by omega)
  · refine (hI.pay ht ⟨?_, ?_⟩ (by omega) ?_).mono (by omega)
    · rw [nI_ti (by omega)]; omega
    · rw [nI_ti (by omega)]; omega
    · unfold payC at hc
      rw [decide_eq_true_iff, nat_nI (by have := hI.2.2.2.1; omega)] at hc
      exact hc
  · refine hI.ord (by omega) ?_ ht ⟨hs, hp1, hp, hq⟩
    unfold rfB at hr
    rw [decide_eq_true_iff] at hr
    unfold rfs at hr
    have := hI.2.2.1
    split at hr
    · omega
    · omega
end LWI
