section PTX
/-! ### what the built text means -/
theorem runB_app {f : Nat → Bool} {w r : List Nat} {d : Nat} (hw : ∀ c ∈ w, f c = true) (hd : f d = false) : runB f (w ++ d :: r) = w.length := by
  induction w with
  | nil => rw [List.nil_append, runB, if_neg (by rw [hd]; decide)]; rfl
  | cons c w ih => rw [List.cons_append, runB, if_pos (hw c List.mem_cons_self), ih (fun x hx => hw x (List.mem_cons_of_mem _ hx)), List.length_cons]
def nb (r : List Nat) : Prop := runB blnk r = 0
theorem nb_nil : nb [] := rfl
theorem nb_app {w r : List Nat} (hn : w ≠ []) (hw : ∀ c ∈ w, blnk c = false) : nb (w ++ r) := by
  cases w with
  | nil => exact absurd rfl hn
  | cons c w => unfold nb; rw [List.cons_append, runB, if_neg (by rw [hw c List.mem_cons_self]; decide)]
theorem drop_get {bs r : List Nat} {s a : Nat} (h : bs.drop s = a :: r) : bs[s]? = some a := by
  have := congrArg (fun l => l[0]?) h
  simpa using this
theorem drop_more {bs w r : List Nat} {s : Nat} (h : bs.drop s = w ++ r) : bs.drop (s + w.length) = r := by
  rw [← List.drop_drop, h, List.drop_left]
theorem tk_w {bs w r : List Nat} {s d : Nat} (h : bs.drop s = w ++ d :: r) (hn : w ≠ []) (hw : ∀ c ∈ w, letr c = true) (hd : letr d = false) : tkK bs s = 1 ∧ tkN bs s = w.length ∧ tkW bs s = w := by
  have hk : tkK bs s = 1 := by
    cases w with
    | nil => exact absurd rfl hn
    | cons c w => unfold tkK; rw [drop_get h]; simp only; rw [if_pos (hw c List.mem_cons_self)]
  have hN : tkN bs s = w.length := by unfold tkN; rw [if_neg (by rw [hk]; decide), if_pos hk, h, runB_app hw hd]
  exact ⟨hk, hN, by unfold tkW; rw [hN, h, List.take_left]⟩
theorem tk_n {bs w r : List Nat} {s d : Nat} (h : bs.drop s = w ++ d :: r) (hn : w ≠ []) (hw : ∀ c ∈ w, digt c = true) (hl : ∀ c ∈ w, letr c = false) (hd : digt d = false) : tkK bs s = 2 ∧ tkN bs s = w.length ∧ tkW bs s = w := by
  have hk : tkK bs s = 2 := by
    cases w with
    | nil => exact absurd rfl hn
    | cons c w => unfold tkK; rw [drop_get h]; simp only; rw [if_neg (by rw [hl c List.mem_cons_self]; decide), if_pos (hw c List.mem_cons_self)]
  have hN : tkN bs s = w.length := by unfold tkN; rw [if_neg (by rw [hk]; decide), if_neg (by rw [hk]; decide), if_pos hk, h, runB_app hw hd]
  exact ⟨hk, hN, by unfold tkW; rw [hN, h, List.take_left]⟩
theorem nx_32 {bs w r : List Nat} {s : Nat} (h : bs.drop s = w ++ 32 :: r) (hN : tkN bs s = w.length) (hr : nb r) : bs.drop (nx bs s) = r := by
  have h1 := drop_more h
  unfold nx tkS
  rw [hN, h1, runB, if_pos (by decide), hr, ← List.drop_drop, h1]; rfl
theorem nx_59 {bs w r : List Nat} {s : Nat} (h : bs.drop s = w ++ 59 :: r) (hN : tkN bs s = w.length) : bs.drop (nx bs s) = 59 :: r := by
  have h1 := drop_more h
  unfold nx tkS
  rw [hN, h1, runB, if_neg (by decide), Nat.add_zero, h1]
theorem se_59 {bs r : List Nat} {s : Nat} (h : bs.drop s = 59 :: r) (hr : nb r) : tkK bs s = 3 ∧ bs.drop (nx bs s) = r := by
  have hk : tkK bs s = 3 := by unfold tkK; rw [drop_get h]; rfl
  have hN : tkN bs s = 1 := by unfold tkN; rw [if_neg (by rw [hk]; decide), if_neg (by rw [hk]; decide), if_neg (by rw [hk]; decide)]
  have h1 : bs.drop (s + 1) = r := drop_more (w := [59]) h
  refine ⟨hk, ?_⟩
  unfold nx tkS
  rw [hN, h1, hr, Nat.add_zero, h1]
theorem vl_sn (w : List Nat) (c : Nat) : vl (w ++ [c]) = vl w * 10 + (c - 48) := by unfold vl; rw [List.foldl_append]; rfl
theorem vl_dec : ∀ x, vl (decT x) = x := by
  intro x
  induction x using Nat.strongRecOn with
  | ind x ih =>
    by_cases h : x < 10
    · rw [decT_lo h]; unfold vl; simp
    · rw [decT_hi (by omega), vl_sn, ih (x / 10) (by omega)]; omega
theorem dec_ne (x : Nat) : decT x ≠ [] := by
  by_cases h : x < 10
  · rw [decT_lo h]; simp
  · rw [decT_hi (by omega)]; simp
theorem dec_d {x : Nat} : ∀ c ∈ decT x, digt c = true := fun c hc => decide_eq_true (decT_dig x c hc)
theorem dec_l {x : Nat} : ∀ c ∈ decT x, letr c = false := fun c hc => decide_eq_false (by have := decT_dig x c hc; omega)
theorem dec_b {x : Nat} : ∀ c ∈ decT x, blnk c = false := fun c hc => decide_eq_false (by have := decT_dig x c hc; omega)
theorem let_b {c : Nat} (h : letr c = true) : blnk c = false := decide_eq_false (by have := of_decide_eq_true h; omega)
theorem nb_dec {x : Nat} {r : List Nat} : nb (decT x ++ r) := nb_app (dec_ne x) dec_b
theorem num_32 {bs r : List Nat} {s x lo hi : Nat} (h : bs.drop s = decT x ++ 32 :: r) (hlo : lo ≤ x) (hhi : x ≤ hi) (hr : nb r) : tNum bs s lo hi = .inr (x, nx bs s) ∧ bs.drop (nx bs s) = r := by
  obtain ⟨k1, k2, k3⟩ := tk_n h (dec_ne x) dec_d dec_l (by decide)
  refine ⟨?_, nx_32 h k2 hr⟩
  unfold tNum
  rw [if_pos k1, k3, vl_dec, if_pos ⟨hlo, hhi⟩]
theorem num_59 {bs r : List Nat} {s x lo hi : Nat} (h : bs.drop s = decT x ++ 59 :: r) (hlo : lo ≤ x) (hhi : x ≤ hi) : tNum bs s lo hi = .inr (x, nx bs s) ∧ bs.drop (nx bs s) = 59 :: r := by
  obtain ⟨k1, k2, k3⟩ := tk_n h (dec_ne x) dec_d dec_l (by decide)
  refine ⟨?_, nx_59 h k2⟩
  unfold tNum
  rw [if_pos k1, k3, vl_dec, if_pos ⟨hlo, hhi⟩]
def ruW (u : Nat) : List Nat := if u = 0 then wTime else wShare
def wMkt : List Nat := [109, 97, 114, 107, 101, 116]
def wTrd : List Nat := [116, 114, 97, 100, 101, 114]
def tMkt (p l b u : Nat) (r : List Nat) : List Nat := wMkt ++ 32 :: (decT p ++ 32 :: (decT l ++ 32 :: (decT b ++ 32 :: (ruW u ++ 59 :: r))))
def tTr (t : List Nat × Nat × Nat) (r : List Nat) : List Nat := wTrd ++ 32 :: (t.1 ++ 32 :: (decT t.2.1 ++ 32 :: (decT t.2.2 ++ 59 :: r)))
def tTrs (ts : List (List Nat × Nat × Nat)) : List Nat := ts.foldr tTr []
theorem nb_trs (ts : List (List Nat × Nat × Nat)) : nb (tTrs ts) := by
  cases ts with
  | nil => rfl
  | cons t r => show nb (wTrd ++ _); exact nb_app (by decide) (by decide)
theorem st_mkt {bs r : List Nat} {p l b u : Nat} (h : bs.drop (tkS bs 0) = tMkt p l b u r) (hp : 1 ≤ p ∧ p ≤ 60) (hl : 1 ≤ l ∧ l ≤ 999) (hb : b ≤ 999) (hu : u ≤ 1) (hr : nb r) :
    ∃ s, stm bs true mk00 (tkS bs 0) = .inr (mkt0 (nI p) (nI l) (nI b) (nI u), s) ∧ bs.drop s = r := by
  generalize tkS bs 0 = s at h
  obtain ⟨k1, k2, k3⟩ := tk_w (w := wMkt) (d := 32) h (by decide) (by decide) (by decide)
  have d1 := nx_32 h k2 nb_dec
  obtain ⟨n1, d2⟩ := num_32 (lo := 1) (hi := 60) d1 hp.1 hp.2 nb_dec
  obtain ⟨n2, d3⟩ := num_32 (lo := 1) (hi := 999) d2 hl.1 hl.2 nb_dec
  have hru : (∀ c ∈ ruW u, letr c = true) ∧ ruW u ≠ [] := by
    unfold ruW; split <;> decide
  obtain ⟨n3, d4⟩ := num_32 (lo := 0) (hi := 999) d3 (Nat.zero_le _) hb (nb_app hru.2 (fun c hc => let_b (hru.1 c hc)))
  obtain ⟨q1, q2, q3⟩ := tk_w d4 hru.2 hru.1 (by decide)
  have d5 := nx_59 d4 q2
  have n4 : tRule bs (nx bs (nx bs (nx bs (nx bs s)))) = .inr (u, nx bs (nx bs (nx bs (nx bs (nx bs s))))) := by
    unfold tRule
    rw [if_pos q1, q3]
    unfold ruW
    rcases (show u = 0 ∨ u = 1 by omega) with rfl | rfl
    · rfl
    · rfl
  obtain ⟨e1, e2⟩ := se_59 d5 hr
  have hst : stw bs s = 0 := by unfold stw; rw [k3]; decide
  refine ⟨_, ?_, e2⟩
  unfold stm
  rw [hst, if_neg (by decide), if_neg (by decide), if_neg (by decide)]
  unfold aArgs aMarket tEnd
  simp only [n1, n2, n3, n4, bd, if_pos e1]
theorem st_trd {bs r : List Nat} {s : Nat} {t : List Nat × Nat × Nat} {A : MkA} (h : bs.drop s = tTr t r) (hw : (∀ c ∈ t.1, letr c = true) ∧ t.1 ≠ [] ∧ t.1.length ≤ 4) (hx : trX A.2.1 t.1 = A.2.1.length) (hc : t.2.1 ≤ 999999) (hg : t.2.2 ≤ 9999) (h8 : A.2.1.length < 8) (hr : nb r) :
    tkK bs s ≠ 0 ∧ ∃ s', stm bs false A s = .inr (trdA A t.1 (nI t.2.1) (nI t.2.2), s') ∧ bs.drop s' = r := by
  obtain ⟨k1, k2, k3⟩ := tk_w (w := wTrd) (d := 32) h (by decide) (by decide) (by decide)
  have d1 := nx_32 h k2 (nb_app hw.2.1 (fun c hc => let_b (hw.1 c hc)))
  obtain ⟨q1, q2, q3⟩ := tk_w d1 hw.2.1 hw.1 (by decide)
  have d2 := nx_32 d1 q2 nb_dec
  obtain ⟨n1, d3⟩ := num_32 (lo := 0) (hi := 999999) d2 (Nat.zero_le _) hc nb_dec
  obtain ⟨n2, d4⟩ := num_59 (lo := 0) (hi := 9999) d3 (Nat.zero_le _) hg
  obtain ⟨e1, e2⟩ := se_59 d4 hr
  have hst : stw bs s = 1 := by unfold stw; rw [k3]; decide
  have n0 : tName bs A.2.1 (nx bs s) = .inr (t.1, nx bs (nx bs s)) := by
    unfold tName
    rw [if_pos q1, q3, if_neg (by omega), if_neg (by omega)]
  refine ⟨by rw [k1]; decide, _, ?_, e2⟩
  unfold stm
  rw [hst, if_neg (by decide), if_neg (by omega), if_neg (by omega)]
  unfold aArgs aTrader tEnd
  simp only [n0, n1, n2, bd, if_pos e1]
def trsA (A : MkA) (ts : List (List Nat × Nat × Nat)) : MkA := ts.foldl (fun A t => trdA A t.1 (nI t.2.1) (nI t.2.2)) A
theorem prs_trs {bs : List Nat} : ∀ (ts : List (List Nat × Nat × Nat)) (A : MkA) (s n : Nat), bs.drop s = tTrs ts → ts.length < n → A.2.1.length + ts.length ≤ 8 →
    (∀ t ∈ ts, (∀ c ∈ t.1, letr c = true) ∧ t.1 ≠ [] ∧ t.1.length ≤ 4 ∧ t.2.1 ≤ 999999 ∧ t.2.2 ≤ 9999) → (A.2.1.map (fun t => t.1) ++ ts.map (fun t => t.1)).Nodup → prs bs n A s = .inr (trsA A ts) := by
  intro ts
  induction ts with
  | nil =>
    intro A s n h hn h8 hw hd
    obtain ⟨n, rfl⟩ : ∃ q, n = q + 1 := ⟨n - 1, by simp at hn; omega⟩
    rw [prs, if_pos (tkK_0.mpr (by have := congrArg List.length h; rw [List.length_drop] at this; simp [tTrs] at this; omega))]; rfl
  | cons t ts ih =>
    intro A s n h hn h8 hw hd
    obtain ⟨n, rfl⟩ : ∃ q, n = q + 1 := ⟨n - 1, by simp at hn; omega⟩
    rw [List.length_cons] at hn h8
    have ht := hw t List.mem_cons_self
    have hx : trX A.2.1 t.1 = A.2.1.length := by
      unfold trX
      rw [List.idxOf_eq_length, List.length_map]
      rw [List.map_cons, List.nodup_append] at hd
      exact fun hm => hd.2.2 _ hm _ List.mem_cons_self rfl
    obtain ⟨q1, s', q2, q3⟩ := st_trd (A := A) (t := t) (r := tTrs ts) h ⟨ht.1, ht.2.1, ht.2.2.1⟩ hx ht.2.2.2.1 ht.2.2.2.2 (by omega) (nb_trs ts)
    rw [prs, if_neg q1, q2]
    have e : (trdA A t.1 (nI t.2.1) (nI t.2.2)).2.1 = A.2.1 ++ [(t.1, nI t.2.1, nI t.2.2)] := rfl
    exact ih _ s' n q3 (by omega) (by rw [e, List.length_append, List.length_singleton]; omega) (fun t' ht' => hw t' (List.mem_cons_of_mem _ ht')) (by rw [e, List.map_append, List.append_assoc]; exact hd)
theorem parse_txt {p l b u : Nat} {ts : List (List Nat × Nat × Nat)} (hp : 1 ≤ p ∧ p ≤ 60) (hl : 1 ≤ l ∧ l ≤ 999) (hb : b ≤ 999) (hu : u ≤ 1) (h8 : ts.length ≤ 8)
    (hw : ∀ t ∈ ts, (∀ c ∈ t.1, letr c = true) ∧ t.1 ≠ [] ∧ t.1.length ≤ 4 ∧ t.2.1 ≤ 999999 ∧ t.2.2 ≤ 9999) (hd : (ts.map (fun t => t.1)).Nodup) :
    parse (tMkt p l b u (tTrs ts)) = .inr (trsA (mkt0 (nI p) (nI l) (nI b) (nI u)) ts) := by
  have h0 : (tMkt p l b u (tTrs ts)).drop (tkS (tMkt p l b u (tTrs ts)) 0) = tMkt p l b u (tTrs ts) := by
    have : tkS (tMkt p l b u (tTrs ts)) 0 = 0 := by
      unfold tkS
      rw [List.drop_zero, show runB blnk (tMkt p l b u (tTrs ts)) = 0 from nb_app (by decide) (by decide)]
    rw [this, List.drop_zero]
  obtain ⟨s, q1, q2⟩ := st_mkt h0 hp hl hb hu (nb_trs ts)
  unfold parse
  rw [q1]
  exact prs_trs ts _ s 600 q2 (by omega) (by show 0 + _ ≤ 8; omega) hw (by show ([] ++ _).Nodup; exact hd)
end PTX
