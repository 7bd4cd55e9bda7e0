section CIV
/-! ### WHAT ALWAYS HOLDS, after m steps -/
def cq (o : Od) (p : Nat) : Nat := if oS o = 0 ∧ p ≤ oL o then oQ o else 0
theorem dem_cons {o : Od} {r : List Od} {p : Nat} : dem (o :: r) p = cq o p + dem r p := rfl
theorem dem_set {o o' : Od} {p : Nat} : ∀ (l : List Od) (k : Nat), l[k]? = some o → dem (l.set k o') p + cq o p = dem l p + cq o' p := by
  intro l
  induction l with
  | nil => intro k h; simp at h
  | cons x r ih =>
    intro k h
    cases k with
    | zero =>
      have : x = o := by simpa using h
      subst this
      rw [List.set_cons_zero, dem_cons, dem_cons]; omega
    | succ k =>
      rw [List.getElem?_cons_succ] at h
      have := ih k h
      rw [List.set_cons_succ, dem_cons, dem_cons]; omega
theorem dem_sub {p : Nat} {l l' : List Od} (h : l'.Sublist l) : dem l' p ≤ dem l p := by
  induction h with
  | slnil => exact Nat.le_refl _
  | cons a _ ih => rw [dem_cons]; omega
  | cons_cons a _ ih => rw [dem_cons, dem_cons]; omega
theorem dem_osF {os : List Od} {f : Nat → Nat} (hf : ∀ k, f k ≤ qa os k) : ∀ n, n ≤ os.length → dem (osF os f n) 0 + sf os 0 f n = dem os 0 := by
  intro n
  induction n with
  | zero => intro _; rfl
  | succ n ih =>
    intro h
    have h1 := ih (by omega)
    have h2 : (osF os f n)[n]? = some (oa os n) := by rw [osF_hi n n (Nat.le_refl _)]; exact oa_at (by omega)
    have h3 := dem_set (p := 0) (o' := odQ (oa os n) (qa os n - f n)) (osF os f n) n h2
    have h4 := hf n
    rw [osF, sf]
    have e1 : cq (oa os n) 0 = if oS (oa os n) = 0 then qa os n else 0 := by
      unfold cq
      by_cases c : oS (oa os n) = 0
      · rw [if_pos ⟨c, Nat.zero_le _⟩, if_pos c]
      · rw [if_neg (fun z => c z.1), if_neg c]
    have e2 : cq (odQ (oa os n) (qa os n - f n)) 0 = if oS (oa os n) = 0 then qa os n - f n else 0 := by
      unfold cq
      by_cases c : oS (oa os n) = 0
      · rw [if_pos ⟨c, Nat.zero_le _⟩, if_pos c]; rfl
      · rw [if_neg (fun z => c z.1), if_neg c]
    rw [e1, e2] at h3
    by_cases c : oS (oa os n) = 0
    · rw [if_pos c, if_pos c] at h3
      rw [if_pos c]; omega
    · rw [if_neg c, if_neg c] at h3
      rw [if_neg c]; omega
/-- the coins of all lie within -/
def CoB (lo hi : Int) (ts : List Tr) : Prop := ∀ t ∈ ts, lo ≤ t.2.1.toInt ∧ t.2.1.toInt ≤ hi
theorem CoB.mono {lo hi lo' hi' : Int} {ts : List Tr} (h : CoB lo hi ts) (h1 : lo' ≤ lo) (h2 : hi ≤ hi') : CoB lo' hi' ts := fun t ht => by have := h t ht; omega
theorem trU_mem {ts : List Tr} {t : Nat} {a b : Int32} {x : Tr} (h : x ∈ trU ts t a b) : x ∈ ts ∨ ∃ y ∈ ts, x = (y.1, y.2.1 + a, y.2.2 + b) := by
  unfold trU at h
  split at h
  · rename_i y hy
    rcases List.mem_or_eq_of_mem_set h with z | z
    · exact Or.inl z
    · exact Or.inr ⟨y, List.mem_of_getElem? hy, z⟩
  · exact Or.inl h
theorem i32_add {a b : Int32} (h1 : -(2 ^ 31) ≤ a.toInt + b.toInt) (h2 : a.toInt + b.toInt < 2 ^ 31) : (a + b).toInt = a.toInt + b.toInt := by
  rw [Int32.toInt_add]
  exact Int.bmod_eq_of_le (by omega) (by omega)
theorem i32_neg {a : Int32} (h1 : -(2 ^ 31) < a.toInt) : (-a).toInt = -a.toInt := by
  have h2 := Int32.toInt_lt a
  rw [Int32.toInt_neg]
  exact Int.bmod_eq_of_le (by omega) (by omega)
theorem nI_ti {a : Nat} (h : a < 2 ^ 31) : (nI a).toInt = (a : Int) := Int32.toInt_ofNat_of_lt h
theorem CoB_u {lo hi : Int} {ts : List Tr} {t : Nat} {a b : Int32} {u v : Int} (h : CoB lo hi ts) (hu : -u ≤ a.toInt) (hv : a.toInt ≤ v) (u0 : 0 ≤ u) (v0 : 0 ≤ v) (h1 : -(2 ^ 31) ≤ lo - u) (h2 : hi + v < 2 ^ 31) : CoB (lo - u) (hi + v) (trU ts t a b) := by
  intro x hx
  rcases trU_mem hx with z | ⟨y, z, rfl⟩
  · have := h x z; omega
  · have := h y z
    show lo - u ≤ (y.2.1 + a).toInt ∧ (y.2.1 + a).toInt ≤ hi + v
    rw [i32_add (by omega) (by omega)]; omega
theorem sf_mono {os : List Od} {w : Nat} {f : Nat → Nat} {n : Nat} : sf os w f n ≤ sf os w f (n + 1) := by rw [sf]; omega
theorem CoB_tsF {os : List Od} {f : Nat → Nat} {b : Nat} {lo hi : Int} {ts : List Tr} (h : CoB lo hi ts) (hb : b ≤ 999) (hf : ∀ k, f k ≤ 99) (hs : ∀ k, k < os.length → oS (oa os k) ≤ 1) :
    ∀ n, n ≤ os.length → -(2 ^ 31) ≤ lo - (sf os 0 f n * b : Nat) → hi + (sf os 1 f n * b : Nat) < 2 ^ 31 → CoB (lo - (sf os 0 f n * b : Nat)) (hi + (sf os 1 f n * b : Nat)) (tsF os f (nI b) ts n) := by
  intro n
  induction n with
  | zero =>
    intro _ _ _
    rw [sf, sf, Nat.zero_mul]
    exact h.mono (by omega) (by omega)
  | succ n ih =>
    intro hn g1 g2
    have hfn := hf n
    have hm : f n * b ≤ 99 * 999 := Nat.mul_le_mul hfn hb
    have hp : nI (f n) * nI b = nI (f n * b) := pk_mul _ _
    have ht : (nI (f n * b)).toInt = ((f n * b : Nat) : Int) := nI_ti (by omega)
    have hsn := hs n (by omega)
    rw [tsF, hp]
    by_cases c : oS (oa os n) = 0
    · have e0 : sf os 0 f (n + 1) = sf os 0 f n + f n := by rw [sf, if_pos c]
      have e1 : sf os 1 f (n + 1) = sf os 1 f n := by rw [sf, if_neg (by omega)]; rfl
      rw [e0, Nat.add_mul] at g1 ⊢
      rw [e1] at g2 ⊢
      have h9 := ih (by omega) (by omega) g2
      rw [if_pos c, if_pos c]
      refine (CoB_u (u := ((f n * b : Nat) : Int)) (v := 0) h9 ?_ ?_ (by omega) (by omega) (by omega) (by omega)).mono (by omega) (by omega)
      · rw [i32_neg (by omega)]; omega
      · rw [i32_neg (by omega)]; omega
    · have c1 : oS (oa os n) = 1 := by omega
      have e0 : sf os 0 f (n + 1) = sf os 0 f n := by rw [sf, if_neg c]; rfl
      have e1 : sf os 1 f (n + 1) = sf os 1 f n + f n := by rw [sf, if_pos c1]
      rw [e1, Nat.add_mul] at g2 ⊢
      rw [e0] at g1 ⊢
      have h9 := ih (by omega) g1 (by omega)
      rw [if_neg c, if_neg c]
      refine (CoB_u (u := 0) (v := ((f n * b : Nat) : Int)) h9 ?_ ?_ (by omega) (by omega) (by omega) (by omega)).mono (by omega) (by omega)
      · omega
      · omega
/-- numbers: all different, all below the next one -/
def NuB (os : List Od) (nn : Int32) (m : Nat) : Prop := ∃ N, nn = nI N ∧ N ≤ m ∧ os.Pairwise (fun o o' => o.1 ≠ o'.1) ∧ ∀ o ∈ os, ∃ k, k < N ∧ o.1 = nI k
def TaB (ts : List Tr) (os : List Od) (Y : TaT) (m : Nat) : Prop := ∃ T PL P : Nat, Y.1 = nI T ∧ Y.2.1 = nI PL ∧ Y.2.2.2.2.2.2.2 = lN P ∧ T + dem os 0 ≤ PL ∧ PL ≤ 99 * m ∧ P ≤ 999 * T ∧ CoB (-(P : Int)) (999999 + P) ts
def Inv (A : MkA) (m : Nat) : Prop := MkOk A ∧ NmOk A ∧ A.2.2.1.length ≤ 20 ∧ A.2.1.length ≤ 8 ∧ (∀ o ∈ A.2.2.1, CdOk o) ∧ NuB A.2.2.1 A.2.2.2.1 m ∧ TaB A.2.1 A.2.2.1 A.2.2.2.2 m
theorem NuB.sub {os os' : List Od} {nn : Int32} {m : Nat} (h : NuB os nn m) (hs : os'.Sublist os) : NuB os' nn m := by
  obtain ⟨N, h1, h2, h3, h4⟩ := h
  exact ⟨N, h1, h2, h3.sublist hs, fun o ho => h4 o (hs.subset ho)⟩
theorem TaB.sub {ts : List Tr} {os os' : List Od} {Y : TaT} {m : Nat} (h : TaB ts os Y m) (hs : dem os' 0 ≤ dem os 0) : TaB ts os' Y m := by
  obtain ⟨T, PL, P, h1, h2, h3, h4, h5, h6, h7⟩ := h
  exact ⟨T, PL, P, h1, h2, h3, by omega, h5, h6, h7⟩
theorem NuB.mono {os : List Od} {nn : Int32} {m m' : Nat} (h : NuB os nn m) (hm : m ≤ m') : NuB os nn m' := by
  obtain ⟨N, h1, h2, h3, h4⟩ := h
  exact ⟨N, h1, by omega, h3, h4⟩
theorem TaB.mono {ts : List Tr} {os : List Od} {Y : TaT} {m m' : Nat} (h : TaB ts os Y m) (hm : m ≤ m') : TaB ts os Y m' := by
  obtain ⟨T, PL, P, h1, h2, h3, h4, h5, h6, h7⟩ := h
  exact ⟨T, PL, P, h1, h2, h3, h4, by omega, h6, h7⟩
theorem Inv.mono {A : MkA} {m m' : Nat} (h : Inv A m) (hm : m ≤ m') : Inv A m' := by
  obtain ⟨h1, h2, h3, h4, h5, h6, h7⟩ := h
  exact ⟨h1, h2, h3, h4, h5, h6.mono hm, h7.mono hm⟩
theorem Inv.mk2 {A : MkA} {m : Nat} (h : Inv A m) (hm : m ≤ 2000) : Mk2 A := by
  obtain ⟨h1, h2, h3, h4, h5, ⟨N, g1, g2, g3, g4⟩, h7⟩ := h
  refine ⟨h1, h2, fun o ho => ?_, h3, h4, h5⟩
  obtain ⟨k, k1, k2⟩ := g4 o ho
  exact ⟨k, by omega, k2⟩
theorem Inv.nu {A : MkA} {m : Nat} (h : Inv A m) : NuOk A := by
  obtain ⟨-, -, -, -, -, ⟨N, -, -, h3, -⟩, -⟩ := h
  unfold NuOk
  rw [List.Nodup, List.pairwise_map]
  exact h3
/-- some orders go -/
theorem Inv.wos {A : MkA} {m : Nat} {os : List Od} (h : Inv A m) (hs : os.Sublist A.2.2.1) : Inv (wosA A os) m := by
  obtain ⟨⟨a1, a2, a3, a4, a5⟩, h2, h3, h4, h5, h6, h7⟩ := h
  exact ⟨⟨a1, a2, a3, a4, fun o ho => a5 o (hs.subset ho)⟩, h2, Nat.le_trans hs.length_le h3, h4, fun o ho => h5 o (hs.subset ho), h6.sub hs, h7.sub (dem_sub hs)⟩
theorem Inv.drp {A : MkA} {m k : Nat} (h : Inv A m) : Inv (drpA A k) m := h.wos (List.eraseIdx_sublist _ _)
theorem Inv.late {A : MkA} {m : Nat} (h : Inv A m) : Inv (lateA A) m := by
  obtain ⟨⟨a1, a2, a3, a4, a5⟩, h2, h3, h4, h5, h6, h7⟩ := h
  have hs : (A.2.2.1.filter (fun o => !decide (oM o < A.1.1 + 1))).Sublist A.2.2.1 := List.filter_sublist
  obtain ⟨T, PL, P, g1, g2, g3, g4, g5, g6, g7⟩ := h7
  have := dem_sub (p := 0) hs
  exact ⟨⟨a1, a2, a3, a4, fun o ho => a5 o (hs.subset ho)⟩, h2, Nat.le_trans hs.length_le h3, h4, fun o ho => h5 o (hs.subset ho), h6.sub hs, ⟨T, PL, P, g1, g2, g3, by show T + dem (A.2.2.1.filter _) 0 ≤ PL; omega, g5, g6, g7⟩⟩
theorem NmOk_tsF {os : List Od} {f : Nat → Nat} {pr : Int32} {ts : List Tr} (h : ∀ t ∈ ts, 1 ≤ t.1.length ∧ t.1.length ≤ 4 ∧ ∀ c ∈ t.1, 97 ≤ c ∧ c ≤ 122) : ∀ n, ∀ t ∈ tsF os f pr ts n, 1 ≤ t.1.length ∧ t.1.length ≤ 4 ∧ ∀ c ∈ t.1, 97 ≤ c ∧ c ≤ 122 := by
  intro n
  induction n with
  | zero => exact h
  | succ n ih =>
    intro t ht
    rw [tsF] at ht
    rcases trU_mem ht with z | ⟨y, z, rfl⟩
    · exact ih t z
    · exact ih y z
theorem osF_num {os : List Od} {f : Nat → Nat} : ∀ k, k ≤ os.length → (osF os f k).map (fun o => o.1) = os.map (fun o => o.1) := by
  intro k hk
  refine List.ext_getElem? (fun i => ?_)
  rw [List.getElem?_map, List.getElem?_map, osF_at k i hk]
  by_cases c : i < k
  · rw [if_pos c, oa_at (by omega)]; rfl
  · rw [if_neg c]
theorem lN_m {a b : Nat} (ha : a < 2 ^ 31) (hb : b < 2 ^ 31) (P : Nat) : lN P + (nI a).toInt64 * (nI b).toInt64 = lN (P + a * b) := by
  rw [nI_l ha, nI_l hb, lN_mul, lN_add]
theorem Inv.cry {A : MkA} {m : Nat} (h : Inv A m) (hm : m ≤ 2000) : Inv (cryA A).1 m := by
  have hok := MkOk_cry h.1
  obtain ⟨AZ, ts, os, nn, AY⟩ := A
  obtain ⟨h1, h2, h3, h4, h5, h6, h7⟩ := h
  obtain ⟨⟨last, e1, e2, e3⟩, ⟨band, e7, e8⟩, ⟨rule, e4, e5⟩, hper, e6⟩ := id h1
  simp only at e1 e4 e6 e7 hper h2 h3 h4 h5 h6 h7
  have hlast : nat AZ.2.1 = last := by rw [e1, nat_nI (by omega)]
  have hrule : nat AZ.2.2.2.1 = rule := by rw [e4, nat_nI (by omega)]
  unfold cryA at hok ⊢
  simp only [hlast, hrule] at hok ⊢
  have hB := bst_b os last
  generalize bst os last = b at hB hok ⊢
  by_cases h0 : b = 0
  · rw [if_pos h0]; exact ⟨h1, h2, h3, h4, h5, h6, h7⟩
  · rw [if_neg h0] at hok ⊢
    have hb : 1 ≤ b ∧ b ≤ 999 ∧ 0 < vol os b := by
      rcases hB with ⟨q, _⟩ | ⟨q1, q2, q3, _⟩
      · exact absurd q h0
      · exact ⟨q1, q2, q3⟩
    by_cases hs : stp AZ (nI b) = true
    · rw [if_pos hs] at hok ⊢
      exact ⟨hok, h2, h3, h4, h5, h6, h7⟩
    · rw [if_neg hs] at hok ⊢
      have hv0 := sf_FilA (os := os) (w := 0) (rule := rule) (b := b) (by decide) e5 hb.2.2
      have hv1 := sf_FilA (os := os) (w := 1) (rule := rule) (b := b) (by decide) e5 hb.2.2
      have hvl := vol_lt h5 (by omega) b
      have hfl : ∀ k, FilA os rule (vol os b) k ≤ 99 := fun k => by
        have h9 := FilA_le (os := os) (rule := rule) (v := vol os b) (j := k)
        by_cases c : k < os.length
        · have h8 : qa os k ≤ 99 := (h5 _ (oa_mem c)).2.2.2
          omega
        · have e : qa os k = 0 := by
            show oQ (oa os k) = 0
            unfold oa; rw [List.getD_eq_getElem?_getD, List.getElem?_eq_none (by omega)]; rfl
          omega
      have hd := dem_osF (os := os) (f := FilA os rule (vol os b)) (fun k => FilA_le) os.length (Nat.le_refl _)
      rw [hv0] at hd
      have hfs : ((osF os (FilA os rule (vol os b)) os.length).filter (fun o => oQ o != 0)).Sublist (osF os (FilA os rule (vol os b)) os.length) := List.filter_sublist
      have hds := dem_sub (p := 0) hfs
      obtain ⟨T, PL, P, g1, g2, g3, g4, g5, g6, g7⟩ := h7
      obtain ⟨N, n1, n2, n3, n4⟩ := h6
      have hPb : P + vol os b * b ≤ 999 * (T + vol os b) := by
        have : vol os b * b ≤ vol os b * 999 := Nat.mul_le_mul_left _ hb.2.1
        omega
      have hco := CoB_tsF (os := os) (f := FilA os rule (vol os b)) (b := b) (ts := ts) g7 hb.2.1 hfl (fun k hk => (h5 _ (oa_mem hk)).1) os.length (Nat.le_refl _) (by rw [hv0]; omega) (by rw [hv1]; omega)
      rw [hv0, hv1] at hco
      refine ⟨hok, NmOk_tsF h2 _, ?_, ?_, ?_, ⟨N, n1, n2, ?_, ?_⟩, ⟨T + vol os b, PL, P + vol os b * b, ?_, g2, ?_, by show T + vol os b + dem (List.filter _ _) 0 ≤ PL; omega, g5, hPb, ?_⟩⟩
      · exact Nat.le_trans hfs.length_le (by rw [osF_len]; exact h3)
      · show (tsF os _ _ ts os.length).length ≤ 8
        rw [tsF_len]; exact h4
      · intro o ho
        obtain ⟨i, x, hx, hox⟩ := osF_mem (hfs.subset ho)
        have hc := h5 x (List.mem_of_getElem? hx)
        have hq : qa os i = oQ x := by show oQ (oa os i) = _; rw [oa_s hx]
        rw [hox]
        exact ⟨hc.1, hc.2.1, hc.2.2.1, by show qa os i - _ ≤ 99; have := hc.2.2.2; omega⟩
      · refine List.Pairwise.sublist hfs ?_
        have h9 := osF_num (os := os) (f := FilA os rule (vol os b)) os.length (Nat.le_refl _)
        have h8 : (os.map (fun o => o.1)).Pairwise (fun a b => a ≠ b) := List.pairwise_map.mpr n3
        rw [← h9, List.pairwise_map] at h8
        exact h8
      · intro o ho
        obtain ⟨i, x, hx, hox⟩ := osF_mem (hfs.subset ho)
        obtain ⟨k, k1, k2⟩ := n4 x (List.mem_of_getElem? hx)
        exact ⟨k, k1, by rw [hox]; exact k2⟩
      · show AY.1 + nI (vol os b) = _
        rw [g1, nI_add]
      · show AY.2.2.2.2.2.2.2 + (nI (vol os b)).toInt64 * (nI b).toInt64 = _
        rw [g3, lN_m (by omega) (by omega)]
      · exact hco.mono (by omega) (by omega)
theorem Inv.min {A : MkA} {m : Nat} (h : Inv A m) (hm : m ≤ 2000) : Inv (minA A) m := by
  unfold minA
  split
  · exact h.late.cry hm
  · exact h.late
theorem Inv.pas : ∀ (n : Nat) {A : MkA} {m : Nat}, Inv A m → m ≤ 2000 → Inv (pasA n A) m := by
  intro n
  induction n with
  | zero => intro A m h _; exact h
  | succ n ih => intro A m h hm; exact ih (h.min hm) hm
theorem Inv.ord {A : MkA} {m t s p q : Nat} {x : Int32} (h : Inv A m) (hm : m ≤ 2000) (hn : A.2.2.1.length < 20) (ht : t < A.2.1.length) (hc : s ≤ 1 ∧ 1 ≤ p ∧ p ≤ 999 ∧ q ≤ 99) : Inv (ordA A t s p q x) (m + 1) := by
  obtain ⟨⟨a1, a2, a3, a4, a5⟩, h2, h3, h4, h5, ⟨N, n1, n2, n3, n4⟩, ⟨T, PL, P, g1, g2, g3, g4, g5, g6, g7⟩⟩ := h
  refine ⟨⟨a1, a2, a3, a4, fun o ho => ?_⟩, h2, ?_, h4, fun o ho => ?_, ⟨N + 1, ?_, by omega, ?_, fun o ho => ?_⟩, ⟨T, PL + q, P, g1, ?_, g3, ?_, by omega, g6, g7⟩⟩
  · rcases List.mem_append.mp ho with z | z
    · exact a5 o z
    · rw [List.mem_singleton.mp z]; exact ht
  · show (A.2.2.1 ++ [_]).length ≤ 20
    rw [List.length_append, List.length_singleton]; omega
  · rcases List.mem_append.mp ho with z | z
    · exact h5 o z
    · rw [List.mem_singleton.mp z]; exact hc
  · show A.2.2.2.1 + 1 = _
    rw [n1]; exact nI_1 _
  · show (A.2.2.1 ++ [_]).Pairwise _
    rw [List.pairwise_append]
    refine ⟨n3, List.pairwise_singleton _ _, fun o ho o' ho' z => ?_⟩
    rw [List.mem_singleton.mp ho'] at z
    obtain ⟨k, k1, k2⟩ := n4 o ho
    have z : o.1 = A.2.2.2.1 := z
    rw [k2, n1] at z
    have := (nI_eq (by omega) (by omega)).mp z
    omega
  · rcases List.mem_append.mp ho with z | z
    · obtain ⟨k, k1, k2⟩ := n4 o z
      exact ⟨k, by omega, k2⟩
    · rw [List.mem_singleton.mp z]
      exact ⟨N, by omega, n1⟩
  · show A.2.2.2.2.2.1 + nI q = _
    rw [g2, nI_add]
  · show T + dem (A.2.2.1 ++ [_]) 0 ≤ PL + q
    rw [dem_app, dem_cons]
    have : cq (A.2.2.2.1, t, s, p, q, A.1.1 + x) 0 ≤ q := by
      unfold cq
      split
      · exact Nat.le_refl _
      · exact Nat.zero_le _
    have e : dem [] 0 = 0 := rfl
    omega
theorem Inv.trd {A : MkA} {m c : Nat} {nm : List Nat} {g : Int32} (h : Inv A m) (hn : A.2.1.length < 8) (hc : c ≤ 999999) (hN : 1 ≤ nm.length ∧ nm.length ≤ 4 ∧ ∀ c ∈ nm, 97 ≤ c ∧ c ≤ 122) : Inv (trdA A nm (nI c) g) m := by
  obtain ⟨⟨a1, a2, a3, a4, a5⟩, h2, h3, h4, h5, h6, ⟨T, PL, P, g1, g2, g3, g4, g5, g6, g7⟩⟩ := h
  refine ⟨⟨a1, a2, a3, a4, fun o ho => ?_⟩, fun t ht => ?_, h3, ?_, h5, h6, ⟨T, PL, P, g1, g2, g3, g4, g5, g6, fun t ht => ?_⟩⟩
  · have := a5 o ho
    show oT o < (A.2.1 ++ [_]).length
    rw [List.length_append]; omega
  · rcases List.mem_append.mp ht with z | z
    · exact h2 t z
    · rw [List.mem_singleton.mp z]; exact hN
  · show (A.2.1 ++ [_]).length ≤ 8
    rw [List.length_append, List.length_singleton]; omega
  · rcases List.mem_append.mp ht with z | z
    · exact g7 t z
    · rw [List.mem_singleton.mp z]
      show _ ≤ (nI c).toInt ∧ (nI c).toInt ≤ _
      rw [nI_ti (by omega)]; omega
theorem Inv.head {A A' : MkA} {m : Nat} (h : Inv A m) (e : A'.2 = A.2) (hok : MkOk A') : Inv A' m := by
  obtain ⟨h1, h2, h3, h4, h5, h6, h7⟩ := h
  refine ⟨hok, ?_, ?_, ?_, ?_, ?_, ?_⟩
  · unfold NmOk; rw [e]; exact h2
  · rw [e]; exact h3
  · rw [e]; exact h4
  · rw [e]; exact h5
  · rw [e]; exact h6
  · rw [e]; exact h7
theorem Inv.per {A : MkA} {m x : Nat} (h : Inv A m) (h1 : 1 ≤ x) (h2 : x ≤ 60) : Inv (perA A (nI x)) m := by
  obtain ⟨a1, a2, a3, a4, a5⟩ := h.1
  exact h.head rfl ⟨a1, a2, a3, ⟨x, rfl, h1, h2⟩, a5⟩
theorem Inv.rul {A : MkA} {m x : Nat} (h : Inv A m) (h2 : x ≤ 1) : Inv (rulA A (nI x)) m := by
  obtain ⟨a1, a2, a3, a4, a5⟩ := h.1
  exact h.head rfl ⟨a1, a2, ⟨x, rfl, h2⟩, a4, a5⟩
theorem Inv.ban {A : MkA} {m x : Nat} (h : Inv A m) (h2 : x ≤ 999) : Inv (banA A (nI x)) m := by
  obtain ⟨a1, a2, a3, a4, a5⟩ := h.1
  exact h.head rfl ⟨a1, ⟨x, rfl, h2⟩, a3, a4, a5⟩
theorem Inv.mkt {m p l b u : Nat} (hp : 1 ≤ p ∧ p ≤ 60) (hl : 1 ≤ l ∧ l ≤ 999) (hb : b ≤ 999) (hu : u ≤ 1) : Inv (mkt0 (nI p) (nI l) (nI b) (nI u)) m :=
  ⟨⟨⟨l, rfl, hl⟩, ⟨b, rfl, hb⟩, ⟨u, rfl, hu⟩, ⟨p, rfl, hp⟩, fun o ho => by cases ho⟩, fun t ht => (by cases ht), Nat.zero_le _, Nat.zero_le _, fun o ho => (by cases ho), ⟨0, rfl, Nat.zero_le _, List.Pairwise.nil, fun o ho => (by cases ho)⟩, ⟨0, 0, 0, rfl, rfl, rfl, Nat.le_refl _, Nat.zero_le _, Nat.le_refl _, fun t ht => (by cases ht)⟩⟩
theorem Inv.setO {A : MkA} {m k : Nat} {o o' : Od} (h : Inv A m) (hk : A.2.2.1[k]? = some o) (h1 : o'.1 = o.1) (h2 : oT o' = oT o) (h3 : CdOk o') (h4 : cq o' 0 ≤ cq o 0) : Inv (wosA A (A.2.2.1.set k o')) m := by
  obtain ⟨⟨a1, a2, a3, a4, a5⟩, i2, i3, i4, i5, ⟨N, n1, n2, n3, n4⟩, i7⟩ := h
  have hm := List.mem_of_getElem? hk
  have hds := dem_set (p := 0) (o' := o') A.2.2.1 k hk
  have hmap : (A.2.2.1.set k o').map (fun o => o.1) = A.2.2.1.map (fun o => o.1) := by
    rw [List.map_set, h1]
    refine List.ext_getElem? (fun i => ?_)
    rw [List.getElem?_set]
    by_cases c : k = i
    · subst c
      rw [if_pos rfl, List.getElem?_map, hk]
      have hl := (List.getElem?_eq_some_iff.mp hk).1
      rw [if_pos (by rw [List.length_map]; exact hl)]; rfl
    · rw [if_neg c]
  refine ⟨⟨a1, a2, a3, a4, fun x hx => ?_⟩, i2, by show (A.2.2.1.set k o').length ≤ 20; rw [List.length_set]; exact i3, i4, fun x hx => ?_, ⟨N, n1, n2, ?_, fun x hx => ?_⟩, i7.sub (by show dem (A.2.2.1.set k o') 0 ≤ _; omega)⟩
  · rcases List.mem_or_eq_of_mem_set hx with z | z
    · exact a5 x z
    · rw [z]; show oT o' < A.2.1.length; rw [h2]; exact a5 o hm
  · rcases List.mem_or_eq_of_mem_set hx with z | z
    · exact i5 x z
    · rw [z]; exact h3
  · have h8 : (A.2.2.1.map (fun o => o.1)).Pairwise (fun a b => a ≠ b) := List.pairwise_map.mpr n3
    rw [← hmap, List.pairwise_map] at h8
    exact h8
  · rcases List.mem_or_eq_of_mem_set hx with z | z
    · exact n4 x z
    · rw [z, h1]; exact n4 o hm
theorem Inv.amd {A : MkA} {m k q : Nat} (h : Inv A m) (hk : k < A.2.2.1.length) (hq : q < oQ (oa A.2.2.1 k)) : Inv (amdA A k q) m := by
  have hc := h.2.2.2.2.1 _ (oa_mem hk)
  refine h.setO (oa_at hk) rfl rfl ⟨hc.1, hc.2.1, hc.2.2.1, by show q ≤ 99; have := hc.2.2.2; omega⟩ ?_
  unfold cq
  show (if oS (oa A.2.2.1 k) = 0 ∧ 0 ≤ oL (oa A.2.2.1 k) then q else 0) ≤ _
  split <;> omega
theorem Inv.ext {A : MkA} {m k : Nat} {x : Int32} (h : Inv A m) (hk : k < A.2.2.1.length) : Inv (extA A k x) m :=
  h.setO (oa_at hk) rfl rfl (by have hc := h.2.2.2.2.1 _ (oa_mem hk); exact hc) (Nat.le_refl _)
theorem CoB_g {lo hi : Int} {ts : List Tr} {t : Nat} {g : Int32} (h : CoB lo hi ts) : CoB lo hi (trU ts t 0 g) := by
  intro x hx
  rcases trU_mem hx with z | ⟨y, z, rfl⟩
  · exact h x z
  · have := h y z
    show lo ≤ (y.2.1 + 0).toInt ∧ (y.2.1 + 0).toInt ≤ hi
    rw [Int32.add_zero]; exact this
theorem NmOk_u {ts : List Tr} {t : Nat} {a g : Int32} (h : ∀ t ∈ ts, 1 ≤ t.1.length ∧ t.1.length ≤ 4 ∧ ∀ c ∈ t.1, 97 ≤ c ∧ c ≤ 122) : ∀ x ∈ trU ts t a g, 1 ≤ x.1.length ∧ x.1.length ≤ 4 ∧ ∀ c ∈ x.1, 97 ≤ c ∧ c ≤ 122 := by
  intro x hx
  rcases trU_mem hx with z | ⟨y, z, rfl⟩
  · exact h x z
  · exact h y z
theorem Inv.giv {A : MkA} {m a b : Nat} {g : Int32} (h : Inv A m) : Inv (givA A a b g) m := by
  obtain ⟨⟨a1, a2, a3, a4, a5⟩, h2, h3, h4, h5, h6, ⟨T, PL, P, g1, g2, g3, g4, g5, g6, g7⟩⟩ := h
  refine ⟨⟨a1, a2, a3, a4, fun o ho => ?_⟩, NmOk_u (NmOk_u h2), h3, ?_, h5, h6, ⟨T, PL, P, g1, g2, g3, g4, g5, g6, CoB_g (CoB_g g7)⟩⟩
  · show oT o < (trU (trU A.2.1 a 0 (-g)) b 0 g).length
    rw [trU_len, trU_len]; exact a5 o ho
  · show (trU (trU A.2.1 a 0 (-g)) b 0 g).length ≤ 8
    rw [trU_len, trU_len]; exact h4
theorem Inv.pay {A : MkA} {m k : Nat} {x : Int32} (h : Inv A m) (hk : k < A.2.1.length) (hx : 0 ≤ x.toInt ∧ x.toInt ≤ 99999) (hm : m ≤ 2000) (hc : (ta A.2.1 k).2.1 + x ≤ 999999) : Inv (payA A k x) m := by
  obtain ⟨⟨a1, a2, a3, a4, a5⟩, h2, h3, h4, h5, h6, ⟨T, PL, P, g1, g2, g3, g4, g5, g6, g7⟩⟩ := h
  refine ⟨⟨a1, a2, a3, a4, fun o ho => ?_⟩, NmOk_u h2, h3, ?_, h5, h6, ⟨T, PL, P, g1, g2, g3, g4, g5, g6, fun t ht => ?_⟩⟩
  · show oT o < (trU A.2.1 k x 0).length
    rw [trU_len]; exact a5 o ho
  · show (trU A.2.1 k x 0).length ≤ 8
    rw [trU_len]; exact h4
  · have ht : t ∈ trU A.2.1 k x 0 := ht
    rw [trU_s (ta_at hk)] at ht
    rcases List.mem_or_eq_of_mem_set ht with z | z
    · exact g7 t z
    · have h9 := g7 _ (List.mem_of_getElem? (ta_at hk))
      rw [z]
      show _ ≤ ((ta A.2.1 k).2.1 + x).toInt ∧ _
      have hc' : ((ta A.2.1 k).2.1 + x).toInt ≤ 999999 := Int32.le_iff_toInt_le.mp hc
      rw [i32_add (by omega) (by omega)] at hc' ⊢
      omega
end CIV
