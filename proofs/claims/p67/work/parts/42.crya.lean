section CMN2
set_option maxRecDepth 100000
theorem c3_holdCryA {Z : MhT} {T : TrT} {B : BkT} {Y : TaT} {C : CrT} {A : MkA} (hA : MkR Z T B Y A) (hok : MkOk A) (hC : CrLen C) :
    gCt m3_holdCry 3 0 0 [.ref 0, .ref 13] (hMkCr Z T B Y C) (fun v h => v = some (.int (cryA A).2) ∧ ∃ Z' T' B' Y' C', h = hMkCr Z' T' B' Y' C' ∧ MkR Z' T' B' Y' (cryA A).1 ∧ CrLen C') (fun _ _ => False) := by
  obtain ⟨AZ, ts, os, nn, AY⟩ := A
  obtain ⟨hZ, hT, hB, hn, hY⟩ := hA
  obtain ⟨⟨last, e1, e2, e3⟩, -, ⟨rule, e4, e5⟩, -, e6⟩ := hok
  simp only at e1 e4 e6 hT hB hn hZ hY
  subst hZ hY
  refine gCt_mono (c3_holdCry (Z := Z) (Y := Y) (C := C) hT hB hC e6 e1 e2 e3 e4 e5) (fun v h hh => ?_) (fun _ _ z => z)
  obtain ⟨b, hb, C', hC', hh⟩ := hh
  have hbb : bst os last = b := Best_u (bst_b os last) hb
  have hlast : nat Z.2.1 = last := by rw [e1, nat_nI (by omega)]
  have hrule : nat Z.2.2.2.1 = rule := by rw [e4, nat_nI (by omega)]
  unfold cryA
  simp only [hlast, hrule, hbb]
  rcases hh with ⟨q1, q2, q3⟩ | ⟨q1, q2, q3, q4⟩ | ⟨q1, q2, q3, T', B', q4, q5, q6, q7⟩
  · rw [if_pos q1]
    exact ⟨q2, _, _, _, _, C', q3, ⟨rfl, hT, hB, hn, rfl⟩, hC'⟩
  · rw [if_neg q1, if_pos q2]
    exact ⟨q3, _, _, _, _, C', q4, ⟨rfl, hT, hB, hn, rfl⟩, hC'⟩
  · rw [if_neg q1, if_neg q2]
    exact ⟨q3, _, _, _, _, C', q4, ⟨rfl, q5, q6, q7.trans hn, rfl⟩, hC'⟩
end CMN2
