section LAWM
set_option maxRecDepth 100000
/-! ### the model's commands, against the same view -/
theorem bIz {b : Bool} (h : bI (!b) = 0) : b = true := by
  cases b with
  | true => rfl
  | false => exact absurd h (by decide)
theorem th3z {a b c : Bool} (h : th3 a b c = 0) : a = true ∧ b = true ∧ c = true := by
  cases a <;> cases b <;> cases c <;> first | exact ⟨rfl, rfl, rfl⟩ | exact absurd h (by decide)
variable {S : MoT} {V : VwT} {m : Nat}
theorem MSt.nt (h : MSt S V) : Nt S V.1 := h.1.1
theorem MSt.rl (h : MSt S V) : Rl S := h.1.2.1
theorem ho_ (hV : InV V m) : ∀ o ∈ V.1.2.2.1, oT o < 1000000 := fun o ho => by have := hV.1.1.2.2.2.2 o ho; have := hV.1.2.2.2.1; omega
theorem ml_coinsOf {p0 : Int32} (h : MSt S V) (hV : InV V m) : moC m9_coinsOf 3 [.int p0] S (MP (bI (!isTr V.1 p0)) (fun x => x = (ta V.1.2.1 (nat p0)).2.1) V) := by
  refine moC_mono (c9_coinsOf h.nt) ?_
  rintro u S' ⟨rfl, rfl⟩
  refine ⟨rfl, h.t0, _, rfl, fun h0 => if_pos (bIz h0)⟩
theorem ml_goodsOf {p0 : Int32} (h : MSt S V) (hV : InV V m) : moC m9_goodsOf 3 [.int p0] S (MP (bI (!isTr V.1 p0)) (fun x => x = (ta V.1.2.1 (nat p0)).2.2) V) := by
  refine moC_mono (c9_goodsOf h.nt) ?_
  rintro u S' ⟨rfl, rfl⟩
  refine ⟨rfl, h.t0, _, rfl, fun h0 => if_pos (bIz h0)⟩
theorem ml_freeCoins {p0 : Int32} (h : MSt S V) (hV : InV V m) : moC m9_freeCoins 3 [.int p0] S (MP (bI (!isTr V.1 p0)) (fun x => x = (ta V.1.2.1 (nat p0)).2.1 - nI (heldC V.1.2.2.1 (nat p0))) V) := by
  refine moC_mono (c9_freeCoins h.nt (ho_ hV)) ?_
  rintro u S' ⟨rfl, rfl⟩
  refine ⟨rfl, h.t0, _, rfl, fun h0 => if_pos (bIz h0)⟩
theorem ml_freeGoods {p0 : Int32} (h : MSt S V) (hV : InV V m) : moC m9_freeGoods 3 [.int p0] S (MP (bI (!isTr V.1 p0)) (fun x => x = (ta V.1.2.1 (nat p0)).2.2 - nI (heldG V.1.2.2.1 (nat p0))) V) := by
  refine moC_mono (c9_freeGoods h.nt (ho_ hV)) ?_
  rintro u S' ⟨rfl, rfl⟩
  refine ⟨rfl, h.t0, _, rfl, fun h0 => if_pos (bIz h0)⟩
theorem ml_orderAt {p0 : Int32} (h : MSt S V) (hV : InV V m) : moC m9_orderAt 3 [.int p0] S (MP (bI (!isAt V.1 p0)) (fun x => x = (oa V.1.2.2.1 (nat p0)).1) V) := by
  refine moC_mono (c9_orderAt h.nt) ?_
  rintro u S' ⟨rfl, rfl⟩
  refine ⟨rfl, h.t0, _, rfl, fun h0 => if_pos (bIz h0)⟩
theorem ml_traderOf {p0 : Int32} (h : MSt S V) (hV : InV V m) : moC m9_traderOf 5 [.int p0] S (MP (bI (!isOr V.1 p0)) (fun x => x = nI (oT (oa V.1.2.2.1 (ixO V.1 p0)))) V) := by
  refine moC_mono (c9_traderOf h.nt) ?_
  rintro u S' ⟨rfl, rfl⟩
  refine ⟨rfl, h.t0, _, rfl, fun h0 => if_pos (bIz h0)⟩
theorem ml_sideOf {p0 : Int32} (h : MSt S V) (hV : InV V m) : moC m9_sideOf 5 [.int p0] S (MP (bI (!isOr V.1 p0)) (fun x => x = nI (oS (oa V.1.2.2.1 (ixO V.1 p0)))) V) := by
  refine moC_mono (c9_sideOf h.nt) ?_
  rintro u S' ⟨rfl, rfl⟩
  refine ⟨rfl, h.t0, _, rfl, fun h0 => if_pos (bIz h0)⟩
theorem ml_limitOf {p0 : Int32} (h : MSt S V) (hV : InV V m) : moC m9_limitOf 5 [.int p0] S (MP (bI (!isOr V.1 p0)) (fun x => x = nI (oL (oa V.1.2.2.1 (ixO V.1 p0)))) V) := by
  refine moC_mono (c9_limitOf h.nt) ?_
  rintro u S' ⟨rfl, rfl⟩
  refine ⟨rfl, h.t0, _, rfl, fun h0 => if_pos (bIz h0)⟩
theorem ml_quantityOf {p0 : Int32} (h : MSt S V) (hV : InV V m) : moC m9_quantityOf 5 [.int p0] S (MP (bI (!isOr V.1 p0)) (fun x => x = nI (oQ (oa V.1.2.2.1 (ixO V.1 p0)))) V) := by
  refine moC_mono (c9_quantityOf h.nt) ?_
  rintro u S' ⟨rfl, rfl⟩
  refine ⟨rfl, h.t0, _, rfl, fun h0 => if_pos (bIz h0)⟩
theorem ml_minutesLeft {p0 : Int32} (h : MSt S V) (hV : InV V m) : moC m9_minutesLeft 4 [.int p0] S (MP (bI (!isOr V.1 p0)) (fun x => x = oM (oa V.1.2.2.1 (ixO V.1 p0)) - V.1.1.1 + 1) V) := by
  refine moC_mono (c9_minutesLeft h.nt) ?_
  rintro u S' ⟨rfl, rfl⟩
  refine ⟨rfl, h.t0, _, rfl, fun h0 => if_pos (bIz h0)⟩
theorem ml_rankOf {p0 : Int32} (h : MSt S V) (hV : InV V m) : moC m9_rankOf 4 [.int p0] S (MP (bI (!isOr V.1 p0)) (fun x => x = nI (cn V.1.2.2.1 (oS (oa V.1.2.2.1 (ixO V.1 p0))) (fun y => ahd V.1.2.2.1 (oS (oa V.1.2.2.1 (ixO V.1 p0))) y (ixO V.1 p0)) V.1.2.2.1.length)) V) := by
  refine moC_mono (c9_rankOf h.nt) ?_
  rintro u S' ⟨rfl, rfl⟩
  refine ⟨rfl, h.t0, _, rfl, fun h0 => if_pos (bIz h0)⟩
theorem ml_demandAt {p0 : Int32} (h : MSt S V) (hV : InV V m) : moC m9_demandAt 3 [.int p0] S (MP (bI (!inI p0 1 999)) (fun x => x = nI (dem V.1.2.2.1 (nat p0))) V) := by
  refine moC_mono (c9_demandAt h.nt h.rl) ?_
  rintro u S' ⟨rfl, h1, h2⟩
  exact ⟨h1, h.rd h2, _, rfl, fun h0 => if_pos (bIz h0)⟩
theorem ml_supplyAt {p0 : Int32} (h : MSt S V) (hV : InV V m) : moC m9_supplyAt 3 [.int p0] S (MP (bI (!inI p0 1 999)) (fun x => x = nI (sup V.1.2.2.1 (nat p0))) V) := by
  refine moC_mono (c9_supplyAt h.nt h.rl) ?_
  rintro u S' ⟨rfl, h1, h2⟩
  exact ⟨h1, h.rd h2, _, rfl, fun h0 => if_pos (bIz h0)⟩
theorem ml_volumeAt {p0 : Int32} (h : MSt S V) (hV : InV V m) : moC m9_volumeAt 3 [.int p0] S (MP (bI (!inI p0 1 999)) (fun x => x = nI (vol V.1.2.2.1 (nat p0))) V) := by
  refine moC_mono (c9_volumeAt h.nt h.rl) ?_
  rintro u S' ⟨rfl, h1, h2⟩
  exact ⟨h1, h.rd h2, _, rfl, fun h0 => if_pos (bIz h0)⟩
theorem ml_excessAt {p0 : Int32} (h : MSt S V) (hV : InV V m) : moC m9_excessAt 3 [.int p0] S (MP (bI (!inI p0 1 999)) (fun x => x = nI (dem V.1.2.2.1 (nat p0)) - nI (sup V.1.2.2.1 (nat p0))) V) := by
  refine moC_mono (c9_excessAt h.nt h.rl) ?_
  rintro u S' ⟨rfl, h1, h2⟩
  exact ⟨h1, h.rd h2, _, rfl, fun h0 => if_pos (bIz h0)⟩
theorem ml_fillOf {p0 : Int32} (h : MSt S V) (hV : InV V m) : moC m9_fillOf 7 [.int p0] S (MP (bI (!isOr V.1 p0)) (fun x => x = nI (qf V.1 (ixO V.1 p0))) V) := by
  refine moC_mono (c9_fillOf h.nt h.rl hV.1.1) ?_
  rintro u S' ⟨rfl, h1, h2⟩
  exact ⟨h1, h.rd h2, _, rfl, fun h0 => if_pos (bIz h0)⟩
theorem ml_lastLimit {p0 : Int32} (h : MSt S V) (hV : InV V m) : moC m9_lastLimit 7 [.int p0] S (MP (bI (!inI p0 0 1)) (fun x => LaF V.1.2.2.1 (nat p0) (qf V.1) V.1.2.2.1.length x) V) := by
  refine moC_mono (c9_lastLimit h.nt h.rl hV.1.1) ?_
  rintro u S' ⟨⟨r, rfl, hr⟩, h1, h2⟩
  exact ⟨h1, h.rd h2, _, rfl, fun h0 => by rw [if_pos (bIz h0)] at hr; exact hr⟩
theorem ml_priceWithout {p0 : Int32} (h : MSt S V) (hV : InV V m) : moC m9_priceWithout 4 [.int p0] S (MP (bI (!isOr V.1 p0)) (fun x => x = prI (bst (V.1.2.2.1.eraseIdx (ixO V.1 p0)) (nat V.1.1.2.1))) V) := by
  refine moC_mono (c9_priceWithout h.nt h.rl hV.1.1) ?_
  rintro u S' ⟨rfl, h1, h2⟩
  exact ⟨h1, h.rd h2, _, rfl, fun h0 => if_pos (bIz h0)⟩
theorem ml_volumeWithout {p0 : Int32} (h : MSt S V) (hV : InV V m) : moC m9_volumeWithout 5 [.int p0] S (MP (bI (!isOr V.1 p0)) (fun x => x = nI (cvA (V.1.2.2.1.eraseIdx (ixO V.1 p0)) (bst (V.1.2.2.1.eraseIdx (ixO V.1 p0)) (nat V.1.1.2.1)))) V) := by
  refine moC_mono (c9_volumeWithout h.nt h.rl hV.1.1) ?_
  rintro u S' ⟨rfl, h1, h2⟩
  exact ⟨h1, h.rd h2, _, rfl, fun h0 => if_pos (bIz h0)⟩
theorem ml_priceWith {p0 p1 p2 : Int32} (h : MSt S V) (hV : InV V m) : moC m9_priceWith 4 [.int p0, .int p1, .int p2] S (MP (bI (!like p0 p1 p2)) (fun x => x = prI (bst (ordA V.1 0 (nat p0) (nat p1) (nat p2) 0).2.2.1 (nat V.1.1.2.1))) V) := by
  refine moC_mono (c9_priceWith h.nt h.rl hV.1.1 hV.1.2.2.1) ?_
  rintro u S' ⟨rfl, h1, h2⟩
  exact ⟨h1, h.rd h2, _, rfl, fun h0 => if_pos (bIz h0)⟩
theorem ml_fillWith {p0 p1 p2 : Int32} (h : MSt S V) (hV : InV V m) : moC m9_fillWith 7 [.int p0, .int p1, .int p2] S (MP (bI (!like p0 p1 p2)) (fun x => x = nI (FilB (ordA V.1 0 (nat p0) (nat p1) (nat p2) 0).2.2.1 (nat V.1.1.2.1) (nat V.1.1.2.2.2.1) V.1.2.2.1.length)) V) := by
  refine moC_mono (c9_fillWith h.nt h.rl hV.1.1 hV.1.2.2.1) ?_
  rintro u S' ⟨rfl, h1, h2⟩
  exact ⟨h1, h.rd h2, _, rfl, fun h0 => if_pos (bIz h0)⟩
theorem ml_priceToBuy {p0 : Int32} (h : MSt S V) (hV : InV V m) : moC m9_priceToBuy 3 [.int p0] S (MP (bI (!inI p0 1 999)) (fun x => ReS V.1.2.2.1 (nat p0) x) V) := by
  refine moC_mono (c9_priceToBuy h.nt h.rl) ?_
  rintro u S' ⟨⟨r, rfl, hr⟩, h1, h2⟩
  exact ⟨h1, h.rd h2, _, rfl, fun h0 => by rw [if_pos (bIz h0)] at hr; exact hr⟩
theorem ml_priceToSell {p0 : Int32} (h : MSt S V) (hV : InV V m) : moC m9_priceToSell 3 [.int p0] S (MP (bI (!inI p0 1 999)) (fun x => ReD V.1.2.2.1 (nat p0) x) V) := by
  refine moC_mono (c9_priceToSell h.nt h.rl) ?_
  rintro u S' ⟨⟨r, rfl, hr⟩, h1, h2⟩
  exact ⟨h1, h.rd h2, _, rfl, fun h0 => by rw [if_pos (bIz h0)] at hr; exact hr⟩
theorem ml_orderRefusal {p0 p1 p2 p3 : Int32} (h : MSt S V) (hV : InV V m) : moC m9_orderRefusal 4 [.int p0, .int p1, .int p2, .int p3] S (MP (th3 (isTr V.1 p0) (like p1 p2 p3) (true)) (fun x => x = nI (rfs V.1.2.2.1 (ta V.1.2.1 (nat p0)) (nat p0) (nat p1) (nat p2) (nat p3))) V) := by
  refine moC_mono (c9_orderRefusal h.nt hV.1.1 hV.1.2.2.1) ?_
  rintro u S' ⟨rfl, rfl⟩
  refine ⟨rfl, h.t0, _, rfl, fun h0 => if_pos (by rw [(th3z h0).1, (th3z h0).2.1]; rfl)⟩
theorem ml_worthOf {p0 : Int32} (h : MSt S V) (hV : InV V m) : moC m9_worthOf 7 [.int p0] S (MP (bI (!isOr V.1 p0)) (fun x => x = nI (qf V.1 (ixO V.1 p0)) * qp V.1) V) := by
  refine moC_mono (c9_worthOf h.nt h.rl hV.1.1) ?_
  rintro u S' ⟨rfl, h1, h2⟩
  exact ⟨h1, h.rd h2, _, rfl, fun h0 => if_pos (bIz h0)⟩
theorem ml_coinsAfterCry {p0 : Int32} (h : MSt S V) (hV : InV V m) : moC m9_coinsAfterCry 7 [.int p0] S (MP (bI (!isTr V.1 p0)) (fun x => x = (ta V.1.2.1 (nat p0)).2.1 + cct V.1.2.2.1 (qf V.1) (qp V.1) (nat p0) V.1.2.2.1.length) V) := by
  refine moC_mono (c9_coinsAfterCry h.nt h.rl hV.1.1) ?_
  rintro u S' ⟨rfl, h1, h2⟩
  exact ⟨h1, h.rd h2, _, rfl, fun h0 => if_pos (bIz h0)⟩
theorem ml_outputByte {p0 : Int32} (h : MSt S V) (hV : InV V m) : moC m9_outputByte 3 [.int p0] S (MP (bI (!isOt V.2.2.2.2.2 p0)) (fun x => x = nI (V.2.2.2.2.2.getD (nat p0) 0)) V) := by
  refine moC_mono (c9_outputByte h) ?_
  rintro u S' ⟨rfl, rfl⟩
  refine ⟨rfl, h.t0, _, rfl, fun h0 => if_pos (bIz h0)⟩
theorem ml_printSide {p0 : Int32} (h : MSt S V) (hV : InV V m) : moC m9_printSide 6 [.int p0] S (MP (bI (!inI p0 0 1)) (fun x => x = nI (txt V.1 (nat p0)).length) (if inI p0 0 1 = true then (V.1, V.2.1, V.2.2.1, V.2.2.2.1, V.2.2.2.2.1, txt V.1 (nat p0)) else V)) := by
  refine moC_mono (c9_printSide h hV.1.1 hV.1.2.1 hV.1.nu hV.1.2.2.1) ?_
  rintro u S' ⟨rfl, h1, h2⟩
  refine ⟨h1, ?_, _, rfl, fun h0 => if_pos (bIz h0)⟩
  by_cases hb : inI p0 0 1 = true
  · rw [if_pos hb] at h2 ⊢; exact h2
  · rw [if_neg hb] at h2 ⊢; exact h2
theorem ml_append {p0 p1 p2 p3 p4 : Int32} (h : MSt S V) (hV : InV V m) : moC m9_append 3 [.int p0, .int p1, .int p2, .int p3, .int p4] S (MP (bI (!decide (V.2.2.2.1.length ≤ 580))) (fun x => x = nI (V.2.2.2.1.length + 20)) (if decide (V.2.2.2.1.length ≤ 580) = true then (V.1, V.2.1, V.2.2.1, V.2.2.2.1 ++ b20 p0 p1 p2 p3 p4, V.2.2.2.2) else V)) := by
  refine moC_mono (c9_append h) ?_
  rintro u S' ⟨rfl, h1, h2⟩
  refine ⟨h1, ?_, _, rfl, fun h0 => if_pos (of_decide_eq_true (bIz h0))⟩
  by_cases hb : V.2.2.2.1.length ≤ 580
  · rw [if_pos hb] at h2; rw [if_pos (decide_eq_true hb)]; exact h2
  · rw [if_neg hb] at h2; rw [if_neg (by simpa using hb)]; exact h2
theorem ml_truncate {p0 : Int32} (h : MSt S V) (hV : InV V m) : moC m9_truncate 3 [.int p0] S (MP (bI (!isLn V.2.2.2.1 p0)) (fun x => x = p0) (if isLn V.2.2.2.1 p0 = true then (V.1, V.2.1, V.2.2.1, V.2.2.2.1.take (nat p0), V.2.2.2.2) else V)) := by
  refine moC_mono (c9_truncate h) ?_
  rintro u S' ⟨rfl, h1, h2⟩
  refine ⟨h1, ?_, _, rfl, fun h0 => if_pos (bIz h0)⟩
  by_cases hb : isLn V.2.2.2.1 p0 = true
  · rw [if_pos hb] at h2 ⊢; exact h2
  · rw [if_neg hb] at h2 ⊢; exact h2
theorem ml_setRule {p0 : Int32} (h : MSt S V) (hV : InV V m) : moC m9_setRule 3 [.int p0] S (MP (bI (!inI p0 0 1)) (fun x => x = V.1.1.2.2.2.1) (if inI p0 0 1 = true then cmV V (rulA V.1 p0) else V)) := by
  refine moC_mono (c9_setRule h.1) ?_
  rintro u S' ⟨rfl, h1, h2⟩
  refine ⟨h1, ?_, _, rfl, fun h0 => if_pos (bIz h0)⟩
  by_cases hb : inI p0 0 1 = true
  · rw [if_pos hb] at h2 ⊢; exact h.cm h2
  · rw [if_neg hb] at h2 ⊢; exact h.cm h2
theorem ml_setBand {p0 : Int32} (h : MSt S V) (hV : InV V m) : moC m9_setBand 3 [.int p0] S (MP (bI (!inI p0 0 999)) (fun x => x = V.1.1.2.2.1) (if inI p0 0 999 = true then cmV V (banA V.1 p0) else V)) := by
  refine moC_mono (c9_setBand h.1) ?_
  rintro u S' ⟨rfl, h1, h2⟩
  refine ⟨h1, ?_, _, rfl, fun h0 => if_pos (bIz h0)⟩
  by_cases hb : inI p0 0 999 = true
  · rw [if_pos hb] at h2 ⊢; exact h.cm h2
  · rw [if_neg hb] at h2 ⊢; exact h.cm h2
theorem ml_pass {p0 : Int32} (h : MSt S V) (hV : InV V m) : moC m9_pass 10 [.int p0] S (MP (bI (!inI p0 1 300)) (fun x => x = (pasA (nat p0) V.1).2.2.2.2.1 - V.1.2.2.2.2.1) (if inI p0 1 300 = true then cmV V (pasA (nat p0) V.1) else V)) := by
  refine moC_mono (c9_pass h.1 hV.1.1) ?_
  rintro u S' ⟨rfl, h1, h2⟩
  refine ⟨h1, ?_, _, rfl, fun h0 => if_pos (bIz h0)⟩
  by_cases hb : inI p0 1 300 = true
  · rw [if_pos hb] at h2 ⊢; exact h.cm h2
  · rw [if_neg hb] at h2 ⊢; exact h.cm h2
theorem ml_withdraw {p0 : Int32} (h : MSt S V) (hV : InV V m) : moC m9_withdraw 4 [.int p0] S (MP (bI (!isOr V.1 p0)) (fun x => x = nI (oQ (oa V.1.2.2.1 (ixO V.1 p0)))) (if isOr V.1 p0 = true then cmV V (drpA V.1 (ixO V.1 p0)) else V)) := by
  refine moC_mono (c9_withdraw h.1) ?_
  rintro u S' ⟨rfl, h1, h2⟩
  refine ⟨h1, ?_, _, rfl, fun h0 => if_pos (bIz h0)⟩
  by_cases hb : isOr V.1 p0 = true
  · rw [if_pos hb] at h2 ⊢; exact h.cm h2
  · rw [if_neg hb] at h2 ⊢; exact h.cm h2
theorem ml_place {p0 p1 p2 p3 p4 : Int32} (h : MSt S V) (hV : InV V m) : moC m9_place 4 [.int p0, .int p1, .int p2, .int p3, .int p4] S (MP (th3 (isTr V.1 p0) (rtB p1 p2 p3 p4) (rfB V.1 p0 p1 p2 p3)) (fun x => x = V.1.2.2.2.1) (if plB V.1 p0 p1 p2 p3 p4 = true then cmV V (ordA V.1 (nat p0) (nat p1) (nat p2) (nat p3) p4) else V)) := by
  refine moC_mono (c9_place h.1 hV.1.1 hV.1.2.2.1) ?_
  rintro u S' ⟨rfl, h1, h2⟩
  refine ⟨h1, ?_, _, rfl, fun h0 => if_pos (by unfold plB; rw [(th3z h0).1, (th3z h0).2.1, (th3z h0).2.2]; rfl)⟩
  by_cases hb : plB V.1 p0 p1 p2 p3 p4 = true
  · rw [if_pos hb] at h2 ⊢; exact h.cm h2
  · rw [if_neg hb] at h2 ⊢; exact h.cm h2
theorem ml_pay {p0 p1 : Int32} (h : MSt S V) (hV : InV V m) : moC m9_pay 3 [.int p0, .int p1] S (MP (th3 (isTr V.1 p0) (inI p1 1 99999) (payC V.1 p0 p1)) (fun x => x = (ta V.1.2.1 (nat p0)).2.1 + p1) (if payB V.1 p0 p1 = true then cmV V (payA V.1 (nat p0) p1) else V)) := by
  refine moC_mono (c9_pay h.1) ?_
  rintro u S' ⟨rfl, h1, h2⟩
  refine ⟨h1, ?_, _, rfl, fun h0 => if_pos (by unfold payB; rw [(th3z h0).1, (th3z h0).2.1, (th3z h0).2.2]; rfl)⟩
  by_cases hb : payB V.1 p0 p1 = true
  · rw [if_pos hb] at h2 ⊢; exact h.cm h2
  · rw [if_neg hb] at h2 ⊢; exact h.cm h2
theorem ml_save {p0 : Int32} (h : MSt S V) : moC m9_save 3 [.int p0] S (MP (bI (!inI p0 0 1)) (fun x => x = V.1.1.1) (if inI p0 0 1 = true then (V.1, V.2.1, sloS V.2.2.1 (nat p0) V.1, V.2.2.2) else V)) := by
  refine moC_mono (c9_save h.1 h.2.1) ?_
  rintro u S' ⟨rfl, h1, h2⟩
  refine ⟨h1, ?_, _, rfl, fun h0 => if_pos (bIz h0)⟩
  by_cases hb : inI p0 0 1 = true
  · rw [if_pos hb] at h2 ⊢
    obtain ⟨e, hs⟩ := h2
    generalize gA' S' 8 = t at e
    generalize gI' S' 36 = y at e
    subst e
    obtain ⟨⟨n1, n2, n3, n4⟩, -, h3, h4, h5⟩ := h
    exact ⟨⟨n1, ⟨fun _ _ => rfl, rfl, fun _ _ _ _ _ => rfl, n2.2.2.2⟩, n3, n4⟩, hs, h3, h4, h5⟩
  · rw [if_neg hb] at h2 ⊢
    rw [h2]; exact h.t0
theorem ml_restore {p0 : Int32} (h : MSt S V) : moC m9_restore 3 [.int p0] S (MP (th3 (inI p0 0 1) (inI p0 0 1 && (slo V.2.2.1 (nat p0)).isSome) true) (fun x => x = (match slo V.2.2.1 (nat p0) with | some B => B.1.1 | none => 0)) (if inI p0 0 1 = true then (match slo V.2.2.1 (nat p0) with | some B => cmV V B | none => V) else V)) := by
  refine moC_mono (c9_restore h.1 h.2.1) ?_
  rintro u S' ⟨rfl, h1, h2⟩
  refine ⟨h1, ?_, _, rfl, fun h0 => if_pos (th3z h0).1⟩
  by_cases hb : inI p0 0 1 = true
  · rw [if_pos hb] at h2 ⊢
    cases hs : slo V.2.2.1 (nat p0) with
    | none => rw [hs] at h2; exact h.cm h2
    | some B => rw [hs] at h2; exact h.cm h2
  · rw [if_neg hb] at h2 ⊢
    exact h.cm h2
theorem ml_undo (h : MSt S V) : moC m9_undo 3 [] S (MP (if V.2.1 = [] then 1 else 0) (fun x => x = nI (V.2.1.length - 1)) (if V.2.1 = [] then V else (popA V.2.1 V.1, V.2.1.dropLast, V.2.2))) := by
  refine moC_mono (c9_undo h.1) ?_
  rintro u S' ⟨rfl, h1, h2⟩
  refine ⟨h1, ?_, _, rfl, fun _ => rfl⟩
  by_cases hb : V.2.1 = []
  · rw [if_pos hb] at h2 ⊢; exact h.cm h2
  · rw [if_neg hb] at h2 ⊢; exact h.cm h2
theorem ml_errorCode (h : MSt S V) (hV : InV V m) : moC m9_errorCode 1 [] S (fun u S' => u = some (.int (V.2.2.2.2.1.1)) ∧ MSt S' V) := by
  refine moC_mono c9_errorCode ?_
  rintro u S' ⟨rfl, rfl⟩
  exact ⟨by rw [h.2.2.2.1.1], h.t0⟩
theorem ml_errorOffset (h : MSt S V) (hV : InV V m) : moC m9_errorOffset 1 [] S (fun u S' => u = some (.int (V.2.2.2.2.1.2)) ∧ MSt S' V) := by
  refine moC_mono c9_errorOffset ?_
  rintro u S' ⟨rfl, rfl⟩
  exact ⟨by rw [h.2.2.2.1.2], h.t0⟩
theorem ml_minute (h : MSt S V) (hV : InV V m) : moC m9_minute 2 [] S (fun u S' => u = some (.int (V.1.1.1)) ∧ MSt S' V) := by
  exact moC_mono (c9_minute h.nt) (fun u S' z => ⟨z.1, by rw [z.2]; exact h.t0⟩)
theorem ml_lastPrice (h : MSt S V) (hV : InV V m) : moC m9_lastPrice 2 [] S (fun u S' => u = some (.int (V.1.1.2.1)) ∧ MSt S' V) := by
  exact moC_mono (c9_lastPrice h.nt) (fun u S' z => ⟨z.1, by rw [z.2]; exact h.t0⟩)
theorem ml_band (h : MSt S V) (hV : InV V m) : moC m9_band 2 [] S (fun u S' => u = some (.int (V.1.1.2.2.1)) ∧ MSt S' V) := by
  exact moC_mono (c9_band h.nt) (fun u S' z => ⟨z.1, by rw [z.2]; exact h.t0⟩)
theorem ml_rule (h : MSt S V) (hV : InV V m) : moC m9_rule 2 [] S (fun u S' => u = some (.int (V.1.1.2.2.2.1)) ∧ MSt S' V) := by
  exact moC_mono (c9_rule h.nt) (fun u S' z => ⟨z.1, by rw [z.2]; exact h.t0⟩)
theorem ml_minutesToCry (h : MSt S V) (hV : InV V m) : moC m9_minutesToCry 1 [] S (fun u S' => u = some (.int (V.1.1.2.2.2.2 - msc V.1.1)) ∧ MSt S' V) := by
  exact moC_mono (c9_minutesToCry h.nt (by obtain ⟨-, -, -, ⟨per, e, h1, h2⟩, -⟩ := hV.1.1; rw [e]; intro z; have := congrArg Int32.toInt z; rw [nI_ti (by omega)] at this; rw [show (0 : Int32).toInt = 0 from rfl] at this; omega)) (fun u S' z => ⟨z.1, by rw [z.2]; exact h.t0⟩)
theorem ml_traderCount (h : MSt S V) (hV : InV V m) : moC m9_traderCount 2 [] S (fun u S' => u = some (.int (nI V.1.2.1.length)) ∧ MSt S' V) := by
  exact moC_mono (c9_traderCount h.nt) (fun u S' z => ⟨z.1, by rw [z.2]; exact h.t0⟩)
theorem ml_orderCount (h : MSt S V) (hV : InV V m) : moC m9_orderCount 2 [] S (fun u S' => u = some (.int (nI V.1.2.2.1.length)) ∧ MSt S' V) := by
  exact moC_mono (c9_orderCount h.nt) (fun u S' z => ⟨z.1, by rw [z.2]; exact h.t0⟩)
theorem ml_bestBid (h : MSt S V) (hV : InV V m) : moC m9_bestBid 4 [] S (fun u S' => u = some (.int (fst_ V.1.2.2.1 (line V.1.2.2.1 0 V.1.2.2.1.length))) ∧ MSt S' V) := by
  refine moC_mono (c9_bestBid h.nt) ?_
  rintro u S' ⟨⟨r, rfl, hr⟩, rfl⟩
  exact ⟨by rw [BeF_fst (by decide) hr], h.t0⟩
theorem ml_bestOffer (h : MSt S V) (hV : InV V m) : moC m9_bestOffer 4 [] S (fun u S' => u = some (.int (fst_ V.1.2.2.1 (line V.1.2.2.1 1 V.1.2.2.1.length))) ∧ MSt S' V) := by
  refine moC_mono (c9_bestOffer h.nt) ?_
  rintro u S' ⟨⟨r, rfl, hr⟩, rfl⟩
  exact ⟨by rw [BeF_fst (by decide) hr], h.t0⟩
theorem ml_cryPrice (h : MSt S V) (hV : InV V m) : moC m9_cryPrice 4 [] S (fun u S' => u = some (.int (qp V.1)) ∧ MSt S' V) := by
  exact moC_mono (c9_cryPrice h.nt h.rl hV.1.1) (fun u S' z => ⟨z.1, h.rd z.2.2⟩)
theorem ml_cryVolume (h : MSt S V) (hV : InV V m) : moC m9_cryVolume 5 [] S (fun u S' => u = some (.int (nI (cvA V.1.2.2.1 (bst V.1.2.2.1 (nat V.1.1.2.1))))) ∧ MSt S' V) := by
  exact moC_mono (c9_cryVolume h.nt h.rl hV.1.1) (fun u S' z => ⟨z.1, h.rd z.2.2⟩)
theorem ml_wouldStop (h : MSt S V) (hV : InV V m) : moC m9_wouldStop 4 [] S (fun u S' => u = some (.int (if stp V.1.1 (qp V.1) = true then 1 else 0)) ∧ MSt S' V) := by
  exact moC_mono (c9_wouldStop h.nt h.rl hV.1.1) (fun u S' z => ⟨z.1, h.rd z.2.2⟩)
theorem ml_partialFills (h : MSt S V) (hV : InV V m) : moC m9_partialFills 7 [] S (fun u S' => u = some (.int (nI (pfc V.1.2.2.1 (qf V.1) V.1.2.2.1.length))) ∧ MSt S' V) := by
  exact moC_mono (c9_partialFills h.nt h.rl hV.1.1) (fun u S' z => ⟨z.1, h.rd z.2.2⟩)
theorem ml_tradedPieces (h : MSt S V) (hV : InV V m) : moC m9_tradedPieces 2 [] S (fun u S' => u = some (.int (V.1.2.2.2.2.1)) ∧ MSt S' V) := by
  exact moC_mono (c9_tradedPieces h.nt) (fun u S' z => ⟨z.1, by rw [z.2]; exact h.t0⟩)
theorem ml_goodCries (h : MSt S V) (hV : InV V m) : moC m9_goodCries 2 [] S (fun u S' => u = some (.int (V.1.2.2.2.2.2.2.1)) ∧ MSt S' V) := by
  exact moC_mono (c9_goodCries h.nt) (fun u S' z => ⟨z.1, by rw [z.2]; exact h.t0⟩)
theorem ml_stoppedCries (h : MSt S V) (hV : InV V m) : moC m9_stoppedCries 2 [] S (fun u S' => u = some (.int (V.1.2.2.2.2.2.2.2.1)) ∧ MSt S' V) := by
  exact moC_mono (c9_stoppedCries h.nt) (fun u S' z => ⟨z.1, by rw [z.2]; exact h.t0⟩)
theorem ml_lateOrders (h : MSt S V) (hV : InV V m) : moC m9_lateOrders 2 [] S (fun u S' => u = some (.int (V.1.2.2.2.2.2.2.2.2.1)) ∧ MSt S' V) := by
  exact moC_mono (c9_lateOrders h.nt) (fun u S' z => ⟨z.1, by rw [z.2]; exact h.t0⟩)
theorem ml_coinDifference (h : MSt S V) (hV : InV V m) : moC m9_coinDifference 3 [] S (fun u S' => u = some (.int (V.1.2.2.2.2.2.2.2.2.2.1 - sumC V.1.2.1)) ∧ MSt S' V) := by
  exact moC_mono (c9_coinDifference h.nt) (fun u S' z => ⟨z.1, by rw [z.2]; exact h.t0⟩)
theorem ml_goodDifference (h : MSt S V) (hV : InV V m) : moC m9_goodDifference 7 [] S (fun u S' => u = some (.int (V.1.2.2.2.2.2.2.2.2.2.2.1 - sumG V.1.2.1 + abI (ofd V.1.2.2.1 (qf V.1) V.1.2.2.1.length))) ∧ MSt S' V) := by
  exact moC_mono (c9_goodDifference h.nt h.rl hV.1.1) (fun u S' z => ⟨z.1, h.rd z.2.2⟩)
theorem ml_cry (h : MSt S V) (hV : InV V m) : moC m9_cry 8 [] S (fun u S' => u = some (.int (cryA V.1).2) ∧ MSt S' (cmV V (cryA V.1).1)) := by
  refine moC_mono (c9_cry h.1 hV.1.1) ?_
  rintro u S' ⟨rfl, -, h2⟩
  exact ⟨by rw [cryA_tr], h.cm h2⟩
theorem ml_load (h : MSt S V) : moC m9_load 13 [] S (fun u S' => u = some (.int (ldR (parse V.2.2.2.1))) ∧ MSt S' (ldV V (parse V.2.2.2.1))) :=
  moC_mono (c9_load2 h) (fun u S' z => ⟨z.1, z.2.2⟩)
theorem ml_tradedShare (h : MSt S V) : moC m9_tradedShare 1 [] S (fun u S' => u = some (.float (tshA V.1)) ∧ MSt S' V) :=
  moC_mono (c9_tradedShare h.nt) (fun u S' z => ⟨z.1, by rw [z.2]; exact h.t0⟩)
theorem ml_meanPrice (h : MSt S V) (hV : InV V m) (hm : m ≤ 2000) : moC m9_meanPrice 1 [] S (fun u S' => u = some (.double (mprC V.1)) ∧ MSt S' V) :=
  moC_mono (c9_meanPrice h.nt) (fun u S' z => ⟨by rw [mpr_eq hV.1 hm]; exact z.1, by rw [z.2]; exact h.t0⟩)
/-! what always holds goes on -/
theorem InV.set {V : VwT} {m : Nat} {A : MkA} {b : Bool} (h : InV V m) (hA : b = true → Inv A (m + 1)) : InV (if b = true then cmV V A else V) (m + 1) := by
  by_cases hb : b = true
  · rw [if_pos hb]; exact h.cm (Nat.le_succ _) (hA hb)
  · rw [if_neg hb]; exact h.mono (Nat.le_succ _)
theorem iv_setRule {p0 : Int32} (hV : InV V m) : InV (if inI p0 0 1 = true then cmV V (rulA V.1 p0) else V) (m + 1) :=
  hV.set (fun hb => by obtain ⟨a, rfl, -, h2⟩ := inI_n (lo := 0) (hi := 1) (by decide) (by decide) hb; exact (hV.1.rul h2).mono (Nat.le_succ _))
theorem iv_setBand {p0 : Int32} (hV : InV V m) : InV (if inI p0 0 999 = true then cmV V (banA V.1 p0) else V) (m + 1) :=
  hV.set (fun hb => by obtain ⟨a, rfl, -, h2⟩ := inI_n (lo := 0) (hi := 999) (by decide) (by decide) hb; exact (hV.1.ban h2).mono (Nat.le_succ _))
theorem iv_pass {p0 : Int32} (hV : InV V m) (hm : m ≤ 2000) : InV (if inI p0 1 300 = true then cmV V (pasA (nat p0) V.1) else V) (m + 1) :=
  hV.set (fun _ => (Inv.pas _ hV.1 hm).mono (Nat.le_succ _))
theorem iv_withdraw {p0 : Int32} (hV : InV V m) : InV (if isOr V.1 p0 = true then cmV V (drpA V.1 (ixO V.1 p0)) else V) (m + 1) :=
  hV.set (fun _ => hV.1.drp.mono (Nat.le_succ _))
theorem iv_place {p0 p1 p2 p3 p4 : Int32} (hV : InV V m) (hm : m ≤ 2000) : InV (if plB V.1 p0 p1 p2 p3 p4 = true then cmV V (ordA V.1 (nat p0) (nat p1) (nat p2) (nat p3) p4) else V) (m + 1) :=
  hV.set (fun hb => by
    unfold plB rtB rfB at hb
    simp only [Bool.and_eq_true] at hb
    obtain ⟨⟨h1, h2, -⟩, h3⟩ := hb
    obtain ⟨t, rfl, ht⟩ := isTr_n hV.1.2.2.2.1 h1
    have h8 := hV.1.2.2.2.1
    obtain ⟨a, b, c, rfl, rfl, rfl, a1, b1, b9, c1, c9⟩ := like_n h2
    have h3 := of_decide_eq_true h3
    unfold rfs at h3
    rw [nat_nI (by omega), nat_nI (by omega), nat_nI (by omega), nat_nI (by omega)] at *
    have hn : V.1.2.2.1.length ≠ 20 := fun e => by rw [if_pos e] at h3; cases h3
    have h20 := hV.1.2.2.1
    exact hV.1.ord hm (by omega) ht ⟨a1, b1, b9, c9⟩)
theorem iv_pay {p0 p1 : Int32} (hV : InV V m) (hm : m ≤ 2000) : InV (if payB V.1 p0 p1 = true then cmV V (payA V.1 (nat p0) p1) else V) (m + 1) :=
  hV.set (fun hb => by
    unfold payB payC at hb
    simp only [Bool.and_eq_true] at hb
    obtain ⟨⟨h1, h2⟩, h3⟩ := hb
    obtain ⟨t, rfl, ht⟩ := isTr_n hV.1.2.2.2.1 h1
    have h8 := hV.1.2.2.2.1
    obtain ⟨x, rfl, x1, x9⟩ := inI_n (lo := 1) (hi := 99999) (by decide) (by decide) h2
    have h3 := of_decide_eq_true h3
    rw [nat_nI (by omega)] at *
    exact (hV.1.pay ht (by rw [nI_ti (by omega)]; omega) hm h3).mono (Nat.le_succ _))
theorem iv_cry (hV : InV V m) (hm : m ≤ 2000) : InV (cmV V (cryA V.1).1) (m + 1) := hV.cm (Nat.le_succ _) ((hV.1.cry hm).mono (Nat.le_succ _))
theorem iv_load (hV : InV V m) (hm : 601 ≤ m) : InV (ldV V (parse V.2.2.2.1)) (m + 1) := by
  cases hp : parse V.2.2.2.1 with
  | inl e => exact hV.mono (Nat.le_succ _)
  | inr A => exact hV.cm (V := V) (Nat.le_succ _) ((parse_ok hp).mono (by omega))
theorem iv_save {p0 : Int32} (hV : InV V m) : InV (if inI p0 0 1 = true then (V.1, V.2.1, sloS V.2.2.1 (nat p0) V.1, V.2.2.2) else V) (m + 1) := by
  by_cases hb : inI p0 0 1 = true
  · rw [if_pos hb]; exact hV.save.mono (Nat.le_succ _)
  · rw [if_neg hb]; exact hV.mono (Nat.le_succ _)
theorem iv_restore {p0 : Int32} (hV : InV V m) : InV (if inI p0 0 1 = true then (match slo V.2.2.1 (nat p0) with | some B => cmV V B | none => V) else V) (m + 1) := by
  by_cases hb : inI p0 0 1 = true
  · rw [if_pos hb]
    cases hs : slo V.2.2.1 (nat p0) with
    | none => exact hV.mono (Nat.le_succ _)
    | some B => exact hV.cm (Nat.le_succ _) ((hV.sl hs).mono (Nat.le_succ _))
  · rw [if_neg hb]; exact hV.mono (Nat.le_succ _)
theorem iv_undo (hV : InV V m) : InV (if V.2.1 = [] then V else (popA V.2.1 V.1, V.2.1.dropLast, V.2.2)) (m + 1) := by
  by_cases hb : V.2.1 = []
  · rw [if_pos hb]; exact hV.mono (Nat.le_succ _)
  · rw [if_neg hb]; exact hV.undo.mono (Nat.le_succ _)
theorem iv_same {b : Bool} {V1 : VwT} (hV : InV V m) (e : V1.1 = V.1 ∧ V1.2.1 = V.2.1 ∧ V1.2.2.1 = V.2.2.1) : InV (if b = true then V1 else V) (m + 1) := by
  by_cases hb : b = true
  · rw [if_pos hb]
    have h := hV.mono (Nat.le_succ m)
    exact ⟨by rw [e.1]; exact h.1, by rw [e.2.1]; exact h.2.1, by rw [e.2.2]; exact h.2.2.1, by rw [e.2.2]; exact h.2.2.2⟩
  · rw [if_neg hb]; exact hV.mono (Nat.le_succ _)
/-! one call in the law -/
section
variable {L9 : gM} {d mc ms : Nat} {h0 : gH} {Q : Option Value → gH → Prop} {QX : String → gH → Prop} {c n pc : Nat} {ls : List (Option Value)} {X : NsT} {Mo : MoT} {z : Int64}
theorem hX_sub : gSub (List.range 185) (hX X Mo z) (hX X Mo z) := by
  have hr : List.range 185 = List.range (List.range 185).length := by rw [List.length_range]
  refine ⟨?_, List.nodup_range, fun k hk => by have := List.mem_range.mp hk; omega⟩
  refine List.ext_getElem? (fun i => ?_)
  rw [List.getElem?_map, List.getElem?_map]
  by_cases hi : i < 185
  · rw [List.getElem?_range hi]
    have hil : i < (hX X Mo z).length := by rw [hX_len]; exact hi
    rw [List.getElem?_eq_getElem hil]
    show some ((hX X Mo z)[i]?) = some (some (((hX X Mo z)[i]).map (rc (List.range 185))))
    rw [List.getElem?_eq_getElem hil]
    cases (hX X Mo z)[i] with
    | none => rfl
    | some c => rw [Option.map_some, rc_id hr]
  · rw [List.getElem?_eq_none (by rw [List.length_range]; omega), List.getElem?_eq_none (by rw [hX_len]; omega)]; rfl
theorem tv_id185 (vs : List Value) : vs.map (tv (gRen (List.range 185))) = vs := by
  have e : gRen (List.range 185) = fun k => k := funext (fun i => gRen_id (by rw [List.length_range]) i)
  rw [e]; exact map_tv_id vs
theorem g_he {M' : gM} {d' c' n' idx na : Nat} {vs rest sk : List Value} {k0 : Int32} {R : Int32 → Prop} {V1 : VwT} (hC : gCt M' d' c' n' vs (hX X Mo z) (HP Mo k0 R V1) (fun _ _ => False)) (hd : decode (mC L9) pc = .ok (.invokestatic idx, 3)) (hlk : gLkSH (mY L9).cls idx M' na) (hna : vs.length = na) (hsk : sk = vs.reverse ++ rest)
    (hT : mT L9 = []) (hdd : d' + 1 ≤ d) (hcat : (rest.map fun v => v.category).sum ≤ 8) (hc : c + c' ≤ mc) (hn : n + n' ≤ ms) (hls : ls.all (fun o => match o with | some (.ref q) => Nat.blt q 41 || Nat.ble 174 q | _ => true) = true) (hrs : rest.all (fun o => match o with | .ref q => Nat.blt q 41 || Nat.ble 174 q | _ => true) = true)
    (k : ∀ (y : Int32) (X' : NsT) (z' : Int64), y = k0 → NR X' V1 → (y = 0 → ∃ x, R x ∧ z' = x.toInt64) → G L9 d mc ms h0 Q QX (c + c') (n + n') (pc + 3) ls (.int y :: rest) (hX X' Mo z')) : G L9 d mc ms h0 Q QX c n pc ls sk (hX X Mo z) := by
  refine g_callSH (List.range 185) hC hd hlk hna (by rw [tv_id185]; exact hsk) hX_sub (Or.inr ⟨fun _ _ _ => ?_, fun _ _ z => z.elim, fun i hi => ?_⟩) hT hdd hcat hc hn (fun _ _ z => z.elim) ?_
  · intro k' c' _ r h1 h2
    have := List.mem_range.mp h2
    rw [List.length_range] at h1
    omega
  · rw [gRen_id (by rw [List.length_range])]
    obtain ⟨Z, T, B, Y, C, O, S, ZD, TD, BD, YD, c, n, k, v⟩ := X
    exact hW_free hi hls hrs
  · rintro v h1 ⟨rfl, X', z', rfl, hR, hz⟩
    rw [gPb_id (by rw [List.length_range]) (by rw [hX_len, List.length_range]) (by rw [hX_len, List.length_range])]
    exact k _ X' z' rfl hR hz
theorem g_m9 {M' : gM} {d' idx na : Nat} {vs rest sk : List Value} {S : MoT} {P : Option Value → MoT → Prop} (hC : moC M' d' vs S P) (hd : decode (mC L9) pc = .ok (.invokevirtual idx, 3)) (hlk : gLkV (mY L9).cls idx M' na) (hna : vs.length = na) (hci : RX9 = (mY M').cls) (hvs : vs.map (tv (gRen rhM)) = vs) (hsk : sk = vs.reverse ++ .ref 174 :: rest)
    (hT : mT L9 = []) (hdd : d' + 1 ≤ d) (hcat : (rest.map fun v => v.category).sum ≤ 8) (hc : c ≤ mc) (hn : n ≤ ms)
    (k : ∀ (u : Option Value) (S' : MoT), P u S' → G L9 d mc ms h0 Q QX c n (pc + 3) ls (u.toList ++ rest) (hX X S' z)) : G L9 d mc ms h0 Q QX c n pc ls sk (hX X S z) := by
  refine g_callV (ci := 9) (k0 := 0) rhM hC hd hlk hna rfl (by rw [← hci]; rfl) (by rw [hvs]; exact hsk) hX_sM (Or.inl (hMo_all S)) hT hdd hcat hc hn (fun _ _ z => z.elim) ?_
  rintro v h1 ⟨S', rfl, hq⟩
  rw [hX_pM]
  exact k v S' hq
theorem g_mh {M' : gM} {d' idx na : Nat} {vs rest sk : List Value} {S : MoT} {k0 : Int32} {R : Int32 → Prop} {V1 : VwT} (hC : moC M' d' vs S (MP k0 R V1)) (hd : decode (mC L9) pc = .ok (.invokevirtual idx, 3)) (hlk : gLkV (mY L9).cls idx M' na) (hna : vs.length = na) (hci : RX9 = (mY M').cls) (hvs : vs.map (tv (gRen rhM)) = vs) (hsk : sk = vs.reverse ++ .ref 174 :: rest)
    (hT : mT L9 = []) (hdd : d' + 1 ≤ d) (hcat : (rest.map fun v => v.category).sum ≤ 8) (hc : c ≤ mc) (hn : n ≤ ms)
    (k : ∀ (b : Int32) (S' : MoT), gI' S' 0 = k0 → MSt S' V1 → (k0 = 0 → R b) → G L9 d mc ms h0 Q QX c n (pc + 3) ls (.int b :: rest) (hX X S' z)) : G L9 d mc ms h0 Q QX c n pc ls sk (hX X S z) := by
  refine g_m9 hC hd hlk hna hci hvs hsk hT hdd hcat hc hn ?_
  rintro u S' ⟨h1, h2, b, rfl, h3⟩
  exact k b S' h1 h2 h3
theorem g_th {idx : Nat} {rest : List Value} {S : MoT} {y : Int32} (hy : gI' S 0 = y) (hd : decode (mC L9) pc = .ok (.invokevirtual idx, 3)) (hlk : gLkV (mY L9).cls idx m9_thrown 0)
    (hT : mT L9 = []) (hdd : 1 + 1 ≤ d) (hcat : (rest.map fun v => v.category).sum ≤ 8) (hc : c ≤ mc) (hn : n ≤ ms)
    (k : G L9 d mc ms h0 Q QX c n (pc + 3) ls (.int y :: rest) (hX X S z)) : G L9 d mc ms h0 Q QX c n pc ls (.ref 174 :: rest) (hX X S z) := by
  refine g_callV (ci := 9) (k0 := 0) rhM (c9_thrown (S := S)) hd hlk rfl rfl rfl rfl hX_sM (Or.inl (hMo_all S)) hT hdd hcat hc hn (fun _ _ z => z.elim) ?_
  rintro v h1 ⟨rfl, rfl⟩
  rw [hX_pM, hy]
  exact k
theorem CN_CA {M' : gM} {d' : Nat} {x : Value} {Z : MhT} {T : TrT} {B : BkT} {Y : TaT} {C : CrT} (hC : CrLen C) (h : gCt M' d' 0 0 [.ref 0] (hN Z T B Y C) (CN true (some x) (hN Z T B Y C)) (fun _ _ => False)) : gCt M' d' 0 0 [.ref 0] (hN Z T B Y C) (CA true x Z T B Y) (fun _ _ => False) :=
  gCt_mono h (fun v h1 z => ⟨rfl, z.2.1, C, z.2.2, hC⟩) (fun _ _ z => z)
theorem g_dA {M' : gM} {d' idx : Nat} {x : Value} {V : VwT} (hR : NR X V) (hC : ∀ Z T B Y C, MkR Z T B Y V.1 → CrLen C → gCt M' d' 0 0 [.ref 0] (hN Z T B Y C) (CA true x Z T B Y) (fun _ _ => False)) (hd : decode (mC L9) pc = .ok (.invokevirtual idx, 3)) (hlk : gLkV (mY L9).cls idx M' 0) (hci : RX8 = (mY M').cls)
    (hT : mT L9 = []) (hdd : d' + 1 ≤ d) (hc : c ≤ mc) (hn : n ≤ ms) (k : ∀ X', NR X' V → G L9 d mc ms h0 Q QX c n (pc + 3) ls [x] (hX X' Mo z)) : G L9 d mc ms h0 Q QX c n pc ls [.ref 0] (hX X Mo z) := by
  obtain ⟨Z, T, B, Y, C, O, S, ZD, TD, BD, YD, c9, n9, k9, v⟩ := X
  obtain ⟨hA, hC', hO, hS, hE, hD, hH, hSl⟩ := hR
  refine g_callV (ci := 8) [0, 1, 2, 3, 4, 5, 6, 7, 8, 9, 10, 11, 12, 13, 14, 15, 16, 17, 18, 19] (hC _ _ _ _ _ hA hC') hd hlk rfl rfl (by rw [← hci]; rfl) rfl hX_sN (Or.inl (gAllS rfl)) hT hdd (by decide) hc hn (fun _ _ z => z.elim) ?_
  rintro v1 h1 ⟨-, rfl, C2, rfl, hC2⟩
  rw [hX_pN]
  exact k (Z, T, B, Y, C2, O, S, ZD, TD, BD, YD, c9, n9, k9, v) ⟨hA, hC2, hO, hS, hE, hD, hH, hSl⟩
theorem g_dS {M' : gM} {d' idx : Nat} {V : VwT} {f : SeT → Int32} {x : Int32} (hR : NR X V) (hf : ∀ S : SeT, S.2.1 = V.2.2.2.2.1.1 → S.2.2.1 = V.2.2.2.2.1.2 → f S = x) (hC : ∀ Z T B Y C O S, gCt M' d' 0 0 [.ref 0] (hNS Z T B Y C O S) (CN true (some (.int (f S))) (hNS Z T B Y C O S)) (fun _ _ => False)) (hd : decode (mC L9) pc = .ok (.invokevirtual idx, 3)) (hlk : gLkV (mY L9).cls idx M' 0) (hci : RX8 = (mY M').cls)
    (hT : mT L9 = []) (hdd : d' + 1 ≤ d) (hc : c ≤ mc) (hn : n ≤ ms) (k : G L9 d mc ms h0 Q QX c n (pc + 3) ls [.int x] (hX X Mo z)) : G L9 d mc ms h0 Q QX c n pc ls [.ref 0] (hX X Mo z) := by
  obtain ⟨Z, T, B, Y, C, O, S, ZD, TD, BD, YD, c9, n9, k9, v⟩ := X
  obtain ⟨hA, hC', hO, hS, hE, hD, hH, hSl⟩ := hR
  refine g_callV (ci := 8) [0, 1, 2, 3, 4, 5, 6, 7, 8, 9, 10, 11, 12, 13, 14, 15, 16, 17, 18, 19, 20, 21, 22, 23, 24] (hC Z T B Y C O S) hd hlk rfl rfl (by rw [← hci]; rfl) rfl hX_sS (Or.inl (gAllS rfl)) hT hdd (by decide) hc hn (fun _ _ z => z.elim) ?_
  rintro v1 h1 ⟨-, rfl, rfl⟩
  rw [hX_pS, hf S hE.1 hE.2]
  exact k
end
end LAWM
