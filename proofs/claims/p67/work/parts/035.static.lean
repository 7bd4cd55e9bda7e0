theorem gIn (ws : List Cond) (ps : List Nat) (hp : ws = ps.filterMap (fun i => lw_tbl[i]?)) (hg : ws.all goodWord = true) : ∀ w ∈ ws, w ∈ gG := by
  intro w hw
  have h1 := List.all_eq_true.mp hg w hw
  rw [hp] at hw
  obtain ⟨i, -, hi⟩ := List.mem_filterMap.mp hw
  exact gG_in i hi h1
theorem gX_ws_0 : ∀ w ∈ u_ws RX0 TX0 8, w ∈ gG := gIn _ [172, 174, 176, 178, 180, 182, 184, 186] (by decide +kernel) (by decide +kernel)
theorem gX_ws_1 : ∀ w ∈ u_ws RX1 TX1 10, w ∈ gG := gIn _ [298, 300, 302, 304, 306, 308, 310, 312, 314, 316] (by decide +kernel) (by decide +kernel)
theorem gX_ws_2 : ∀ w ∈ u_ws RX2 TX2 3, w ∈ gG := gIn _ [615, 617, 619] (by decide +kernel) (by decide +kernel)
theorem gX_ws_3 : ∀ w ∈ u_ws RX3 TX3 8, w ∈ gG := gIn _ [257, 259, 261, 263, 265, 267, 269, 271] (by decide +kernel) (by decide +kernel)
theorem gX_ws_4 : ∀ w ∈ u_ws RX4 TX4 2, w ∈ gG := gIn _ [629, 631] (by decide +kernel) (by decide +kernel)
theorem gX_ws_5 : ∀ w ∈ u_ws RX5 TX5 10, w ∈ gG := gIn _ [83, 85, 87, 89, 91, 93, 95, 97, 99, 101] (by decide +kernel) (by decide +kernel)
theorem gX_ws_6 : ∀ w ∈ u_ws RX6 TX6 8, w ∈ gG := gIn _ [217, 219, 221, 223, 225, 227, 229, 231] (by decide +kernel) (by decide +kernel)
theorem gX_ws_7 : ∀ w ∈ u_ws RX7 TX7 4, w ∈ gG := gIn _ [130, 132, 134, 136] (by decide +kernel) (by decide +kernel)
theorem gX_ws_8 : ∀ w ∈ u_ws RX8 TX8 7, w ∈ gG := gIn _ [641, 643, 645, 647, 649, 651, 653] (by decide +kernel) (by decide +kernel)
theorem gX_ws_9 : ∀ w ∈ u_ws RJ0 TJ0 4, w ∈ gG := gIn _ [972, 974, 976, 978] (by decide +kernel) (by decide +kernel)
theorem gX_ws_10 : ∀ w ∈ u_ws RJ4 TJ4 4, w ∈ gG := gIn _ [776, 778, 780, 782] (by decide +kernel) (by decide +kernel)
theorem gCls : ∀ (ci : Nat) (r : vw_C), vwCl[ci]? = some r → (∀ w ∈ u_ws r.1 r.2.1 r.2.2, w ∈ gG) ∧ (∃ ty0 : Nat → FieldType, ∀ k, k < r.2.2 → parseFieldDescriptor (r.2.1 k).2.2.1 = some (ty0 k)) ∧ (∀ a, a < r.2.2 → ∀ b, b < r.2.2 → a ≠ b → (r.2.1 a).2.1 ≠ (r.2.1 b).2.1) := by
  intro ci r h
  match ci, h with
  | 0, h => cases h; exact ⟨gX_ws_0, ⟨tyX0, tyX0_ok⟩, nmX0⟩
  | 1, h => cases h; exact ⟨gX_ws_1, ⟨tyX1, tyX1_ok⟩, nmX1⟩
  | 2, h => cases h; exact ⟨gX_ws_2, ⟨tyX2, tyX2_ok⟩, nmX2⟩
  | 3, h => cases h; exact ⟨gX_ws_3, ⟨tyX3, tyX3_ok⟩, nmX3⟩
  | 4, h => cases h; exact ⟨gX_ws_4, ⟨tyX4, tyX4_ok⟩, nmX4⟩
  | 5, h => cases h; exact ⟨gX_ws_5, ⟨tyX5, tyX5_ok⟩, nmX5⟩
  | 6, h => cases h; exact ⟨gX_ws_6, ⟨tyX6, tyX6_ok⟩, nmX6⟩
  | 7, h => cases h; exact ⟨gX_ws_7, ⟨tyX7, tyX7_ok⟩, nmX7⟩
  | 8, h => cases h; exact ⟨gX_ws_8, ⟨tyX8, tyX8_ok⟩, nmX8⟩
  | 9, h => cases h; exact ⟨gX_ws_9, ⟨tyJ0, tyJ0_ok⟩, nmJ0⟩
  | 10, h => cases h; exact ⟨gX_ws_10, ⟨tyJ4, tyJ4_ok⟩, nmJ4⟩
  | n + 11, h => simp [vwCl] at h
def gOwn : Nat → String
  | 0 => RX0
  | 1 => RX1
  | 2 => RX2
  | 3 => RX3
  | 4 => RX4
  | 5 => RX5
  | 6 => RX6
  | 7 => RX7
  | 8 => RX8
  | 9 => RJ0
  | 10 => RJ4
  | 11 => RL
  | 12 => RJ1
  | 13 => RJ5
  | 14 => RJ6
  | 15 => RJ7
  | 16 => RJ8
  | 17 => RJ3
  | _ => RL
/-- a field instruction of a class: its entry, the class of the object, the place of the field -/
def gFok (own : String) (idx ci k : Nat) : Prop := ∃ (C : String) (T : u_T) (N : Nat), vwCl[ci]? = some (C, T, N) ∧ k < N ∧ Cond.fieldLink own idx (T k).1 (T k).2.1 (T k).2.2.1 ∈ gG
def gFw (own : String) (e : Nat × Nat × Nat) : Cond := match vwCl[e.2.1]? with
  | some r => .fieldLink own e.1 (r.2.1 e.2.2).1 (r.2.1 e.2.2).2.1 (r.2.1 e.2.2).2.2.1
  | none => .tt
def gFb (e : Nat × Nat × Nat) : Bool := match vwCl[e.2.1]? with
  | some r => decide (e.2.2 < r.2.2)
  | none => false
theorem gF_all (own : String) (l : List (Nat × Nat × Nat)) (h1 : ∀ w ∈ l.map (gFw own), w ∈ gG) (h2 : l.all gFb = true) : ∀ e ∈ l, gFok own e.1 e.2.1 e.2.2 := by
  intro e he
  have a := h1 _ (List.mem_map.mpr ⟨e, he, rfl⟩)
  have b := List.all_eq_true.mp h2 e he
  unfold gFw at a
  unfold gFb at b
  cases hc : vwCl[e.2.1]? with
  | none => rw [hc] at b; cases b
  | some r =>
    rw [hc] at a b
    simp only [decide_eq_true_eq] at b
    exact ⟨r.1, r.2.1, r.2.2, hc, b, a⟩
def gFlds : Nat → List (Nat × Nat × Nat)
  | 0 => [(30, 0, 0), (34, 0, 1), (9, 0, 2), (15, 0, 3), (18, 0, 4), (21, 0, 5), (24, 0, 6), (27, 0, 7)]
  | 1 => [(31, 0, 0), (73, 0, 3), (37, 0, 4), (38, 0, 5), (39, 0, 6), (36, 1, 0), (9, 1, 1), (40, 1, 2), (43, 1, 3), (46, 1, 4), (15, 1, 5), (19, 1, 6), (22, 1, 7), (25, 1, 8), (28, 1, 9)]
  | 2 => [(24, 2, 0), (15, 2, 1), (11, 2, 2)]
  | 3 => [(58, 7, 0), (68, 7, 2), (76, 7, 3), (61, 0, 0), (62, 0, 1), (163, 0, 3), (169, 0, 4), (172, 0, 6), (108, 6, 0), (102, 6, 1), (175, 6, 2), (146, 6, 3), (111, 6, 4), (96, 6, 5), (99, 6, 6), (178, 6, 7), (39, 3, 0), (9, 3, 1), (42, 3, 2), (45, 3, 3), (15, 3, 4), (21, 3, 5), (28, 3, 6), (35, 3, 7), (139, 1, 1), (160, 1, 2), (166, 1, 8)]
  | 4 => [(9, 4, 1)]
  | 5 => [(23, 5, 0), (39, 5, 1), (9, 5, 2), (15, 5, 3), (53, 5, 4), (64, 5, 5), (42, 5, 6), (71, 5, 7), (118, 5, 8), (19, 5, 9), (129, 7, 0), (223, 7, 3), (175, 0, 6), (214, 0, 7), (217, 3, 0), (196, 3, 1), (199, 3, 2), (201, 3, 3), (194, 3, 4), (125, 3, 5), (134, 3, 6)]
  | 6 => [(7, 6, 0), (13, 6, 1), (16, 6, 2), (19, 6, 3), (22, 6, 4), (25, 6, 5), (28, 6, 6), (31, 6, 7)]
  | 7 => [(21, 7, 0), (9, 7, 1), (15, 7, 2), (18, 7, 3)]
  | 8 => [(68, 5, 0), (103, 5, 1), (106, 5, 2), (132, 7, 0), (138, 7, 2), (142, 7, 3), (98, 0, 0), (157, 0, 2), (163, 0, 3), (166, 0, 4), (169, 0, 5), (172, 0, 6), (175, 0, 7), (260, 6, 0), (265, 6, 2), (268, 6, 3), (271, 6, 4), (274, 6, 5), (286, 6, 6), (109, 3, 0), (112, 3, 1), (115, 3, 2), (118, 3, 3), (121, 3, 4), (128, 3, 5), (94, 3, 6), (256, 3, 7), (207, 1, 1), (210, 1, 2), (371, 1, 6), (217, 1, 8), (338, 1, 9), (325, 2, 0), (35, 8, 0), (39, 8, 1), (43, 8, 2), (46, 8, 3), (53, 8, 4), (57, 8, 5), (64, 8, 6)]
  | 9 => [(1048, 10, 2), (9, 9, 0), (15, 9, 1)]
  | 10 => []
  | 11 => []
  | 12 => []
  | 13 => [(15, 10, 0), (22, 10, 1), (79, 10, 3)]
  | 14 => []
  | 15 => []
  | 16 => []
  | 17 => []
  | _ => []
theorem gFlds_0 : ∀ e ∈ gFlds 0, gFok RX0 e.1 e.2.1 e.2.2 := gF_all _ _ (gIn _ [146, 149, 151, 153, 157, 161, 164, 169] (by decide +kernel) (by decide +kernel)) (by decide +kernel)
theorem gFlds_1 : ∀ e ∈ gFlds 1, gFok RX1 e.1 e.2.1 e.2.2 := gF_all _ _ (gIn _ [145, 155, 158, 162, 165, 280, 281, 284, 287, 288, 289, 290, 292, 293, 296] (by decide +kernel) (by decide +kernel)) (by decide +kernel)
theorem gFlds_2 : ∀ e ∈ gFlds 2, gFok RX2 e.1 e.2.1 e.2.2 := gF_all _ _ (gIn _ [611, 613, 614] (by decide +kernel) (by decide +kernel)) (by decide +kernel)
theorem gFlds_3 : ∀ e ∈ gFlds 3, gFok RX3 e.1 e.2.1 e.2.2 := gF_all _ _ (gIn _ [119, 124, 127, 147, 150, 154, 159, 166, 196, 199, 201, 204, 207, 210, 213, 216, 234, 237, 240, 243, 246, 249, 252, 255, 282, 285, 294] (by decide +kernel) (by decide +kernel)) (by decide +kernel)
theorem gFlds_4 : ∀ e ∈ gFlds 4, gFok RX4 e.1 e.2.1 e.2.2 := gF_all _ _ (gIn _ [628] (by decide +kernel) (by decide +kernel)) (by decide +kernel)
theorem gFlds_5 : ∀ e ∈ gFlds 5, gFok RX5 e.1 e.2.1 e.2.2 := gF_all _ _ (gIn _ [70, 73, 74, 76, 77, 78, 79, 80, 81, 82, 121, 129, 167, 170, 236, 239, 242, 245, 248, 251, 254] (by decide +kernel) (by decide +kernel)) (by decide +kernel)
theorem gFlds_6 : ∀ e ∈ gFlds 6, gFok RX6 e.1 e.2.1 e.2.2 := gF_all _ _ (gIn _ [195, 198, 200, 203, 206, 209, 212, 215] (by decide +kernel) (by decide +kernel)) (by decide +kernel)
theorem gFlds_7 : ∀ e ∈ gFlds 7, gFok RX7 e.1 e.2.1 e.2.2 := gF_all _ _ (gIn _ [118, 122, 123, 126] (by decide +kernel) (by decide +kernel)) (by decide +kernel)
theorem gFlds_8 : ∀ e ∈ gFlds 8, gFok RX8 e.1 e.2.1 e.2.2 := gF_all _ _ (gIn _ [71, 72, 75, 120, 125, 128, 148, 152, 156, 160, 163, 168, 171, 197, 202, 205, 208, 211, 214, 235, 238, 241, 244, 247, 250, 253, 256, 283, 286, 291, 295, 297, 612, 634, 635, 636, 637, 638, 639, 640] (by decide +kernel) (by decide +kernel)) (by decide +kernel)
theorem gFlds_9 : ∀ e ∈ gFlds 9, gFok RJ0 e.1 e.2.1 e.2.2 := gF_all _ _ (gIn _ [774, 970, 971] (by decide +kernel) (by decide +kernel)) (by decide +kernel)
theorem gFlds_10 : ∀ e ∈ gFlds 10, gFok RJ4 e.1 e.2.1 e.2.2 := gF_all _ _ (gIn _ [] (by decide +kernel) (by decide +kernel)) (by decide +kernel)
theorem gFlds_11 : ∀ e ∈ gFlds 11, gFok RL e.1 e.2.1 e.2.2 := gF_all _ _ (gIn _ [] (by decide +kernel) (by decide +kernel)) (by decide +kernel)
theorem gFlds_12 : ∀ e ∈ gFlds 12, gFok RJ1 e.1 e.2.1 e.2.2 := gF_all _ _ (gIn _ [] (by decide +kernel) (by decide +kernel)) (by decide +kernel)
theorem gFlds_13 : ∀ e ∈ gFlds 13, gFok RJ5 e.1 e.2.1 e.2.2 := gF_all _ _ (gIn _ [772, 773, 775] (by decide +kernel) (by decide +kernel)) (by decide +kernel)
theorem gFlds_14 : ∀ e ∈ gFlds 14, gFok RJ6 e.1 e.2.1 e.2.2 := gF_all _ _ (gIn _ [] (by decide +kernel) (by decide +kernel)) (by decide +kernel)
theorem gFlds_15 : ∀ e ∈ gFlds 15, gFok RJ7 e.1 e.2.1 e.2.2 := gF_all _ _ (gIn _ [] (by decide +kernel) (by decide +kernel)) (by decide +kernel)
theorem gFlds_16 : ∀ e ∈ gFlds 16, gFok RJ8 e.1 e.2.1 e.2.2 := gF_all _ _ (gIn _ [] (by decide +kernel) (by decide +kernel)) (by decide +kernel)
theorem gFlds_17 : ∀ e ∈ gFlds 17, gFok RJ3 e.1 e.2.1 e.2.2 := gF_all _ _ (gIn _ [] (by decide +kernel) (by decide +kernel)) (by decide +kernel)
theorem gFlds_ok : ∀ (cn : Nat) (e : Nat × Nat × Nat), e ∈ gFlds cn → gFok (gOwn cn) e.1 e.2.1 e.2.2 := by
  intro cn e h
  match cn, h with
  | 0, h => exact gFlds_0 e h
  | 1, h => exact gFlds_1 e h
  | 2, h => exact gFlds_2 e h
  | 3, h => exact gFlds_3 e h
  | 4, h => exact gFlds_4 e h
  | 5, h => exact gFlds_5 e h
  | 6, h => exact gFlds_6 e h
  | 7, h => exact gFlds_7 e h
  | 8, h => exact gFlds_8 e h
  | 9, h => exact gFlds_9 e h
  | 10, h => exact gFlds_10 e h
  | 11, h => exact gFlds_11 e h
  | 12, h => exact gFlds_12 e h
  | 13, h => exact gFlds_13 e h
  | 14, h => exact gFlds_14 e h
  | 15, h => exact gFlds_15 e h
  | 16, h => exact gFlds_16 e h
  | 17, h => exact gFlds_17 e h
  | n + 18, h => cases h
def gCI : List (String × Nat × Int32) := [("NoonCry$Setup", 74, 9999999), ("NoonCry$Setup", 159, 999999), ("NoonCryLaw", 7, 2147483647), ("java/lang/StringUTF16", 20, 1073741823), ("jdk/internal/util/ArraysSupport", 200, 2147483639), ("java/lang/AbstractStringBuilder", 39, 2147483647), ("java/lang/AbstractStringBuilder", 38, 2147483631), ("NoonCryLaw", 44, 90000), ("NoonCryLaw", 206, 100000), ("NoonCryLaw", 222, 99999), ("NoonCry", 308, 99999), ("NoonCry", 309, 999999)]
def gCL : List (String × Nat × Int64) := [("NoonCryLaw", 146, 7), ("NoonCryLaw", 148, 1000003), ("NoonCryLaw", 150, 10000), ("NoonCryLaw", 155, 1009), ("NoonCryLaw", 157, 100000), ("NoonCryLaw", 162, 1000), ("NoonCryLaw", 167, 10), ("NoonCryLaw", 175, 77), ("NoonCryLaw", 180, 1013), ("NoonCryLaw", 182, 100), ("NoonCryLaw", 184, 1019)]
theorem gCI_ok : ∀ e ∈ gCI, Cond.constant e.1 e.2.1 e.2.2 ∈ gG := fun e he => gIn (gCI.map (fun e => Cond.constant e.1 e.2.1 e.2.2)) [398, 466, 751, 771, 809, 813, 987, 1001, 1217, 1246, 1255, 1256] (by decide +kernel) (by decide +kernel) _ (List.mem_map.mpr ⟨e, he, rfl⟩)
theorem gCL_ok : ∀ e ∈ gCL, Cond.constantLong e.1 e.2.1 e.2.2 ∈ gG := fun e he => gIn (gCL.map (fun e => Cond.constantLong e.1 e.2.1 e.2.2)) [1142, 1143, 1144, 1150, 1151, 1176, 1181, 1190, 1195, 1196, 1197] (by decide +kernel) (by decide +kernel) _ (List.mem_map.mpr ⟨e, he, rfl⟩)
theorem gAcI : Cond.arrayClass .int ∈ gG := gG_in 105 (by decide +kernel) (by decide +kernel)
theorem gAcB : Cond.arrayClass .byte ∈ gG := gG_in 104 (by decide +kernel) (by decide +kernel)
theorem gObjI : Cond.instanceMethod objectInit ∈ gG := gG_in 62 (by decide +kernel) (by decide +kernel)
theorem gObjC : Cond.code objectInit ⟨#[0xb1]⟩ 1 none ∈ gG := gG_in 63 (by decide +kernel) (by decide +kernel)
theorem gMathI : Cond.initialized "java/lang/Math" ∈ gG := gG_in 39 (by decide +kernel) (by decide +kernel)
theorem gMaxS : Cond.static Lib.Math.max.name ∈ gG := gG_in 560 (by decide +kernel) (by decide +kernel)
theorem gMaxC : Cond.code Lib.Math.max.name Lib.Math.max.code 2 (some .int) ∈ gG := gG_in 561 (by decide +kernel) (by decide +kernel)
theorem gMinS : Cond.static Lib.Math.min.name ∈ gG := gG_in 400 (by decide +kernel) (by decide +kernel)
theorem gMinC : Cond.code Lib.Math.min.name Lib.Math.min.code 2 (some .int) ∈ gG := gG_in 401 (by decide +kernel) (by decide +kernel)
theorem gAbsS : Cond.static Lib.Math.abs.name ∈ gG := gG_in 572 (by decide +kernel) (by decide +kernel)
theorem gAbsC : Cond.code Lib.Math.abs.name Lib.Math.abs.code 1 (some .int) ∈ gG := gG_in 573 (by decide +kernel) (by decide +kernel)
theorem gCpN : Cond.native arraycopyName ∈ gG := gG_in 827 (by decide +kernel) (by decide +kernel)
theorem gCpS : Cond.static arraycopyName ∈ gG := gG_in 826 (by decide +kernel) (by decide +kernel)
theorem gCpI : Cond.initialized "java/lang/System" ∈ gG := gG_in 46 (by decide +kernel) (by decide +kernel)
theorem lkJ7_150 : Cond.methodLink RJ7 150 arraycopyName ∈ gG := gG_in 825 (by decide +kernel) (by decide +kernel)
theorem lkJ0_212 : Cond.methodLink RJ0 212 arraycopyName ∈ gG := gG_in 881 (by decide +kernel) (by decide +kernel)
theorem gClL : Cond.methodLink "java/util/Arrays" 310 ⟨"[B", "clone", "()Ljava/lang/Object;"⟩ ∈ gG := gG_in 817 (by decide +kernel) (by decide +kernel)
theorem gClM : Cond.sameMethod "[B" "java/lang/Object" "clone" "()Ljava/lang/Object;" ∈ gG := gG_in 818 (by decide +kernel) (by decide +kernel)
theorem gClN : Cond.native ⟨"java/lang/Object", "clone", "()Ljava/lang/Object;"⟩ ∈ gG := gG_in 819 (by decide +kernel) (by decide +kernel)
theorem gClI : Cond.instanceMethod ⟨"java/lang/Object", "clone", "()Ljava/lang/Object;"⟩ ∈ gG := gG_in 820 (by decide +kernel) (by decide +kernel)
theorem gClS : Cond.selects "[B" ⟨"[B", "clone", "()Ljava/lang/Object;"⟩ ⟨"java/lang/Object", "clone", "()Ljava/lang/Object;"⟩ ∈ gG := gG_in 821 (by decide +kernel) (by decide +kernel)
theorem gClC : Cond.classLink "java/util/Arrays" 311 "[B" ∈ gG := gG_in 823 (by decide +kernel) (by decide +kernel)
theorem gMuL : Cond.classLink "NoonCryLaw" 234 "[[I" ∈ gG := gG_in 1302 (by decide +kernel) (by decide +kernel)
theorem wJ_value : Cond.fieldLink RJ0 9 "java/lang/String" "value" "[B" ∈ gG := gG_in 970 (by decide +kernel) (by decide +kernel)
theorem wJ_coder : Cond.fieldLink RJ0 15 "java/lang/String" "coder" "B" ∈ gG := gG_in 971 (by decide +kernel) (by decide +kernel)
theorem wJ_compact : Cond.fieldLink RJ0 38 "java/lang/String" "COMPACT_STRINGS" "Z" ∈ gG := gG_in 332 (by decide +kernel) (by decide +kernel)
theorem wJ5_compact : Cond.fieldLink RJ5 18 "java/lang/String" "COMPACT_STRINGS" "Z" ∈ gG := gG_in 764 (by decide +kernel) (by decide +kernel)
theorem wJ_form : Cond.fieldLink RJ0 1053 "jdk/internal/util/Preconditions" "SIOOBE_FORMATTER" "Ljava/util/function/BiFunction;" ∈ gG := gG_in 348 (by decide +kernel) (by decide +kernel)
theorem wJ6_ones : Cond.fieldLink RJ6 83 "java/lang/Integer" "DigitOnes" "[B" ∈ gG := gG_in 899 (by decide +kernel) (by decide +kernel)
theorem wJ6_tens : Cond.fieldLink RJ6 87 "java/lang/Integer" "DigitTens" "[B" ∈ gG := gG_in 901 (by decide +kernel) (by decide +kernel)
theorem wL_rules : Cond.fieldLink RL 68 "NoonCryLaw" "RULES" "[Ljava/lang/String;" ∈ gG := gG_in 918 (by decide +kernel) (by decide +kernel)
theorem wL_names : Cond.fieldLink RL 89 "NoonCryLaw" "NAMES" "[Ljava/lang/String;" ∈ gG := gG_in 996 (by decide +kernel) (by decide +kernel)
/-- a new of a class of ours: its entry -/
def gNewOk (own : String) (idx ci : Nat) : Prop := ∃ (C : String) (T : u_T) (N : Nat), vwCl[ci]? = some (C, T, N) ∧ Cond.classLink own idx C ∈ gG ∧ Cond.instantiable C N ∈ gG ∧ Cond.initialized C ∈ gG
theorem gCl_11_25 : Cond.classLink RL 25 RX8 ∈ gG := gG_in 56 (by decide +kernel) (by decide +kernel)
theorem gNew_11_25 : gNewOk RL 25 8 := ⟨RX8, TX8, 7, rfl, gCl_11_25, gG_in 57 (by decide +kernel) (by decide +kernel), gG_in 28 (by decide +kernel) (by decide +kernel)⟩
theorem gCl_8_7 : Cond.classLink RX8 7 RX5 ∈ gG := gG_in 64 (by decide +kernel) (by decide +kernel)
theorem gNew_8_7 : gNewOk RX8 7 5 := ⟨RX5, TX5, 10, rfl, gCl_8_7, gG_in 65 (by decide +kernel) (by decide +kernel), gG_in 29 (by decide +kernel) (by decide +kernel)⟩
theorem gCl_8_10 : Cond.classLink RX8 10 RX3 ∈ gG := gG_in 106 (by decide +kernel) (by decide +kernel)
theorem gNew_8_10 : gNewOk RX8 10 3 := ⟨RX3, TX3, 8, rfl, gCl_8_10, gG_in 107 (by decide +kernel) (by decide +kernel), gG_in 30 (by decide +kernel) (by decide +kernel)⟩
theorem gCl_3_18 : Cond.classLink RX3 18 RX7 ∈ gG := gG_in 112 (by decide +kernel) (by decide +kernel)
theorem gNew_3_18 : gNewOk RX3 18 7 := ⟨RX7, TX7, 4, rfl, gCl_3_18, gG_in 113 (by decide +kernel) (by decide +kernel), gG_in 31 (by decide +kernel) (by decide +kernel)⟩
theorem gCl_3_25 : Cond.classLink RX3 25 RX0 ∈ gG := gG_in 139 (by decide +kernel) (by decide +kernel)
theorem gNew_3_25 : gNewOk RX3 25 0 := ⟨RX0, TX0, 8, rfl, gCl_3_25, gG_in 140 (by decide +kernel) (by decide +kernel), gG_in 32 (by decide +kernel) (by decide +kernel)⟩
theorem gCl_3_32 : Cond.classLink RX3 32 RX6 ∈ gG := gG_in 189 (by decide +kernel) (by decide +kernel)
theorem gNew_3_32 : gNewOk RX3 32 6 := ⟨RX6, TX6, 8, rfl, gCl_3_32, gG_in 190 (by decide +kernel) (by decide +kernel), gG_in 33 (by decide +kernel) (by decide +kernel)⟩
theorem gCl_8_13 : Cond.classLink RX8 13 RX1 ∈ gG := gG_in 274 (by decide +kernel) (by decide +kernel)
theorem gNew_8_13 : gNewOk RX8 13 1 := ⟨RX1, TX1, 10, rfl, gCl_8_13, gG_in 275 (by decide +kernel) (by decide +kernel), gG_in 34 (by decide +kernel) (by decide +kernel)⟩
theorem gCl_8_50 : Cond.classLink RX8 50 RX2 ∈ gG := gG_in 603 (by decide +kernel) (by decide +kernel)
theorem gNew_8_50 : gNewOk RX8 50 2 := ⟨RX2, TX2, 3, rfl, gCl_8_50, gG_in 604 (by decide +kernel) (by decide +kernel), gG_in 40 (by decide +kernel) (by decide +kernel)⟩
theorem gCl_2_9 : Cond.classLink RX2 9 RX3 ∈ gG := gG_in 609 (by decide +kernel) (by decide +kernel)
theorem gNew_2_9 : gNewOk RX2 9 3 := ⟨RX3, TX3, 8, rfl, gCl_2_9, gG_in 107 (by decide +kernel) (by decide +kernel), gG_in 30 (by decide +kernel) (by decide +kernel)⟩
theorem gCl_8_61 : Cond.classLink RX8 61 RX4 ∈ gG := gG_in 622 (by decide +kernel) (by decide +kernel)
theorem gNew_8_61 : gNewOk RX8 61 4 := ⟨RX4, TX4, 2, rfl, gCl_8_61, gG_in 623 (by decide +kernel) (by decide +kernel), gG_in 41 (by decide +kernel) (by decide +kernel)⟩
theorem gCl_11_45 : Cond.classLink RL 45 RJ4 ∈ gG := gG_in 755 (by decide +kernel) (by decide +kernel)
theorem gNew_11_45 : gNewOk RL 45 10 := ⟨RJ4, TJ4, 4, rfl, gCl_11_45, gG_in 756 (by decide +kernel) (by decide +kernel), gG_in 43 (by decide +kernel) (by decide +kernel)⟩
theorem gCl_10_18 : Cond.classLink RJ4 18 RJ0 ∈ gG := gG_in 928 (by decide +kernel) (by decide +kernel)
theorem gNew_10_18 : gNewOk RJ4 18 9 := ⟨RJ0, TJ0, 4, rfl, gCl_10_18, gG_in 929 (by decide +kernel) (by decide +kernel), gG_in 35 (by decide +kernel) (by decide +kernel)⟩
