theorem gIn (ws : List Cond) (ps : List Nat) (hp : ws = ps.filterMap (fun i => lw_tbl[i]?)) (hg : ws.all goodWord = true) : ∀ w ∈ ws, w ∈ gG := by
  intro w hw
  have h1 := List.all_eq_true.mp hg w hw
  rw [hp] at hw
  obtain ⟨i, -, hi⟩ := List.mem_filterMap.mp hw
  exact gG_in i hi h1
theorem gX_ws_0 : ∀ w ∈ u_ws RX0 TX0 8, w ∈ gG := gIn _ [251, 253, 255, 257, 259, 261, 263, 265] (by decide +kernel) (by decide +kernel)
theorem gX_ws_1 : ∀ w ∈ u_ws RX1 TX1 10, w ∈ gG := gIn _ [379, 381, 383, 385, 387, 389, 391, 393, 395, 397] (by decide +kernel) (by decide +kernel)
theorem gX_ws_2 : ∀ w ∈ u_ws RX2 TX2 3, w ∈ gG := gIn _ [696, 698, 700] (by decide +kernel) (by decide +kernel)
theorem gX_ws_3 : ∀ w ∈ u_ws RX3 TX3 8, w ∈ gG := gIn _ [338, 340, 342, 344, 346, 348, 350, 352] (by decide +kernel) (by decide +kernel)
theorem gX_ws_4 : ∀ w ∈ u_ws RX4 TX4 2, w ∈ gG := gIn _ [713, 715] (by decide +kernel) (by decide +kernel)
theorem gX_ws_5 : ∀ w ∈ u_ws RX5 TX5 10, w ∈ gG := gIn _ [161, 163, 165, 167, 169, 171, 173, 175, 177, 179] (by decide +kernel) (by decide +kernel)
theorem gX_ws_6 : ∀ w ∈ u_ws RX6 TX6 8, w ∈ gG := gIn _ [298, 300, 302, 304, 306, 308, 310, 312] (by decide +kernel) (by decide +kernel)
theorem gX_ws_7 : ∀ w ∈ u_ws RX7 TX7 4, w ∈ gG := gIn _ [209, 211, 213, 215] (by decide +kernel) (by decide +kernel)
theorem gX_ws_8 : ∀ w ∈ u_ws RX8 TX8 7, w ∈ gG := gIn _ [725, 727, 729, 731, 733, 735, 737] (by decide +kernel) (by decide +kernel)
theorem gX_ws_9 : ∀ w ∈ u_ws RX9 TX9 41, w ∈ gG := gIn _ [1576, 1578, 1580, 1582, 1584, 1586, 1588, 1590, 1592, 1594, 1596, 1598, 1600, 1602, 1604, 1606, 1608, 1610, 1612, 1614, 1616, 1618, 1620, 1622, 1624, 1626, 1628, 1630, 1632, 1634, 1636, 1638, 1640, 1642, 1644, 1646, 1648, 1650, 1652, 1654, 1656] (by decide +kernel) (by decide +kernel)
theorem gCls : ∀ (ci : Nat) (r : vw_C), vwCl[ci]? = some r → (∀ w ∈ u_ws r.1 r.2.1 r.2.2, w ∈ gG) ∧ (∃ ty0 : Nat → FieldType, ∀ k, k < r.2.2 → parseFieldDescriptor (r.2.1 k).2.2.1 = some (ty0 k)) ∧ (∀ a, a < r.2.2 → ∀ b, b < r.2.2 → a ≠ b → (r.2.1 a).2.1 ≠ (r.2.1 b).2.1) := by
  intro ci r h
  match ci, h with
  | 0, h => cases h; exact ⟨gX_ws_0, ⟨tyX0, tyX0_ok⟩, nmX0⟩
  | 1, h => cases h; exact ⟨gX_ws_1, ⟨tyX1, tyX1_ok⟩, nmX1⟩
  | 2, h => cases h; exact ⟨gX_ws_2, ⟨tyX2, tyX2_ok⟩, nmX2⟩
  | 3, h => cases h; exact ⟨gX_ws_3, ⟨tyX3, tyX3_ok⟩, nmX3⟩
  | 4, h => cases h; exact ⟨gX_ws_4, ⟨tyX4, tyX4_ok⟩, nmX4⟩
  | 5, h => cases h; exact ⟨gX_ws_5, ⟨tyX5, tyX5_ok⟩, nmX5⟩
  | 6, h => cases h; exact ⟨gX_ws_6, ⟨tyX6, tyX6_ok⟩, nmX6⟩
  | 7, h => cases h; exact ⟨gX_ws_7, ⟨tyX7, tyX7_ok⟩, nmX7⟩
  | 8, h => cases h; exact ⟨gX_ws_8, ⟨tyX8, tyX8_ok⟩, nmX8⟩
  | 9, h => cases h; exact ⟨gX_ws_9, ⟨tyX9, tyX9_ok⟩, nmX9⟩
  | n + 10, h => simp [vwCl] at h
def gOwn : Nat → String
  | 0 => RX0
  | 1 => RX1
  | 2 => RX2
  | 3 => RX3
  | 4 => RX4
  | 5 => RX5
  | 6 => RX6
  | 7 => RX7
  | 8 => RX8
  | 9 => RX9
  | _ => RL
/-- a field instruction of a class: its entry, the class of the object, the place of the field -/
def gFok (own : String) (idx ci k : Nat) : Prop := ∃ (C : String) (T : u_T) (N : Nat), vwCl[ci]? = some (C, T, N) ∧ k < N ∧ (T k).1 = C ∧ Cond.fieldLink own idx C (T k).2.1 (T k).2.2.1 ∈ gG
def gFw (own : String) (e : Nat × Nat × Nat) : Cond := match vwCl[e.2.1]? with
  | some r => .fieldLink own e.1 r.1 (r.2.1 e.2.2).2.1 (r.2.1 e.2.2).2.2.1
  | none => .tt
def gFb (e : Nat × Nat × Nat) : Bool := match vwCl[e.2.1]? with
  | some r => decide (e.2.2 < r.2.2) && decide ((r.2.1 e.2.2).1 = r.1)
  | none => false
theorem gF_all (own : String) (l : List (Nat × Nat × Nat)) (h1 : ∀ w ∈ l.map (gFw own), w ∈ gG) (h2 : l.all gFb = true) : ∀ e ∈ l, gFok own e.1 e.2.1 e.2.2 := by
  intro e he
  have a := h1 _ (List.mem_map.mpr ⟨e, he, rfl⟩)
  have b := List.all_eq_true.mp h2 e he
  unfold gFw at a
  unfold gFb at b
  cases hc : vwCl[e.2.1]? with
  | none => rw [hc] at b; cases b
  | some r =>
    rw [hc] at a b
    simp only [Bool.and_eq_true, decide_eq_true_eq] at b
    exact ⟨r.1, r.2.1, r.2.2, hc, b.1, b.2, a⟩
def gFlds : Nat → List (Nat × Nat × Nat)
  | 0 => [(30, 0, 0), (34, 0, 1), (9, 0, 2), (15, 0, 3), (18, 0, 4), (21, 0, 5), (24, 0, 6), (27, 0, 7)]
  | 1 => [(31, 0, 0), (73, 0, 3), (37, 0, 4), (38, 0, 5), (39, 0, 6), (36, 1, 0), (9, 1, 1), (40, 1, 2), (43, 1, 3), (46, 1, 4), (15, 1, 5), (19, 1, 6), (22, 1, 7), (25, 1, 8), (28, 1, 9)]
  | 2 => [(24, 2, 0), (15, 2, 1), (11, 2, 2)]
  | 3 => [(58, 7, 0), (68, 7, 2), (76, 7, 3), (61, 0, 0), (62, 0, 1), (163, 0, 3), (169, 0, 4), (172, 0, 6), (108, 6, 0), (102, 6, 1), (175, 6, 2), (146, 6, 3), (111, 6, 4), (96, 6, 5), (99, 6, 6), (178, 6, 7), (39, 3, 0), (9, 3, 1), (42, 3, 2), (45, 3, 3), (15, 3, 4), (21, 3, 5), (28, 3, 6), (35, 3, 7), (139, 1, 1), (160, 1, 2), (166, 1, 8)]
  | 4 => [(13, 4, 0), (9, 4, 1)]
  | 5 => [(23, 5, 0), (39, 5, 1), (9, 5, 2), (15, 5, 3), (53, 5, 4), (64, 5, 5), (42, 5, 6), (71, 5, 7), (118, 5, 8), (19, 5, 9), (129, 7, 0), (223, 7, 3), (175, 0, 6), (214, 0, 7), (217, 3, 0), (196, 3, 1), (199, 3, 2), (201, 3, 3), (194, 3, 4), (125, 3, 5), (134, 3, 6)]
  | 6 => [(7, 6, 0), (13, 6, 1), (16, 6, 2), (19, 6, 3), (22, 6, 4), (25, 6, 5), (28, 6, 6), (31, 6, 7)]
  | 7 => [(21, 7, 0), (9, 7, 1), (15, 7, 2), (18, 7, 3)]
  | 8 => [(68, 5, 0), (103, 5, 1), (106, 5, 2), (132, 7, 0), (353, 7, 1), (138, 7, 2), (142, 7, 3), (98, 0, 0), (157, 0, 2), (163, 0, 3), (166, 0, 4), (169, 0, 5), (172, 0, 6), (175, 0, 7), (260, 6, 0), (292, 6, 1), (265, 6, 2), (268, 6, 3), (271, 6, 4), (274, 6, 5), (286, 6, 6), (295, 6, 7), (109, 3, 0), (112, 3, 1), (115, 3, 2), (118, 3, 3), (121, 3, 4), (128, 3, 5), (94, 3, 6), (256, 3, 7), (207, 1, 1), (210, 1, 2), (371, 1, 6), (217, 1, 8), (338, 1, 9), (325, 2, 0), (334, 4, 0), (349, 4, 1), (35, 8, 0), (39, 8, 1), (43, 8, 2), (46, 8, 3), (53, 8, 4), (57, 8, 5), (64, 8, 6)]
  | 9 => [(3, 9, 0), (17, 9, 1), (21, 9, 2), (24, 9, 3), (27, 9, 4), (30, 9, 5), (33, 9, 6), (36, 9, 7), (246, 9, 8), (249, 9, 9), (267, 9, 10), (255, 9, 11), (258, 9, 12), (261, 9, 13), (264, 9, 14), (284, 9, 15), (290, 9, 16), (46, 9, 17), (52, 9, 18), (57, 9, 19), (62, 9, 20), (67, 9, 21), (72, 9, 22), (77, 9, 23), (82, 9, 24), (87, 9, 25), (92, 9, 26), (97, 9, 27), (102, 9, 28), (107, 9, 29), (112, 9, 30), (117, 9, 31), (122, 9, 32), (125, 9, 33), (395, 9, 34), (128, 9, 35), (474, 9, 36), (408, 9, 37), (131, 9, 38), (134, 9, 39), (477, 9, 40)]
  | _ => []
theorem gFlds_0 : ∀ e ∈ gFlds 0, gFok RX0 e.1 e.2.1 e.2.2 := gF_all _ _ (gIn _ [225, 228, 230, 232, 236, 240, 243, 248] (by decide +kernel) (by decide +kernel)) (by decide +kernel)
theorem gFlds_1 : ∀ e ∈ gFlds 1, gFok RX1 e.1 e.2.1 e.2.2 := gF_all _ _ (gIn _ [224, 234, 237, 241, 244, 361, 362, 365, 368, 369, 370, 371, 373, 374, 377] (by decide +kernel) (by decide +kernel)) (by decide +kernel)
theorem gFlds_2 : ∀ e ∈ gFlds 2, gFok RX2 e.1 e.2.1 e.2.2 := gF_all _ _ (gIn _ [692, 694, 695] (by decide +kernel) (by decide +kernel)) (by decide +kernel)
theorem gFlds_3 : ∀ e ∈ gFlds 3, gFok RX3 e.1 e.2.1 e.2.2 := gF_all _ _ (gIn _ [197, 203, 206, 226, 229, 233, 238, 245, 275, 278, 281, 284, 287, 290, 293, 296, 315, 318, 321, 324, 327, 330, 333, 336, 363, 366, 375] (by decide +kernel) (by decide +kernel)) (by decide +kernel)
theorem gFlds_4 : ∀ e ∈ gFlds 4, gFok RX4 e.1 e.2.1 e.2.2 := gF_all _ _ (gIn _ [709, 711] (by decide +kernel) (by decide +kernel)) (by decide +kernel)
theorem gFlds_5 : ∀ e ∈ gFlds 5, gFok RX5 e.1 e.2.1 e.2.2 := gF_all _ _ (gIn _ [148, 151, 152, 154, 155, 156, 157, 158, 159, 160, 199, 208, 246, 249, 317, 320, 323, 326, 329, 332, 335] (by decide +kernel) (by decide +kernel)) (by decide +kernel)
theorem gFlds_6 : ∀ e ∈ gFlds 6, gFok RX6 e.1 e.2.1 e.2.2 := gF_all _ _ (gIn _ [274, 277, 280, 283, 286, 289, 292, 295] (by decide +kernel) (by decide +kernel)) (by decide +kernel)
theorem gFlds_7 : ∀ e ∈ gFlds 7, gFok RX7 e.1 e.2.1 e.2.2 := gF_all _ _ (gIn _ [196, 200, 202, 205] (by decide +kernel) (by decide +kernel)) (by decide +kernel)
theorem gFlds_8 : ∀ e ∈ gFlds 8, gFok RX8 e.1 e.2.1 e.2.2 := gF_all _ _ (gIn _ [149, 150, 153, 198, 201, 204, 207, 227, 231, 235, 239, 242, 247, 250, 276, 279, 282, 285, 288, 291, 294, 297, 316, 319, 322, 325, 328, 331, 334, 337, 364, 367, 372, 376, 378, 693, 710, 712, 718, 719, 720, 721, 722, 723, 724] (by decide +kernel) (by decide +kernel)) (by decide +kernel)
theorem gFlds_9 : ∀ e ∈ gFlds 9, gFok RX9 e.1 e.2.1 e.2.2 := gF_all _ _ (gIn _ [1535, 1536, 1537, 1538, 1539, 1540, 1541, 1542, 1543, 1544, 1545, 1546, 1547, 1548, 1549, 1550, 1551, 1552, 1553, 1554, 1555, 1556, 1557, 1558, 1559, 1560, 1561, 1562, 1563, 1564, 1565, 1566, 1567, 1568, 1569, 1570, 1571, 1572, 1573, 1574, 1575] (by decide +kernel) (by decide +kernel)) (by decide +kernel)
theorem gFlds_ok : ∀ (cn : Nat) (e : Nat × Nat × Nat), e ∈ gFlds cn → gFok (gOwn cn) e.1 e.2.1 e.2.2 := by
  intro cn e h
  match cn, h with
  | 0, h => exact gFlds_0 e h
  | 1, h => exact gFlds_1 e h
  | 2, h => exact gFlds_2 e h
  | 3, h => exact gFlds_3 e h
  | 4, h => exact gFlds_4 e h
  | 5, h => exact gFlds_5 e h
  | 6, h => exact gFlds_6 e h
  | 7, h => exact gFlds_7 e h
  | 8, h => exact gFlds_8 e h
  | 9, h => exact gFlds_9 e h
  | n + 10, h => cases h
def gCI : List (String × Nat × Int32) := [("NoonCry$Setup", 74, 9999999), ("NoonCry$Setup", 159, 999999), ("NoonCry", 308, 99999), ("NoonCry", 309, 999999), ("NoonCryModel", 282, 9999999), ("NoonCryModel", 283, 99999999), ("NoonCryModel", 342, 999999)]
def gCL : List (String × Nat × Int64) := [("NoonCryModel", 273, 27), ("NoonCryModel", 275, 97), ("NoonCryModel", 277, -1), ("NoonCryModel", 414, 999), ("NoonCryModel", 416, 99), ("NoonCryModel", 470, 99999), ("NoonCryModel", 472, 300)]
theorem gCI_ok : ∀ e ∈ gCI, Cond.constant e.1 e.2.1 e.2.2 ∈ gG := fun e he => gIn (gCI.map (fun e => Cond.constant e.1 e.2.1 e.2.2)) [479, 547, 1324, 1325, 1709, 1710, 1767] (by decide +kernel) (by decide +kernel) _ (List.mem_map.mpr ⟨e, he, rfl⟩)
theorem gCL_ok : ∀ e ∈ gCL, Cond.constantLong e.1 e.2.1 e.2.2 ∈ gG := fun e he => gIn (gCL.map (fun e => Cond.constantLong e.1 e.2.1 e.2.2)) [1414, 1416, 1705, 1935, 2038, 2115, 2124] (by decide +kernel) (by decide +kernel) _ (List.mem_map.mpr ⟨e, he, rfl⟩)
theorem gAcI : Cond.arrayClass .int ∈ gG := gG_in 183 (by decide +kernel) (by decide +kernel)
theorem gAcB : Cond.arrayClass .byte ∈ gG := gG_in 182 (by decide +kernel) (by decide +kernel)
theorem gAcL : Cond.arrayClass .long ∈ gG := gG_in 2169 (by decide +kernel) (by decide +kernel)
theorem gObjI : Cond.instanceMethod objectInit ∈ gG := gG_in 140 (by decide +kernel) (by decide +kernel)
theorem gObjC : Cond.code objectInit ⟨#[0xb1]⟩ 1 none ∈ gG := gG_in 141 (by decide +kernel) (by decide +kernel)
theorem gMathI : Cond.initialized "java/lang/Math" ∈ gG := gG_in 123 (by decide +kernel) (by decide +kernel)
theorem gMaxS : Cond.static Lib.Math.max.name ∈ gG := gG_in 641 (by decide +kernel) (by decide +kernel)
theorem gMaxC : Cond.code Lib.Math.max.name Lib.Math.max.code 2 (some .int) ∈ gG := gG_in 642 (by decide +kernel) (by decide +kernel)
theorem gMinS : Cond.static Lib.Math.min.name ∈ gG := gG_in 481 (by decide +kernel) (by decide +kernel)
theorem gMinC : Cond.code Lib.Math.min.name Lib.Math.min.code 2 (some .int) ∈ gG := gG_in 482 (by decide +kernel) (by decide +kernel)
theorem gAbsS : Cond.static Lib.Math.abs.name ∈ gG := gG_in 653 (by decide +kernel) (by decide +kernel)
theorem gAbsC : Cond.code Lib.Math.abs.name Lib.Math.abs.code 1 (some .int) ∈ gG := gG_in 654 (by decide +kernel) (by decide +kernel)
/-- a new of a class of ours: its entry -/
def gNewOk (own : String) (idx ci : Nat) : Prop := ∃ (C : String) (T : u_T) (N : Nat), vwCl[ci]? = some (C, T, N) ∧ Cond.classLink own idx C ∈ gG ∧ Cond.instantiable C N ∈ gG ∧ Cond.initialized C ∈ gG
theorem gCl_10_8 : Cond.classLink RL 8 RX8 ∈ gG := gG_in 134 (by decide +kernel) (by decide +kernel)
theorem gNew_10_8 : gNewOk RL 8 8 := ⟨RX8, TX8, 7, rfl, gCl_10_8, gG_in 135 (by decide +kernel) (by decide +kernel), gG_in 112 (by decide +kernel) (by decide +kernel)⟩
theorem gCl_8_7 : Cond.classLink RX8 7 RX5 ∈ gG := gG_in 142 (by decide +kernel) (by decide +kernel)
theorem gNew_8_7 : gNewOk RX8 7 5 := ⟨RX5, TX5, 10, rfl, gCl_8_7, gG_in 143 (by decide +kernel) (by decide +kernel), gG_in 113 (by decide +kernel) (by decide +kernel)⟩
theorem gCl_8_10 : Cond.classLink RX8 10 RX3 ∈ gG := gG_in 184 (by decide +kernel) (by decide +kernel)
theorem gNew_8_10 : gNewOk RX8 10 3 := ⟨RX3, TX3, 8, rfl, gCl_8_10, gG_in 185 (by decide +kernel) (by decide +kernel), gG_in 114 (by decide +kernel) (by decide +kernel)⟩
theorem gCl_3_18 : Cond.classLink RX3 18 RX7 ∈ gG := gG_in 190 (by decide +kernel) (by decide +kernel)
theorem gNew_3_18 : gNewOk RX3 18 7 := ⟨RX7, TX7, 4, rfl, gCl_3_18, gG_in 191 (by decide +kernel) (by decide +kernel), gG_in 115 (by decide +kernel) (by decide +kernel)⟩
theorem gCl_3_25 : Cond.classLink RX3 25 RX0 ∈ gG := gG_in 218 (by decide +kernel) (by decide +kernel)
theorem gNew_3_25 : gNewOk RX3 25 0 := ⟨RX0, TX0, 8, rfl, gCl_3_25, gG_in 219 (by decide +kernel) (by decide +kernel), gG_in 116 (by decide +kernel) (by decide +kernel)⟩
theorem gCl_3_32 : Cond.classLink RX3 32 RX6 ∈ gG := gG_in 268 (by decide +kernel) (by decide +kernel)
theorem gNew_3_32 : gNewOk RX3 32 6 := ⟨RX6, TX6, 8, rfl, gCl_3_32, gG_in 269 (by decide +kernel) (by decide +kernel), gG_in 117 (by decide +kernel) (by decide +kernel)⟩
theorem gCl_8_13 : Cond.classLink RX8 13 RX1 ∈ gG := gG_in 355 (by decide +kernel) (by decide +kernel)
theorem gNew_8_13 : gNewOk RX8 13 1 := ⟨RX1, TX1, 10, rfl, gCl_8_13, gG_in 356 (by decide +kernel) (by decide +kernel), gG_in 118 (by decide +kernel) (by decide +kernel)⟩
theorem gCl_8_50 : Cond.classLink RX8 50 RX2 ∈ gG := gG_in 684 (by decide +kernel) (by decide +kernel)
theorem gNew_8_50 : gNewOk RX8 50 2 := ⟨RX2, TX2, 3, rfl, gCl_8_50, gG_in 685 (by decide +kernel) (by decide +kernel), gG_in 124 (by decide +kernel) (by decide +kernel)⟩
theorem gCl_2_9 : Cond.classLink RX2 9 RX3 ∈ gG := gG_in 690 (by decide +kernel) (by decide +kernel)
theorem gNew_2_9 : gNewOk RX2 9 3 := ⟨RX3, TX3, 8, rfl, gCl_2_9, gG_in 185 (by decide +kernel) (by decide +kernel), gG_in 114 (by decide +kernel) (by decide +kernel)⟩
theorem gCl_8_61 : Cond.classLink RX8 61 RX4 ∈ gG := gG_in 703 (by decide +kernel) (by decide +kernel)
theorem gNew_8_61 : gNewOk RX8 61 4 := ⟨RX4, TX4, 2, rfl, gCl_8_61, gG_in 704 (by decide +kernel) (by decide +kernel), gG_in 125 (by decide +kernel) (by decide +kernel)⟩
theorem gCl_10_141 : Cond.classLink RL 141 RX9 ∈ gG := gG_in 1403 (by decide +kernel) (by decide +kernel)
theorem gNew_10_141 : gNewOk RL 141 9 := ⟨RX9, TX9, 41, rfl, gCl_10_141, gG_in 1404 (by decide +kernel) (by decide +kernel), gG_in 126 (by decide +kernel) (by decide +kernel)⟩
