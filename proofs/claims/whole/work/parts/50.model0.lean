/-! THE MODEL'S HEAP: ints by their fields' numbers, rows by their places, what is spelled, whether the draft is the row -/
abbrev MoT : Type := (Nat → Int32) × (Nat → List Int32) × Int64 × Bool
def gI' (S : MoT) (i : Nat) : Int32 := S.1 i
def gA' (S : MoT) (i : Nat) : List Int32 := S.2.1 i
def gL' (S : MoT) : Int64 := S.2.2.1
def dr (S : MoT) : Bool := S.2.2.2
def sI (S : MoT) (i : Nat) (x : Int32) : MoT := (fun j => if j = i then x else S.1 j, S.2)
def sA (S : MoT) (i : Nat) (x : List Int32) : MoT := (S.1, fun j => if j = i then x else S.2.1 j, S.2.2)
def sL (S : MoT) (x : Int64) : MoT := (S.1, S.2.1, x, S.2.2.2)
def sD (S : MoT) (x : Bool) : MoT := (S.1, S.2.1, S.2.2.1, x)
def rw' (S : MoT) : Nat := if dr S then 2 else 1
def row' (S : MoT) : List Int32 := gA' S (rw' S)
def sR (S : MoT) (x : List Int32) : MoT := sA S (rw' S) x
theorem gI_sI {S : MoT} {i : Nat} {j : Nat} {x : Int32} : gI' (sI S j x) i = if i = j then x else gI' S i := (rfl)
theorem gI_sA {S : MoT} {i : Nat} {j : Nat} {x : List Int32} : gI' (sA S j x) i = gI' S i := (rfl)
theorem gI_sL {S : MoT} {i : Nat} {x : Int64} : gI' (sL S x) i = gI' S i := (rfl)
theorem gI_sD {S : MoT} {i : Nat} {x : Bool} : gI' (sD S x) i = gI' S i := (rfl)
theorem gA_sI {S : MoT} {i : Nat} {j : Nat} {x : Int32} : gA' (sI S j x) i = gA' S i := (rfl)
theorem gA_sA {S : MoT} {i : Nat} {j : Nat} {x : List Int32} : gA' (sA S j x) i = if i = j then x else gA' S i := (rfl)
theorem gA_sL {S : MoT} {i : Nat} {x : Int64} : gA' (sL S x) i = gA' S i := (rfl)
theorem gA_sD {S : MoT} {i : Nat} {x : Bool} : gA' (sD S x) i = gA' S i := (rfl)
theorem gL_sI {S : MoT} {j : Nat} {x : Int32} : gL' (sI S j x) = gL' S := (rfl)
theorem gL_sA {S : MoT} {j : Nat} {x : List Int32} : gL' (sA S j x) = gL' S := (rfl)
theorem gL_sL {S : MoT} {x : Int64} : gL' (sL S x) = x := (rfl)
theorem gL_sD {S : MoT} {x : Bool} : gL' (sD S x) = gL' S := (rfl)
theorem dr_sI {S : MoT} {j : Nat} {x : Int32} : dr (sI S j x) = dr S := (rfl)
theorem dr_sA {S : MoT} {j : Nat} {x : List Int32} : dr (sA S j x) = dr S := (rfl)
theorem dr_sL {S : MoT} {x : Int64} : dr (sL S x) = dr S := (rfl)
theorem dr_sD {S : MoT} {x : Bool} : dr (sD S x) = x := (rfl)
theorem rw_sI {S : MoT} {j : Nat} {x : Int32} : rw' (sI S j x) = rw' S := (rfl)
theorem rw_sA {S : MoT} {j : Nat} {x : List Int32} : rw' (sA S j x) = rw' S := (rfl)
theorem rw_sL {S : MoT} {x : Int64} : rw' (sL S x) = rw' S := (rfl)
theorem rw_t {S : MoT} : rw' (sD S true) = 2 := (rfl)
theorem rw_f {S : MoT} : rw' (sD S false) = 1 := (rfl)
theorem rw_12 (S : MoT) : rw' S = 1 ∨ rw' S = 2 := by unfold rw'; cases dr S <;> simp
theorem sD_self {S : MoT} : sD S (dr S) = S := (rfl)
theorem sI_sI {S : MoT} {i : Nat} {x y : Int32} : sI (sI S i x) i y = sI S i y := by
  unfold sI
  refine Prod.ext ?_ rfl
  funext j
  show (if j = i then y else if j = i then x else S.1 j) = if j = i then y else S.1 j
  by_cases h : j = i
  · rw [if_pos h, if_pos h]
  · rw [if_neg h, if_neg h, if_neg h]
theorem sA_sA {S : MoT} {i : Nat} {x y : List Int32} : sA (sA S i x) i y = sA S i y := by
  unfold sA
  refine Prod.ext rfl (Prod.ext ?_ rfl)
  funext j
  show (if j = i then y else if j = i then x else S.2.1 j) = if j = i then y else S.2.1 j
  by_cases h : j = i
  · rw [if_pos h, if_pos h]
  · rw [if_neg h, if_neg h, if_neg h]
theorem sI_self {S : MoT} {i : Nat} : sI S i (gI' S i) = S := by
  unfold sI
  refine Prod.ext ?_ rfl
  funext j
  show (if j = i then S.1 i else S.1 j) = _
  split
  · rename_i h; rw [h]
  · rfl
theorem sA_self {S : MoT} {i : Nat} : sA S i (gA' S i) = S := by
  unfold sA
  refine Prod.ext rfl (Prod.ext ?_ rfl)
  funext j
  show (if j = i then S.2.1 i else S.2.1 j) = _
  split
  · rename_i h; rw [h]
  · rfl
theorem row_sI {S : MoT} {j : Nat} {x : Int32} : row' (sI S j x) = row' S := (rfl)
theorem row_sL {S : MoT} {x : Int64} : row' (sL S x) = row' S := (rfl)
theorem gI_sR {S : MoT} {i : Nat} {x : List Int32} : gI' (sR S x) i = gI' S i := (rfl)
theorem gL_sR {S : MoT} {x : List Int32} : gL' (sR S x) = gL' S := (rfl)
theorem dr_sR {S : MoT} {x : List Int32} : dr (sR S x) = dr S := (rfl)
theorem sR_self {S : MoT} : sR S (row' S) = S := sA_self
theorem sR_sR {S : MoT} {x y : List Int32} : sR (sR S x) y = sR S y := by
  show sA (sA S (rw' S) x) (rw' S) y = _
  rw [sA_sA]; rfl
theorem row_sR {S : MoT} {x : List Int32} : row' (sR S x) = x := by
  show (if rw' S = rw' S then x else _) = x
  rw [if_pos rfl]
theorem row_t {S : MoT} : row' (sD S true) = gA' S 2 := (rfl)
theorem row_f {S : MoT} : row' (sD S false) = gA' S 1 := (rfl)
theorem gA_sR3 {S : MoT} {x : List Int32} : gA' (sR S x) 3 = gA' S 3 := by
  show (if 3 = rw' S then x else _) = _
  rw [if_neg]; rfl
  rcases rw_12 S with h | h <;> rw [h] <;> decide
theorem rwn_3 {S : MoT} : (3 = rw' S) = False := by
  rcases rw_12 S with h | h <;> rw [h] <;> simp
theorem rwm_3 {S : MoT} : (rw' S = 3) = False := by
  rcases rw_12 S with h | h <;> rw [h] <;> simp
theorem row_sA3 {S : MoT} {x : List Int32} : row' (sA S 3 x) = row' S := by
  show (if rw' S = 3 then x else gA' S (rw' S)) = _
  rw [if_neg (by rw [rwm_3]; exact id)]; rfl
theorem gA_sR4 {S : MoT} {x : List Int32} : gA' (sR S x) 4 = gA' S 4 := by
  show (if 4 = rw' S then x else _) = _
  rw [if_neg]; rfl
  rcases rw_12 S with h | h <;> rw [h] <;> decide
theorem rwn_4 {S : MoT} : (4 = rw' S) = False := by
  rcases rw_12 S with h | h <;> rw [h] <;> simp
theorem rwm_4 {S : MoT} : (rw' S = 4) = False := by
  rcases rw_12 S with h | h <;> rw [h] <;> simp
theorem row_sA4 {S : MoT} {x : List Int32} : row' (sA S 4 x) = row' S := by
  show (if rw' S = 4 then x else gA' S (rw' S)) = _
  rw [if_neg (by rw [rwm_4]; exact id)]; rfl
theorem gA_sR5 {S : MoT} {x : List Int32} : gA' (sR S x) 5 = gA' S 5 := by
  show (if 5 = rw' S then x else _) = _
  rw [if_neg]; rfl
  rcases rw_12 S with h | h <;> rw [h] <;> decide
theorem rwn_5 {S : MoT} : (5 = rw' S) = False := by
  rcases rw_12 S with h | h <;> rw [h] <;> simp
theorem rwm_5 {S : MoT} : (rw' S = 5) = False := by
  rcases rw_12 S with h | h <;> rw [h] <;> simp
theorem row_sA5 {S : MoT} {x : List Int32} : row' (sA S 5 x) = row' S := by
  show (if rw' S = 5 then x else gA' S (rw' S)) = _
  rw [if_neg (by rw [rwm_5]; exact id)]; rfl
theorem gA_sR6 {S : MoT} {x : List Int32} : gA' (sR S x) 6 = gA' S 6 := by
  show (if 6 = rw' S then x else _) = _
  rw [if_neg]; rfl
  rcases rw_12 S with h | h <;> rw [h] <;> decide
theorem rwn_6 {S : MoT} : (6 = rw' S) = False := by
  rcases rw_12 S with h | h <;> rw [h] <;> simp
theorem rwm_6 {S : MoT} : (rw' S = 6) = False := by
  rcases rw_12 S with h | h <;> rw [h] <;> simp
theorem row_sA6 {S : MoT} {x : List Int32} : row' (sA S 6 x) = row' S := by
  show (if rw' S = 6 then x else gA' S (rw' S)) = _
  rw [if_neg (by rw [rwm_6]; exact id)]; rfl
theorem gA_sR7 {S : MoT} {x : List Int32} : gA' (sR S x) 7 = gA' S 7 := by
  show (if 7 = rw' S then x else _) = _
  rw [if_neg]; rfl
  rcases rw_12 S with h | h <;> rw [h] <;> decide
theorem rwn_7 {S : MoT} : (7 = rw' S) = False := by
  rcases rw_12 S with h | h <;> rw [h] <;> simp
theorem rwm_7 {S : MoT} : (rw' S = 7) = False := by
  rcases rw_12 S with h | h <;> rw [h] <;> simp
theorem row_sA7 {S : MoT} {x : List Int32} : row' (sA S 7 x) = row' S := by
  show (if rw' S = 7 then x else gA' S (rw' S)) = _
  rw [if_neg (by rw [rwm_7]; exact id)]; rfl
theorem gA_sR8 {S : MoT} {x : List Int32} : gA' (sR S x) 8 = gA' S 8 := by
  show (if 8 = rw' S then x else _) = _
  rw [if_neg]; rfl
  rcases rw_12 S with h | h <;> rw [h] <;> decide
theorem rwn_8 {S : MoT} : (8 = rw' S) = False := by
  rcases rw_12 S with h | h <;> rw [h] <;> simp
theorem rwm_8 {S : MoT} : (rw' S = 8) = False := by
  rcases rw_12 S with h | h <;> rw [h] <;> simp
theorem row_sA8 {S : MoT} {x : List Int32} : row' (sA S 8 x) = row' S := by
  show (if rw' S = 8 then x else gA' S (rw' S)) = _
  rw [if_neg (by rw [rwm_8]; exact id)]; rfl
theorem gA_sR9 {S : MoT} {x : List Int32} : gA' (sR S x) 9 = gA' S 9 := by
  show (if 9 = rw' S then x else _) = _
  rw [if_neg]; rfl
  rcases rw_12 S with h | h <;> rw [h] <;> decide
theorem rwn_9 {S : MoT} : (9 = rw' S) = False := by
  rcases rw_12 S with h | h <;> rw [h] <;> simp
theorem rwm_9 {S : MoT} : (rw' S = 9) = False := by
  rcases rw_12 S with h | h <;> rw [h] <;> simp
theorem row_sA9 {S : MoT} {x : List Int32} : row' (sA S 9 x) = row' S := by
  show (if rw' S = 9 then x else gA' S (rw' S)) = _
  rw [if_neg (by rw [rwm_9]; exact id)]; rfl
def hMo (S : MoT) : gH := [some (.inl (9, [.int (gI' S 0), .ref 1, .ref 2, .ref (rw' S), .ref 3, .ref 4, .ref 5, .ref 6, .int (gI' S 8), .int (gI' S 9), .int (gI' S 10), .int (gI' S 11), .int (gI' S 12), .long (gL' S), .int (gI' S 14), .int (gI' S 15), .int (gI' S 16), .long 187429700, .long 296566830, .long 1705, .long 8094240, .long 244366229642, .long 791347, .long 84896806, .long 1834209, .long 144941, .long 232600981, .long 369932, .long 40477, .long 316189, .long 2698, .long 400577, .long 10256063, .ref 7, .int (gI' S 34), .ref 8, .int (gI' S 36), .int (gI' S 37), .int (gI' S 38), .ref 9, .int (gI' S 40)])), some (.inr (.inl (0, gA' S 1))), some (.inr (.inl (0, gA' S 2))), some (.inr (.inl (0, gA' S 3))), some (.inr (.inl (0, gA' S 4))), some (.inr (.inl (0, gA' S 5))), some (.inr (.inl (1, gA' S 6))), some (.inr (.inl (0, gA' S 7))), some (.inr (.inl (0, gA' S 8))), some (.inr (.inl (0, gA' S 9)))]
theorem hMo_len {S : MoT} : (hMo S).length = 10 := (rfl)
theorem hMo_g0 {S : MoT} : (hMo S)[0]? = some (some (.inl (9, [.int (gI' S 0), .ref 1, .ref 2, .ref (rw' S), .ref 3, .ref 4, .ref 5, .ref 6, .int (gI' S 8), .int (gI' S 9), .int (gI' S 10), .int (gI' S 11), .int (gI' S 12), .long (gL' S), .int (gI' S 14), .int (gI' S 15), .int (gI' S 16), .long 187429700, .long 296566830, .long 1705, .long 8094240, .long 244366229642, .long 791347, .long 84896806, .long 1834209, .long 144941, .long 232600981, .long 369932, .long 40477, .long 316189, .long 2698, .long 400577, .long 10256063, .ref 7, .int (gI' S 34), .ref 8, .int (gI' S 36), .int (gI' S 37), .int (gI' S 38), .ref 9, .int (gI' S 40)]))) := (rfl)
theorem hMo_f0 {S : MoT} {K : Value → Prop} : (cO (hMo S)[0]? 9 fun fs => oV fs[0]? K) = K (.int (gI' S 0)) := propext ⟨fun z => z.2, fun z => ⟨rfl, z⟩⟩
theorem hMo_p0 {S : MoT} {P : Prop} : (cO (hMo S)[0]? 9 fun fs => 0 < fs.length ∧ P) = P := propext ⟨fun z => z.2.2, fun z => ⟨rfl, by simp, z⟩⟩
theorem hMo_s0 {S : MoT} {x : Int32} : gUp (hMo S) 0 9 0 (.int x) = hMo (sI S 0 x) := (rfl)
theorem hMo_f1 {S : MoT} {K : Value → Prop} : (cO (hMo S)[0]? 9 fun fs => oV fs[1]? K) = K (.ref 1) := propext ⟨fun z => z.2, fun z => ⟨rfl, z⟩⟩
theorem hMo_f2 {S : MoT} {K : Value → Prop} : (cO (hMo S)[0]? 9 fun fs => oV fs[2]? K) = K (.ref 2) := propext ⟨fun z => z.2, fun z => ⟨rfl, z⟩⟩
theorem hMo_f3 {S : MoT} {K : Value → Prop} : (cO (hMo S)[0]? 9 fun fs => oV fs[3]? K) = K (.ref (rw' S)) := propext ⟨fun z => z.2, fun z => ⟨rfl, z⟩⟩
theorem hMo_p3 {S : MoT} {P : Prop} : (cO (hMo S)[0]? 9 fun fs => 3 < fs.length ∧ P) = P := propext ⟨fun z => z.2.2, fun z => ⟨rfl, by simp, z⟩⟩
theorem hMo_s3_1 {S : MoT} : gUp (hMo S) 0 9 3 (.ref 1) = hMo (sD S false) := (rfl)
theorem hMo_s3_2 {S : MoT} : gUp (hMo S) 0 9 3 (.ref 2) = hMo (sD S true) := (rfl)
theorem hMo_f4 {S : MoT} {K : Value → Prop} : (cO (hMo S)[0]? 9 fun fs => oV fs[4]? K) = K (.ref 3) := propext ⟨fun z => z.2, fun z => ⟨rfl, z⟩⟩
theorem hMo_f5 {S : MoT} {K : Value → Prop} : (cO (hMo S)[0]? 9 fun fs => oV fs[5]? K) = K (.ref 4) := propext ⟨fun z => z.2, fun z => ⟨rfl, z⟩⟩
theorem hMo_f6 {S : MoT} {K : Value → Prop} : (cO (hMo S)[0]? 9 fun fs => oV fs[6]? K) = K (.ref 5) := propext ⟨fun z => z.2, fun z => ⟨rfl, z⟩⟩
theorem hMo_f7 {S : MoT} {K : Value → Prop} : (cO (hMo S)[0]? 9 fun fs => oV fs[7]? K) = K (.ref 6) := propext ⟨fun z => z.2, fun z => ⟨rfl, z⟩⟩
theorem hMo_f8 {S : MoT} {K : Value → Prop} : (cO (hMo S)[0]? 9 fun fs => oV fs[8]? K) = K (.int (gI' S 8)) := propext ⟨fun z => z.2, fun z => ⟨rfl, z⟩⟩
theorem hMo_p8 {S : MoT} {P : Prop} : (cO (hMo S)[0]? 9 fun fs => 8 < fs.length ∧ P) = P := propext ⟨fun z => z.2.2, fun z => ⟨rfl, by simp, z⟩⟩
theorem hMo_s8 {S : MoT} {x : Int32} : gUp (hMo S) 0 9 8 (.int x) = hMo (sI S 8 x) := (rfl)
theorem hMo_f9 {S : MoT} {K : Value → Prop} : (cO (hMo S)[0]? 9 fun fs => oV fs[9]? K) = K (.int (gI' S 9)) := propext ⟨fun z => z.2, fun z => ⟨rfl, z⟩⟩
theorem hMo_p9 {S : MoT} {P : Prop} : (cO (hMo S)[0]? 9 fun fs => 9 < fs.length ∧ P) = P := propext ⟨fun z => z.2.2, fun z => ⟨rfl, by simp, z⟩⟩
theorem hMo_s9 {S : MoT} {x : Int32} : gUp (hMo S) 0 9 9 (.int x) = hMo (sI S 9 x) := (rfl)
theorem hMo_f10 {S : MoT} {K : Value → Prop} : (cO (hMo S)[0]? 9 fun fs => oV fs[10]? K) = K (.int (gI' S 10)) := propext ⟨fun z => z.2, fun z => ⟨rfl, z⟩⟩
theorem hMo_p10 {S : MoT} {P : Prop} : (cO (hMo S)[0]? 9 fun fs => 10 < fs.length ∧ P) = P := propext ⟨fun z => z.2.2, fun z => ⟨rfl, by simp, z⟩⟩
theorem hMo_s10 {S : MoT} {x : Int32} : gUp (hMo S) 0 9 10 (.int x) = hMo (sI S 10 x) := (rfl)
theorem hMo_f11 {S : MoT} {K : Value → Prop} : (cO (hMo S)[0]? 9 fun fs => oV fs[11]? K) = K (.int (gI' S 11)) := propext ⟨fun z => z.2, fun z => ⟨rfl, z⟩⟩
theorem hMo_p11 {S : MoT} {P : Prop} : (cO (hMo S)[0]? 9 fun fs => 11 < fs.length ∧ P) = P := propext ⟨fun z => z.2.2, fun z => ⟨rfl, by simp, z⟩⟩
theorem hMo_s11 {S : MoT} {x : Int32} : gUp (hMo S) 0 9 11 (.int x) = hMo (sI S 11 x) := (rfl)
theorem hMo_f12 {S : MoT} {K : Value → Prop} : (cO (hMo S)[0]? 9 fun fs => oV fs[12]? K) = K (.int (gI' S 12)) := propext ⟨fun z => z.2, fun z => ⟨rfl, z⟩⟩
theorem hMo_p12 {S : MoT} {P : Prop} : (cO (hMo S)[0]? 9 fun fs => 12 < fs.length ∧ P) = P := propext ⟨fun z => z.2.2, fun z => ⟨rfl, by simp, z⟩⟩
theorem hMo_s12 {S : MoT} {x : Int32} : gUp (hMo S) 0 9 12 (.int x) = hMo (sI S 12 x) := (rfl)
theorem hMo_f13 {S : MoT} {K : Value → Prop} : (cO (hMo S)[0]? 9 fun fs => oV fs[13]? K) = K (.long (gL' S)) := propext ⟨fun z => z.2, fun z => ⟨rfl, z⟩⟩
theorem hMo_p13 {S : MoT} {P : Prop} : (cO (hMo S)[0]? 9 fun fs => 13 < fs.length ∧ P) = P := propext ⟨fun z => z.2.2, fun z => ⟨rfl, by simp, z⟩⟩
theorem hMo_s13 {S : MoT} {x : Int64} : gUp (hMo S) 0 9 13 (.long x) = hMo (sL S x) := (rfl)
theorem hMo_f14 {S : MoT} {K : Value → Prop} : (cO (hMo S)[0]? 9 fun fs => oV fs[14]? K) = K (.int (gI' S 14)) := propext ⟨fun z => z.2, fun z => ⟨rfl, z⟩⟩
theorem hMo_p14 {S : MoT} {P : Prop} : (cO (hMo S)[0]? 9 fun fs => 14 < fs.length ∧ P) = P := propext ⟨fun z => z.2.2, fun z => ⟨rfl, by simp, z⟩⟩
theorem hMo_s14 {S : MoT} {x : Int32} : gUp (hMo S) 0 9 14 (.int x) = hMo (sI S 14 x) := (rfl)
theorem hMo_f15 {S : MoT} {K : Value → Prop} : (cO (hMo S)[0]? 9 fun fs => oV fs[15]? K) = K (.int (gI' S 15)) := propext ⟨fun z => z.2, fun z => ⟨rfl, z⟩⟩
theorem hMo_p15 {S : MoT} {P : Prop} : (cO (hMo S)[0]? 9 fun fs => 15 < fs.length ∧ P) = P := propext ⟨fun z => z.2.2, fun z => ⟨rfl, by simp, z⟩⟩
theorem hMo_s15 {S : MoT} {x : Int32} : gUp (hMo S) 0 9 15 (.int x) = hMo (sI S 15 x) := (rfl)
theorem hMo_f16 {S : MoT} {K : Value → Prop} : (cO (hMo S)[0]? 9 fun fs => oV fs[16]? K) = K (.int (gI' S 16)) := propext ⟨fun z => z.2, fun z => ⟨rfl, z⟩⟩
theorem hMo_p16 {S : MoT} {P : Prop} : (cO (hMo S)[0]? 9 fun fs => 16 < fs.length ∧ P) = P := propext ⟨fun z => z.2.2, fun z => ⟨rfl, by simp, z⟩⟩
theorem hMo_s16 {S : MoT} {x : Int32} : gUp (hMo S) 0 9 16 (.int x) = hMo (sI S 16 x) := (rfl)
theorem hMo_f17 {S : MoT} {K : Value → Prop} : (cO (hMo S)[0]? 9 fun fs => oV fs[17]? K) = K (.long 187429700) := propext ⟨fun z => z.2, fun z => ⟨rfl, z⟩⟩
theorem hMo_f18 {S : MoT} {K : Value → Prop} : (cO (hMo S)[0]? 9 fun fs => oV fs[18]? K) = K (.long 296566830) := propext ⟨fun z => z.2, fun z => ⟨rfl, z⟩⟩
theorem hMo_f19 {S : MoT} {K : Value → Prop} : (cO (hMo S)[0]? 9 fun fs => oV fs[19]? K) = K (.long 1705) := propext ⟨fun z => z.2, fun z => ⟨rfl, z⟩⟩
theorem hMo_f20 {S : MoT} {K : Value → Prop} : (cO (hMo S)[0]? 9 fun fs => oV fs[20]? K) = K (.long 8094240) := propext ⟨fun z => z.2, fun z => ⟨rfl, z⟩⟩
theorem hMo_f21 {S : MoT} {K : Value → Prop} : (cO (hMo S)[0]? 9 fun fs => oV fs[21]? K) = K (.long 244366229642) := propext ⟨fun z => z.2, fun z => ⟨rfl, z⟩⟩
theorem hMo_f22 {S : MoT} {K : Value → Prop} : (cO (hMo S)[0]? 9 fun fs => oV fs[22]? K) = K (.long 791347) := propext ⟨fun z => z.2, fun z => ⟨rfl, z⟩⟩
theorem hMo_f23 {S : MoT} {K : Value → Prop} : (cO (hMo S)[0]? 9 fun fs => oV fs[23]? K) = K (.long 84896806) := propext ⟨fun z => z.2, fun z => ⟨rfl, z⟩⟩
theorem hMo_f24 {S : MoT} {K : Value → Prop} : (cO (hMo S)[0]? 9 fun fs => oV fs[24]? K) = K (.long 1834209) := propext ⟨fun z => z.2, fun z => ⟨rfl, z⟩⟩
theorem hMo_f25 {S : MoT} {K : Value → Prop} : (cO (hMo S)[0]? 9 fun fs => oV fs[25]? K) = K (.long 144941) := propext ⟨fun z => z.2, fun z => ⟨rfl, z⟩⟩
theorem hMo_f26 {S : MoT} {K : Value → Prop} : (cO (hMo S)[0]? 9 fun fs => oV fs[26]? K) = K (.long 232600981) := propext ⟨fun z => z.2, fun z => ⟨rfl, z⟩⟩
theorem hMo_f27 {S : MoT} {K : Value → Prop} : (cO (hMo S)[0]? 9 fun fs => oV fs[27]? K) = K (.long 369932) := propext ⟨fun z => z.2, fun z => ⟨rfl, z⟩⟩
theorem hMo_f28 {S : MoT} {K : Value → Prop} : (cO (hMo S)[0]? 9 fun fs => oV fs[28]? K) = K (.long 40477) := propext ⟨fun z => z.2, fun z => ⟨rfl, z⟩⟩
theorem hMo_f29 {S : MoT} {K : Value → Prop} : (cO (hMo S)[0]? 9 fun fs => oV fs[29]? K) = K (.long 316189) := propext ⟨fun z => z.2, fun z => ⟨rfl, z⟩⟩
theorem hMo_f30 {S : MoT} {K : Value → Prop} : (cO (hMo S)[0]? 9 fun fs => oV fs[30]? K) = K (.long 2698) := propext ⟨fun z => z.2, fun z => ⟨rfl, z⟩⟩
theorem hMo_f31 {S : MoT} {K : Value → Prop} : (cO (hMo S)[0]? 9 fun fs => oV fs[31]? K) = K (.long 400577) := propext ⟨fun z => z.2, fun z => ⟨rfl, z⟩⟩
theorem hMo_f32 {S : MoT} {K : Value → Prop} : (cO (hMo S)[0]? 9 fun fs => oV fs[32]? K) = K (.long 10256063) := propext ⟨fun z => z.2, fun z => ⟨rfl, z⟩⟩
theorem hMo_f33 {S : MoT} {K : Value → Prop} : (cO (hMo S)[0]? 9 fun fs => oV fs[33]? K) = K (.ref 7) := propext ⟨fun z => z.2, fun z => ⟨rfl, z⟩⟩
theorem hMo_f34 {S : MoT} {K : Value → Prop} : (cO (hMo S)[0]? 9 fun fs => oV fs[34]? K) = K (.int (gI' S 34)) := propext ⟨fun z => z.2, fun z => ⟨rfl, z⟩⟩
theorem hMo_p34 {S : MoT} {P : Prop} : (cO (hMo S)[0]? 9 fun fs => 34 < fs.length ∧ P) = P := propext ⟨fun z => z.2.2, fun z => ⟨rfl, by simp, z⟩⟩
theorem hMo_s34 {S : MoT} {x : Int32} : gUp (hMo S) 0 9 34 (.int x) = hMo (sI S 34 x) := (rfl)
theorem hMo_f35 {S : MoT} {K : Value → Prop} : (cO (hMo S)[0]? 9 fun fs => oV fs[35]? K) = K (.ref 8) := propext ⟨fun z => z.2, fun z => ⟨rfl, z⟩⟩
theorem hMo_f36 {S : MoT} {K : Value → Prop} : (cO (hMo S)[0]? 9 fun fs => oV fs[36]? K) = K (.int (gI' S 36)) := propext ⟨fun z => z.2, fun z => ⟨rfl, z⟩⟩
theorem hMo_p36 {S : MoT} {P : Prop} : (cO (hMo S)[0]? 9 fun fs => 36 < fs.length ∧ P) = P := propext ⟨fun z => z.2.2, fun z => ⟨rfl, by simp, z⟩⟩
theorem hMo_s36 {S : MoT} {x : Int32} : gUp (hMo S) 0 9 36 (.int x) = hMo (sI S 36 x) := (rfl)
theorem hMo_f37 {S : MoT} {K : Value → Prop} : (cO (hMo S)[0]? 9 fun fs => oV fs[37]? K) = K (.int (gI' S 37)) := propext ⟨fun z => z.2, fun z => ⟨rfl, z⟩⟩
theorem hMo_p37 {S : MoT} {P : Prop} : (cO (hMo S)[0]? 9 fun fs => 37 < fs.length ∧ P) = P := propext ⟨fun z => z.2.2, fun z => ⟨rfl, by simp, z⟩⟩
theorem hMo_s37 {S : MoT} {x : Int32} : gUp (hMo S) 0 9 37 (.int x) = hMo (sI S 37 x) := (rfl)
theorem hMo_f38 {S : MoT} {K : Value → Prop} : (cO (hMo S)[0]? 9 fun fs => oV fs[38]? K) = K (.int (gI' S 38)) := propext ⟨fun z => z.2, fun z => ⟨rfl, z⟩⟩
theorem hMo_p38 {S : MoT} {P : Prop} : (cO (hMo S)[0]? 9 fun fs => 38 < fs.length ∧ P) = P := propext ⟨fun z => z.2.2, fun z => ⟨rfl, by simp, z⟩⟩
theorem hMo_s38 {S : MoT} {x : Int32} : gUp (hMo S) 0 9 38 (.int x) = hMo (sI S 38 x) := (rfl)
theorem hMo_f39 {S : MoT} {K : Value → Prop} : (cO (hMo S)[0]? 9 fun fs => oV fs[39]? K) = K (.ref 9) := propext ⟨fun z => z.2, fun z => ⟨rfl, z⟩⟩
theorem hMo_f40 {S : MoT} {K : Value → Prop} : (cO (hMo S)[0]? 9 fun fs => oV fs[40]? K) = K (.int (gI' S 40)) := propext ⟨fun z => z.2, fun z => ⟨rfl, z⟩⟩
theorem hMo_p40 {S : MoT} {P : Prop} : (cO (hMo S)[0]? 9 fun fs => 40 < fs.length ∧ P) = P := propext ⟨fun z => z.2.2, fun z => ⟨rfl, by simp, z⟩⟩
theorem hMo_s40 {S : MoT} {x : Int32} : gUp (hMo S) 0 9 40 (.int x) = hMo (sI S 40 x) := (rfl)
theorem hMo_c1 {S : MoT} {K : List Int32 → Prop} : cI (hMo S)[1]? 0 K = K (gA' S 1) := propext ⟨fun z => z.2, fun z => ⟨rfl, z⟩⟩
theorem hMo_t1 {S : MoT} {x : List Int32} : (hMo S).set 1 (some (.inr (.inl (0, x)))) = hMo (sA S 1 x) := (rfl)
theorem hMo_c2 {S : MoT} {K : List Int32 → Prop} : cI (hMo S)[2]? 0 K = K (gA' S 2) := propext ⟨fun z => z.2, fun z => ⟨rfl, z⟩⟩
theorem hMo_t2 {S : MoT} {x : List Int32} : (hMo S).set 2 (some (.inr (.inl (0, x)))) = hMo (sA S 2 x) := (rfl)
theorem hMo_c3 {S : MoT} {K : List Int32 → Prop} : cI (hMo S)[3]? 0 K = K (gA' S 3) := propext ⟨fun z => z.2, fun z => ⟨rfl, z⟩⟩
theorem hMo_t3 {S : MoT} {x : List Int32} : (hMo S).set 3 (some (.inr (.inl (0, x)))) = hMo (sA S 3 x) := (rfl)
theorem hMo_c4 {S : MoT} {K : List Int32 → Prop} : cI (hMo S)[4]? 0 K = K (gA' S 4) := propext ⟨fun z => z.2, fun z => ⟨rfl, z⟩⟩
theorem hMo_t4 {S : MoT} {x : List Int32} : (hMo S).set 4 (some (.inr (.inl (0, x)))) = hMo (sA S 4 x) := (rfl)
theorem hMo_c5 {S : MoT} {K : List Int32 → Prop} : cI (hMo S)[5]? 0 K = K (gA' S 5) := propext ⟨fun z => z.2, fun z => ⟨rfl, z⟩⟩
theorem hMo_t5 {S : MoT} {x : List Int32} : (hMo S).set 5 (some (.inr (.inl (0, x)))) = hMo (sA S 5 x) := (rfl)
theorem hMo_c6 {S : MoT} {K : List Int32 → Prop} : cI (hMo S)[6]? 1 K = K (gA' S 6) := propext ⟨fun z => z.2, fun z => ⟨rfl, z⟩⟩
theorem hMo_t6 {S : MoT} {x : List Int32} : (hMo S).set 6 (some (.inr (.inl (1, x)))) = hMo (sA S 6 x) := (rfl)
theorem hMo_c7 {S : MoT} {K : List Int32 → Prop} : cI (hMo S)[7]? 0 K = K (gA' S 7) := propext ⟨fun z => z.2, fun z => ⟨rfl, z⟩⟩
theorem hMo_t7 {S : MoT} {x : List Int32} : (hMo S).set 7 (some (.inr (.inl (0, x)))) = hMo (sA S 7 x) := (rfl)
theorem hMo_c8 {S : MoT} {K : List Int32 → Prop} : cI (hMo S)[8]? 0 K = K (gA' S 8) := propext ⟨fun z => z.2, fun z => ⟨rfl, z⟩⟩
theorem hMo_t8 {S : MoT} {x : List Int32} : (hMo S).set 8 (some (.inr (.inl (0, x)))) = hMo (sA S 8 x) := (rfl)
theorem hMo_c9 {S : MoT} {K : List Int32 → Prop} : cI (hMo S)[9]? 0 K = K (gA' S 9) := propext ⟨fun z => z.2, fun z => ⟨rfl, z⟩⟩
theorem hMo_t9 {S : MoT} {x : List Int32} : (hMo S).set 9 (some (.inr (.inl (0, x)))) = hMo (sA S 9 x) := (rfl)
theorem hMo_cr {S : MoT} {K : List Int32 → Prop} : cI (hMo S)[rw' S]? 0 K = K (row' S) := by
  unfold row'
  rcases rw_12 S with h | h <;> rw [h]
  · exact hMo_c1
  · exact hMo_c2
theorem hMo_tr {S : MoT} {x : List Int32} : (hMo S).set (rw' S) (some (.inr (.inl (0, x)))) = hMo (sR S x) := by
  unfold sR
  rcases rw_12 S with h | h <;> rw [h]
  · exact hMo_t1
  · exact hMo_t2
theorem tv_id {α : Type} (v : Value) : tv (fun k => k) v = v := by cases v <;> rfl
theorem gRen_10 : gRen (List.range 10) = fun k => k := funext fun i => gRen_id rfl i
theorem map_tv_id (vs : List Value) : vs.map (tv fun k => k) = vs := by
  conv => rhs; rw [← List.map_id vs]
  exact List.map_congr_left fun v _ => tv_id (α := Nat) v
theorem hMo_sub (S : MoT) : gSub (List.range 10) (hMo S) (hMo S) := by
  refine ⟨?_, by decide, by decide⟩
  have e : ∀ o : Option gC, o.map (rc (List.range 10)) = o := by
    intro o
    cases o with
    | none => rfl
    | some c => exact congrArg some (rc_id rfl c)
  have e2 : (hMo S).map (fun o => some (o.map (rc (List.range 10)))) = (hMo S).map some := List.map_congr_left fun o _ => by rw [e]
  rw [e2]
  rfl
theorem hMo_all (S : MoT) : ∀ i : Nat, (hMo S)[i]? ≠ some none := gAllS rfl
/-- a contract of a method of the model -/
def moC (M : gM) (d : Nat) (vs : List Value) (S : MoT) (Q : Option Value → MoT → Prop) : Prop := gCt M d 0 0 (.ref 0 :: vs) (hMo S) (fun v h => ∃ S', h = hMo S' ∧ Q v S') (fun _ _ => False)
/-- .. that changes nothing and answers x -/
def moP (M : gM) (d : Nat) (vs : List Value) (S : MoT) (x : Int32) : Prop := gCt M d 0 0 (.ref 0 :: vs) (hMo S) (fun v h => v = some (.int x) ∧ h = hMo S) (fun _ _ => False)
theorem moP_e {M : gM} {d : Nat} {vs : List Value} {S : MoT} {x y : Int32} (h : moP M d vs S x) (e : x = y) : moP M d vs S y := e ▸ h
section MOK
variable {M M' : gM} {d d' mc ms c n idx na : Nat} {vs rest sk : List Value} {ls : List (Option Value)} {S : MoT} {h0 : gH} {Q : Option Value → gH → Prop} {QX : String → gH → Prop}
theorem mo_c (pc : Nat) {Q' : Option Value → MoT → Prop} (hC : moC M' d' vs S Q') (hlk : gLkV (mY M).cls idx M' na) (hd : decode (mC M) pc = .ok (.invokevirtual idx, 3)) (hna : vs.length = na) (hci : RX9 = (mY M').cls) (hT : mT M = []) (hsk : sk = vs.reverse ++ .ref 0 :: rest) (hdd : d' + 1 ≤ d) (hcat : (rest.map fun v => v.category).sum ≤ 8) (hc : c ≤ mc) (hn : n ≤ ms)
    (k : ∀ (v : Option Value) (S' : MoT), Q' v S' → G M d mc ms h0 Q QX c n (pc + 3) ls (v.toList ++ rest) (hMo S')) : G M d mc ms h0 Q QX c n pc ls sk (hMo S) := by
  refine g_callV (M' := M') (ci := 9) (k0 := 0) (rest := rest) (vs := vs) (List.range 10) hC hd hlk hna hMo_g0 (by rw [← hci]; rfl) ?_ (hMo_sub S) (Or.inl (hMo_all S)) hT hdd hcat hc hn (fun _ _ z => z.elim) ?_
  · rw [gRen_10, map_tv_id]; exact hsk
  · rintro v h1 ⟨S', rfl, hq⟩
    rw [gPb_id rfl rfl rfl]
    exact k v S' hq
theorem mo_p (pc : Nat) {x : Int32} (hC : moP M' d' vs S x) (hlk : gLkV (mY M).cls idx M' na) (hd : decode (mC M) pc = .ok (.invokevirtual idx, 3)) (hna : vs.length = na) (hci : RX9 = (mY M').cls) (hT : mT M = []) (hsk : sk = vs.reverse ++ .ref 0 :: rest) (hdd : d' + 1 ≤ d) (hcat : (rest.map fun v => v.category).sum ≤ 8) (hc : c ≤ mc) (hn : n ≤ ms)
    (k : G M d mc ms h0 Q QX c n (pc + 3) ls (.int x :: rest) (hMo S)) : G M d mc ms h0 Q QX c n pc ls sk (hMo S) := by
  refine g_callV (M' := M') (ci := 9) (k0 := 0) (rest := rest) (vs := vs) (List.range 10) hC hd hlk hna hMo_g0 (by rw [← hci]; rfl) ?_ (hMo_sub S) (Or.inl (hMo_all S)) hT hdd hcat hc hn (fun _ _ z => z.elim) ?_
  · rw [gRen_10, map_tv_id]; exact hsk
  · rintro v h1 ⟨rfl, rfl⟩
    rw [gPb_id rfl rfl rfl]
    exact k
/-- a static method that touches nothing -/
def moS (M : gM) (d : Nat) (vs : List Value) (v : Value) : Prop := gCt M d 0 0 vs [] (fun r h => r = some v ∧ h = []) (fun _ _ => False)
theorem nil_sub (h : gH) : gSub [] h [] := ⟨rfl, List.nodup_nil, fun k hk => by cases hk⟩
theorem gRen_nil : gRen [] = fun k => k := funext fun i => by unfold gRen; simp
theorem mo_s (pc : Nat) {h : gH} {v : Value} (hC : moS M' d' vs v) (hlk : gLkS (mY M).cls idx M' na) (hd : decode (mC M) pc = .ok (.invokestatic idx, 3)) (hna : vs.length = na) (hT : mT M = []) (hsk : sk = vs.reverse ++ rest) (hdd : d' + 1 ≤ d) (hcat : (rest.map fun v => v.category).sum ≤ 8) (hc : c ≤ mc) (hn : n ≤ ms)
    (k : G M d mc ms h0 Q QX c n (pc + 3) ls (v :: rest) h) : G M d mc ms h0 Q QX c n pc ls sk h := by
  refine g_callS (M' := M') (rest := rest) (vs := vs) [] hC hd hlk hna ?_ (nil_sub h) (Or.inl (by simp)) hT hdd hcat hc hn (fun _ _ z => z.elim) ?_
  · rw [gRen_nil, map_tv_id]; exact hsk
  · rintro v h1 ⟨rfl, rfl⟩
    exact k
theorem wsp {p q : Prop} {pc pc' : Nat} {ls' : List (Option Value)} {sk' : List Value} {h h' : gH} (h1 : p → G M d mc ms h0 Q QX c n pc ls sk h) (h2 : q → G M d mc ms h0 Q QX c n pc' ls' sk' h') : (p → G M d mc ms h0 Q QX c n pc ls sk h) ∧ (q → G M d mc ms h0 Q QX c n pc' ls' sk' h') := ⟨h1, h2⟩
end MOK
section MOE
variable {M : gM} {d : Nat} {vs : List Value} {S : MoT} {ls : List (Option Value)}
/-- a contract out of a walk, for any end -/
theorem moP_of {x : Int32} (hy : plainName (mY M).cls = true) (hT : mT M = []) (hS : mS M = none) (hn : (gEn (.ref 0 :: vs)).length ≤ mN M) (hls : gEn (.ref 0 :: vs) ++ List.replicate (mN M - (gEn (.ref 0 :: vs)).length) none = ls)
    (k : ∀ (h0 : gH) (Q : Option Value → gH → Prop) (QX : String → gH → Prop), (∀ y, y = x → Q (some (.int y)) (hMo S)) → G M d 0 0 h0 Q QX 0 0 0 ls [] (hMo S)) : moP M d vs S x :=
  gCt_of hy hT hS hn hls (k _ _ _ (fun y h => ⟨by rw [h], rfl⟩))
theorem moC_of {Q' : Option Value → MoT → Prop} (hy : plainName (mY M).cls = true) (hT : mT M = []) (hS : mS M = none) (hn : (gEn (.ref 0 :: vs)).length ≤ mN M) (hls : gEn (.ref 0 :: vs) ++ List.replicate (mN M - (gEn (.ref 0 :: vs)).length) none = ls)
    (k : ∀ (h0 : gH) (Q : Option Value → gH → Prop) (QX : String → gH → Prop), (∀ v S', Q' v S' → Q v (hMo S')) → G M d 0 0 h0 Q QX 0 0 0 ls [] (hMo S)) : moC M d vs S Q' :=
  gCt_of hy hT hS hn hls (k _ _ _ (fun v S' h => ⟨S', rfl, h⟩))
theorem moS_of {x : Int32} (hy : plainName (mY M).cls = true) (hT : mT M = []) (hS : mS M = none) (hn : (gEn vs).length ≤ mN M) (hls : gEn vs ++ List.replicate (mN M - (gEn vs).length) none = ls)
    (k : ∀ (h0 : gH) (Q : Option Value → gH → Prop) (QX : String → gH → Prop), (∀ y, y = x → Q (some (.int y)) []) → G M d 0 0 h0 Q QX 0 0 0 ls [] []) : moS M d vs (.int x) :=
  gCt_of hy hT hS hn hls (k _ _ _ (fun y h => ⟨by rw [h], rfl⟩))
/-- deeper room does as well -/
theorem moC_p {x : Int32} (h : moP M d vs S x) : moC M d vs S (fun v S' => v = some (.int x) ∧ S' = S) :=
  gCt_mono h (fun v h => by rintro ⟨rfl, rfl⟩; exact ⟨S, rfl, rfl, rfl⟩) (fun _ _ z => z)
theorem moC_mono {Q1 Q2 : Option Value → MoT → Prop} (h : moC M d vs S Q1) (hq : ∀ v S', Q1 v S' → Q2 v S') : moC M d vs S Q2 :=
  gCt_mono h (fun v h => by rintro ⟨S', rfl, z⟩; exact ⟨S', rfl, hq _ _ z⟩) (fun _ _ z => z)
end MOE
def bI (b : Bool) : Int32 := if b = true then 1 else 0
theorem bI_t : bI true = 1 := (rfl)
theorem bI_f : bI false = 0 := (rfl)
theorem bI_z {b : Bool} : (bI b = 0) = (b = false) := by cases b <;> decide
theorem bI_o {b : Bool} : (bI b = 1) = (b = true) := by cases b <;> decide
theorem bI_01 {b : Bool} : (bI b = 0 ∨ bI b = 1) = True := by cases b <;> decide
theorem bI_e1 {b : Bool} (h : b = true) : 1 = bI b := by rw [h]; rfl
theorem bI_e0 {b : Bool} (h : b = false) : 0 = bI b := by rw [h]; rfl
theorem mo_i10 : ((1 : Int32) = 0) = False := by decide
theorem mo_i00 : ((0 : Int32) = 0) = True := by decide
theorem mo_i01 : ((0 : Int32) = 1) = False := by decide
theorem mo_i20 : ((2 : Int32) = 0) = False := by decide
theorem mo_i30 : ((3 : Int32) = 0) = False := by decide
theorem mo_i001 : ((0 : Int32) = 0 ∨ (0 : Int32) = 1) = True := by decide
theorem mo_i101 : ((1 : Int32) = 0 ∨ (1 : Int32) = 1) = True := by decide
theorem mo_n0 : (0 : Int32).toNatClampNeg = 0 := by decide
theorem mo_v0 : vp_in (0 : Int32) 174 = True := eq_true (vp_in_nI (n := 0) (by decide) (by decide))
theorem mo_n1 : (1 : Int32).toNatClampNeg = 1 := by decide
theorem mo_v1 : vp_in (1 : Int32) 174 = True := eq_true (vp_in_nI (n := 1) (by decide) (by decide))
theorem mo_n2 : (2 : Int32).toNatClampNeg = 2 := by decide
theorem mo_v2 : vp_in (2 : Int32) 174 = True := eq_true (vp_in_nI (n := 2) (by decide) (by decide))
theorem mo_n3 : (3 : Int32).toNatClampNeg = 3 := by decide
theorem mo_v3 : vp_in (3 : Int32) 174 = True := eq_true (vp_in_nI (n := 3) (by decide) (by decide))
theorem mo_n4 : (4 : Int32).toNatClampNeg = 4 := by decide
theorem mo_v4 : vp_in (4 : Int32) 174 = True := eq_true (vp_in_nI (n := 4) (by decide) (by decide))
theorem mo_n5 : (5 : Int32).toNatClampNeg = 5 := by decide
theorem mo_v5 : vp_in (5 : Int32) 174 = True := eq_true (vp_in_nI (n := 5) (by decide) (by decide))
theorem mo_n6 : (6 : Int32).toNatClampNeg = 6 := by decide
theorem mo_v6 : vp_in (6 : Int32) 174 = True := eq_true (vp_in_nI (n := 6) (by decide) (by decide))
theorem mo_n7 : (7 : Int32).toNatClampNeg = 7 := by decide
theorem mo_v7 : vp_in (7 : Int32) 174 = True := eq_true (vp_in_nI (n := 7) (by decide) (by decide))
theorem mo_n8 : (8 : Int32).toNatClampNeg = 8 := by decide
theorem mo_v8 : vp_in (8 : Int32) 174 = True := eq_true (vp_in_nI (n := 8) (by decide) (by decide))
theorem mo_n9 : (9 : Int32).toNatClampNeg = 9 := by decide
theorem mo_v9 : vp_in (9 : Int32) 174 = True := eq_true (vp_in_nI (n := 9) (by decide) (by decide))
theorem mo_n10 : (10 : Int32).toNatClampNeg = 10 := by decide
theorem mo_v10 : vp_in (10 : Int32) 174 = True := eq_true (vp_in_nI (n := 10) (by decide) (by decide))
theorem mo_n11 : (11 : Int32).toNatClampNeg = 11 := by decide
theorem mo_v11 : vp_in (11 : Int32) 174 = True := eq_true (vp_in_nI (n := 11) (by decide) (by decide))
theorem mo_n12 : (12 : Int32).toNatClampNeg = 12 := by decide
theorem mo_v12 : vp_in (12 : Int32) 174 = True := eq_true (vp_in_nI (n := 12) (by decide) (by decide))
theorem mo_n13 : (13 : Int32).toNatClampNeg = 13 := by decide
theorem mo_v13 : vp_in (13 : Int32) 174 = True := eq_true (vp_in_nI (n := 13) (by decide) (by decide))
theorem mo_n14 : (14 : Int32).toNatClampNeg = 14 := by decide
theorem mo_v14 : vp_in (14 : Int32) 174 = True := eq_true (vp_in_nI (n := 14) (by decide) (by decide))
theorem mo_n15 : (15 : Int32).toNatClampNeg = 15 := by decide
theorem mo_v15 : vp_in (15 : Int32) 174 = True := eq_true (vp_in_nI (n := 15) (by decide) (by decide))
