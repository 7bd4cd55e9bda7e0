section STA
set_option maxRecDepth 100000
/-! ### both begin with the same market -/
def A00 : MkA := ordA (ordA (pasA 5 (ordA (ordA (ordA (ordA (ordA (ordA (trdA (trdA (trdA (trdA (mkt0 5 50 20 0) [97, 109, 121] 2000 10) [98, 101, 110] 3000 0) [99, 97, 108] 500 40) [100, 111, 116] 900 25) 0 0 60 8 9) 1 0 55 12 9) 2 1 48 10 9) 3 1 52 15 9) 2 1 58 6 9) 3 0 50 5 9)) 1 0 53 4 20) 3 1 53 5 20
def tx0 : List Nat := [109, 97, 114, 107, 101, 116, 32, 53, 32, 53, 48, 32, 50, 48, 32, 116, 105, 109, 101, 59, 116, 114, 97, 100, 101, 114, 32, 97, 109, 121, 32, 50, 48, 48, 48, 32, 49, 48, 59, 116, 114, 97, 100, 101, 114, 32, 98, 101, 110, 32, 51, 48, 48, 48, 32, 48, 59, 116, 114, 97, 100, 101, 114, 32, 99, 97, 108, 32, 53, 48, 48, 32, 52, 48, 59, 116, 114, 97, 100, 101, 114, 32, 100, 111, 116, 32, 57, 48, 48, 32, 50, 53, 59]
def tx1 : List Nat := [98, 105, 100, 32, 97, 109, 121, 32, 54, 48, 32, 56, 32, 57, 59, 98, 105, 100, 32, 98, 101, 110, 32, 53, 53, 32, 49, 50, 32, 57, 59, 111, 102, 102, 101, 114, 32, 99, 97, 108, 32, 52, 56, 32, 49, 48, 32, 57, 59, 111, 102, 102, 101, 114, 32, 100, 111, 116, 32, 53, 50, 32, 49, 53, 32, 57, 59, 111, 102, 102, 101, 114, 32, 99, 97, 108, 32, 53, 56, 32, 54, 32, 57, 59, 98, 105, 100, 32, 100, 111, 116, 32, 53, 48, 32, 53, 32, 57, 59]
def tx2 : List Nat := [112, 97, 115, 115, 32, 53, 59, 98, 105, 100, 32, 98, 101, 110, 32, 53, 51, 32, 52, 32, 50, 48, 59, 111, 102, 102, 101, 114, 32, 100, 111, 116, 32, 53, 51, 32, 53, 32, 50, 48, 59]
def dOd : DecidableEq Od := inferInstance
def dTr : DecidableEq Tr := inferInstance
def dTa4 : DecidableEq (Int32 × Int32 × Int32 × Int64) := inferInstance
def dTa : DecidableEq TaT := @instDecidableEqProd _ _ inferInstance (@instDecidableEqProd _ _ inferInstance (@instDecidableEqProd _ _ inferInstance (@instDecidableEqProd _ _ inferInstance dTa4)))
def dMh : DecidableEq MhT := inferInstance
def dMkA : DecidableEq MkA := @instDecidableEqProd _ _ dMh (@instDecidableEqProd _ _ (@instDecidableEqList _ dTr) (@instDecidableEqProd _ _ (@instDecidableEqList _ dOd) (@instDecidableEqProd _ _ inferInstance dTa)))
def dPa : DecidableEq (ER ⊕ MkA) := @instDecidableEqSum _ _ inferInstance dMkA
theorem st_par : parse (tx0 ++ tx1 ++ tx2) = .inr A00 := @of_decide_eq_true _ (dPa _ _) (by decide +kernel)
end STA
