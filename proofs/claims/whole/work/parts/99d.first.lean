/-! L3: the first law -/
def lawL : List Nat := [103, 111, 101, 115, 32, 52, 32, 59, 32, 109, 105, 110, 100, 115, 32, 119, 101, 116, 32, 42, 32, 50, 32, 59, 32, 119, 101, 97, 114, 115, 32, 49, 32, 59, 32]
def lawB (k : Nat) : Nat := lawL.getD k 0
def lawT : Txt := ([(0, 4)], [(1, 3), (0, 2), (4, 0)], [(0, 1)])
theorem lawB_lt (k : Nat) : lawB k < 256 := by
  by_cases h : k < 35
  · have : ∀ k, k < 35 → lawB k < 256 := by decide +kernel
    exact this k h
  · unfold lawB
    rw [List.getD_eq_getElem?_getD, List.getElem?_eq_none (by show 35 ≤ k; omega)]
    decide
theorem law_e1_35 : pEn lawB 35 0 = 8 := by decide +kernel
theorem law_e2_35 : pEn lawB 35 8 = 24 := by decide +kernel
theorem law_e3_35 : pEn lawB 35 24 = 34 := by decide +kernel
theorem law_o1_35 : pOp lawB 35 0 = [(0, 4)] := by decide +kernel
theorem law_o2_35 : pOp lawB 35 8 = [(1, 3), (0, 2), (4, 0)] := by decide +kernel
theorem law_o3_35 : pOp lawB 35 24 = [(0, 1)] := by decide +kernel
theorem law_k1_35 : pOk lawB 35 0 0 := by
  unfold pOk
  decide +kernel
theorem law_k2_35 : pOk lawB 35 1 8 := by
  unfold pOk
  decide +kernel
theorem law_k3_35 : pOk lawB 35 2 24 := by
  unfold pOk
  decide +kernel
theorem law_k4_35 : tkA lawB 35 34 = 302 := by decide +kernel
theorem law_ok_35 : tOk lawB 35 := by
  unfold tOk
  rw [law_e1_35, law_e2_35, law_e3_35]
  exact ⟨law_k1_35, law_k2_35, law_k3_35, law_k4_35⟩
theorem law_tx_35 : tTx lawB 35 = lawT := by
  unfold tTx
  rw [law_e1_35, law_e2_35, law_o1_35, law_o2_35, law_o3_35]
  rfl
theorem law_e1_34 : pEn lawB 34 0 = 8 := by decide +kernel
theorem law_e2_34 : pEn lawB 34 8 = 24 := by decide +kernel
theorem law_e3_34 : pEn lawB 34 24 = 34 := by decide +kernel
theorem law_o1_34 : pOp lawB 34 0 = [(0, 4)] := by decide +kernel
theorem law_o2_34 : pOp lawB 34 8 = [(1, 3), (0, 2), (4, 0)] := by decide +kernel
theorem law_o3_34 : pOp lawB 34 24 = [(0, 1)] := by decide +kernel
theorem law_k1_34 : pOk lawB 34 0 0 := by
  unfold pOk
  decide +kernel
theorem law_k2_34 : pOk lawB 34 1 8 := by
  unfold pOk
  decide +kernel
theorem law_k3_34 : pOk lawB 34 2 24 := by
  unfold pOk
  decide +kernel
theorem law_k4_34 : tkA lawB 34 34 = 302 := by decide +kernel
theorem law_ok_34 : tOk lawB 34 := by
  unfold tOk
  rw [law_e1_34, law_e2_34, law_e3_34]
  exact ⟨law_k1_34, law_k2_34, law_k3_34, law_k4_34⟩
theorem law_tx_34 : tTx lawB 34 = lawT := by
  unfold tTx
  rw [law_e1_34, law_e2_34, law_o1_34, law_o2_34, law_o3_34]
  rfl
