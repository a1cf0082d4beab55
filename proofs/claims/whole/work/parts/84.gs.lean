/-! ===== what is known once and for all, of these tables ===== -/
theorem tb_over {j : Nat} (hj : 385 ≤ j) : tb_Tf j = [] := by
  unfold tb_Tf tb_g
  have h1 : tb_T.length = 20 := rfl
  by_cases h : j / 20 < 20
  · have h2 : j / 20 = 19 := by omega
    rw [h2]
    have h3 : (tb_T.getD 19 []).length = 5 := rfl
    rw [List.getD_eq_getElem?_getD, List.getElem?_eq_none (by omega)]
    rfl
  · rw [List.getD_eq_getElem?_getD, List.getD_eq_getElem?_getD, List.getElem?_eq_none (l := tb_T) (by omega)]
    rfl
