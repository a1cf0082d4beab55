/-! ===== the checks, done, 3: the law ===== -/
theorem tb_c0_0 : (tb_m0_0.all (tb_ck 0)) = true := by decide +kernel
theorem tb_c0_1 : (tb_m0_1.all (tb_ck 0)) = true := by decide +kernel
theorem tb_c0_2 : (tb_m0_2.all (tb_ck 0)) = true := by decide +kernel
theorem tb_c0_3 : (tb_m0_3.all (tb_ck 0)) = true := by decide +kernel
theorem tb_c0_4 : (tb_m0_4.all (tb_ck 0)) = true := by decide +kernel
theorem tb_c0_5 : (tb_m0_5.all (tb_ck 0)) = true := by decide +kernel
theorem tb_c0_6 : (tb_m0_6.all (tb_ck 0)) = true := by decide +kernel
theorem tb_c0_7 : (tb_m0_7.all (tb_ck 0)) = true := by decide +kernel
theorem tb_c0_8 : (tb_m0_8.all (tb_ck 0)) = true := by decide +kernel
theorem tb_c0_9 : (tb_m0_9.all (tb_ck 0)) = true := by decide +kernel
theorem tb_c0_10 : (tb_m0_10.all (tb_ck 0)) = true := by decide +kernel
theorem tb_c0_11 : (tb_m0_11.all (tb_ck 0)) = true := by decide +kernel
theorem tb_c0_12 : (tb_m0_12.all (tb_ck 0)) = true := by decide +kernel
theorem tb_c0_13 : (tb_m0_13.all (tb_ck 0)) = true := by decide +kernel
theorem tb_c0_14 : (tb_m0_14.all (tb_ck 0)) = true := by decide +kernel
theorem tb_c0_15 : (tb_m0_15.all (tb_ck 0)) = true := by decide +kernel
theorem tb_c0_16 : (tb_m0_16.all (tb_ck 0)) = true := by decide +kernel
theorem tb_c0_17 : (tb_m0_17.all (tb_ck 0)) = true := by decide +kernel
theorem tb_c0_18 : (tb_m0_18.all (tb_ck 0)) = true := by decide +kernel
theorem tb_c0_19 : (tb_m0_19.all (tb_ck 0)) = true := by decide +kernel
theorem tb_c0_20 : (tb_m0_20.all (tb_ck 0)) = true := by decide +kernel
theorem tb_c0_21 : (tb_m0_21.all (tb_ck 0)) = true := by decide +kernel
theorem tb_c0_22 : (tb_m0_22.all (tb_ck 0)) = true := by decide +kernel
theorem tb_c0_23 : (tb_m0_23.all (tb_ck 0)) = true := by decide +kernel
theorem tb_c0_24 : (tb_m0_24.all (tb_ck 0)) = true := by decide +kernel
theorem tb_c0_25 : (tb_m0_25.all (tb_ck 0)) = true := by decide +kernel
theorem tb_c0_26 : (tb_m0_26.all (tb_ck 0)) = true := by decide +kernel
theorem tb_c0_27 : (tb_m0_27.all (tb_ck 0)) = true := by decide +kernel
theorem tb_c0_28 : (tb_m0_28.all (tb_ck 0)) = true := by decide +kernel
theorem tb_c0_29 : (tb_m0_29.all (tb_ck 0)) = true := by decide +kernel
theorem tb_c0_30 : (tb_m0_30.all (tb_ck 0)) = true := by decide +kernel
theorem tb_c0_31 : (tb_m0_31.all (tb_ck 0)) = true := by decide +kernel
theorem tb_c0_32 : (tb_m0_32.all (tb_ck 0)) = true := by decide +kernel
theorem tb_c0_33 : (tb_m0_33.all (tb_ck 0)) = true := by decide +kernel
theorem tb_c0_34 : (tb_m0_34.all (tb_ck 0)) = true := by decide +kernel
theorem tb_c0 : ((tb_Tf 0).all (tb_ck 0)) = true := by
  show (tb_m0.all (tb_ck 0)) = true
  simp only [tb_m0, List.all_append, tb_c0_0, tb_c0_1, tb_c0_2, tb_c0_3, tb_c0_4, tb_c0_5, tb_c0_6, tb_c0_7, tb_c0_8, tb_c0_9, tb_c0_10, tb_c0_11, tb_c0_12, tb_c0_13, tb_c0_14, tb_c0_15, tb_c0_16, tb_c0_17, tb_c0_18, tb_c0_19, tb_c0_20, tb_c0_21, tb_c0_22, tb_c0_23, tb_c0_24, tb_c0_25, tb_c0_26, tb_c0_27, tb_c0_28, tb_c0_29, tb_c0_30, tb_c0_31, tb_c0_32, tb_c0_33, tb_c0_34, Bool.and_self]
theorem tb_c_ok : ∀ j, j < 385 → ((tb_Tf j).all (tb_ck j)) = true := by
  intro j hj
  rcases Nat.lt_or_ge j 1 with h | h
  · obtain rfl : j = 0 := by omega
    exact tb_c0
  rcases Nat.lt_or_ge j 200 with h2 | h2
  · exact tb_cA j h h2
  · exact tb_cB j h2 hj
