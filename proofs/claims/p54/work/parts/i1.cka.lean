/-! ===== the checks, done, 1 (printed by wip/p54/gen/genend.py) ===== -/
def tb_me (w : Cond) : Bool := (decide (w ∈ tb_W) && goodWord w) || tb_ca.any (fun r => decide (w = am_cw r))
theorem tb_th_k : (tb_th.all fun r => Bundle.fit (am_xn r.2.2) && (vx_atS r.1 r.2.1 (am_xn r.2.2) tb_nm).all tb_me) = true := by decide +kernel
theorem tb_th_ok : ∀ r ∈ tb_th, (Bundle.fit (am_xn r.2.2) = true ∧ ∀ w ∈ vx_atS r.1 r.2.1 (am_xn r.2.2) tb_nm, w ∈ tb_Tg ∨ ∃ r ∈ tb_ca, w = am_cw r) := by
  intro r hr
  have h := List.all_eq_true.mp tb_th_k r hr
  simp only [Bool.and_eq_true] at h
  refine ⟨h.1, fun w hw => ?_⟩
  have h2 := List.all_eq_true.mp h.2 w hw
  simp only [tb_me, Bool.or_eq_true, Bool.and_eq_true, decide_eq_true_eq, List.any_eq_true] at h2
  rcases h2 with ⟨h2, h3⟩ | h2
  · exact Or.inl (List.mem_filter.mpr ⟨h2, h3⟩)
  · exact Or.inr h2
theorem tb_jk_0 : (tb_jk 0 && tb_ckj 0) = true := by decide +kernel
theorem tb_c_0_0 : (tb_m0_0.all (tb_ck 0)) = true := by decide +kernel
/-- the row that calls the longest method: its bytes are compared as a name -/
theorem tb_c_0_1w : tb_wa 10204 = some (.code (tb_J 412).1 (tb_J 412).2.1 (tb_J 412).2.2.1 (tb_J 412).2.2.2.1) := rfl
theorem tb_c_0_1g : goodWord (.code (tb_J 412).1 (tb_J 412).2.1 (tb_J 412).2.2.1 (tb_J 412).2.2.2.1) = true := by decide +kernel
theorem tb_c_0_1b : tb_ck 0 (160, (.invokestatic 333, 3, 412, 3, 1), [10202, 10203, 4000, 10204]) = true := by
  have h1 : tb_in 10204 (.code (tb_J 412).1 (tb_J 412).2.1 (tb_J 412).2.2.1 (tb_J 412).2.2.2.1) = true := by
    show (decide (tb_wa 10204 = some (.code (tb_J 412).1 (tb_J 412).2.1 (tb_J 412).2.2.1 (tb_J 412).2.2.2.1)) && goodWord (.code (tb_J 412).1 (tb_J 412).2.1 (tb_J 412).2.2.1 (tb_J 412).2.2.2.1)) = true
    rw [tb_c_0_1g, decide_eq_true tb_c_0_1w]
    rfl
  have a : (decide ((tb_J 412).2.2.2.2.1 < (tb_J 0).2.2.2.2.1) && decide (412 < 500) && decide (some (tb_naf 412) = some 3) && tb_in 4000 (.initialized (tb_J 412).1.cls)) = true := by decide +kernel
  have hd : (decide (decode (tb_J 0).2.1 160 = .ok (.invokestatic 333, 3)) && decide (am_ln (.invokestatic 333) = 0 ∨ 3 = am_ln (.invokestatic 333)) && am_tg 160 (.invokestatic 333) (412, 3, 1) && tb_lk 0 160 (.invokestatic 333) (412, 3, 1) [10202, 10203, 4000, 10204]) = true := by decide +kernel
  have hh : (tb_J 412).2.2.2.2.2 = [] := by decide +kernel
  have ht : tb_tk 0 (.invokestatic 333) (412, 3, 1) [10202, 10203, 4000, 10204] = true := by
    unfold tb_tk
    dsimp only
    rw [hh]
    dsimp only
    rw [Bool.and_eq_true]
    exact ⟨a, h1⟩
  unfold tb_ck
  dsimp only
  rw [Bool.and_eq_true]
  refine ⟨hd, ?_⟩
  rw [if_pos (by decide)]
  exact ht
theorem tb_c_0_1a : ((tb_m0_1.take 30).all (tb_ck 0)) = true := by decide +kernel
theorem tb_c_0_1c : ((tb_m0_1.drop 31).all (tb_ck 0)) = true := by decide +kernel
theorem tb_c_0_1 : (tb_m0_1.all (tb_ck 0)) = true := by
  have e : tb_m0_1 = tb_m0_1.take 30 ++ ((160, (.invokestatic 333, 3, 412, 3, 1), [10202, 10203, 4000, 10204]) :: tb_m0_1.drop 31) := rfl
  rw [e, List.all_append, tb_c_0_1a, List.all_cons, tb_c_0_1b, tb_c_0_1c]
  rfl
theorem tb_c_0_2 : (tb_m0_2.all (tb_ck 0)) = true := by decide +kernel
theorem tb_c_0_3 : (tb_m0_3.all (tb_ck 0)) = true := by decide +kernel
theorem tb_c_0 : ((tb_Tf 0).all (tb_ck 0)) = true := by
  show (tb_m0.all (tb_ck 0)) = true
  simp only [tb_m0, List.all_append, tb_c_0_0, tb_c_0_1, tb_c_0_2, tb_c_0_3, Bool.and_self]
theorem tb_jk_1 : (tb_jk 1 && tb_ckj 1) = true := by decide +kernel
theorem tb_c_1_0 : (tb_m1_0.all (tb_ck 1)) = true := by decide +kernel
theorem tb_c_1_1 : (tb_m1_1.all (tb_ck 1)) = true := by decide +kernel
theorem tb_c_1 : ((tb_Tf 1).all (tb_ck 1)) = true := by
  show (tb_m1.all (tb_ck 1)) = true
  simp only [tb_m1, List.all_append, tb_c_1_0, tb_c_1_1, Bool.and_self]
theorem tb_jk_2 : (tb_jk 2 && tb_ckj 2) = true := by decide +kernel
theorem tb_c_2 : ((tb_Tf 2).all (tb_ck 2)) = true := by decide +kernel
theorem tb_jk_3 : (tb_jk 3 && tb_ckj 3) = true := by decide +kernel
theorem tb_c_3 : ((tb_Tf 3).all (tb_ck 3)) = true := by decide +kernel
theorem tb_jk_4 : (tb_jk 4 && tb_ckj 4) = true := by decide +kernel
theorem tb_c_4 : ((tb_Tf 4).all (tb_ck 4)) = true := by decide +kernel
theorem tb_jk_5 : (tb_jk 5 && tb_ckj 5) = true := by decide +kernel
theorem tb_c_5 : ((tb_Tf 5).all (tb_ck 5)) = true := by decide +kernel
theorem tb_jk_6 : (tb_jk 6 && tb_ckj 6) = true := by decide +kernel
theorem tb_c_6 : ((tb_Tf 6).all (tb_ck 6)) = true := by decide +kernel
theorem tb_jk_7 : (tb_jk 7 && tb_ckj 7) = true := by decide +kernel
theorem tb_c_7 : ((tb_Tf 7).all (tb_ck 7)) = true := by decide +kernel
theorem tb_jk_8 : (tb_jk 8 && tb_ckj 8) = true := by decide +kernel
theorem tb_c_8 : ((tb_Tf 8).all (tb_ck 8)) = true := by decide +kernel
theorem tb_jk_9 : (tb_jk 9 && tb_ckj 9) = true := by decide +kernel
theorem tb_c_9 : ((tb_Tf 9).all (tb_ck 9)) = true := by decide +kernel
theorem tb_jk_10 : (tb_jk 10 && tb_ckj 10) = true := by decide +kernel
theorem tb_c_10 : ((tb_Tf 10).all (tb_ck 10)) = true := by decide +kernel
theorem tb_jk_11 : (tb_jk 11 && tb_ckj 11) = true := by decide +kernel
theorem tb_c_11 : ((tb_Tf 11).all (tb_ck 11)) = true := by decide +kernel
theorem tb_jk_13 : (tb_jk 13 && tb_ckj 13) = true := by decide +kernel
theorem tb_c_13 : ((tb_Tf 13).all (tb_ck 13)) = true := by decide +kernel
theorem tb_jk_14 : (tb_jk 14 && tb_ckj 14) = true := by decide +kernel
theorem tb_c_14 : ((tb_Tf 14).all (tb_ck 14)) = true := by decide +kernel
theorem tb_jk_17 : (tb_jk 17 && tb_ckj 17) = true := by decide +kernel
theorem tb_c_17 : ((tb_Tf 17).all (tb_ck 17)) = true := by decide +kernel
theorem tb_jk_18 : (tb_jk 18 && tb_ckj 18) = true := by decide +kernel
theorem tb_c_18 : ((tb_Tf 18).all (tb_ck 18)) = true := by decide +kernel
theorem tb_jk_19 : (tb_jk 19 && tb_ckj 19) = true := by decide +kernel
theorem tb_c_19 : ((tb_Tf 19).all (tb_ck 19)) = true := by decide +kernel
theorem tb_jk_20 : (tb_jk 20 && tb_ckj 20) = true := by decide +kernel
theorem tb_c_20_0 : (tb_m20_0.all (tb_ck 20)) = true := by decide +kernel
theorem tb_c_20_1 : (tb_m20_1.all (tb_ck 20)) = true := by decide +kernel
theorem tb_c_20 : ((tb_Tf 20).all (tb_ck 20)) = true := by
  show (tb_m20.all (tb_ck 20)) = true
  simp only [tb_m20, List.all_append, tb_c_20_0, tb_c_20_1, Bool.and_self]
theorem tb_jk_21 : (tb_jk 21 && tb_ckj 21) = true := by decide +kernel
theorem tb_c_21 : ((tb_Tf 21).all (tb_ck 21)) = true := by decide +kernel
theorem tb_jk_22 : (tb_jk 22 && tb_ckj 22) = true := by decide +kernel
theorem tb_c_22 : ((tb_Tf 22).all (tb_ck 22)) = true := by decide +kernel
theorem tb_jk_23 : (tb_jk 23 && tb_ckj 23) = true := by decide +kernel
theorem tb_c_23 : ((tb_Tf 23).all (tb_ck 23)) = true := by decide +kernel
theorem tb_jk_24 : (tb_jk 24 && tb_ckj 24) = true := by decide +kernel
theorem tb_c_24 : ((tb_Tf 24).all (tb_ck 24)) = true := by decide +kernel
theorem tb_jk_25 : (tb_jk 25 && tb_ckj 25) = true := by decide +kernel
theorem tb_c_25 : ((tb_Tf 25).all (tb_ck 25)) = true := by decide +kernel
theorem tb_jk_26 : (tb_jk 26 && tb_ckj 26) = true := by decide +kernel
theorem tb_c_26 : ((tb_Tf 26).all (tb_ck 26)) = true := by decide +kernel
theorem tb_jk_27 : (tb_jk 27 && tb_ckj 27) = true := by decide +kernel
theorem tb_c_27 : ((tb_Tf 27).all (tb_ck 27)) = true := by decide +kernel
theorem tb_jk_28 : (tb_jk 28 && tb_ckj 28) = true := by decide +kernel
theorem tb_c_28 : ((tb_Tf 28).all (tb_ck 28)) = true := by decide +kernel
theorem tb_jk_29 : (tb_jk 29 && tb_ckj 29) = true := by decide +kernel
theorem tb_c_29 : ((tb_Tf 29).all (tb_ck 29)) = true := by decide +kernel
theorem tb_jk_30 : (tb_jk 30 && tb_ckj 30) = true := by decide +kernel
theorem tb_c_30 : ((tb_Tf 30).all (tb_ck 30)) = true := by decide +kernel
theorem tb_jk_31 : (tb_jk 31 && tb_ckj 31) = true := by decide +kernel
theorem tb_c_31 : ((tb_Tf 31).all (tb_ck 31)) = true := by decide +kernel
theorem tb_jk_32 : (tb_jk 32 && tb_ckj 32) = true := by decide +kernel
theorem tb_c_32 : ((tb_Tf 32).all (tb_ck 32)) = true := by decide +kernel
theorem tb_jk_33 : (tb_jk 33 && tb_ckj 33) = true := by decide +kernel
theorem tb_c_33 : ((tb_Tf 33).all (tb_ck 33)) = true := by decide +kernel
theorem tb_jk_34 : (tb_jk 34 && tb_ckj 34) = true := by decide +kernel
theorem tb_c_34 : ((tb_Tf 34).all (tb_ck 34)) = true := by decide +kernel
theorem tb_jk_35 : (tb_jk 35 && tb_ckj 35) = true := by decide +kernel
theorem tb_c_35 : ((tb_Tf 35).all (tb_ck 35)) = true := by decide +kernel
theorem tb_jk_36 : (tb_jk 36 && tb_ckj 36) = true := by decide +kernel
theorem tb_c_36 : ((tb_Tf 36).all (tb_ck 36)) = true := by decide +kernel
theorem tb_jk_37 : (tb_jk 37 && tb_ckj 37) = true := by decide +kernel
theorem tb_c_37 : ((tb_Tf 37).all (tb_ck 37)) = true := by decide +kernel
theorem tb_jk_38 : (tb_jk 38 && tb_ckj 38) = true := by decide +kernel
theorem tb_c_38 : ((tb_Tf 38).all (tb_ck 38)) = true := by decide +kernel
theorem tb_jk_39 : (tb_jk 39 && tb_ckj 39) = true := by decide +kernel
theorem tb_c_39 : ((tb_Tf 39).all (tb_ck 39)) = true := by decide +kernel
theorem tb_jk_40 : (tb_jk 40 && tb_ckj 40) = true := by decide +kernel
theorem tb_c_40 : ((tb_Tf 40).all (tb_ck 40)) = true := by decide +kernel
theorem tb_jk_41 : (tb_jk 41 && tb_ckj 41) = true := by decide +kernel
theorem tb_c_41 : ((tb_Tf 41).all (tb_ck 41)) = true := by decide +kernel
theorem tb_jk_42 : (tb_jk 42 && tb_ckj 42) = true := by decide +kernel
theorem tb_c_42 : ((tb_Tf 42).all (tb_ck 42)) = true := by decide +kernel
theorem tb_jk_43 : (tb_jk 43 && tb_ckj 43) = true := by decide +kernel
theorem tb_c_43 : ((tb_Tf 43).all (tb_ck 43)) = true := by decide +kernel
theorem tb_jk_44 : (tb_jk 44 && tb_ckj 44) = true := by decide +kernel
theorem tb_c_44 : ((tb_Tf 44).all (tb_ck 44)) = true := by decide +kernel
theorem tb_jk_45 : (tb_jk 45 && tb_ckj 45) = true := by decide +kernel
theorem tb_c_45 : ((tb_Tf 45).all (tb_ck 45)) = true := by decide +kernel
theorem tb_jk_46 : (tb_jk 46 && tb_ckj 46) = true := by decide +kernel
theorem tb_c_46 : ((tb_Tf 46).all (tb_ck 46)) = true := by decide +kernel
theorem tb_jk_47 : (tb_jk 47 && tb_ckj 47) = true := by decide +kernel
theorem tb_c_47 : ((tb_Tf 47).all (tb_ck 47)) = true := by decide +kernel
theorem tb_jk_48 : (tb_jk 48 && tb_ckj 48) = true := by decide +kernel
theorem tb_c_48 : ((tb_Tf 48).all (tb_ck 48)) = true := by decide +kernel
theorem tb_jk_49 : (tb_jk 49 && tb_ckj 49) = true := by decide +kernel
theorem tb_c_49 : ((tb_Tf 49).all (tb_ck 49)) = true := by decide +kernel
theorem tb_jk_50 : (tb_jk 50 && tb_ckj 50) = true := by decide +kernel
theorem tb_c_50 : ((tb_Tf 50).all (tb_ck 50)) = true := by decide +kernel
theorem tb_jk_51 : (tb_jk 51 && tb_ckj 51) = true := by decide +kernel
theorem tb_c_51 : ((tb_Tf 51).all (tb_ck 51)) = true := by decide +kernel
theorem tb_jk_77 : (tb_jk 77 && tb_ckj 77) = true := by decide +kernel
theorem tb_c_77 : ((tb_Tf 77).all (tb_ck 77)) = true := by decide +kernel
theorem tb_jk_78 : (tb_jk 78 && tb_ckj 78) = true := by decide +kernel
theorem tb_c_78 : ((tb_Tf 78).all (tb_ck 78)) = true := by decide +kernel
theorem tb_jk_79 : (tb_jk 79 && tb_ckj 79) = true := by decide +kernel
theorem tb_c_79 : ((tb_Tf 79).all (tb_ck 79)) = true := by decide +kernel
theorem tb_jk_80 : (tb_jk 80 && tb_ckj 80) = true := by decide +kernel
theorem tb_c_80_0 : (tb_m80_0.all (tb_ck 80)) = true := by decide +kernel
theorem tb_c_80_1 : (tb_m80_1.all (tb_ck 80)) = true := by decide +kernel
theorem tb_c_80 : ((tb_Tf 80).all (tb_ck 80)) = true := by
  show (tb_m80.all (tb_ck 80)) = true
  simp only [tb_m80, List.all_append, tb_c_80_0, tb_c_80_1, Bool.and_self]
theorem tb_jk_81 : (tb_jk 81 && tb_ckj 81) = true := by decide +kernel
theorem tb_c_81_0 : (tb_m81_0.all (tb_ck 81)) = true := by decide +kernel
theorem tb_c_81_1 : (tb_m81_1.all (tb_ck 81)) = true := by decide +kernel
theorem tb_c_81 : ((tb_Tf 81).all (tb_ck 81)) = true := by
  show (tb_m81.all (tb_ck 81)) = true
  simp only [tb_m81, List.all_append, tb_c_81_0, tb_c_81_1, Bool.and_self]
theorem tb_jk_82 : (tb_jk 82 && tb_ckj 82) = true := by decide +kernel
theorem tb_c_82 : ((tb_Tf 82).all (tb_ck 82)) = true := by decide +kernel
theorem tb_jk_83 : (tb_jk 83 && tb_ckj 83) = true := by decide +kernel
theorem tb_c_83 : ((tb_Tf 83).all (tb_ck 83)) = true := by decide +kernel
theorem tb_jk_84 : (tb_jk 84 && tb_ckj 84) = true := by decide +kernel
theorem tb_c_84 : ((tb_Tf 84).all (tb_ck 84)) = true := by decide +kernel
theorem tb_jk_85 : (tb_jk 85 && tb_ckj 85) = true := by decide +kernel
theorem tb_c_85_0 : (tb_m85_0.all (tb_ck 85)) = true := by decide +kernel
theorem tb_c_85_1 : (tb_m85_1.all (tb_ck 85)) = true := by decide +kernel
theorem tb_c_85 : ((tb_Tf 85).all (tb_ck 85)) = true := by
  show (tb_m85.all (tb_ck 85)) = true
  simp only [tb_m85, List.all_append, tb_c_85_0, tb_c_85_1, Bool.and_self]
theorem tb_jk_86 : (tb_jk 86 && tb_ckj 86) = true := by decide +kernel
theorem tb_c_86 : ((tb_Tf 86).all (tb_ck 86)) = true := by decide +kernel
theorem tb_jk_87 : (tb_jk 87 && tb_ckj 87) = true := by decide +kernel
theorem tb_c_87_0 : (tb_m87_0.all (tb_ck 87)) = true := by decide +kernel
theorem tb_c_87_1 : (tb_m87_1.all (tb_ck 87)) = true := by decide +kernel
theorem tb_c_87 : ((tb_Tf 87).all (tb_ck 87)) = true := by
  show (tb_m87.all (tb_ck 87)) = true
  simp only [tb_m87, List.all_append, tb_c_87_0, tb_c_87_1, Bool.and_self]
theorem tb_jk_88 : (tb_jk 88 && tb_ckj 88) = true := by decide +kernel
theorem tb_c_88 : ((tb_Tf 88).all (tb_ck 88)) = true := by decide +kernel
theorem tb_jk_89 : (tb_jk 89 && tb_ckj 89) = true := by decide +kernel
theorem tb_c_89 : ((tb_Tf 89).all (tb_ck 89)) = true := by decide +kernel
theorem tb_jk_90 : (tb_jk 90 && tb_ckj 90) = true := by decide +kernel
theorem tb_c_90 : ((tb_Tf 90).all (tb_ck 90)) = true := by decide +kernel
theorem tb_jk_91 : (tb_jk 91 && tb_ckj 91) = true := by decide +kernel
theorem tb_c_91 : ((tb_Tf 91).all (tb_ck 91)) = true := by decide +kernel
theorem tb_jk_92 : (tb_jk 92 && tb_ckj 92) = true := by decide +kernel
theorem tb_c_92 : ((tb_Tf 92).all (tb_ck 92)) = true := by decide +kernel
theorem tb_jk_93 : (tb_jk 93 && tb_ckj 93) = true := by decide +kernel
theorem tb_c_93 : ((tb_Tf 93).all (tb_ck 93)) = true := by decide +kernel
theorem tb_jk_94 : (tb_jk 94 && tb_ckj 94) = true := by decide +kernel
theorem tb_c_94 : ((tb_Tf 94).all (tb_ck 94)) = true := by decide +kernel
theorem tb_jk_95 : (tb_jk 95 && tb_ckj 95) = true := by decide +kernel
theorem tb_c_95 : ((tb_Tf 95).all (tb_ck 95)) = true := by decide +kernel
theorem tb_jk_96 : (tb_jk 96 && tb_ckj 96) = true := by decide +kernel
theorem tb_c_96 : ((tb_Tf 96).all (tb_ck 96)) = true := by decide +kernel
theorem tb_jk_97 : (tb_jk 97 && tb_ckj 97) = true := by decide +kernel
theorem tb_c_97 : ((tb_Tf 97).all (tb_ck 97)) = true := by decide +kernel
theorem tb_jk_98 : (tb_jk 98 && tb_ckj 98) = true := by decide +kernel
theorem tb_c_98_0 : (tb_m98_0.all (tb_ck 98)) = true := by decide +kernel
theorem tb_c_98_1 : (tb_m98_1.all (tb_ck 98)) = true := by decide +kernel
theorem tb_c_98 : ((tb_Tf 98).all (tb_ck 98)) = true := by
  show (tb_m98.all (tb_ck 98)) = true
  simp only [tb_m98, List.all_append, tb_c_98_0, tb_c_98_1, Bool.and_self]
theorem tb_jk_99 : (tb_jk 99 && tb_ckj 99) = true := by decide +kernel
theorem tb_c_99 : ((tb_Tf 99).all (tb_ck 99)) = true := by decide +kernel
theorem tb_ok_r0 {j : Nat} (hg : tb_gh j = false) (h1 : 0 ≤ j) (h2 : j < 20) : (tb_jk j && tb_ckj j) = true ∧ ((tb_Tf j).all (tb_ck j)) = true := by
  have h : j = 0 ∨ j = 1 ∨ j = 2 ∨ j = 3 ∨ j = 4 ∨ j = 5 ∨ j = 6 ∨ j = 7 ∨ j = 8 ∨ j = 9 ∨ j = 10 ∨ j = 11 ∨ j = 12 ∨ j = 13 ∨ j = 14 ∨ j = 15 ∨ j = 16 ∨ j = 17 ∨ j = 18 ∨ j = 19 := by omega
  rcases h with rfl | rfl | rfl | rfl | rfl | rfl | rfl | rfl | rfl | rfl | rfl | rfl | rfl | rfl | rfl | rfl | rfl | rfl | rfl | rfl
  · exact ⟨tb_jk_0, tb_c_0⟩
  · exact ⟨tb_jk_1, tb_c_1⟩
  · exact ⟨tb_jk_2, tb_c_2⟩
  · exact ⟨tb_jk_3, tb_c_3⟩
  · exact ⟨tb_jk_4, tb_c_4⟩
  · exact ⟨tb_jk_5, tb_c_5⟩
  · exact ⟨tb_jk_6, tb_c_6⟩
  · exact ⟨tb_jk_7, tb_c_7⟩
  · exact ⟨tb_jk_8, tb_c_8⟩
  · exact ⟨tb_jk_9, tb_c_9⟩
  · exact ⟨tb_jk_10, tb_c_10⟩
  · exact ⟨tb_jk_11, tb_c_11⟩
  · exact absurd hg (by decide)
  · exact ⟨tb_jk_13, tb_c_13⟩
  · exact ⟨tb_jk_14, tb_c_14⟩
  · exact absurd hg (by decide)
  · exact absurd hg (by decide)
  · exact ⟨tb_jk_17, tb_c_17⟩
  · exact ⟨tb_jk_18, tb_c_18⟩
  · exact ⟨tb_jk_19, tb_c_19⟩
theorem tb_ok_r20 {j : Nat} (hg : tb_gh j = false) (h1 : 20 ≤ j) (h2 : j < 40) : (tb_jk j && tb_ckj j) = true ∧ ((tb_Tf j).all (tb_ck j)) = true := by
  have h : j = 20 ∨ j = 21 ∨ j = 22 ∨ j = 23 ∨ j = 24 ∨ j = 25 ∨ j = 26 ∨ j = 27 ∨ j = 28 ∨ j = 29 ∨ j = 30 ∨ j = 31 ∨ j = 32 ∨ j = 33 ∨ j = 34 ∨ j = 35 ∨ j = 36 ∨ j = 37 ∨ j = 38 ∨ j = 39 := by omega
  rcases h with rfl | rfl | rfl | rfl | rfl | rfl | rfl | rfl | rfl | rfl | rfl | rfl | rfl | rfl | rfl | rfl | rfl | rfl | rfl | rfl
  · exact ⟨tb_jk_20, tb_c_20⟩
  · exact ⟨tb_jk_21, tb_c_21⟩
  · exact ⟨tb_jk_22, tb_c_22⟩
  · exact ⟨tb_jk_23, tb_c_23⟩
  · exact ⟨tb_jk_24, tb_c_24⟩
  · exact ⟨tb_jk_25, tb_c_25⟩
  · exact ⟨tb_jk_26, tb_c_26⟩
  · exact ⟨tb_jk_27, tb_c_27⟩
  · exact ⟨tb_jk_28, tb_c_28⟩
  · exact ⟨tb_jk_29, tb_c_29⟩
  · exact ⟨tb_jk_30, tb_c_30⟩
  · exact ⟨tb_jk_31, tb_c_31⟩
  · exact ⟨tb_jk_32, tb_c_32⟩
  · exact ⟨tb_jk_33, tb_c_33⟩
  · exact ⟨tb_jk_34, tb_c_34⟩
  · exact ⟨tb_jk_35, tb_c_35⟩
  · exact ⟨tb_jk_36, tb_c_36⟩
  · exact ⟨tb_jk_37, tb_c_37⟩
  · exact ⟨tb_jk_38, tb_c_38⟩
  · exact ⟨tb_jk_39, tb_c_39⟩
theorem tb_ok_r40 {j : Nat} (hg : tb_gh j = false) (h1 : 40 ≤ j) (h2 : j < 60) : (tb_jk j && tb_ckj j) = true ∧ ((tb_Tf j).all (tb_ck j)) = true := by
  have h : j = 40 ∨ j = 41 ∨ j = 42 ∨ j = 43 ∨ j = 44 ∨ j = 45 ∨ j = 46 ∨ j = 47 ∨ j = 48 ∨ j = 49 ∨ j = 50 ∨ j = 51 ∨ j = 52 ∨ j = 53 ∨ j = 54 ∨ j = 55 ∨ j = 56 ∨ j = 57 ∨ j = 58 ∨ j = 59 := by omega
  rcases h with rfl | rfl | rfl | rfl | rfl | rfl | rfl | rfl | rfl | rfl | rfl | rfl | rfl | rfl | rfl | rfl | rfl | rfl | rfl | rfl
  · exact ⟨tb_jk_40, tb_c_40⟩
  · exact ⟨tb_jk_41, tb_c_41⟩
  · exact ⟨tb_jk_42, tb_c_42⟩
  · exact ⟨tb_jk_43, tb_c_43⟩
  · exact ⟨tb_jk_44, tb_c_44⟩
  · exact ⟨tb_jk_45, tb_c_45⟩
  · exact ⟨tb_jk_46, tb_c_46⟩
  · exact ⟨tb_jk_47, tb_c_47⟩
  · exact ⟨tb_jk_48, tb_c_48⟩
  · exact ⟨tb_jk_49, tb_c_49⟩
  · exact ⟨tb_jk_50, tb_c_50⟩
  · exact ⟨tb_jk_51, tb_c_51⟩
  · exact absurd hg (by decide)
  · exact absurd hg (by decide)
  · exact absurd hg (by decide)
  · exact absurd hg (by decide)
  · exact absurd hg (by decide)
  · exact absurd hg (by decide)
  · exact absurd hg (by decide)
  · exact absurd hg (by decide)
theorem tb_ok_r60 {j : Nat} (hg : tb_gh j = false) (h1 : 60 ≤ j) (h2 : j < 80) : (tb_jk j && tb_ckj j) = true ∧ ((tb_Tf j).all (tb_ck j)) = true := by
  have h : j = 60 ∨ j = 61 ∨ j = 62 ∨ j = 63 ∨ j = 64 ∨ j = 65 ∨ j = 66 ∨ j = 67 ∨ j = 68 ∨ j = 69 ∨ j = 70 ∨ j = 71 ∨ j = 72 ∨ j = 73 ∨ j = 74 ∨ j = 75 ∨ j = 76 ∨ j = 77 ∨ j = 78 ∨ j = 79 := by omega
  rcases h with rfl | rfl | rfl | rfl | rfl | rfl | rfl | rfl | rfl | rfl | rfl | rfl | rfl | rfl | rfl | rfl | rfl | rfl | rfl | rfl
  · exact absurd hg (by decide)
  · exact absurd hg (by decide)
  · exact absurd hg (by decide)
  · exact absurd hg (by decide)
  · exact absurd hg (by decide)
  · exact absurd hg (by decide)
  · exact absurd hg (by decide)
  · exact absurd hg (by decide)
  · exact absurd hg (by decide)
  · exact absurd hg (by decide)
  · exact absurd hg (by decide)
  · exact absurd hg (by decide)
  · exact absurd hg (by decide)
  · exact absurd hg (by decide)
  · exact absurd hg (by decide)
  · exact absurd hg (by decide)
  · exact absurd hg (by decide)
  · exact ⟨tb_jk_77, tb_c_77⟩
  · exact ⟨tb_jk_78, tb_c_78⟩
  · exact ⟨tb_jk_79, tb_c_79⟩
theorem tb_ok_r80 {j : Nat} (hg : tb_gh j = false) (h1 : 80 ≤ j) (h2 : j < 100) : (tb_jk j && tb_ckj j) = true ∧ ((tb_Tf j).all (tb_ck j)) = true := by
  have h : j = 80 ∨ j = 81 ∨ j = 82 ∨ j = 83 ∨ j = 84 ∨ j = 85 ∨ j = 86 ∨ j = 87 ∨ j = 88 ∨ j = 89 ∨ j = 90 ∨ j = 91 ∨ j = 92 ∨ j = 93 ∨ j = 94 ∨ j = 95 ∨ j = 96 ∨ j = 97 ∨ j = 98 ∨ j = 99 := by omega
  rcases h with rfl | rfl | rfl | rfl | rfl | rfl | rfl | rfl | rfl | rfl | rfl | rfl | rfl | rfl | rfl | rfl | rfl | rfl | rfl | rfl
  · exact ⟨tb_jk_80, tb_c_80⟩
  · exact ⟨tb_jk_81, tb_c_81⟩
  · exact ⟨tb_jk_82, tb_c_82⟩
  · exact ⟨tb_jk_83, tb_c_83⟩
  · exact ⟨tb_jk_84, tb_c_84⟩
  · exact ⟨tb_jk_85, tb_c_85⟩
  · exact ⟨tb_jk_86, tb_c_86⟩
  · exact ⟨tb_jk_87, tb_c_87⟩
  · exact ⟨tb_jk_88, tb_c_88⟩
  · exact ⟨tb_jk_89, tb_c_89⟩
  · exact ⟨tb_jk_90, tb_c_90⟩
  · exact ⟨tb_jk_91, tb_c_91⟩
  · exact ⟨tb_jk_92, tb_c_92⟩
  · exact ⟨tb_jk_93, tb_c_93⟩
  · exact ⟨tb_jk_94, tb_c_94⟩
  · exact ⟨tb_jk_95, tb_c_95⟩
  · exact ⟨tb_jk_96, tb_c_96⟩
  · exact ⟨tb_jk_97, tb_c_97⟩
  · exact ⟨tb_jk_98, tb_c_98⟩
  · exact ⟨tb_jk_99, tb_c_99⟩
theorem tb_okA {j : Nat} (hg : tb_gh j = false) (h1 : 0 ≤ j) (h2 : j < 100) : (tb_jk j && tb_ckj j) = true ∧ ((tb_Tf j).all (tb_ck j)) = true := by
  rcases Nat.lt_or_ge j 20 with h | h
  · exact tb_ok_r0 hg (by omega) h
  rcases Nat.lt_or_ge j 40 with h | h
  · exact tb_ok_r20 hg (by omega) h
  rcases Nat.lt_or_ge j 60 with h | h
  · exact tb_ok_r40 hg (by omega) h
  rcases Nat.lt_or_ge j 80 with h | h
  · exact tb_ok_r60 hg (by omega) h
  rcases Nat.lt_or_ge j 100 with h | h
  · exact tb_ok_r80 hg (by omega) h
  exact absurd h2 (by omega)
