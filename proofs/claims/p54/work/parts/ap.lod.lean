/-! ===== load: begin, refuse, tell, take ===== -/
def bgC (C : tCl) (n : Nat) : tCl := upI (upI (upI (upI (upI C 1001 4 (n : Int)) 1001 1 0) 1001 2 0) 1001 3 (-1)) 1001 6 0
def bgM (M : tMd) (n : Nat) : tMd := (up1 (up1 (up1 (up1 (up1 M.1 10 (n : Int)) 11 0) 17 0) 18 (-1)) 7 0, M.2)
def teM (M : tMd) : tMd := (up1 (up1 M.1 8 (M.1 17)) 9 (if M.1 17 = 0 then -1 else M.1 18), M.2)
section LOD
variable {z : Bool} {C : tCl} {M : tMd} {n : Nat}
theorem bgC_o {q : Nat} (h : q ≠ 1001) : (bgC C n).1 q = C.1 q := by
  unfold bgC
  rw [upI_n h, upI_n h, upI_n h, upI_n h, upI_n h]
theorem bgM_o {k : Nat} (h : k ≠ 7) (h1 : k < 10 ∨ 18 < k) : (bgM M n).1 k = M.1 k := by
  show up1 (up1 (up1 (up1 (up1 M.1 10 (n : Int)) 11 0) 17 0) 18 (-1)) 7 0 k = _
  rw [up1_n h, up1_n (by omega), up1_n (by omega), up1_n (by omega), up1_n (by omega)]
theorem begin_j (hb : byI C M n) : ∃ C' M' s, (∀ h, ru_ev z 19 [.ref 1001, .int (wI n)] (clPut h C) = some (.inl none, clPut h C')) ∧ (∀ h, ru_ev z 56 [.ref 1315, .int (wI n)] (mdPut h M) = some (.inl none, mdPut h M')) ∧ tkR C' M' n s ∧ inS (bgC C n) C' ∧ scS (bgM M n) M' := by
  obtain ⟨C', M', s, k1, k2, k3, k4, k5, -⟩ := adv_j (z := z) (C := bgC C n) (M := bgM M n) (n := n) (e := 0) rfl rfl rfl rfl (Nat.zero_le _) hb
  have k1' : ∀ h, ru_ev z 20 [.ref 1001] (clPut h (upI (upI (upI (upI (upI C 1001 4 (n : Int)) 1001 1 0) 1001 2 0) 1001 3 (-1)) 1001 6 0)) = some (.inl none, clPut h C') := k1
  have x1 : ∀ h, am_pf (mdPut h M) 1315 10 10 0 (.int (wI n)) = some (mdPut h (up1 M.1 10 (n : Int), M.2)) := fun h => md_s10
  have x2 : ∀ h, am_pf (mdPut h (up1 M.1 10 (n : Int), M.2)) 1315 10 11 0 (.int (wI 0)) = some (mdPut h (up1 (up1 M.1 10 (n : Int)) 11 0, M.2)) := fun h => md_s11
  have x3 : ∀ h, am_pf (mdPut h (up1 (up1 M.1 10 (n : Int)) 11 0, M.2)) 1315 10 17 0 (.int (wI 0)) = some (mdPut h (up1 (up1 (up1 M.1 10 (n : Int)) 11 0) 17 0, M.2)) := fun h => md_s17
  have x4 : ∀ h, am_pf (mdPut h (up1 (up1 (up1 M.1 10 (n : Int)) 11 0) 17 0, M.2)) 1315 10 18 0 (.int (wI (-1))) = some (mdPut h (up1 (up1 (up1 (up1 M.1 10 (n : Int)) 11 0) 17 0) 18 (-1), M.2)) := fun h => md_s18
  have x5 : ∀ h, am_pf (mdPut h (up1 (up1 (up1 (up1 M.1 10 (n : Int)) 11 0) 17 0) 18 (-1), M.2)) 1315 10 7 0 (.int (wI 0)) = some (mdPut h (bgM M n)) := fun h => md_s7
  refine ⟨C', M', s, fun h => ?_, fun h => ?_, k3, k4, k5⟩
  · simp (disch := omega) only [en19, e19_0, e19_1, e19_2, e19_5, e19_6, e19_7, e19_10, e19_11, e19_12, e19_15, e19_16, e19_17, e19_20, e19_21, e19_22, e19_25, e19_26, e19_29, ↓reduceIte, Bool.false_eq_true, not_false_eq_true, not_true_eq_false, Nat.reduceLeDiff, Nat.reduceAdd, Nat.reduceEqDiff, Int.reduceToNat, Int.toNat_natCast, iB0, iB1, ru_klI, ru_klR, ru_klF, ru_klJ, ru_kl0, ru_cs0, ru_csI, ru_csR, ru_csF, ru_csJ, wI_add, wI_sub, wI_mul, wI_lt, wI_le, wI_inj, ru_fdE, ru_fdN, ru_iaN, ru_baN, ru_laN, ru_qaN, ru_pfN, ru_isN, ru_bsN, ru_jsN, ru_qsN, ru_set2, Nat.add_right_cancel_iff, if_true, if_false, ite_self, Int.reduceEq, and_self, Int.add_neg_cancel_right, Int.add_zero, Int.zero_add, cl_e1, cl_q1_4, cl_q1_1, cl_q1_2, cl_q1_3, cl_q1_6, k1']
  · simp (disch := omega) only [en56, e56_0, e56_1, e56_2, e56_5, e56_6, e56_7, e56_10, e56_11, e56_12, e56_15, e56_16, e56_17, e56_20, e56_21, e56_22, e56_25, e56_26, e56_29, ↓reduceIte, Bool.false_eq_true, not_false_eq_true, not_true_eq_false, Nat.reduceLeDiff, Nat.reduceAdd, Nat.reduceEqDiff, Int.reduceToNat, Int.toNat_natCast, iB0, iB1, ru_klI, ru_klR, ru_klF, ru_klJ, ru_kl0, ru_cs0, ru_csI, ru_csR, ru_csF, ru_csJ, wI_add, wI_sub, wI_mul, wI_lt, wI_le, wI_inj, ru_fdE, ru_fdN, ru_iaN, ru_baN, ru_laN, ru_qaN, ru_pfN, ru_isN, ru_bsN, ru_jsN, ru_qsN, ru_set2, Nat.add_right_cancel_iff, if_true, if_false, ite_self, Int.reduceEq, and_self, Int.add_neg_cancel_right, Int.add_zero, Int.zero_add, md_e, x1, x2, x3, x4, x5, k2]
theorem c18 {h : am_H} (hr : 0 ≤ C.1 1001 1 ∧ C.1 1001 1 ≤ 1200) {v : Int} (g : -2147483648 ≤ v ∧ v < 2147483648) : ru_ev z 18 [.ref 1000, .int (wI v)] (clPut h C) = if 0 ≤ v ∧ v ≤ C.1 1001 1 then some (.inl none, clPut h C) else some (.inr 1, clPut (thr h) C) := by
  by_cases c : 0 ≤ v ∧ v ≤ C.1 1001 1
  · rw [if_pos c]
    have d1 : (v < 0) = False := eq_false (by omega)
    have d2 : (v ≤ C.1 1001 1) = True := eq_true (by omega)
    simp (disch := omega) only [en18, e18_0, e18_1, e18_4, e18_5, e18_6, e18_9, e18_12, e18_15, e18_18, e18_19, e18_26, ↓reduceIte, Bool.false_eq_true, not_false_eq_true, not_true_eq_false, Nat.reduceLeDiff, Nat.reduceAdd, Nat.reduceEqDiff, Int.reduceToNat, Int.toNat_natCast, iB0, iB1, ru_klI, ru_klR, ru_klF, ru_klJ, ru_kl0, ru_cs0, ru_csI, ru_csR, ru_csF, ru_csJ, wI_add, wI_sub, wI_mul, wI_lt, wI_le, wI_inj, ru_fdE, ru_fdN, ru_iaN, ru_baN, ru_laN, ru_qaN, ru_pfN, ru_isN, ru_bsN, ru_jsN, ru_qsN, ru_set2, Nat.add_right_cancel_iff, if_true, if_false, ite_self, Int.reduceEq, and_self, Int.add_neg_cancel_right, Int.add_zero, Int.zero_add, cl_e0, cl_g0_0, cl_g1_1, d1, d2]
  · rw [if_neg c]
    by_cases c1 : v < 0
    · have d1 : (v < 0) = True := eq_true c1
      simp (disch := omega) only [en18, e18_0, e18_1, e18_4, e18_5, e18_6, e18_9, e18_12, e18_15, e18_18, e18_19, e18_26, ↓reduceIte, Bool.false_eq_true, not_false_eq_true, not_true_eq_false, Nat.reduceLeDiff, Nat.reduceAdd, Nat.reduceEqDiff, Int.reduceToNat, Int.toNat_natCast, iB0, iB1, ru_klI, ru_klR, ru_klF, ru_klJ, ru_kl0, ru_cs0, ru_csI, ru_csR, ru_csF, ru_csJ, wI_add, wI_sub, wI_mul, wI_lt, wI_le, wI_inj, ru_fdE, ru_fdN, ru_iaN, ru_baN, ru_laN, ru_qaN, ru_pfN, ru_isN, ru_bsN, ru_jsN, ru_qsN, ru_set2, Nat.add_right_cancel_iff, if_true, if_false, ite_self, Int.reduceEq, and_self, Int.add_neg_cancel_right, Int.add_zero, Int.zero_add, cl_e0, cl_g0_0, cl_g1_1, d1, cl_thr]
    · have d1 : (v < 0) = False := eq_false c1
      have d2 : (v ≤ C.1 1001 1) = False := eq_false (by omega)
      simp (disch := omega) only [en18, e18_0, e18_1, e18_4, e18_5, e18_6, e18_9, e18_12, e18_15, e18_18, e18_19, e18_26, ↓reduceIte, Bool.false_eq_true, not_false_eq_true, not_true_eq_false, Nat.reduceLeDiff, Nat.reduceAdd, Nat.reduceEqDiff, Int.reduceToNat, Int.toNat_natCast, iB0, iB1, ru_klI, ru_klR, ru_klF, ru_klJ, ru_kl0, ru_cs0, ru_csI, ru_csR, ru_csF, ru_csJ, wI_add, wI_sub, wI_mul, wI_lt, wI_le, wI_inj, ru_fdE, ru_fdN, ru_iaN, ru_baN, ru_laN, ru_qaN, ru_pfN, ru_isN, ru_bsN, ru_jsN, ru_qsN, ru_set2, Nat.add_right_cancel_iff, if_true, if_false, ite_self, Int.reduceEq, and_self, Int.add_neg_cancel_right, Int.add_zero, Int.zero_add, cl_e0, cl_g0_0, cl_g1_1, d1, d2, cl_thr]
theorem p74 {h : am_H} (h17 : 0 ≤ M.1 17 ∧ M.1 17 ≤ 9) : ru_ev z 74 [.ref 1315] (mdPut h M) = some (.inl none, mdPut h (teM M)) := by
  have x1 : am_pf (mdPut h M) 1315 10 8 0 (.int (wI (M.1 17))) = some (mdPut h (up1 M.1 8 (M.1 17), M.2)) := md_s8
  have g17 : am_fd (mdPut h (up1 M.1 8 (M.1 17), M.2)) 1315 10 17 = some (.int (wI (M.1 17))) := md_f17
  have g18 : am_fd (mdPut h (up1 M.1 8 (M.1 17), M.2)) 1315 10 18 = some (.int (wI (M.1 18))) := md_f18
  have x2 : ∀ v, am_pf (mdPut h (up1 M.1 8 (M.1 17), M.2)) 1315 10 9 0 (.int (wI v)) = some (mdPut h (up1 (up1 M.1 8 (M.1 17)) 9 v, M.2)) := fun v => md_s9
  unfold teM
  by_cases c : M.1 17 = 0
  · have d1 : (M.1 17 = 0) = True := eq_true c
    rw [if_pos c]
    simp (disch := omega) only [en74, e74_0, e74_1, e74_2, e74_5, e74_8, e74_9, e74_10, e74_13, e74_16, e74_17, e74_20, e74_21, e74_24, e74_27, ↓reduceIte, Bool.false_eq_true, not_false_eq_true, not_true_eq_false, Nat.reduceLeDiff, Nat.reduceAdd, Nat.reduceEqDiff, Int.reduceToNat, Int.toNat_natCast, iB0, iB1, ru_klI, ru_klR, ru_klF, ru_klJ, ru_kl0, ru_cs0, ru_csI, ru_csR, ru_csF, ru_csJ, wI_add, wI_sub, wI_mul, wI_lt, wI_le, wI_inj, ru_fdE, ru_fdN, ru_iaN, ru_baN, ru_laN, ru_qaN, ru_pfN, ru_isN, ru_bsN, ru_jsN, ru_qsN, ru_set2, Nat.add_right_cancel_iff, if_true, if_false, ite_self, Int.reduceEq, and_self, Int.add_neg_cancel_right, Int.add_zero, Int.zero_add, md_e, md_f17, x1, g17, x2, d1, not_true]
  · have d1 : (M.1 17 = 0) = False := eq_false c
    rw [if_neg c]
    simp (disch := omega) only [en74, e74_0, e74_1, e74_2, e74_5, e74_8, e74_9, e74_10, e74_13, e74_16, e74_17, e74_20, e74_21, e74_24, e74_27, ↓reduceIte, Bool.false_eq_true, not_false_eq_true, not_true_eq_false, Nat.reduceLeDiff, Nat.reduceAdd, Nat.reduceEqDiff, Int.reduceToNat, Int.toNat_natCast, iB0, iB1, ru_klI, ru_klR, ru_klF, ru_klJ, ru_kl0, ru_cs0, ru_csI, ru_csR, ru_csF, ru_csJ, wI_add, wI_sub, wI_mul, wI_lt, wI_le, wI_inj, ru_fdE, ru_fdN, ru_iaN, ru_baN, ru_laN, ru_qaN, ru_pfN, ru_isN, ru_bsN, ru_jsN, ru_qsN, ru_set2, Nat.add_right_cancel_iff, if_true, if_false, ite_self, Int.reduceEq, and_self, Int.add_neg_cancel_right, Int.add_zero, Int.zero_add, md_e, md_f17, x1, g17, g18, x2, d1, not_false_iff]
/-- the reference takes what was read -/
def tkF (T : tMd) : Nat → Int := fun q => if q < 270 then T.2 10 q else T.2 0 q
def tkN (T : tMd) : Nat → Int := fun q => if q < 320 then T.2 6 q else T.2 5 q
def tkW (T : tMd) (P i o : Nat) (c : Nat) : Nat → Int := fun f => if f < i then tkF T (54 * f + o) + 1 else T.2 c f
def tkZ (T : tMd) : Nat → Int := up1 (up1 (T.2 2) 0 0) 1 0
def tkE (T : tMd) (P : Nat) : tMd := (up1 (up1 (up1 (up1 (up1 T.1 1 1) 24 (T.1 28)) 25 (T.1 29)) 20 (T.1 22)) 4 0, upC (upC (upC (upC (upC T.2 5 (tkN T)) 0 (tkF T)) 8 (tkW T P P 2 8)) 9 (tkW T P P 3 9)) 2 (tkZ T))
end LOD
