/-! ===== the class's methods, 1: refusals, reads ===== -/
/-- the album in use: where it lies, its gap, its photos; what is small -/
def alb (C : tCl) : Nat := C.2.2.2 1000 1
def clA (C : tCl) : Prop := (C.2.2.2 1000 1 = 1003 ∧ C.2.2.2 1000 2 = 1034) ∨ (C.2.2.2 1000 1 = 1034 ∧ C.2.2.2 1000 2 = 1003)
theorem clA_k {C : tCl} (hA : clA C) : clk (alb C) = 2 ∧ clk (alb C + 1) = 3 ∧ clk (alb C + 2) = 103 ∧ clk (alb C + 3) = 103 ∧ isSt (alb C + 4) ∧ cln (alb C + 2) = 20 ∧ cln (alb C + 3) = 20 ∧ 1003 ≤ alb C ∧ alb C ≤ 1034 := by
  have key : ∀ a, a = 1003 ∨ a = 1034 → (clk a = 2 ∧ clk (a + 1) = 3 ∧ clk (a + 2) = 103 ∧ clk (a + 3) = 103 ∧ isSt (a + 4) ∧ cln (a + 2) = 20 ∧ cln (a + 3) = 20 ∧ 1003 ≤ a ∧ a ≤ 1034) := by
    intro a ha
    rcases ha with rfl | rfl <;> (unfold isSt; decide +kernel)
  exact key _ (by rcases hA with h | h; exact Or.inl h.1; exact Or.inr h.1)
/-- the count of photos, of names; photo i of the album -/
def cPm (C : tCl) : Int := C.1 (alb C + 4) 0
def cNm (C : tCl) : Int := C.1 (alb C + 1) 0
def cAp (C : tCl) (i : Nat) : Nat := alb C + 4 + 2 + 5 * i
def clR (C : tCl) : Prop := clA C ∧ (0 ≤ cPm C ∧ cPm C ≤ 5) ∧ (0 ≤ cNm C ∧ cNm C ≤ 20) ∧ (0 ≤ C.1 (alb C) 0 ∧ C.1 (alb C) 0 ≤ 99) ∧ ∀ i, i < 5 → phR (cph C (cAp C i))
section CLA
variable {z : Bool} {h : am_H} {C : tCl}
theorem cAp_ph (hA : clA C) {i : Nat} (hi : i < 5) : isPh (cAp C i) := isSt_ph (clA_k hA).2.2.2.2.1 hi
theorem clF (hA : clA C) : am_fd (clPut h C) 1000 0 1 = some (.ref (alb C)) ∧ am_fd (clPut h C) (alb C) 2 0 = some (.int (wI (C.1 (alb C) 0))) ∧ am_fd (clPut h C) (alb C) 2 1 = some (.ref (alb C + 1)) ∧ am_fd (clPut h C) (alb C) 2 2 = some (.ref (alb C + 4)) ∧
    am_fd (clPut h C) (alb C + 1) 3 0 = some (.int (wI (cNm C))) ∧ am_fd (clPut h C) (alb C + 1) 3 1 = some (.ref (alb C + 1 + 1)) ∧ am_fd (clPut h C) (alb C + 1) 3 2 = some (.ref (alb C + 1 + 2)) ∧
    am_fd (clPut h C) (alb C + 4) 9 0 = some (.int (wI (cPm C))) ∧ am_fd (clPut h C) (alb C + 4) 9 1 = some (.ref (alb C + 4 + 1)) := by
  obtain ⟨k0, k1, k2, k3, k4, -, -, a1, a2⟩ := clA_k hA
  obtain ⟨s1, s2, s3, s4⟩ := isSt_k k4
  exact ⟨cl_g0_1, cl_f2_0 k0 (by omega), cl_f2_1 k0 (by omega), cl_f2_2 k0 (by omega), cl_f3_0 k1 (by omega), cl_f3_1 k1 (by omega), cl_f3_2 k1 (by omega), cl_f9_0 s1 (by omega), cl_f9_1 s1 (by omega)⟩
theorem c79 (hR : clR C) : ru_ev z 79 [.ref 1000] (clPut h C) = if cPm C = 0 then some (.inr 0, clPut (thr h) C) else some (.inl none, clPut h C) := by
  have r := hR.2.1
  simp (disch := omega) only [en79, e79_0, e79_1, e79_4, e79_7, e79_10, e79_13, e79_16, e79_17, e79_24, ↓reduceIte, Bool.false_eq_true, not_false_eq_true, not_true_eq_false, Nat.reduceLeDiff, Nat.reduceAdd, Nat.reduceEqDiff, Int.reduceToNat, Int.toNat_natCast, iB0, iB1, ru_klI, ru_klR, ru_klF, ru_klJ, ru_kl0, ru_cs0, ru_csI, ru_csR, ru_csF, ru_csJ, wI_add, wI_sub, wI_mul, wI_lt, wI_le, wI_inj, ru_fdE, ru_fdN, ru_iaN, ru_baN, ru_laN, ru_qaN, ru_pfN, ru_isN, ru_bsN, ru_jsN, ru_qsN, ru_set2, Nat.add_right_cancel_iff, if_true, if_false, ite_self, cl_e0, clF hR.1, cl_thr]
  by_cases e : cPm C = 0 <;> simp only [e, if_true, if_false, not_true, not_false_iff]
theorem c78 (hR : clR C) {f : Int} (g : -2147483648 ≤ f ∧ f < 2147483648) : ru_ev z 78 [.ref 1000, .int (wI f)] (clPut h C) = if cPm C = 0 then some (.inr 0, clPut (thr h) C) else if 0 ≤ f ∧ f < cPm C then some (.inl (some (.ref (cAp C f.toNat))), clPut h C) else some (.inr 1, clPut (thr h) C) := by
  have r := hR.2.1
  obtain ⟨s1, s2, s3, s4⟩ := isSt_k (clA_k hR.1).2.2.2.2.1
  have e1 := c79 (z := z) (h := h) hR
  by_cases e : cPm C = 0
  · simp only [e, if_true] at e1 ⊢
    simp (disch := omega) only [en78, e78_0, e78_1, e78_4, e78_5, e78_8, e78_9, e78_10, e78_13, e78_16, e78_19, e78_22, e78_25, e78_26, e78_33, e78_34, e78_37, e78_40, e78_43, e78_44, e78_45, ↓reduceIte, Bool.false_eq_true, not_false_eq_true, not_true_eq_false, Nat.reduceLeDiff, Nat.reduceAdd, Nat.reduceEqDiff, Int.reduceToNat, Int.toNat_natCast, iB0, iB1, ru_klI, ru_klR, ru_klF, ru_klJ, ru_kl0, ru_cs0, ru_csI, ru_csR, ru_csF, ru_csJ, wI_add, wI_sub, wI_mul, wI_lt, wI_le, wI_inj, ru_fdE, ru_fdN, ru_iaN, ru_baN, ru_laN, ru_qaN, ru_pfN, ru_isN, ru_bsN, ru_jsN, ru_qsN, ru_set2, Nat.add_right_cancel_iff, if_true, if_false, ite_self, cl_e0, e1]
  · simp only [e, if_false] at e1 ⊢
    by_cases e2 : 0 ≤ f ∧ f < cPm C
    · have e3 : (f < 0) = False := eq_false (by omega)
      have e4 : (f < cPm C) = True := eq_true (by omega)
      have q5 := cl_q5 (h := h) (C := C) s2 (by omega) e2.1 (show f < 5 by omega)
      rw [if_pos e2]
      simp (disch := omega) only [en78, e78_0, e78_1, e78_4, e78_5, e78_8, e78_9, e78_10, e78_13, e78_16, e78_19, e78_22, e78_25, e78_26, e78_33, e78_34, e78_37, e78_40, e78_43, e78_44, e78_45, ↓reduceIte, Bool.false_eq_true, not_false_eq_true, not_true_eq_false, Nat.reduceLeDiff, Nat.reduceAdd, Nat.reduceEqDiff, Int.reduceToNat, Int.toNat_natCast, iB0, iB1, ru_klI, ru_klR, ru_klF, ru_klJ, ru_kl0, ru_cs0, ru_csI, ru_csR, ru_csF, ru_csJ, wI_add, wI_sub, wI_mul, wI_lt, wI_le, wI_inj, ru_fdE, ru_fdN, ru_iaN, ru_baN, ru_laN, ru_qaN, ru_pfN, ru_isN, ru_bsN, ru_jsN, ru_qsN, ru_set2, Nat.add_right_cancel_iff, if_true, if_false, ite_self, cl_e0, e1, clF hR.1, e3, e4, q5]
      unfold cAp
      rw [show alb C + 4 + 1 + 1 + 5 * f.toNat = alb C + 4 + 2 + 5 * f.toNat by omega]
    · rw [if_neg e2]
      by_cases e3 : f < 0
      · simp (disch := omega) only [en78, e78_0, e78_1, e78_4, e78_5, e78_8, e78_9, e78_10, e78_13, e78_16, e78_19, e78_22, e78_25, e78_26, e78_33, e78_34, e78_37, e78_40, e78_43, e78_44, e78_45, ↓reduceIte, Bool.false_eq_true, not_false_eq_true, not_true_eq_false, Nat.reduceLeDiff, Nat.reduceAdd, Nat.reduceEqDiff, Int.reduceToNat, Int.toNat_natCast, iB0, iB1, ru_klI, ru_klR, ru_klF, ru_klJ, ru_kl0, ru_cs0, ru_csI, ru_csR, ru_csF, ru_csJ, wI_add, wI_sub, wI_mul, wI_lt, wI_le, wI_inj, ru_fdE, ru_fdN, ru_iaN, ru_baN, ru_laN, ru_qaN, ru_pfN, ru_isN, ru_bsN, ru_jsN, ru_qsN, ru_set2, Nat.add_right_cancel_iff, if_true, if_false, ite_self, cl_e0, e1, e3, cl_thr]
      · have e4 : (f < cPm C) = False := eq_false (by omega)
        simp (disch := omega) only [en78, e78_0, e78_1, e78_4, e78_5, e78_8, e78_9, e78_10, e78_13, e78_16, e78_19, e78_22, e78_25, e78_26, e78_33, e78_34, e78_37, e78_40, e78_43, e78_44, e78_45, ↓reduceIte, Bool.false_eq_true, not_false_eq_true, not_true_eq_false, Nat.reduceLeDiff, Nat.reduceAdd, Nat.reduceEqDiff, Int.reduceToNat, Int.toNat_natCast, iB0, iB1, ru_klI, ru_klR, ru_klF, ru_klJ, ru_kl0, ru_cs0, ru_csI, ru_csR, ru_csF, ru_csJ, wI_add, wI_sub, wI_mul, wI_lt, wI_le, wI_inj, ru_fdE, ru_fdN, ru_iaN, ru_baN, ru_laN, ru_qaN, ru_pfN, ru_isN, ru_bsN, ru_jsN, ru_qsN, ru_set2, Nat.add_right_cancel_iff, if_true, if_false, ite_self, cl_e0, e1, e3, e4, clF hR.1, cl_thr]
theorem c174 (hR : clR C) {f k : Int} (g : -2147483648 ≤ f ∧ f < 2147483648) (g2 : -2147483648 ≤ k ∧ k < 2147483648) : ru_ev z 174 [.ref 1000, .int (wI f), .int (wI k)] (clPut h C) = if cPm C = 0 then some (.inr 0, clPut (thr h) C) else if 0 ≤ f ∧ f < cPm C then (if 0 ≤ k ∧ k < (cph C (cAp C f.toNat)).1 7 then some (.inl (some (.ref (cAp C f.toNat))), clPut h C) else some (.inr 1, clPut (thr h) C)) else some (.inr 1, clPut (thr h) C) := by
  have r := hR.2.1
  have e1 := c78 (z := z) (h := h) hR g
  by_cases e : cPm C = 0
  · simp only [e, if_true] at e1 ⊢
    simp (disch := omega) only [en174, e174_0, e174_1, e174_2, e174_5, e174_6, e174_7, e174_10, e174_11, e174_12, e174_15, e174_18, e174_21, e174_22, e174_29, e174_30, ↓reduceIte, Bool.false_eq_true, not_false_eq_true, not_true_eq_false, Nat.reduceLeDiff, Nat.reduceAdd, Nat.reduceEqDiff, Int.reduceToNat, Int.toNat_natCast, iB0, iB1, ru_klI, ru_klR, ru_klF, ru_klJ, ru_kl0, ru_cs0, ru_csI, ru_csR, ru_csF, ru_csJ, wI_add, wI_sub, wI_mul, wI_lt, wI_le, wI_inj, ru_fdE, ru_fdN, ru_iaN, ru_baN, ru_laN, ru_qaN, ru_pfN, ru_isN, ru_bsN, ru_jsN, ru_qsN, ru_set2, Nat.add_right_cancel_iff, if_true, if_false, ite_self, cl_e0, e1]
  · simp only [e, if_false] at e1 ⊢
    by_cases e2 : 0 ≤ f ∧ f < cPm C
    · have hp := cl_ph (h := h) (C := C) (cAp_ph hR.1 (i := f.toNat) (by omega))
      have s := phR_s (hR.2.2.2.2 f.toNat (by omega))
      simp only [if_pos e2] at e1 ⊢
      by_cases e3 : 0 ≤ k ∧ k < (cph C (cAp C f.toNat)).1 7
      · have e4 : (k < 0) = False := eq_false (by omega)
        have e5 : (k < (cph C (cAp C f.toNat)).1 7) = True := eq_true (by omega)
        rw [if_pos e3]
        simp (disch := omega) only [en174, e174_0, e174_1, e174_2, e174_5, e174_6, e174_7, e174_10, e174_11, e174_12, e174_15, e174_18, e174_21, e174_22, e174_29, e174_30, ↓reduceIte, Bool.false_eq_true, not_false_eq_true, not_true_eq_false, Nat.reduceLeDiff, Nat.reduceAdd, Nat.reduceEqDiff, Int.reduceToNat, Int.toNat_natCast, iB0, iB1, ru_klI, ru_klR, ru_klF, ru_klJ, ru_kl0, ru_cs0, ru_csI, ru_csR, ru_csF, ru_csJ, wI_add, wI_sub, wI_mul, wI_lt, wI_le, wI_inj, ru_fdE, ru_fdN, ru_iaN, ru_baN, ru_laN, ru_qaN, ru_pfN, ru_isN, ru_bsN, ru_jsN, ru_qsN, ru_set2, Nat.add_right_cancel_iff, if_true, if_false, ite_self, cl_e0, e1, phF hp, e4, e5]
      · rw [if_neg e3]
        by_cases e4 : k < 0
        · simp (disch := omega) only [en174, e174_0, e174_1, e174_2, e174_5, e174_6, e174_7, e174_10, e174_11, e174_12, e174_15, e174_18, e174_21, e174_22, e174_29, e174_30, ↓reduceIte, Bool.false_eq_true, not_false_eq_true, not_true_eq_false, Nat.reduceLeDiff, Nat.reduceAdd, Nat.reduceEqDiff, Int.reduceToNat, Int.toNat_natCast, iB0, iB1, ru_klI, ru_klR, ru_klF, ru_klJ, ru_kl0, ru_cs0, ru_csI, ru_csR, ru_csF, ru_csJ, wI_add, wI_sub, wI_mul, wI_lt, wI_le, wI_inj, ru_fdE, ru_fdN, ru_iaN, ru_baN, ru_laN, ru_qaN, ru_pfN, ru_isN, ru_bsN, ru_jsN, ru_qsN, ru_set2, Nat.add_right_cancel_iff, if_true, if_false, ite_self, cl_e0, e1, phF hp, e4, cl_thr]
        · have e5 : (k < (cph C (cAp C f.toNat)).1 7) = False := eq_false (by omega)
          simp (disch := omega) only [en174, e174_0, e174_1, e174_2, e174_5, e174_6, e174_7, e174_10, e174_11, e174_12, e174_15, e174_18, e174_21, e174_22, e174_29, e174_30, ↓reduceIte, Bool.false_eq_true, not_false_eq_true, not_true_eq_false, Nat.reduceLeDiff, Nat.reduceAdd, Nat.reduceEqDiff, Int.reduceToNat, Int.toNat_natCast, iB0, iB1, ru_klI, ru_klR, ru_klF, ru_klJ, ru_kl0, ru_cs0, ru_csI, ru_csR, ru_csF, ru_csJ, wI_add, wI_sub, wI_mul, wI_lt, wI_le, wI_inj, ru_fdE, ru_fdN, ru_iaN, ru_baN, ru_laN, ru_qaN, ru_pfN, ru_isN, ru_bsN, ru_jsN, ru_qsN, ru_set2, Nat.add_right_cancel_iff, if_true, if_false, ite_self, cl_e0, e1, phF hp, e4, e5, cl_thr]
    · simp only [if_neg e2] at e1 ⊢
      simp (disch := omega) only [en174, e174_0, e174_1, e174_2, e174_5, e174_6, e174_7, e174_10, e174_11, e174_12, e174_15, e174_18, e174_21, e174_22, e174_29, e174_30, ↓reduceIte, Bool.false_eq_true, not_false_eq_true, not_true_eq_false, Nat.reduceLeDiff, Nat.reduceAdd, Nat.reduceEqDiff, Int.reduceToNat, Int.toNat_natCast, iB0, iB1, ru_klI, ru_klR, ru_klF, ru_klJ, ru_kl0, ru_cs0, ru_csI, ru_csR, ru_csF, ru_csJ, wI_add, wI_sub, wI_mul, wI_lt, wI_le, wI_inj, ru_fdE, ru_fdN, ru_iaN, ru_baN, ru_laN, ru_qaN, ru_pfN, ru_isN, ru_bsN, ru_jsN, ru_qsN, ru_set2, Nat.add_right_cancel_iff, if_true, if_false, ite_self, cl_e0, e1]
end CLA
