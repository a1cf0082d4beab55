/-! ===== a text's lines, the text ===== -/
section LNS
variable {z : Bool} {M M0 : tMd} {C C0 : tCl} {n s B : Nat}
theorem w28 {j : Nat} (hj : j < 85) (ht : tkR C M n s) (hb : byI C M n) (hl : (sbT j).length ≤ 8) : ∀ h, strs h → ru_ev z 28 [.ref 1001, .ref (300 + j)] (clPut h C) = some (.inl (some (.int (wI (if isW M (sbT j) = true then 1 else 0)))), clPut h C) := fun h hS => c28 (z := z) (hS j hj) hl (sbT_ok j hj).2 ht hb
theorem w62 {i j : Nat} (hj : j < 85) (e : sbT j = sbT i) (h17 : M.1 17 = 0) (ht : tkR C M n s) (hl : (sbT i).length ≤ 8) : ∀ h, strs h → ru_ev z 62 [.ref 1315, .ref (300 + j)] (mdPut h M) = some (.inl (some (.int (wI (if isW M (sbT i) = true then 1 else 0)))), mdPut h M) := fun h hS => by
  rw [← e]
  exact p62 (z := z) (hS j hj) (by rw [e]; exact hl) (sbT_ok j hj).2 h17 ht
def lnX (z : Bool) (B n : Nat) (C0 : tCl) (M0 : tMd) (C : tCl) (M : tMd) (s : Nat) : Prop :=
  (∃ C' M' s', (∀ h, strs h → ru_ev z 40 [.ref B, .ref 1001] (clPut h C) = some (.inl none, clPut h C')) ∧ (∀ h l1 l2, strs h → ru_n z 55 90 [some (.ref 1315), l1, l2] [] (mdPut h M) = ru_n z 55 71 [some (.ref 1315), l1, l2] [] (mdPut h M')) ∧ tkR C' M' n s' ∧ rdI B C0 M0 C' M' ∧ s ≤ s') ∨
  ∃ C' M', (∀ h, strs h → ru_ev z 40 [.ref B, .ref 1001] (clPut h C) = some (.inr 2, clPut (thr h) C')) ∧ (∀ h l1 l2, strs h → ru_n z 55 90 [some (.ref 1315), l1, l2] [] (mdPut h M) = ru_n z 55 71 [some (.ref 1315), l1, l2] [] (mdPut h M')) ∧ erI B C0 M0 C' M' ∧ mutM M'
theorem ln_one (hB : B = 1003 ∨ B = 1034) (hr : rdI B C0 M0 C M) (ht : tkR C M n s) (hb0 : byI C0 M0 n) : lnX z B n C0 M0 C M s := by
  have hb := rd_byI hB hb0 hr
  have h17 := hr.2.2.2.1
  have hn := hb.1
  have d0 : ((0 : Int) = 0) = True := eq_true rfl
  have d1 : ((1 : Int) = 0) = False := eq_false (by decide)
  have x4 : ∀ h, strs h → ru_ev z 28 [.ref 1001, .ref 304] (clPut h C) = _ := w28 (z := z) (j := 4) (by decide) ht hb (by decide)
  have x14 : ∀ h, strs h → ru_ev z 28 [.ref 1001, .ref 314] (clPut h C) = _ := w28 (z := z) (j := 14) (by decide) ht hb (by decide)
  have x15 : ∀ h, strs h → ru_ev z 28 [.ref 1001, .ref 315] (clPut h C) = _ := w28 (z := z) (j := 15) (by decide) ht hb (by decide)
  have y4 : ∀ h, strs h → ru_ev z 62 [.ref 1315, .ref 363] (mdPut h M) = _ := w62 (z := z) (i := 4) (j := 63) (by decide) (by decide) h17 ht (by decide)
  have y14 : ∀ h, strs h → ru_ev z 62 [.ref 1315, .ref 373] (mdPut h M) = _ := w62 (z := z) (i := 14) (j := 73) (by decide) (by decide) h17 ht (by decide)
  have y15 : ∀ h, strs h → ru_ev z 62 [.ref 1315, .ref 374] (mdPut h M) = _ := w62 (z := z) (i := 15) (j := 74) (by decide) (by decide) h17 ht (by decide)
  by_cases c4 : isW M (sbT 4) = true
  · rcases ln_name (z := z) hB hr ht hb0 (isW_13 c4) with ⟨C', M', s', k1, k2, k3, k4, k5⟩ | ⟨C', M', k1, k2, k3, k4⟩
    · refine Or.inl ⟨C', M', s', fun h hS => ?_, fun h l1 l2 hS => ?_, k3, k4, by omega⟩
      · obtain ⟨f0, -⟩ := sprF hB (h := h) (C := C)
        simp (disch := omega) only [en40, e40_0, e40_1, e40_3, e40_6, e40_9, e40_10, e40_11, e40_14, e40_17, e40_18, e40_20, e40_23, e40_26, e40_27, e40_28, e40_31, e40_34, e40_35, e40_36, e40_38, e40_41, e40_42, e40_45, e40_46, e40_47, e40_50, ↓reduceIte, Bool.false_eq_true, not_false_eq_true, not_true_eq_false, Nat.reduceLeDiff, Nat.reduceAdd, Nat.reduceEqDiff, Int.reduceToNat, Int.toNat_natCast, iB0, iB1, ru_klI, ru_klR, ru_klF, ru_klJ, ru_kl0, ru_cs0, ru_csI, ru_csR, ru_csF, ru_csJ, wI_add, wI_sub, wI_mul, wI_lt, wI_le, wI_inj, ru_fdE, ru_fdN, ru_iaN, ru_baN, ru_laN, ru_qaN, ru_pfN, ru_isN, ru_bsN, ru_jsN, ru_qsN, ru_set2, Nat.add_right_cancel_iff, if_true, if_false, ite_self, Int.reduceEq, and_self, Int.add_neg_cancel_right, Int.add_zero, Int.zero_add, cl_e1, f0, x4 h hS, c4, d1, k1 h hS, not_true, not_false_iff]
      · simp (disch := omega) only [e55_90, e55_91, e55_93, e55_96, e55_99, e55_100, e55_103, ↓reduceIte, Bool.false_eq_true, not_false_eq_true, not_true_eq_false, Nat.reduceLeDiff, Nat.reduceAdd, Nat.reduceEqDiff, Int.reduceToNat, Int.toNat_natCast, iB0, iB1, ru_klI, ru_klR, ru_klF, ru_klJ, ru_kl0, ru_cs0, ru_csI, ru_csR, ru_csF, ru_csJ, wI_add, wI_sub, wI_mul, wI_lt, wI_le, wI_inj, ru_fdE, ru_fdN, ru_iaN, ru_baN, ru_laN, ru_qaN, ru_pfN, ru_isN, ru_bsN, ru_jsN, ru_qsN, ru_set2, Nat.add_right_cancel_iff, if_true, if_false, ite_self, Int.reduceEq, and_self, Int.add_neg_cancel_right, Int.add_zero, Int.zero_add, md_e, y4 h hS, c4, d1, k2 h hS, not_true, not_false_iff]
    · refine Or.inr ⟨C', M', fun h hS => ?_, fun h l1 l2 hS => ?_, k3, k4⟩
      · obtain ⟨f0, -⟩ := sprF hB (h := h) (C := C)
        simp (disch := omega) only [en40, e40_0, e40_1, e40_3, e40_6, e40_9, e40_10, e40_11, e40_14, e40_17, e40_18, e40_20, e40_23, e40_26, e40_27, e40_28, e40_31, e40_34, e40_35, e40_36, e40_38, e40_41, e40_42, e40_45, e40_46, e40_47, e40_50, ↓reduceIte, Bool.false_eq_true, not_false_eq_true, not_true_eq_false, Nat.reduceLeDiff, Nat.reduceAdd, Nat.reduceEqDiff, Int.reduceToNat, Int.toNat_natCast, iB0, iB1, ru_klI, ru_klR, ru_klF, ru_klJ, ru_kl0, ru_cs0, ru_csI, ru_csR, ru_csF, ru_csJ, wI_add, wI_sub, wI_mul, wI_lt, wI_le, wI_inj, ru_fdE, ru_fdN, ru_iaN, ru_baN, ru_laN, ru_qaN, ru_pfN, ru_isN, ru_bsN, ru_jsN, ru_qsN, ru_set2, Nat.add_right_cancel_iff, if_true, if_false, ite_self, Int.reduceEq, and_self, Int.add_neg_cancel_right, Int.add_zero, Int.zero_add, cl_e1, f0, x4 h hS, c4, d1, k1 h hS, not_true, not_false_iff]
      · simp (disch := omega) only [e55_90, e55_91, e55_93, e55_96, e55_99, e55_100, e55_103, ↓reduceIte, Bool.false_eq_true, not_false_eq_true, not_true_eq_false, Nat.reduceLeDiff, Nat.reduceAdd, Nat.reduceEqDiff, Int.reduceToNat, Int.toNat_natCast, iB0, iB1, ru_klI, ru_klR, ru_klF, ru_klJ, ru_kl0, ru_cs0, ru_csI, ru_csR, ru_csF, ru_csJ, wI_add, wI_sub, wI_mul, wI_lt, wI_le, wI_inj, ru_fdE, ru_fdN, ru_iaN, ru_baN, ru_laN, ru_qaN, ru_pfN, ru_isN, ru_bsN, ru_jsN, ru_qsN, ru_set2, Nat.add_right_cancel_iff, if_true, if_false, ite_self, Int.reduceEq, and_self, Int.add_neg_cancel_right, Int.add_zero, Int.zero_add, md_e, y4 h hS, c4, d1, k2 h hS, not_true, not_false_iff]
  have n4 : isW M (sbT 4) = false := Bool.eq_false_iff.mpr c4
  by_cases c14 : isW M (sbT 14) = true
  · rcases ln_photo (z := z) hB hr ht hb0 (isW_13 c14) with ⟨C', M', s', k1, k2, k3, k4, k5⟩ | ⟨C', M', k1, k2, k3, k4⟩
    · refine Or.inl ⟨C', M', s', fun h hS => ?_, fun h l1 l2 hS => ?_, k3, k4, by omega⟩
      · obtain ⟨f0, -⟩ := sprF hB (h := h) (C := C)
        simp (disch := omega) only [en40, e40_0, e40_1, e40_3, e40_6, e40_9, e40_10, e40_11, e40_14, e40_17, e40_18, e40_20, e40_23, e40_26, e40_27, e40_28, e40_31, e40_34, e40_35, e40_36, e40_38, e40_41, e40_42, e40_45, e40_46, e40_47, e40_50, ↓reduceIte, Bool.false_eq_true, not_false_eq_true, not_true_eq_false, Nat.reduceLeDiff, Nat.reduceAdd, Nat.reduceEqDiff, Int.reduceToNat, Int.toNat_natCast, iB0, iB1, ru_klI, ru_klR, ru_klF, ru_klJ, ru_kl0, ru_cs0, ru_csI, ru_csR, ru_csF, ru_csJ, wI_add, wI_sub, wI_mul, wI_lt, wI_le, wI_inj, ru_fdE, ru_fdN, ru_iaN, ru_baN, ru_laN, ru_qaN, ru_pfN, ru_isN, ru_bsN, ru_jsN, ru_qsN, ru_set2, Nat.add_right_cancel_iff, if_true, if_false, ite_self, Int.reduceEq, and_self, Int.add_neg_cancel_right, Int.add_zero, Int.zero_add, cl_e1, f0, x4 h hS, n4, x14 h hS, c14, d0, d1, k1 h hS, not_true, not_false_iff]
      · simp (disch := omega) only [e55_90, e55_91, e55_93, e55_96, e55_99, e55_100, e55_103, e55_106, e55_107, e55_109, e55_112, e55_115, e55_116, e55_119, ↓reduceIte, Bool.false_eq_true, not_false_eq_true, not_true_eq_false, Nat.reduceLeDiff, Nat.reduceAdd, Nat.reduceEqDiff, Int.reduceToNat, Int.toNat_natCast, iB0, iB1, ru_klI, ru_klR, ru_klF, ru_klJ, ru_kl0, ru_cs0, ru_csI, ru_csR, ru_csF, ru_csJ, wI_add, wI_sub, wI_mul, wI_lt, wI_le, wI_inj, ru_fdE, ru_fdN, ru_iaN, ru_baN, ru_laN, ru_qaN, ru_pfN, ru_isN, ru_bsN, ru_jsN, ru_qsN, ru_set2, Nat.add_right_cancel_iff, if_true, if_false, ite_self, Int.reduceEq, and_self, Int.add_neg_cancel_right, Int.add_zero, Int.zero_add, md_e, y4 h hS, n4, y14 h hS, c14, d0, d1, k2 h hS, not_true, not_false_iff]
    · refine Or.inr ⟨C', M', fun h hS => ?_, fun h l1 l2 hS => ?_, k3, k4⟩
      · obtain ⟨f0, -⟩ := sprF hB (h := h) (C := C)
        simp (disch := omega) only [en40, e40_0, e40_1, e40_3, e40_6, e40_9, e40_10, e40_11, e40_14, e40_17, e40_18, e40_20, e40_23, e40_26, e40_27, e40_28, e40_31, e40_34, e40_35, e40_36, e40_38, e40_41, e40_42, e40_45, e40_46, e40_47, e40_50, ↓reduceIte, Bool.false_eq_true, not_false_eq_true, not_true_eq_false, Nat.reduceLeDiff, Nat.reduceAdd, Nat.reduceEqDiff, Int.reduceToNat, Int.toNat_natCast, iB0, iB1, ru_klI, ru_klR, ru_klF, ru_klJ, ru_kl0, ru_cs0, ru_csI, ru_csR, ru_csF, ru_csJ, wI_add, wI_sub, wI_mul, wI_lt, wI_le, wI_inj, ru_fdE, ru_fdN, ru_iaN, ru_baN, ru_laN, ru_qaN, ru_pfN, ru_isN, ru_bsN, ru_jsN, ru_qsN, ru_set2, Nat.add_right_cancel_iff, if_true, if_false, ite_self, Int.reduceEq, and_self, Int.add_neg_cancel_right, Int.add_zero, Int.zero_add, cl_e1, f0, x4 h hS, n4, x14 h hS, c14, d0, d1, k1 h hS, not_true, not_false_iff]
      · simp (disch := omega) only [e55_90, e55_91, e55_93, e55_96, e55_99, e55_100, e55_103, e55_106, e55_107, e55_109, e55_112, e55_115, e55_116, e55_119, ↓reduceIte, Bool.false_eq_true, not_false_eq_true, not_true_eq_false, Nat.reduceLeDiff, Nat.reduceAdd, Nat.reduceEqDiff, Int.reduceToNat, Int.toNat_natCast, iB0, iB1, ru_klI, ru_klR, ru_klF, ru_klJ, ru_kl0, ru_cs0, ru_csI, ru_csR, ru_csF, ru_csJ, wI_add, wI_sub, wI_mul, wI_lt, wI_le, wI_inj, ru_fdE, ru_fdN, ru_iaN, ru_baN, ru_laN, ru_qaN, ru_pfN, ru_isN, ru_bsN, ru_jsN, ru_qsN, ru_set2, Nat.add_right_cancel_iff, if_true, if_false, ite_self, Int.reduceEq, and_self, Int.add_neg_cancel_right, Int.add_zero, Int.zero_add, md_e, y4 h hS, n4, y14 h hS, c14, d0, d1, k2 h hS, not_true, not_false_iff]
  have n14 : isW M (sbT 14) = false := Bool.eq_false_iff.mpr c14
  by_cases c15 : isW M (sbT 15) = true
  · have g1 : ∀ h, ru_ev z 36 [.ref 1001, .int (wI 1), .int (wI 1)] (clPut h C) = some (.inl none, clPut h C) := fun h => by rw [c36 (Or.inr rfl), if_pos rfl]
    rcases ln_person (z := z) hB hr ht hb0 (isW_13 c15) with ⟨C', M', s', k1, k2, k3, k4, k5⟩ | ⟨C', M', k1, k2, k3, k4⟩
    · refine Or.inl ⟨C', M', s', fun h hS => ?_, fun h l1 l2 hS => ?_, k3, k4, by omega⟩
      · obtain ⟨f0, -⟩ := sprF hB (h := h) (C := C)
        simp (disch := omega) only [en40, e40_0, e40_1, e40_3, e40_6, e40_9, e40_10, e40_11, e40_14, e40_17, e40_18, e40_20, e40_23, e40_26, e40_27, e40_28, e40_31, e40_34, e40_35, e40_36, e40_38, e40_41, e40_42, e40_45, e40_46, e40_47, e40_50, ↓reduceIte, Bool.false_eq_true, not_false_eq_true, not_true_eq_false, Nat.reduceLeDiff, Nat.reduceAdd, Nat.reduceEqDiff, Int.reduceToNat, Int.toNat_natCast, iB0, iB1, ru_klI, ru_klR, ru_klF, ru_klJ, ru_kl0, ru_cs0, ru_csI, ru_csR, ru_csF, ru_csJ, wI_add, wI_sub, wI_mul, wI_lt, wI_le, wI_inj, ru_fdE, ru_fdN, ru_iaN, ru_baN, ru_laN, ru_qaN, ru_pfN, ru_isN, ru_bsN, ru_jsN, ru_qsN, ru_set2, Nat.add_right_cancel_iff, if_true, if_false, ite_self, Int.reduceEq, and_self, Int.add_neg_cancel_right, Int.add_zero, Int.zero_add, cl_e1, f0, x4 h hS, n4, x14 h hS, n14, x15 h hS, c15, g1, d0, d1, k1 h hS, not_true, not_false_iff]
      · simp (disch := omega) only [e55_90, e55_91, e55_93, e55_96, e55_99, e55_100, e55_103, e55_106, e55_107, e55_109, e55_112, e55_115, e55_116, e55_119, e55_122, e55_123, e55_125, e55_128, e55_131, e55_132, e55_135, ↓reduceIte, Bool.false_eq_true, not_false_eq_true, not_true_eq_false, Nat.reduceLeDiff, Nat.reduceAdd, Nat.reduceEqDiff, Int.reduceToNat, Int.toNat_natCast, iB0, iB1, ru_klI, ru_klR, ru_klF, ru_klJ, ru_kl0, ru_cs0, ru_csI, ru_csR, ru_csF, ru_csJ, wI_add, wI_sub, wI_mul, wI_lt, wI_le, wI_inj, ru_fdE, ru_fdN, ru_iaN, ru_baN, ru_laN, ru_qaN, ru_pfN, ru_isN, ru_bsN, ru_jsN, ru_qsN, ru_set2, Nat.add_right_cancel_iff, if_true, if_false, ite_self, Int.reduceEq, and_self, Int.add_neg_cancel_right, Int.add_zero, Int.zero_add, md_e, y4 h hS, n4, y14 h hS, n14, y15 h hS, c15, d0, d1, k2 h hS, not_true, not_false_iff]
    · refine Or.inr ⟨C', M', fun h hS => ?_, fun h l1 l2 hS => ?_, k3, k4⟩
      · obtain ⟨f0, -⟩ := sprF hB (h := h) (C := C)
        simp (disch := omega) only [en40, e40_0, e40_1, e40_3, e40_6, e40_9, e40_10, e40_11, e40_14, e40_17, e40_18, e40_20, e40_23, e40_26, e40_27, e40_28, e40_31, e40_34, e40_35, e40_36, e40_38, e40_41, e40_42, e40_45, e40_46, e40_47, e40_50, ↓reduceIte, Bool.false_eq_true, not_false_eq_true, not_true_eq_false, Nat.reduceLeDiff, Nat.reduceAdd, Nat.reduceEqDiff, Int.reduceToNat, Int.toNat_natCast, iB0, iB1, ru_klI, ru_klR, ru_klF, ru_klJ, ru_kl0, ru_cs0, ru_csI, ru_csR, ru_csF, ru_csJ, wI_add, wI_sub, wI_mul, wI_lt, wI_le, wI_inj, ru_fdE, ru_fdN, ru_iaN, ru_baN, ru_laN, ru_qaN, ru_pfN, ru_isN, ru_bsN, ru_jsN, ru_qsN, ru_set2, Nat.add_right_cancel_iff, if_true, if_false, ite_self, Int.reduceEq, and_self, Int.add_neg_cancel_right, Int.add_zero, Int.zero_add, cl_e1, f0, x4 h hS, n4, x14 h hS, n14, x15 h hS, c15, g1, d0, d1, k1 h hS, not_true, not_false_iff]
      · simp (disch := omega) only [e55_90, e55_91, e55_93, e55_96, e55_99, e55_100, e55_103, e55_106, e55_107, e55_109, e55_112, e55_115, e55_116, e55_119, e55_122, e55_123, e55_125, e55_128, e55_131, e55_132, e55_135, ↓reduceIte, Bool.false_eq_true, not_false_eq_true, not_true_eq_false, Nat.reduceLeDiff, Nat.reduceAdd, Nat.reduceEqDiff, Int.reduceToNat, Int.toNat_natCast, iB0, iB1, ru_klI, ru_klR, ru_klF, ru_klJ, ru_kl0, ru_cs0, ru_csI, ru_csR, ru_csF, ru_csJ, wI_add, wI_sub, wI_mul, wI_lt, wI_le, wI_inj, ru_fdE, ru_fdN, ru_iaN, ru_baN, ru_laN, ru_qaN, ru_pfN, ru_isN, ru_bsN, ru_jsN, ru_qsN, ru_set2, Nat.add_right_cancel_iff, if_true, if_false, ite_self, Int.reduceEq, and_self, Int.add_neg_cancel_right, Int.add_zero, Int.zero_add, md_e, y4 h hS, n4, y14 h hS, n14, y15 h hS, c15, d0, d1, k2 h hS, not_true, not_false_iff]
  have n15 : isW M (sbT 15) = false := Bool.eq_false_iff.mpr c15
  refine Or.inr ⟨erC C 1, erM M 1, fun h hS => ?_, fun h l1 l2 hS => ?_, er_tk hB hr ht hn (by decide), mut_er ht (by decide)⟩
  · obtain ⟨f0, -⟩ := sprF hB (h := h) (C := C)
    have y := c36 (z := z) (h := h) (C := C) (b := 0) (Or.inl rfl) (c := 1)
    rw [if_neg (by decide)] at y
    simp (disch := omega) only [en40, e40_0, e40_1, e40_3, e40_6, e40_9, e40_10, e40_11, e40_14, e40_17, e40_18, e40_20, e40_23, e40_26, e40_27, e40_28, e40_31, e40_34, e40_35, e40_36, e40_38, e40_41, e40_42, e40_45, e40_46, e40_47, e40_50, ↓reduceIte, Bool.false_eq_true, not_false_eq_true, not_true_eq_false, Nat.reduceLeDiff, Nat.reduceAdd, Nat.reduceEqDiff, Int.reduceToNat, Int.toNat_natCast, iB0, iB1, ru_klI, ru_klR, ru_klF, ru_klJ, ru_kl0, ru_cs0, ru_csI, ru_csR, ru_csF, ru_csJ, wI_add, wI_sub, wI_mul, wI_lt, wI_le, wI_inj, ru_fdE, ru_fdN, ru_iaN, ru_baN, ru_laN, ru_qaN, ru_pfN, ru_isN, ru_bsN, ru_jsN, ru_qsN, ru_set2, Nat.add_right_cancel_iff, if_true, if_false, ite_self, Int.reduceEq, and_self, Int.add_neg_cancel_right, Int.add_zero, Int.zero_add, cl_e1, f0, x4 h hS, n4, x14 h hS, n14, x15 h hS, n15, y, d0, d1, not_true, not_false_iff]
    rfl
  · simp (disch := omega) only [e55_90, e55_91, e55_93, e55_96, e55_99, e55_100, e55_103, e55_106, e55_107, e55_109, e55_112, e55_115, e55_116, e55_119, e55_122, e55_123, e55_125, e55_128, e55_131, e55_132, e55_135, e55_138, e55_139, e55_140, e55_143, ↓reduceIte, Bool.false_eq_true, not_false_eq_true, not_true_eq_false, Nat.reduceLeDiff, Nat.reduceAdd, Nat.reduceEqDiff, Int.reduceToNat, Int.toNat_natCast, iB0, iB1, ru_klI, ru_klR, ru_klF, ru_klJ, ru_kl0, ru_cs0, ru_csI, ru_csR, ru_csF, ru_csJ, wI_add, wI_sub, wI_mul, wI_lt, wI_le, wI_inj, ru_fdE, ru_fdN, ru_iaN, ru_baN, ru_laN, ru_qaN, ru_pfN, ru_isN, ru_bsN, ru_jsN, ru_qsN, ru_set2, Nat.add_right_cancel_iff, if_true, if_false, ite_self, Int.reduceEq, and_self, Int.add_neg_cancel_right, Int.add_zero, Int.zero_add, md_e, y4 h hS, n4, y14 h hS, n14, y15 h hS, n15, d0, d1, f63 h17, not_true, not_false_iff]
theorem tkR_lt (ht : tkR C M n s) (h : ¬ M.1 13 = 0) : s < n := by
  obtain ⟨a1, a2, a3, a4, a5, a6⟩ := ht
  rcases a6 with ⟨-, k1⟩ | ⟨t, t1, t2, -⟩
  · exact absurd k1 h
  · omega
theorem ln_all (hB : B = 1003 ∨ B = 1034) (hb0 : byI C0 M0 n) : ∀ d i s C M, n ≤ s + d → i ≤ s → tkR C M n s → rdI B C0 M0 C M →
    (∃ C' M' s' i', (∀ h, strs h → ru_n z 25 40 [some (.ref B), some (.ref 1001), some (.int (wI ((i : Nat) : Int)))] [] (clPut h C) = ru_n z 25 72 [some (.ref B), some (.ref 1001), some (.int (wI ((i' : Nat) : Int)))] [] (clPut h C')) ∧ (∀ h l1 l2, strs h → ru_n z 55 71 [some (.ref 1315), l1, l2] [] (mdPut h M) = ru_n z 55 146 [some (.ref 1315), l1, l2] [] (mdPut h M')) ∧ tkR C' M' n s' ∧ rdI B C0 M0 C' M') ∨
    ∃ C' M', (∀ h, strs h → ru_n z 25 40 [some (.ref B), some (.ref 1001), some (.int (wI ((i : Nat) : Int)))] [] (clPut h C) = some (.inr 2, clPut (thr h) C')) ∧ (∀ h l1 l2, strs h → ru_n z 55 71 [some (.ref 1315), l1, l2] [] (mdPut h M) = ru_n z 55 146 [some (.ref 1315), l1, l2] [] (mdPut h M')) ∧ erI B C0 M0 C' M' ∧ mutM M' := by
  intro d
  have d0 : ((0 : Int) = 0) = True := eq_true rfl
  have d1 : ((1 : Int) = 0) = False := eq_false (by decide)
  have hn := hb0.1
  have stop : ∀ (i s : Nat) (C : tCl) (M : tMd), i ≤ s → tkR C M n s → rdI B C0 M0 C M → ¬ M.1 13 = 3 → (∀ h, strs h → ru_n z 25 40 [some (.ref B), some (.ref 1001), some (.int (wI ((i : Nat) : Int)))] [] (clPut h C) = ru_n z 25 72 [some (.ref B), some (.ref 1001), some (.int (wI ((i : Nat) : Int)))] [] (clPut h C)) ∧ (∀ h l1 l2, strs h → ru_n z 55 71 [some (.ref 1315), l1, l2] [] (mdPut h M) = ru_n z 55 146 [some (.ref 1315), l1, l2] [] (mdPut h M)) := by
    intro i s C M his ht hr c
    obtain ⟨k0, kk, -, -, k3, -⟩ := tkR_k ht
    have h17 := hr.2.2.2.1
    have hsn := ht.2.2.1
    have ck : ¬ C.2.2.2 1001 7 = 202 := fun e => c (k3.mp e)
    refine ⟨fun h hS => ?_, fun h l1 l2 hS => ?_⟩
    · by_cases c2 : 1200 ≤ i
      · have e2 : ((1200 : Int) ≤ (i : Int)) = True := eq_true (by omega)
        simp (disch := omega) only [e25_40, e25_41, e25_44, ↓reduceIte, Bool.false_eq_true, not_false_eq_true, not_true_eq_false, Nat.reduceLeDiff, Nat.reduceAdd, Nat.reduceEqDiff, Int.reduceToNat, Int.toNat_natCast, iB0, iB1, ru_klI, ru_klR, ru_klF, ru_klJ, ru_kl0, ru_cs0, ru_csI, ru_csR, ru_csF, ru_csJ, wI_add, wI_sub, wI_mul, wI_lt, wI_le, wI_inj, ru_fdE, ru_fdN, ru_iaN, ru_baN, ru_laN, ru_qaN, ru_pfN, ru_isN, ru_bsN, ru_jsN, ru_qsN, ru_set2, Nat.add_right_cancel_iff, if_true, if_false, ite_self, Int.reduceEq, and_self, Int.add_neg_cancel_right, Int.add_zero, Int.zero_add, e2]
      · have e2 : ((1200 : Int) ≤ (i : Int)) = False := eq_false (by omega)
        have x := c39 (z := z) (h := h) (K := 202) k0 (by decide)
        rw [if_neg ck] at x
        simp (disch := omega) only [e25_40, e25_41, e25_44, e25_47, e25_48, e25_51, e25_54, ↓reduceIte, Bool.false_eq_true, not_false_eq_true, not_true_eq_false, Nat.reduceLeDiff, Nat.reduceAdd, Nat.reduceEqDiff, Int.reduceToNat, Int.toNat_natCast, iB0, iB1, ru_klI, ru_klR, ru_klF, ru_klJ, ru_kl0, ru_cs0, ru_csI, ru_csR, ru_csF, ru_csJ, wI_add, wI_sub, wI_mul, wI_lt, wI_le, wI_inj, ru_fdE, ru_fdN, ru_iaN, ru_baN, ru_laN, ru_qaN, ru_pfN, ru_isN, ru_bsN, ru_jsN, ru_qsN, ru_set2, Nat.add_right_cancel_iff, if_true, if_false, ite_self, Int.reduceEq, and_self, Int.add_neg_cancel_right, Int.add_zero, Int.zero_add, cl_e1, e2, x, d0, not_true, not_false_iff]
    · have e2 : (M.1 13 = 3) = False := eq_false c
      have g17 : am_fd (mdPut h M) 1315 10 17 = some (.int (wI 0)) := by rw [md_f17, h17]
      simp (disch := omega) only [e55_71, e55_72, e55_75, e55_78, e55_79, e55_82, e55_83, ↓reduceIte, Bool.false_eq_true, not_false_eq_true, not_true_eq_false, Nat.reduceLeDiff, Nat.reduceAdd, Nat.reduceEqDiff, Int.reduceToNat, Int.toNat_natCast, iB0, iB1, ru_klI, ru_klR, ru_klF, ru_klJ, ru_kl0, ru_cs0, ru_csI, ru_csR, ru_csF, ru_csJ, wI_add, wI_sub, wI_mul, wI_lt, wI_le, wI_inj, ru_fdE, ru_fdN, ru_iaN, ru_baN, ru_laN, ru_qaN, ru_pfN, ru_isN, ru_bsN, ru_jsN, ru_qsN, ru_set2, Nat.add_right_cancel_iff, if_true, if_false, ite_self, Int.reduceEq, and_self, Int.add_neg_cancel_right, Int.add_zero, Int.zero_add, md_e, md_f13, g17, e2, d0, not_true, not_false_iff]
  induction d with
  | zero =>
    intro i s C M hd his ht hr
    left
    have c : ¬ M.1 13 = 3 := fun e => by have := tkR_lt ht (by omega); omega
    obtain ⟨q1, q2⟩ := stop i s C M his ht hr c
    exact ⟨C, M, s, i, q1, q2, ht, hr⟩
  | succ d ih =>
    intro i s C M hd his ht hr
    by_cases c : M.1 13 = 3
    rotate_left
    · left
      obtain ⟨q1, q2⟩ := stop i s C M his ht hr c
      exact ⟨C, M, s, i, q1, q2, ht, hr⟩
    obtain ⟨k0, kk, -, -, k3, -⟩ := tkR_k ht
    have h17 := hr.2.2.2.1
    have hsn := tkR_lt ht (by omega)
    have ck : C.2.2.2 1001 7 = 202 := k3.mpr c
    obtain ⟨C1, M1, s1, q1, q2, q3, q4, q5, q6⟩ := tk_adv (z := z) ht (by omega) (rd_byI hB hb0 hr)
    have r1 := rd_tok hB hr q4 q5
    have e2 : ((1200 : Int) ≤ (i : Int)) = False := eq_false (by omega)
    have e3 : (M.1 13 = 3) = True := eq_true c
    have x : ∀ h, ru_ev z 39 [.ref 1001, .ref 202] (clPut h C) = some (.inl (some (.int (wI 1))), clPut h C) := fun h => by rw [c39 k0 (by decide), if_pos ck]
    have g17 : ∀ h, am_fd (mdPut h M) 1315 10 17 = some (.int (wI 0)) := fun h => by rw [md_f17, h17]
    have ei : wI ((i : Int) + 1) = wI ((i + 1 : Nat) : Int) := rfl
    rcases ln_one (z := z) hB r1 q3 hb0 with ⟨C', M', s', k1, k2, k3, k4, k5⟩ | ⟨C', M', k1, k2, k3, k4⟩
    · rcases ih (i + 1) s' C' M' (by omega) (by omega) k3 k4 with ⟨C2, M2, s2, i2, o1, o2, o3, o4⟩ | ⟨C2, M2, o1, o2, o3, o4⟩
      · refine Or.inl ⟨C2, M2, s2, i2, fun h hS => ?_, fun h l1 l2 hS => ?_, o3, o4⟩
        · have oo := o1 h hS
          simp only [Int.natCast_add, Int.natCast_one] at oo
          rw [e25_40]
          simp (disch := omega) only [e25_41, e25_44, e25_47, e25_48, e25_51, e25_54, e25_57, e25_58, e25_61, e25_62, e25_63, e25_66, e25_69, ↓reduceIte, Bool.false_eq_true, not_false_eq_true, not_true_eq_false, Nat.reduceLeDiff, Nat.reduceAdd, Nat.reduceEqDiff, Int.reduceToNat, Int.toNat_natCast, iB0, iB1, ru_klI, ru_klR, ru_klF, ru_klJ, ru_kl0, ru_cs0, ru_csI, ru_csR, ru_csF, ru_csJ, wI_add, wI_sub, wI_mul, wI_lt, wI_le, wI_inj, ru_fdE, ru_fdN, ru_iaN, ru_baN, ru_laN, ru_qaN, ru_pfN, ru_isN, ru_bsN, ru_jsN, ru_qsN, ru_set2, Nat.add_right_cancel_iff, if_true, if_false, ite_self, Int.reduceEq, and_self, Int.add_neg_cancel_right, Int.add_zero, Int.zero_add, cl_e1, (sprF hB).1, e2, x, d0, d1, q1, k1 h hS, not_true, not_false_iff]
          exact oo
        · rw [← o2 h l1 l2 hS, ← k2 h l1 l2 hS]
          simp (disch := omega) only [e55_71, e55_72, e55_75, e55_78, e55_79, e55_82, e55_83, e55_86, e55_87, ↓reduceIte, Bool.false_eq_true, not_false_eq_true, not_true_eq_false, Nat.reduceLeDiff, Nat.reduceAdd, Nat.reduceEqDiff, Int.reduceToNat, Int.toNat_natCast, iB0, iB1, ru_klI, ru_klR, ru_klF, ru_klJ, ru_kl0, ru_cs0, ru_csI, ru_csR, ru_csF, ru_csJ, wI_add, wI_sub, wI_mul, wI_lt, wI_le, wI_inj, ru_fdE, ru_fdN, ru_iaN, ru_baN, ru_laN, ru_qaN, ru_pfN, ru_isN, ru_bsN, ru_jsN, ru_qsN, ru_set2, Nat.add_right_cancel_iff, if_true, if_false, ite_self, Int.reduceEq, and_self, Int.add_neg_cancel_right, Int.add_zero, Int.zero_add, md_e, md_f13, g17, e3, d0, q2, not_true, not_false_iff]
      · refine Or.inr ⟨C2, M2, fun h hS => ?_, fun h l1 l2 hS => ?_, o3, o4⟩
        · have oo := o1 h hS
          simp only [Int.natCast_add, Int.natCast_one] at oo
          rw [e25_40]
          simp (disch := omega) only [e25_41, e25_44, e25_47, e25_48, e25_51, e25_54, e25_57, e25_58, e25_61, e25_62, e25_63, e25_66, e25_69, ↓reduceIte, Bool.false_eq_true, not_false_eq_true, not_true_eq_false, Nat.reduceLeDiff, Nat.reduceAdd, Nat.reduceEqDiff, Int.reduceToNat, Int.toNat_natCast, iB0, iB1, ru_klI, ru_klR, ru_klF, ru_klJ, ru_kl0, ru_cs0, ru_csI, ru_csR, ru_csF, ru_csJ, wI_add, wI_sub, wI_mul, wI_lt, wI_le, wI_inj, ru_fdE, ru_fdN, ru_iaN, ru_baN, ru_laN, ru_qaN, ru_pfN, ru_isN, ru_bsN, ru_jsN, ru_qsN, ru_set2, Nat.add_right_cancel_iff, if_true, if_false, ite_self, Int.reduceEq, and_self, Int.add_neg_cancel_right, Int.add_zero, Int.zero_add, cl_e1, (sprF hB).1, e2, x, d0, d1, q1, k1 h hS, not_true, not_false_iff]
          exact oo
        · rw [← o2 h l1 l2 hS, ← k2 h l1 l2 hS]
          simp (disch := omega) only [e55_71, e55_72, e55_75, e55_78, e55_79, e55_82, e55_83, e55_86, e55_87, ↓reduceIte, Bool.false_eq_true, not_false_eq_true, not_true_eq_false, Nat.reduceLeDiff, Nat.reduceAdd, Nat.reduceEqDiff, Int.reduceToNat, Int.toNat_natCast, iB0, iB1, ru_klI, ru_klR, ru_klF, ru_klJ, ru_kl0, ru_cs0, ru_csI, ru_csR, ru_csF, ru_csJ, wI_add, wI_sub, wI_mul, wI_lt, wI_le, wI_inj, ru_fdE, ru_fdN, ru_iaN, ru_baN, ru_laN, ru_qaN, ru_pfN, ru_isN, ru_bsN, ru_jsN, ru_qsN, ru_set2, Nat.add_right_cancel_iff, if_true, if_false, ite_self, Int.reduceEq, and_self, Int.add_neg_cancel_right, Int.add_zero, Int.zero_add, md_e, md_f13, g17, e3, d0, q2, not_true, not_false_iff]
    · refine Or.inr ⟨C', M', fun h hS => ?_, fun h l1 l2 hS => ?_, k3, k4⟩
      · rw [e25_40]
        simp (disch := omega) only [e25_41, e25_44, e25_47, e25_48, e25_51, e25_54, e25_57, e25_58, e25_61, e25_62, e25_63, e25_66, e25_69, ↓reduceIte, Bool.false_eq_true, not_false_eq_true, not_true_eq_false, Nat.reduceLeDiff, Nat.reduceAdd, Nat.reduceEqDiff, Int.reduceToNat, Int.toNat_natCast, iB0, iB1, ru_klI, ru_klR, ru_klF, ru_klJ, ru_kl0, ru_cs0, ru_csI, ru_csR, ru_csF, ru_csJ, wI_add, wI_sub, wI_mul, wI_lt, wI_le, wI_inj, ru_fdE, ru_fdN, ru_iaN, ru_baN, ru_laN, ru_qaN, ru_pfN, ru_isN, ru_bsN, ru_jsN, ru_qsN, ru_set2, Nat.add_right_cancel_iff, if_true, if_false, ite_self, Int.reduceEq, and_self, Int.add_neg_cancel_right, Int.add_zero, Int.zero_add, cl_e1, (sprF hB).1, e2, x, d0, d1, q1, k1 h hS, not_true, not_false_iff]
      · have m17 := k4.1
        have e4 : (M'.1 17 = 0) = False := eq_false (by omega)
        have kx := k2 h l1 l2 hS
        have fin : ru_n z 55 71 [some (.ref 1315), l1, l2] [] (mdPut h M') = ru_n z 55 146 [some (.ref 1315), l1, l2] [] (mdPut h M') := by
          simp (disch := omega) only [e55_71, e55_72, e55_75, ↓reduceIte, Bool.false_eq_true, not_false_eq_true, not_true_eq_false, Nat.reduceLeDiff, Nat.reduceAdd, Nat.reduceEqDiff, Int.reduceToNat, Int.toNat_natCast, iB0, iB1, ru_klI, ru_klR, ru_klF, ru_klJ, ru_kl0, ru_cs0, ru_csI, ru_csR, ru_csF, ru_csJ, wI_add, wI_sub, wI_mul, wI_lt, wI_le, wI_inj, ru_fdE, ru_fdN, ru_iaN, ru_baN, ru_laN, ru_qaN, ru_pfN, ru_isN, ru_bsN, ru_jsN, ru_qsN, ru_set2, Nat.add_right_cancel_iff, if_true, if_false, ite_self, Int.reduceEq, and_self, Int.add_neg_cancel_right, Int.add_zero, Int.zero_add, md_e, md_f17, e4, not_true, not_false_iff]
        rw [← fin, ← kx]
        simp (disch := omega) only [e55_71, e55_72, e55_75, e55_78, e55_79, e55_82, e55_83, e55_86, e55_87, ↓reduceIte, Bool.false_eq_true, not_false_eq_true, not_true_eq_false, Nat.reduceLeDiff, Nat.reduceAdd, Nat.reduceEqDiff, Int.reduceToNat, Int.toNat_natCast, iB0, iB1, ru_klI, ru_klR, ru_klF, ru_klJ, ru_kl0, ru_cs0, ru_csI, ru_csR, ru_csF, ru_csJ, wI_add, wI_sub, wI_mul, wI_lt, wI_le, wI_inj, ru_fdE, ru_fdN, ru_iaN, ru_baN, ru_laN, ru_qaN, ru_pfN, ru_isN, ru_bsN, ru_jsN, ru_qsN, ru_set2, Nat.add_right_cancel_iff, if_true, if_false, ite_self, Int.reduceEq, and_self, Int.add_neg_cancel_right, Int.add_zero, Int.zero_add, md_e, md_f13, g17, e3, d0, q2, not_true, not_false_iff]
end LNS
