/-! ===== the class's phrase, by its first word ===== -/
section PHW
variable {z : Bool} {C : tCl} {n R nn : Nat} {h G G2 : am_H} {S : tRd}
theorem f91r (hR : 1315 ≤ R) (hst : strs h) {X : List Nat} (ht : tkw C n (sbT 18) X) {W : Nat} {S' : tRd} {C2 : tCl} (k1 : ru_ev z 92 [.ref R] (clPut (rdH h R nn S) C) = some (.inl none, clPut (rdH h R nn S') C2)) (k2 : ru_ev z 95 [.ref R] (clPut (rdH h R nn S') C2) = some (.inl none, G)) : ru_ev z 91 [.ref R] (clPut (rdH h R nn S) C) = some (.inl none, G) := by
  have hs2 := strs_rd (nm := nn) (S := S) hR hst
  have d2 : ((1 : Int) = 0) = False := eq_false (by decide)
  have x18 := fw28 (z := z) hs2 (i := 18) (by decide) (by decide) ht
  rw [if_pos rfl] at x18
  simp (disch := omega) only [en91, e91_0, e91_1, e91_4, e91_6, e91_9, e91_12, e91_13, e91_16, e91_17, e91_20, e91_23, e91_24, e91_27, e91_29, e91_32, e91_35, e91_36, e91_39, e91_40, e91_43, e91_46, e91_47, e91_50, e91_52, e91_55, e91_58, e91_59, e91_62, e91_65, e91_66, e91_69, e91_71, e91_74, e91_77, e91_78, e91_81, e91_84, e91_85, e91_88, e91_89, e91_92, e91_94, e91_97, e91_98, e91_101, e91_102, e91_105, ↓reduceIte, Bool.false_eq_true, not_false_eq_true, not_true_eq_false, Nat.reduceLeDiff, Nat.reduceAdd, Nat.reduceEqDiff, Int.reduceToNat, Int.toNat_natCast, iB0, iB1, ru_klI, ru_klR, ru_klF, ru_klJ, ru_kl0, ru_cs0, ru_csI, ru_csR, ru_csF, ru_csJ, wI_add, wI_sub, wI_mul, wI_lt, wI_le, wI_inj, ru_fdE, ru_fdN, ru_iaN, ru_baN, ru_laN, ru_qaN, ru_pfN, ru_isN, ru_bsN, ru_jsN, ru_qsN, ru_set2, Nat.add_right_cancel_iff, if_true, if_false, ite_self, Int.reduceEq, and_self, Int.add_neg_cancel_right, Int.add_zero, Int.zero_add, Nat.reduceAdd, rd_e hR, rd_f0 hR, d2, fw36, x18, k1, k2]

theorem f91a (hR : 1315 ≤ R) (hst : strs h) {X : List Nat} (ht : tkw C n (sbT 23) X) {W : Nat} {S' : tRd} {C2 : tCl} (k1 : ru_ev z 102 [.ref R] (clPut (rdH h R nn S) C) = some (.inl none, clPut (rdH h R nn S') C2)) (k2 : ru_ev z 95 [.ref R] (clPut (rdH h R nn S') C2) = some (.inl none, G)) : ru_ev z 91 [.ref R] (clPut (rdH h R nn S) C) = some (.inl none, G) := by
  have hs2 := strs_rd (nm := nn) (S := S) hR hst
  have d2 : ((1 : Int) = 0) = False := eq_false (by decide)
  have x18 := fw28 (z := z) hs2 (i := 18) (by decide) (by decide) ht
  rw [if_neg (by decide)] at x18
  have x23 := fw28 (z := z) hs2 (i := 23) (by decide) (by decide) ht
  rw [if_pos rfl] at x23
  simp (disch := omega) only [en91, e91_0, e91_1, e91_4, e91_6, e91_9, e91_12, e91_13, e91_16, e91_17, e91_20, e91_23, e91_24, e91_27, e91_29, e91_32, e91_35, e91_36, e91_39, e91_40, e91_43, e91_46, e91_47, e91_50, e91_52, e91_55, e91_58, e91_59, e91_62, e91_65, e91_66, e91_69, e91_71, e91_74, e91_77, e91_78, e91_81, e91_84, e91_85, e91_88, e91_89, e91_92, e91_94, e91_97, e91_98, e91_101, e91_102, e91_105, ↓reduceIte, Bool.false_eq_true, not_false_eq_true, not_true_eq_false, Nat.reduceLeDiff, Nat.reduceAdd, Nat.reduceEqDiff, Int.reduceToNat, Int.toNat_natCast, iB0, iB1, ru_klI, ru_klR, ru_klF, ru_klJ, ru_kl0, ru_cs0, ru_csI, ru_csR, ru_csF, ru_csJ, wI_add, wI_sub, wI_mul, wI_lt, wI_le, wI_inj, ru_fdE, ru_fdN, ru_iaN, ru_baN, ru_laN, ru_qaN, ru_pfN, ru_isN, ru_bsN, ru_jsN, ru_qsN, ru_set2, Nat.add_right_cancel_iff, if_true, if_false, ite_self, Int.reduceEq, and_self, Int.add_neg_cancel_right, Int.add_zero, Int.zero_add, Nat.reduceAdd, rd_e hR, rd_f0 hR, d2, fw36, x18, x23, k1, k2]

theorem f91t (hR : 1315 ≤ R) (hst : strs h) {X : List Nat} (ht : tkw C n (sbT 24) X) (k1 : ru_ev z 103 [.ref R] (clPut (rdH h R nn S) C) = some (.inl none, G)) : ru_ev z 91 [.ref R] (clPut (rdH h R nn S) C) = some (.inl none, G) := by
  have hs2 := strs_rd (nm := nn) (S := S) hR hst
  have d2 : ((1 : Int) = 0) = False := eq_false (by decide)
  have x18 := fw28 (z := z) hs2 (i := 18) (by decide) (by decide) ht
  rw [if_neg (by decide)] at x18
  have x23 := fw28 (z := z) hs2 (i := 23) (by decide) (by decide) ht
  rw [if_neg (by decide)] at x23
  have x24 := fw28 (z := z) hs2 (i := 24) (by decide) (by decide) ht
  rw [if_pos rfl] at x24
  simp (disch := omega) only [en91, e91_0, e91_1, e91_4, e91_6, e91_9, e91_12, e91_13, e91_16, e91_17, e91_20, e91_23, e91_24, e91_27, e91_29, e91_32, e91_35, e91_36, e91_39, e91_40, e91_43, e91_46, e91_47, e91_50, e91_52, e91_55, e91_58, e91_59, e91_62, e91_65, e91_66, e91_69, e91_71, e91_74, e91_77, e91_78, e91_81, e91_84, e91_85, e91_88, e91_89, e91_92, e91_94, e91_97, e91_98, e91_101, e91_102, e91_105, ↓reduceIte, Bool.false_eq_true, not_false_eq_true, not_true_eq_false, Nat.reduceLeDiff, Nat.reduceAdd, Nat.reduceEqDiff, Int.reduceToNat, Int.toNat_natCast, iB0, iB1, ru_klI, ru_klR, ru_klF, ru_klJ, ru_kl0, ru_cs0, ru_csI, ru_csR, ru_csF, ru_csJ, wI_add, wI_sub, wI_mul, wI_lt, wI_le, wI_inj, ru_fdE, ru_fdN, ru_iaN, ru_baN, ru_laN, ru_qaN, ru_pfN, ru_isN, ru_bsN, ru_jsN, ru_qsN, ru_set2, Nat.add_right_cancel_iff, if_true, if_false, ite_self, Int.reduceEq, and_self, Int.add_neg_cancel_right, Int.add_zero, Int.zero_add, Nat.reduceAdd, rd_e hR, rd_f0 hR, d2, fw36, x18, x23, x24, k1]

theorem f91s (hR : 1315 ≤ R) (hst : strs h) {X : List Nat} (ht : tkw C n (sbT 25) X) (k1 : ru_ev z 106 [.ref R] (clPut (rdH h R nn S) C) = some (.inl none, G)) : ru_ev z 91 [.ref R] (clPut (rdH h R nn S) C) = some (.inl none, G) := by
  have hs2 := strs_rd (nm := nn) (S := S) hR hst
  have d2 : ((1 : Int) = 0) = False := eq_false (by decide)
  have x18 := fw28 (z := z) hs2 (i := 18) (by decide) (by decide) ht
  rw [if_neg (by decide)] at x18
  have x23 := fw28 (z := z) hs2 (i := 23) (by decide) (by decide) ht
  rw [if_neg (by decide)] at x23
  have x24 := fw28 (z := z) hs2 (i := 24) (by decide) (by decide) ht
  rw [if_neg (by decide)] at x24
  have x25 := fw28 (z := z) hs2 (i := 25) (by decide) (by decide) ht
  rw [if_pos rfl] at x25
  simp (disch := omega) only [en91, e91_0, e91_1, e91_4, e91_6, e91_9, e91_12, e91_13, e91_16, e91_17, e91_20, e91_23, e91_24, e91_27, e91_29, e91_32, e91_35, e91_36, e91_39, e91_40, e91_43, e91_46, e91_47, e91_50, e91_52, e91_55, e91_58, e91_59, e91_62, e91_65, e91_66, e91_69, e91_71, e91_74, e91_77, e91_78, e91_81, e91_84, e91_85, e91_88, e91_89, e91_92, e91_94, e91_97, e91_98, e91_101, e91_102, e91_105, ↓reduceIte, Bool.false_eq_true, not_false_eq_true, not_true_eq_false, Nat.reduceLeDiff, Nat.reduceAdd, Nat.reduceEqDiff, Int.reduceToNat, Int.toNat_natCast, iB0, iB1, ru_klI, ru_klR, ru_klF, ru_klJ, ru_kl0, ru_cs0, ru_csI, ru_csR, ru_csF, ru_csJ, wI_add, wI_sub, wI_mul, wI_lt, wI_le, wI_inj, ru_fdE, ru_fdN, ru_iaN, ru_baN, ru_laN, ru_qaN, ru_pfN, ru_isN, ru_bsN, ru_jsN, ru_qsN, ru_set2, Nat.add_right_cancel_iff, if_true, if_false, ite_self, Int.reduceEq, and_self, Int.add_neg_cancel_right, Int.add_zero, Int.zero_add, Nat.reduceAdd, rd_e hR, rd_f0 hR, d2, fw36, x18, x23, x24, x25, k1]

theorem f91b (hR : 1315 ≤ R) (hst : strs h) {X : List Nat} (ht : tkw C n (sbT 26) X) (k1 : ru_ev z 110 [.ref R] (clPut (rdH h R nn S) C) = some (.inl none, G)) : ru_ev z 91 [.ref R] (clPut (rdH h R nn S) C) = some (.inl none, G) := by
  have hs2 := strs_rd (nm := nn) (S := S) hR hst
  have d2 : ((1 : Int) = 0) = False := eq_false (by decide)
  have x18 := fw28 (z := z) hs2 (i := 18) (by decide) (by decide) ht
  rw [if_neg (by decide)] at x18
  have x23 := fw28 (z := z) hs2 (i := 23) (by decide) (by decide) ht
  rw [if_neg (by decide)] at x23
  have x24 := fw28 (z := z) hs2 (i := 24) (by decide) (by decide) ht
  rw [if_neg (by decide)] at x24
  have x25 := fw28 (z := z) hs2 (i := 25) (by decide) (by decide) ht
  rw [if_neg (by decide)] at x25
  have x26 := fw28 (z := z) hs2 (i := 26) (by decide) (by decide) ht
  rw [if_pos rfl] at x26
  simp (disch := omega) only [en91, e91_0, e91_1, e91_4, e91_6, e91_9, e91_12, e91_13, e91_16, e91_17, e91_20, e91_23, e91_24, e91_27, e91_29, e91_32, e91_35, e91_36, e91_39, e91_40, e91_43, e91_46, e91_47, e91_50, e91_52, e91_55, e91_58, e91_59, e91_62, e91_65, e91_66, e91_69, e91_71, e91_74, e91_77, e91_78, e91_81, e91_84, e91_85, e91_88, e91_89, e91_92, e91_94, e91_97, e91_98, e91_101, e91_102, e91_105, ↓reduceIte, Bool.false_eq_true, not_false_eq_true, not_true_eq_false, Nat.reduceLeDiff, Nat.reduceAdd, Nat.reduceEqDiff, Int.reduceToNat, Int.toNat_natCast, iB0, iB1, ru_klI, ru_klR, ru_klF, ru_klJ, ru_kl0, ru_cs0, ru_csI, ru_csR, ru_csF, ru_csJ, wI_add, wI_sub, wI_mul, wI_lt, wI_le, wI_inj, ru_fdE, ru_fdN, ru_iaN, ru_baN, ru_laN, ru_qaN, ru_pfN, ru_isN, ru_bsN, ru_jsN, ru_qsN, ru_set2, Nat.add_right_cancel_iff, if_true, if_false, ite_self, Int.reduceEq, and_self, Int.add_neg_cancel_right, Int.add_zero, Int.zero_add, Nat.reduceAdd, rd_e hR, rd_f0 hR, d2, fw36, x18, x23, x24, x25, x26, k1]

end PHW
