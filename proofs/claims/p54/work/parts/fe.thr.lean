/-! ===== what the law's calls throw; phrases without a text ===== -/
section THR
variable {z : Bool}
theorem t399 {w a b c : Int32} {X G : am_H} {E : Nat} (hE : E < 3) (h : ru_ev z 400 [.ref 1000, .int w, .int a, .int b, .int c] X = some (.inr E, G)) : ru_ev z 399 [.ref 1000, .int w, .int a, .int b, .int c] X = some (.inl (some (.int (wI ((E : Int) + 1)))), G) := by
  have : E = 0 ∨ E = 1 ∨ E = 2 := by omega
  rcases this with rfl | rfl | rfl
  · simp (disch := omega) only [en399, e399_0, e399_1, e399_2, e399_3, e399_4, e399_6, e399_22, e399_23, e399_24, e399_26, e399_27, e399_28, e399_30, e399_31, ↓reduceIte, Bool.false_eq_true, not_false_eq_true, not_true_eq_false, Nat.reduceLeDiff, Nat.reduceAdd, Nat.reduceEqDiff, Int.reduceToNat, Int.toNat_natCast, iB0, iB1, ru_klI, ru_klR, ru_klF, ru_klJ, ru_kl0, ru_cs0, ru_csI, ru_csR, ru_csF, ru_csJ, wI_add, wI_sub, wI_mul, wI_lt, wI_le, wI_inj, ru_fdE, ru_fdN, ru_iaN, ru_baN, ru_laN, ru_qaN, ru_pfN, ru_isN, ru_bsN, ru_jsN, ru_qsN, ru_set2, Nat.add_right_cancel_iff, if_true, if_false, ite_self, Int.reduceEq, and_self, Int.add_neg_cancel_right, Int.add_zero, Int.zero_add, h]
    rfl
  · simp (disch := omega) only [en399, e399_0, e399_1, e399_2, e399_3, e399_4, e399_6, e399_22, e399_23, e399_24, e399_26, e399_27, e399_28, e399_30, e399_31, ↓reduceIte, Bool.false_eq_true, not_false_eq_true, not_true_eq_false, Nat.reduceLeDiff, Nat.reduceAdd, Nat.reduceEqDiff, Int.reduceToNat, Int.toNat_natCast, iB0, iB1, ru_klI, ru_klR, ru_klF, ru_klJ, ru_kl0, ru_cs0, ru_csI, ru_csR, ru_csF, ru_csJ, wI_add, wI_sub, wI_mul, wI_lt, wI_le, wI_inj, ru_fdE, ru_fdN, ru_iaN, ru_baN, ru_laN, ru_qaN, ru_pfN, ru_isN, ru_bsN, ru_jsN, ru_qsN, ru_set2, Nat.add_right_cancel_iff, if_true, if_false, ite_self, Int.reduceEq, and_self, Int.add_neg_cancel_right, Int.add_zero, Int.zero_add, h]
    rfl
  · simp (disch := omega) only [en399, e399_0, e399_1, e399_2, e399_3, e399_4, e399_6, e399_22, e399_23, e399_24, e399_26, e399_27, e399_28, e399_30, e399_31, ↓reduceIte, Bool.false_eq_true, not_false_eq_true, not_true_eq_false, Nat.reduceLeDiff, Nat.reduceAdd, Nat.reduceEqDiff, Int.reduceToNat, Int.toNat_natCast, iB0, iB1, ru_klI, ru_klR, ru_klF, ru_klJ, ru_kl0, ru_cs0, ru_csI, ru_csR, ru_csF, ru_csJ, wI_add, wI_sub, wI_mul, wI_lt, wI_le, wI_inj, ru_fdE, ru_fdN, ru_iaN, ru_baN, ru_laN, ru_qaN, ru_pfN, ru_isN, ru_bsN, ru_jsN, ru_qsN, ru_set2, Nat.add_right_cancel_iff, if_true, if_false, ite_self, Int.reduceEq, and_self, Int.add_neg_cancel_right, Int.add_zero, Int.zero_add, h]
    rfl
theorem t400_0 {a b c : Int32} {X G : am_H} {E : Nat} (h : ru_ev z 164 [.ref 1000, .int a] X = some (.inr E, G)) : ru_ev z 400 [.ref 1000, .int (wI 0), .int a, .int b, .int c] X = some (.inr E, G) := by
  have s : am_sw 1 294 0 24 #[115, 121, 128, 135, 142, 151, 158, 168, 174, 181, 187, 194, 201, 210, 217, 223, 229, 235, 246, 255, 264, 271, 276, 282, 288] (wI 0) = 116 := by decide +kernel
  simp (disch := omega) only [en400, e400_0, e400_1, e400_116, e400_117, e400_118, ↓reduceIte, Bool.false_eq_true, not_false_eq_true, not_true_eq_false, Nat.reduceLeDiff, Nat.reduceAdd, Nat.reduceEqDiff, Int.reduceToNat, Int.toNat_natCast, iB0, iB1, ru_klI, ru_klR, ru_klF, ru_klJ, ru_kl0, ru_cs0, ru_csI, ru_csR, ru_csF, ru_csJ, wI_add, wI_sub, wI_mul, wI_lt, wI_le, wI_inj, ru_fdE, ru_fdN, ru_iaN, ru_baN, ru_laN, ru_qaN, ru_pfN, ru_isN, ru_bsN, ru_jsN, ru_qsN, ru_set2, Nat.add_right_cancel_iff, if_true, if_false, ite_self, Int.reduceEq, and_self, Int.add_neg_cancel_right, Int.add_zero, Int.zero_add, s, h]

theorem t400_1 {a b c : Int32} {X G : am_H} {E : Nat} (h : ru_ev z 167 [.ref 1000, .int a, .int b] X = some (.inr E, G)) : ru_ev z 400 [.ref 1000, .int (wI 1), .int a, .int b, .int c] X = some (.inr E, G) := by
  have s : am_sw 1 294 0 24 #[115, 121, 128, 135, 142, 151, 158, 168, 174, 181, 187, 194, 201, 210, 217, 223, 229, 235, 246, 255, 264, 271, 276, 282, 288] (wI 1) = 122 := by decide +kernel
  simp (disch := omega) only [en400, e400_0, e400_1, e400_122, e400_123, e400_124, e400_125, ↓reduceIte, Bool.false_eq_true, not_false_eq_true, not_true_eq_false, Nat.reduceLeDiff, Nat.reduceAdd, Nat.reduceEqDiff, Int.reduceToNat, Int.toNat_natCast, iB0, iB1, ru_klI, ru_klR, ru_klF, ru_klJ, ru_kl0, ru_cs0, ru_csI, ru_csR, ru_csF, ru_csJ, wI_add, wI_sub, wI_mul, wI_lt, wI_le, wI_inj, ru_fdE, ru_fdN, ru_iaN, ru_baN, ru_laN, ru_qaN, ru_pfN, ru_isN, ru_bsN, ru_jsN, ru_qsN, ru_set2, Nat.add_right_cancel_iff, if_true, if_false, ite_self, Int.reduceEq, and_self, Int.add_neg_cancel_right, Int.add_zero, Int.zero_add, s, h]

theorem t400_2 {a b c : Int32} {X G : am_H} {E : Nat} (h : ru_ev z 178 [.ref 1000, .int a, .int b] X = some (.inr E, G)) : ru_ev z 400 [.ref 1000, .int (wI 2), .int a, .int b, .int c] X = some (.inr E, G) := by
  have s : am_sw 1 294 0 24 #[115, 121, 128, 135, 142, 151, 158, 168, 174, 181, 187, 194, 201, 210, 217, 223, 229, 235, 246, 255, 264, 271, 276, 282, 288] (wI 2) = 129 := by decide +kernel
  simp (disch := omega) only [en400, e400_0, e400_1, e400_129, e400_130, e400_131, e400_132, ↓reduceIte, Bool.false_eq_true, not_false_eq_true, not_true_eq_false, Nat.reduceLeDiff, Nat.reduceAdd, Nat.reduceEqDiff, Int.reduceToNat, Int.toNat_natCast, iB0, iB1, ru_klI, ru_klR, ru_klF, ru_klJ, ru_kl0, ru_cs0, ru_csI, ru_csR, ru_csF, ru_csJ, wI_add, wI_sub, wI_mul, wI_lt, wI_le, wI_inj, ru_fdE, ru_fdN, ru_iaN, ru_baN, ru_laN, ru_qaN, ru_pfN, ru_isN, ru_bsN, ru_jsN, ru_qsN, ru_set2, Nat.add_right_cancel_iff, if_true, if_false, ite_self, Int.reduceEq, and_self, Int.add_neg_cancel_right, Int.add_zero, Int.zero_add, s, h]

theorem t400_3 {a b c : Int32} {X G : am_H} {E : Nat} (h : ru_ev z 190 [.ref 1000, .int a, .int b] X = some (.inr E, G)) : ru_ev z 400 [.ref 1000, .int (wI 3), .int a, .int b, .int c] X = some (.inr E, G) := by
  have s : am_sw 1 294 0 24 #[115, 121, 128, 135, 142, 151, 158, 168, 174, 181, 187, 194, 201, 210, 217, 223, 229, 235, 246, 255, 264, 271, 276, 282, 288] (wI 3) = 136 := by decide +kernel
  simp (disch := omega) only [en400, e400_0, e400_1, e400_136, e400_137, e400_138, e400_139, ↓reduceIte, Bool.false_eq_true, not_false_eq_true, not_true_eq_false, Nat.reduceLeDiff, Nat.reduceAdd, Nat.reduceEqDiff, Int.reduceToNat, Int.toNat_natCast, iB0, iB1, ru_klI, ru_klR, ru_klF, ru_klJ, ru_kl0, ru_cs0, ru_csI, ru_csR, ru_csF, ru_csJ, wI_add, wI_sub, wI_mul, wI_lt, wI_le, wI_inj, ru_fdE, ru_fdN, ru_iaN, ru_baN, ru_laN, ru_qaN, ru_pfN, ru_isN, ru_bsN, ru_jsN, ru_qsN, ru_set2, Nat.add_right_cancel_iff, if_true, if_false, ite_self, Int.reduceEq, and_self, Int.add_neg_cancel_right, Int.add_zero, Int.zero_add, s, h]

theorem t400_8 {a b c : Int32} {X G : am_H} {E : Nat} (h : ru_ev z 224 [.ref 1000, .int a, .int b] X = some (.inr E, G)) : ru_ev z 400 [.ref 1000, .int (wI 8), .int a, .int b, .int c] X = some (.inr E, G) := by
  have s : am_sw 1 294 0 24 #[115, 121, 128, 135, 142, 151, 158, 168, 174, 181, 187, 194, 201, 210, 217, 223, 229, 235, 246, 255, 264, 271, 276, 282, 288] (wI 8) = 175 := by decide +kernel
  simp (disch := omega) only [en400, e400_0, e400_1, e400_175, e400_176, e400_177, e400_178, ↓reduceIte, Bool.false_eq_true, not_false_eq_true, not_true_eq_false, Nat.reduceLeDiff, Nat.reduceAdd, Nat.reduceEqDiff, Int.reduceToNat, Int.toNat_natCast, iB0, iB1, ru_klI, ru_klR, ru_klF, ru_klJ, ru_kl0, ru_cs0, ru_csI, ru_csR, ru_csF, ru_csJ, wI_add, wI_sub, wI_mul, wI_lt, wI_le, wI_inj, ru_fdE, ru_fdN, ru_iaN, ru_baN, ru_laN, ru_qaN, ru_pfN, ru_isN, ru_bsN, ru_jsN, ru_qsN, ru_set2, Nat.add_right_cancel_iff, if_true, if_false, ite_self, Int.reduceEq, and_self, Int.add_neg_cancel_right, Int.add_zero, Int.zero_add, s, h]

theorem t400_14 {a b c : Int32} {X G : am_H} {E : Nat} (h : ru_ev z 299 [.ref 1000, .int a] X = some (.inr E, G)) : ru_ev z 400 [.ref 1000, .int (wI 14), .int a, .int b, .int c] X = some (.inr E, G) := by
  have s : am_sw 1 294 0 24 #[115, 121, 128, 135, 142, 151, 158, 168, 174, 181, 187, 194, 201, 210, 217, 223, 229, 235, 246, 255, 264, 271, 276, 282, 288] (wI 14) = 218 := by decide +kernel
  simp (disch := omega) only [en400, e400_0, e400_1, e400_218, e400_219, e400_220, ↓reduceIte, Bool.false_eq_true, not_false_eq_true, not_true_eq_false, Nat.reduceLeDiff, Nat.reduceAdd, Nat.reduceEqDiff, Int.reduceToNat, Int.toNat_natCast, iB0, iB1, ru_klI, ru_klR, ru_klF, ru_klJ, ru_kl0, ru_cs0, ru_csI, ru_csR, ru_csF, ru_csJ, wI_add, wI_sub, wI_mul, wI_lt, wI_le, wI_inj, ru_fdE, ru_fdN, ru_iaN, ru_baN, ru_laN, ru_qaN, ru_pfN, ru_isN, ru_bsN, ru_jsN, ru_qsN, ru_set2, Nat.add_right_cancel_iff, if_true, if_false, ite_self, Int.reduceEq, and_self, Int.add_neg_cancel_right, Int.add_zero, Int.zero_add, s, h]

theorem t400_16 {a b c : Int32} {X G : am_H} {E : Nat} (h : ru_ev z 342 [.ref 1000, .int a] X = some (.inr E, G)) : ru_ev z 400 [.ref 1000, .int (wI 16), .int a, .int b, .int c] X = some (.inr E, G) := by
  have s : am_sw 1 294 0 24 #[115, 121, 128, 135, 142, 151, 158, 168, 174, 181, 187, 194, 201, 210, 217, 223, 229, 235, 246, 255, 264, 271, 276, 282, 288] (wI 16) = 230 := by decide +kernel
  simp (disch := omega) only [en400, e400_0, e400_1, e400_230, e400_231, e400_232, ↓reduceIte, Bool.false_eq_true, not_false_eq_true, not_true_eq_false, Nat.reduceLeDiff, Nat.reduceAdd, Nat.reduceEqDiff, Int.reduceToNat, Int.toNat_natCast, iB0, iB1, ru_klI, ru_klR, ru_klF, ru_klJ, ru_kl0, ru_cs0, ru_csI, ru_csR, ru_csF, ru_csJ, wI_add, wI_sub, wI_mul, wI_lt, wI_le, wI_inj, ru_fdE, ru_fdN, ru_iaN, ru_baN, ru_laN, ru_qaN, ru_pfN, ru_isN, ru_bsN, ru_jsN, ru_qsN, ru_set2, Nat.add_right_cancel_iff, if_true, if_false, ite_self, Int.reduceEq, and_self, Int.add_neg_cancel_right, Int.add_zero, Int.zero_add, s, h]

theorem t400_17 {a b c : Int32} {X G : am_H} {E : Nat} (h : ru_ev z 347 [.ref 1000, .int a, .int b, .int (wI 0), .int c, .int (wI 0)] X = some (.inr E, G)) : ru_ev z 400 [.ref 1000, .int (wI 17), .int a, .int b, .int c] X = some (.inr E, G) := by
  have s : am_sw 1 294 0 24 #[115, 121, 128, 135, 142, 151, 158, 168, 174, 181, 187, 194, 201, 210, 217, 223, 229, 235, 246, 255, 264, 271, 276, 282, 288] (wI 17) = 236 := by decide +kernel
  simp (disch := omega) only [en400, e400_0, e400_1, e400_236, e400_237, e400_238, e400_239, e400_240, e400_242, e400_243, ↓reduceIte, Bool.false_eq_true, not_false_eq_true, not_true_eq_false, Nat.reduceLeDiff, Nat.reduceAdd, Nat.reduceEqDiff, Int.reduceToNat, Int.toNat_natCast, iB0, iB1, ru_klI, ru_klR, ru_klF, ru_klJ, ru_kl0, ru_cs0, ru_csI, ru_csR, ru_csF, ru_csJ, wI_add, wI_sub, wI_mul, wI_lt, wI_le, wI_inj, ru_fdE, ru_fdN, ru_iaN, ru_baN, ru_laN, ru_qaN, ru_pfN, ru_isN, ru_bsN, ru_jsN, ru_qsN, ru_set2, Nat.add_right_cancel_iff, if_true, if_false, ite_self, Int.reduceEq, and_self, Int.add_neg_cancel_right, Int.add_zero, Int.zero_add, s, h]

theorem t400_18 {a b c : Int32} {X G : am_H} {E : Nat} (h : ru_ev z 361 [.ref 1000, .int a, .int b, .int c] X = some (.inr E, G)) : ru_ev z 400 [.ref 1000, .int (wI 18), .int a, .int b, .int c] X = some (.inr E, G) := by
  have s : am_sw 1 294 0 24 #[115, 121, 128, 135, 142, 151, 158, 168, 174, 181, 187, 194, 201, 210, 217, 223, 229, 235, 246, 255, 264, 271, 276, 282, 288] (wI 18) = 247 := by decide +kernel
  simp (disch := omega) only [en400, e400_0, e400_1, e400_247, e400_248, e400_249, e400_250, e400_252, ↓reduceIte, Bool.false_eq_true, not_false_eq_true, not_true_eq_false, Nat.reduceLeDiff, Nat.reduceAdd, Nat.reduceEqDiff, Int.reduceToNat, Int.toNat_natCast, iB0, iB1, ru_klI, ru_klR, ru_klF, ru_klJ, ru_kl0, ru_cs0, ru_csI, ru_csR, ru_csF, ru_csJ, wI_add, wI_sub, wI_mul, wI_lt, wI_le, wI_inj, ru_fdE, ru_fdN, ru_iaN, ru_baN, ru_laN, ru_qaN, ru_pfN, ru_isN, ru_bsN, ru_jsN, ru_qsN, ru_set2, Nat.add_right_cancel_iff, if_true, if_false, ite_self, Int.reduceEq, and_self, Int.add_neg_cancel_right, Int.add_zero, Int.zero_add, s, h]

theorem t400_19 {a b c : Int32} {X G : am_H} {E : Nat} (h : ru_ev z 364 [.ref 1000, .int a, .int b, .int c] X = some (.inr E, G)) : ru_ev z 400 [.ref 1000, .int (wI 19), .int a, .int b, .int c] X = some (.inr E, G) := by
  have s : am_sw 1 294 0 24 #[115, 121, 128, 135, 142, 151, 158, 168, 174, 181, 187, 194, 201, 210, 217, 223, 229, 235, 246, 255, 264, 271, 276, 282, 288] (wI 19) = 256 := by decide +kernel
  simp (disch := omega) only [en400, e400_0, e400_1, e400_256, e400_257, e400_258, e400_259, e400_261, ↓reduceIte, Bool.false_eq_true, not_false_eq_true, not_true_eq_false, Nat.reduceLeDiff, Nat.reduceAdd, Nat.reduceEqDiff, Int.reduceToNat, Int.toNat_natCast, iB0, iB1, ru_klI, ru_klR, ru_klF, ru_klJ, ru_kl0, ru_cs0, ru_csI, ru_csR, ru_csF, ru_csJ, wI_add, wI_sub, wI_mul, wI_lt, wI_le, wI_inj, ru_fdE, ru_fdN, ru_iaN, ru_baN, ru_laN, ru_qaN, ru_pfN, ru_isN, ru_bsN, ru_jsN, ru_qsN, ru_set2, Nat.add_right_cancel_iff, if_true, if_false, ite_self, Int.reduceEq, and_self, Int.add_neg_cancel_right, Int.add_zero, Int.zero_add, s, h]

theorem t400_20 {a b c : Int32} {X G : am_H} {E : Nat} (h : ru_ev z 367 [.ref 1000, .int a, .int b] X = some (.inr E, G)) : ru_ev z 400 [.ref 1000, .int (wI 20), .int a, .int b, .int c] X = some (.inr E, G) := by
  have s : am_sw 1 294 0 24 #[115, 121, 128, 135, 142, 151, 158, 168, 174, 181, 187, 194, 201, 210, 217, 223, 229, 235, 246, 255, 264, 271, 276, 282, 288] (wI 20) = 265 := by decide +kernel
  simp (disch := omega) only [en400, e400_0, e400_1, e400_265, e400_266, e400_267, e400_268, ↓reduceIte, Bool.false_eq_true, not_false_eq_true, not_true_eq_false, Nat.reduceLeDiff, Nat.reduceAdd, Nat.reduceEqDiff, Int.reduceToNat, Int.toNat_natCast, iB0, iB1, ru_klI, ru_klR, ru_klF, ru_klJ, ru_kl0, ru_cs0, ru_csI, ru_csR, ru_csF, ru_csJ, wI_add, wI_sub, wI_mul, wI_lt, wI_le, wI_inj, ru_fdE, ru_fdN, ru_iaN, ru_baN, ru_laN, ru_qaN, ru_pfN, ru_isN, ru_bsN, ru_jsN, ru_qsN, ru_set2, Nat.add_right_cancel_iff, if_true, if_false, ite_self, Int.reduceEq, and_self, Int.add_neg_cancel_right, Int.add_zero, Int.zero_add, s, h]

theorem t400_21 {a b c : Int32} {X G : am_H} {E : Nat} (h : ru_ev z 371 [.ref 1000] X = some (.inr E, G)) : ru_ev z 400 [.ref 1000, .int (wI 21), .int a, .int b, .int c] X = some (.inr E, G) := by
  have s : am_sw 1 294 0 24 #[115, 121, 128, 135, 142, 151, 158, 168, 174, 181, 187, 194, 201, 210, 217, 223, 229, 235, 246, 255, 264, 271, 276, 282, 288] (wI 21) = 272 := by decide +kernel
  simp (disch := omega) only [en400, e400_0, e400_1, e400_272, e400_273, ↓reduceIte, Bool.false_eq_true, not_false_eq_true, not_true_eq_false, Nat.reduceLeDiff, Nat.reduceAdd, Nat.reduceEqDiff, Int.reduceToNat, Int.toNat_natCast, iB0, iB1, ru_klI, ru_klR, ru_klF, ru_klJ, ru_kl0, ru_cs0, ru_csI, ru_csR, ru_csF, ru_csJ, wI_add, wI_sub, wI_mul, wI_lt, wI_le, wI_inj, ru_fdE, ru_fdN, ru_iaN, ru_baN, ru_laN, ru_qaN, ru_pfN, ru_isN, ru_bsN, ru_jsN, ru_qsN, ru_set2, Nat.add_right_cancel_iff, if_true, if_false, ite_self, Int.reduceEq, and_self, Int.add_neg_cancel_right, Int.add_zero, Int.zero_add, s, h]

theorem t400_25 {a b c : Int32} {X G : am_H} {E : Nat} (h : ru_ev z 77 [.ref 1000, .int a, .int b] X = some (.inr E, G)) : ru_ev z 400 [.ref 1000, .int (wI 25), .int a, .int b, .int c] X = some (.inr E, G) := by
  have s : am_sw 1 294 0 24 #[115, 121, 128, 135, 142, 151, 158, 168, 174, 181, 187, 194, 201, 210, 217, 223, 229, 235, 246, 255, 264, 271, 276, 282, 288] (wI 25) = 295 := by decide +kernel
  simp (disch := omega) only [en400, e400_0, e400_1, e400_295, e400_296, e400_297, e400_298, ↓reduceIte, Bool.false_eq_true, not_false_eq_true, not_true_eq_false, Nat.reduceLeDiff, Nat.reduceAdd, Nat.reduceEqDiff, Int.reduceToNat, Int.toNat_natCast, iB0, iB1, ru_klI, ru_klR, ru_klF, ru_klJ, ru_kl0, ru_cs0, ru_csI, ru_csR, ru_csF, ru_csJ, wI_add, wI_sub, wI_mul, wI_lt, wI_le, wI_inj, ru_fdE, ru_fdN, ru_iaN, ru_baN, ru_laN, ru_qaN, ru_pfN, ru_isN, ru_bsN, ru_jsN, ru_qsN, ru_set2, Nat.add_right_cancel_iff, if_true, if_false, ite_self, Int.reduceEq, and_self, Int.add_neg_cancel_right, Int.add_zero, Int.zero_add, s, h]
end THR
section C77E
variable {z : Bool} {C : tCl} {gap : Int} {N P : Nat} {F L : Nat → List Nat} {Q : Nat → tPh}
/-- nothing to read -/
theorem f90e {C : tCl} {n R nm : Nat} {h : am_H} {S : tRd} (hR : 1315 ≤ R) (hst : strs h) (ht : tke C n) : ru_ev z 90 [.ref R] (clPut (rdH h R nm S) C) = some (.inr 2, clPut (thr (rdH h R nm S)) (upI (upI C 1001 2 1) 1001 3 (C.1 1001 5))) := by
  have hs2 := strs_rd (nm := nm) (S := S) hR hst
  have d0 : ((0 : Int) = 0) = True := eq_true rfl
  have d2 : ((1 : Int) = 0) = False := eq_false (by decide)
  have x18 := fw28e (z := z) hs2 (i := 18) (by decide) (by decide) ht
  have x23 := fw28e (z := z) hs2 (i := 23) (by decide) (by decide) ht
  have x24 := fw28e (z := z) hs2 (i := 24) (by decide) (by decide) ht
  have x25 := fw28e (z := z) hs2 (i := 25) (by decide) (by decide) ht
  have x26 := fw28e (z := z) hs2 (i := 26) (by decide) (by decide) ht
  have y := c36 (z := z) (h := rdH h R nm S) (C := C) (b := 0) (Or.inl rfl) (c := 1)
  rw [if_neg (by decide)] at y
  have k91 : ru_ev z 91 [.ref R] (clPut (rdH h R nm S) C) = some (.inr 2, clPut (thr (rdH h R nm S)) (upI (upI C 1001 2 1) 1001 3 (C.1 1001 5))) := by
    simp (disch := omega) only [en91, e91_0, e91_1, e91_4, e91_6, e91_9, e91_12, e91_13, e91_16, e91_17, e91_20, e91_23, e91_24, e91_27, e91_29, e91_32, e91_35, e91_36, e91_39, e91_40, e91_43, e91_46, e91_47, e91_50, e91_52, e91_55, e91_58, e91_59, e91_62, e91_65, e91_66, e91_69, e91_71, e91_74, e91_77, e91_78, e91_81, e91_84, e91_85, e91_88, e91_89, e91_92, e91_94, e91_97, e91_98, e91_101, e91_102, e91_105, ↓reduceIte, Bool.false_eq_true, not_false_eq_true, not_true_eq_false, Nat.reduceLeDiff, Nat.reduceAdd, Nat.reduceEqDiff, Int.reduceToNat, Int.toNat_natCast, iB0, iB1, ru_klI, ru_klR, ru_klF, ru_klJ, ru_kl0, ru_cs0, ru_csI, ru_csR, ru_csF, ru_csJ, wI_add, wI_sub, wI_mul, wI_lt, wI_le, wI_inj, ru_fdE, ru_fdN, ru_iaN, ru_baN, ru_laN, ru_qaN, ru_pfN, ru_isN, ru_bsN, ru_jsN, ru_qsN, ru_set2, Nat.add_right_cancel_iff, if_true, if_false, ite_self, Int.reduceEq, and_self, Int.add_neg_cancel_right, Int.add_zero, Int.zero_add, Nat.reduceAdd, rd_e hR, rd_f0 hR, d0, d2, x18, x23, x24, x25, x26, y]
  simp (disch := omega) only [en90, e90_0, e90_1, ↓reduceIte, Bool.false_eq_true, not_false_eq_true, not_true_eq_false, Nat.reduceLeDiff, Nat.reduceAdd, Nat.reduceEqDiff, Int.reduceToNat, Int.toNat_natCast, iB0, iB1, ru_klI, ru_klR, ru_klF, ru_klJ, ru_kl0, ru_cs0, ru_csI, ru_csR, ru_csF, ru_csJ, wI_add, wI_sub, wI_mul, wI_lt, wI_le, wI_inj, ru_fdE, ru_fdN, ru_iaN, ru_baN, ru_laN, ru_qaN, ru_pfN, ru_isN, ru_bsN, ru_jsN, ru_qsN, ru_set2, Nat.add_right_cancel_iff, if_true, if_false, ite_self, Int.reduceEq, and_self, Int.add_neg_cancel_right, Int.add_zero, Int.zero_add, rd_e hR, k91]
theorem c77e (hI : yqI C gap N F L) (hP : ypI C P Q) {f : Nat} (hf : f < P) {k : Nat} (hb1 : C.1 1001 1 = (k : Int)) (hk : k ≤ 1200) {H : am_H} (hst : strs H) (hH : 1315 ≤ H.2.1) : ∃ (C' : tCl) (H' : am_H), ru_ev z 77 [.ref 1000, .int (wI f), .int (wI 0)] (clPut H C) = some (.inr 2, clPut H' C') ∧ agX H H' 4 39 ∧ yqI C' gap N F L ∧ ypI C' P Q ∧ C'.1 1001 1 = 0 ∧ C'.1 1001 2 = 1 ∧ C'.1 1001 3 = 0 := by
  obtain ⟨E, D, hEs, pokE, he2, hE65, hcE, hcJ, hcR, hcB, hx, hx6, run⟩ := c77s (z := z) (H := H) hI hP hf (l := 0) hb1 (by omega) (fun i hi => by omega) hH
  obtain ⟨hR, hiC1, hA, hS, hG⟩ := id hI
  have hf5 : f < 5 := by have := hP.2.1; omega
  have hpo : poR E 0 0 [] := ⟨hx 4 (by decide), hx6, by omega, fun i hi => by omega, rfl, fun i hi => absurd hi (Nat.not_lt_zero _)⟩
  obtain ⟨D2, d1, d2, d3⟩ := av_e (z := z) hpo spK_0
  have eD : clPut (rdH (H.1, H.2.1 + 3, H.2.2 + 33) H.2.1 (alb C + 1) (0, 0, 0, fun _ => 0, fun _ => 0)) D = clPut (rdH (H.1, H.2.1 + 3, H.2.2 + 33) H.2.1 (alb C + 1) (0, 0, 0, fun _ => 0, fun _ => 0)) D2 := by
    have k := (hEs (rdH (H.1, H.2.1 + 3, H.2.2 + 33) H.2.1 (alb C + 1) (0, 0, 0, fun _ => 0, fun _ => 0))).symm.trans (d1 _)
    exact (Prod.mk.inj (Option.some.inj k)).2
  have s0 : D2.1 1001 5 = 0 := by
    obtain ⟨-, -, -, ⟨s, s1, s2⟩, -⟩ := d2
    rw [s2]; omega
  have k90 := f90e (z := z) (C := D2) (n := 0) (R := H.2.1) (nm := alb C + 1) (h := (H.1, H.2.1 + 3, H.2.2 + 33)) (S := (0, 0, 0, fun _ => 0, fun _ => 0)) hH hst d2
  rw [s0] at k90
  have k77 := ph_e77 (z := z) (n := f) (C := C) (l1 := some (.int (wI f))) (l2 := some (.int (wI 0))) k90
  obtain ⟨C3, hC3⟩ : ∃ C3, C3 = upI (upI D2 1001 2 1) 1001 3 0 := ⟨_, rfl⟩
  have x1 : ∀ q, q ≠ 1001 → C3.1 q = D2.1 q := fun q hq => by rw [hC3, upI_n hq, upI_n hq]
  have x2 : C3.2 = D2.2 := by rw [hC3]; rfl
  have h65 : cph C3 1065 = cph E 1065 := cph_eq (by rw [x1 _ (by decide), d3.1 _ (by decide)]) (fun c hc => by rw [x2, d3.2.2.1])
  obtain ⟨v1, v2, v3⟩ := yc_fr (C' := C3) hI (funext fun j => by rw [x2, d3.2.2.2.2 _ _ (by omega), hcR _ _ (by decide)]) (funext fun j => by rw [x2, d3.2.2.2.2 _ _ (by omega), hcR _ _ (by decide)]) (fun x x1' _ x3 _ x5 => by rw [x1 x x1', d3.1 x x1', hcE x x1' x5 x3]) (fun x _ _ x3 => by rw [x2, d3.2.2.1, hcB x (by omega)]) (fun q j x1' => by rw [x2, d3.2.2.2.1 q j (by omega), hcJ q j x1']) (by rw [h65]; exact hE65)
  refine ⟨C3, thr (rdH (H.1, H.2.1 + 3, H.2.2 + 33) H.2.1 (alb C + 1) (0, 0, 0, fun _ => 0, fun _ => 0)), ?_, ?_, v1, v2 P Q hP, ?_, by rw [hC3]; rfl, by rw [hC3]; rfl⟩
  · rw [hC3, ← k77, ← eD]
    exact run
  · refine ⟨fun q hq => ?_, by show H.2.1 ≤ H.2.1 + 3 + 1; omega, by show H.2.1 + 3 + 1 ≤ H.2.1 + 4; omega, by show H.2.2 + 33 + 6 ≤ H.2.2 + 39; omega⟩
    show (rdH (H.1, H.2.1 + 3, H.2.2 + 33) H.2.1 (alb C + 1) (0, 0, 0, fun _ => 0, fun _ => 0)).1 q = H.1 q
    rw [rdH_o (by omega)]
  · rw [hC3]
    show D2.1 1001 1 = 0
    rw [d3.2.1 1 (by decide), hx 1 (by decide)]
    rfl
end C77E
