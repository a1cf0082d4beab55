/-! ===== the law's acts and its end ===== -/
section END
variable {z : Bool} {B : Nat} {n : Nat} {g : Nat → Int32} {F L : Nat → List Nat} {NN P : Nat}
theorem d0l (hk : txK B n) : ∀ (d : Nat) (X : am_H) (A : tLw) (C : tCl) (t : Nat), acI X B A n g t F L C NN P → d ≤ 10 → t + 100 * d ≤ 400000 → ∃ (X' : am_H) (A' : tLw) (C' : tCl) (t' : Nat), acI X' B A' n g t' F L C' NN P ∧ X'.2.1 ≤ X.2.1 + 45100 * d ∧ X'.2.2 ≤ X.2.2 + 140200 * d ∧ ru_n z 0 152 [some (.ref 1), some (.ref B), some (.ref (B + 1)), some (.ref 1000), some (.int (wI d))] [] X = ru_n z 0 182 [some (.ref 1), some (.ref B), some (.ref (B + 1)), some (.ref 1000), some (.int (wI 0))] [] X' := by
  intro d
  induction d with
  | zero =>
    intro X A C t h hd ht
    have d1 : ((0 : Int) ≤ 0) = True := eq_true (by decide)
    refine ⟨X, A, C, t, h, by omega, by omega, ?_⟩
    show ru_n z 0 152 [some (.ref 1), some (.ref B), some (.ref (B + 1)), some (.ref 1000), some (.int (wI 0))] [] X = _
    simp (disch := omega) only [e0_152, e0_154, ↓reduceIte, Bool.false_eq_true, not_false_eq_true, not_true_eq_false, Nat.reduceLeDiff, Nat.reduceAdd, Nat.reduceEqDiff, Int.reduceToNat, Int.toNat_natCast, iB0, iB1, ru_klI, ru_klR, ru_klF, ru_klJ, ru_kl0, ru_cs0, ru_csI, ru_csR, ru_csF, ru_csJ, wI_add, wI_sub, wI_mul, wI_lt, wI_le, wI_inj, ru_fdE, ru_fdN, ru_iaN, ru_baN, ru_laN, ru_qaN, ru_pfN, ru_isN, ru_bsN, ru_jsN, ru_qsN, ru_set2, Nat.add_right_cancel_iff, if_true, if_false, ite_self, Int.reduceEq, and_self, Int.add_neg_cancel_right, Int.add_zero, Int.zero_add, d1]
  | succ d ih =>
    intro X A C t h hd ht
    obtain ⟨X1, ⟨A1, C1, t1, h1, b1, b2, b3⟩, k1⟩ := d412 (z := z) hk h (by omega)
    obtain ⟨X2, C2, h2, c1, c2, k2⟩ := d403 (z := z) hk h1
    obtain ⟨X3, A3, C3, t3, h3, e1, e2, k3⟩ := ih X2 A1 C2 t1 h2 (by omega) (by omega)
    refine ⟨X3, A3, C3, t3, h3, by omega, by omega, ?_⟩
    rw [← k3, e0_152]
    have d1 : (((d + 1 : Nat) : Int) ≤ 0) = False := eq_false (by omega)
    have d2 : ((1 : Int) = 0) = False := eq_false (by decide)
    have dm : ((d + 1 : Nat) : Int) + -1 = (d : Int) := by omega
    simp (disch := omega) only [e0_154, e0_157, e0_158, e0_159, e0_160, e0_163, e0_166, e0_167, e0_168, e0_171, e0_174, e0_175, e0_176, e0_179, ↓reduceIte, Bool.false_eq_true, not_false_eq_true, not_true_eq_false, Nat.reduceLeDiff, Nat.reduceAdd, Nat.reduceEqDiff, Int.reduceToNat, Int.toNat_natCast, iB0, iB1, ru_klI, ru_klR, ru_klF, ru_klJ, ru_kl0, ru_cs0, ru_csI, ru_csR, ru_csF, ru_csJ, wI_add, wI_sub, wI_mul, wI_lt, wI_le, wI_inj, ru_fdE, ru_fdN, ru_iaN, ru_baN, ru_laN, ru_qaN, ru_pfN, ru_isN, ru_bsN, ru_jsN, ru_qsN, ru_set2, Nat.add_right_cancel_iff, if_true, if_false, ite_self, Int.reduceEq, and_self, Int.add_neg_cancel_right, Int.add_zero, Int.zero_add, d1, d2, dm, k1, k2, not_true, not_false_iff]
theorem d0e (hk : txK B n) {X : am_H} {A : tLw} {C : tCl} {t : Nat} (h : acI X B A n g t F L C NN P) {l4 : Option Value} : ∃ X', X'.2.1 ≤ X.2.1 + 30 ∧ X'.2.2 ≤ X.2.2 + 300 ∧ ru_n z 0 182 [some (.ref 1), some (.ref B), some (.ref (B + 1)), some (.ref 1000), l4] [] X = some (.inl (some (.int (wI 1))), X') := by
  have hw := h.2.1
  have yr := hw.2.2.2.2.2.1
  have gap := hw.2.2.2.2.1
  have hP3 := hw.2.2.2.1
  obtain ⟨X1, C1, h1, a1, b1, k1⟩ := th_0 (z := z) hk h
  obtain ⟨X2, C2, h2, a2, b2, k2⟩ := th_2 (z := z) hk h1
  obtain ⟨X3, C3, h3, a3, b3, k3⟩ := th_1 (z := z) hk h2
  obtain ⟨N4, g4, r4, rc, v4, hN4, k404⟩ := d404 (z := z) h3.1.1 yr (f := 0) (by have := h3.2.2.2.1; have := hk.2.1; omega) (by omega) (by omega)
  have x4 := agX_nw2 (X := X3) (r := r4) (g := g4) (N := N4) hN4
  have h4 := ac_new hk h3 x4
  obtain ⟨X5, C5, h5, a5, b5, k5⟩ := th_3 (z := z) hk h4 v4
  obtain ⟨X6, C6, h6, a6, b6, k6⟩ := th_8 (z := z) hk h5
  obtain ⟨X7, C7, h7, a7, b7, k7⟩ := th_17 (z := z) hk h6
  obtain ⟨X8, C8, h8, a8, b8, k8⟩ := th_25 (z := z) hk h7
  obtain ⟨X9, C9, h9, a9, b9, k9⟩ := th_20 (z := z) hk h8
  obtain ⟨X10, C10, h10, a10, b10, k10⟩ := th_19 (z := z) hk h9
  have hf0 : 0 < P := by omega
  obtain ⟨-, -, -, -, rp⟩ := ac_rc h hf0
  have s := phR_s rp
  have z4 := x4.2.2
  have f3 := yl_f3 h.1.1
  have f3x := yl_f3 h10.1.1
  rw [hw.2.2.1] at f3
  obtain ⟨m1, m1'⟩ := ac_m h1 hf0
  obtain ⟨m9, m9'⟩ := ac_m h9 hf0
  obtain ⟨m10, m10'⟩ := ac_m h10 hf0
  have f2 := yl_f2 h5.1.1
  rw [hw.1] at f2
  have f6 := yl_f6 h6.1.1
  have r6 := yl_6 h6.1.1 (f := 0) (by omega)
  have q1 : am_ia X1 (B + 8) (wI 0) = some (wI ((A.2.1 0).1 7)) := m1'
  have q9 : am_ia X9 (B + 8) (wI 0) = some (wI ((A.2.1 0).1 7)) := m9'
  have q10 : am_ia X10 (B + 8) (wI 0) = some (wI ((A.2.1 0).1 7)) := m10'
  have q6 : am_ia X6 (B + 6) (wI 0) = some (wI ((A.2.1 0).1 0)) := r6
  have k404' : ru_ev z 404 [.ref (B + 1), .int (wI 0)] X3 = some (.inl (some (.int (wI rc))), nw2 X3 r4 N4 g4) := k404
  have w1 : wI 1 &&& 1 = wI 1 := by decide +kernel
  have d1 : ((1 : Int) = 0) = False := eq_false (by decide)
  by_cases c : (A.2.1 0).1 7 = 12
  · obtain ⟨X12, C12, h12, a12, b12, k12⟩ := th_18p (z := z) hk h10
    obtain ⟨X13, C13, h13, a13, b13, k13⟩ := d403 (z := z) hk h12
    rw [hw.2.2.1] at f3x
    have dc : ((A.2.1 0).1 7 = 12) = True := eq_true c
    refine ⟨X13, by omega, by omega, ?_⟩
    simp (disch := omega) only [e0_182, e0_183, e0_184, e0_185, e0_188, e0_189, e0_190, e0_193, e0_194, e0_197, e0_198, e0_199, e0_200, e0_201, e0_204, e0_205, e0_206, e0_207, e0_210, e0_211, e0_214, e0_215, e0_216, e0_217, e0_218, e0_219, e0_222, e0_223, e0_226, e0_227, e0_228, e0_229, e0_230, e0_231, e0_234, e0_235, e0_238, e0_239, e0_242, e0_243, e0_245, e0_246, e0_247, e0_250, e0_251, e0_254, e0_255, e0_258, e0_259, e0_261, e0_262, e0_263, e0_266, e0_267, e0_268, e0_269, e0_272, e0_273, e0_274, e0_277, e0_278, e0_281, e0_282, e0_283, e0_284, e0_286, e0_287, e0_288, e0_289, e0_292, e0_293, e0_296, e0_297, e0_299, e0_300, e0_301, e0_302, e0_305, e0_306, e0_309, e0_310, e0_312, e0_313, e0_314, e0_317, e0_318, e0_319, e0_320, e0_323, e0_324, e0_327, e0_328, e0_331, e0_332, e0_333, e0_335, e0_338, e0_339, e0_341, e0_342, e0_343, e0_344, e0_347, e0_348, e0_351, e0_352, e0_354, e0_355, e0_358, e0_359, e0_360, e0_363, e0_364, e0_367, e0_368, e0_369, e0_372, e0_375, e0_376, e0_379, e0_380, ↓reduceIte, Bool.false_eq_true, not_false_eq_true, not_true_eq_false, Nat.reduceLeDiff, Nat.reduceAdd, Nat.reduceEqDiff, Int.reduceToNat, Int.toNat_natCast, iB0, iB1, ru_klI, ru_klR, ru_klF, ru_klJ, ru_kl0, ru_cs0, ru_csI, ru_csR, ru_csF, ru_csJ, wI_add, wI_sub, wI_mul, wI_lt, wI_le, wI_inj, ru_fdE, ru_fdN, ru_iaN, ru_baN, ru_laN, ru_qaN, ru_pfN, ru_isN, ru_bsN, ru_jsN, ru_qsN, ru_set2, Nat.add_right_cancel_iff, if_true, if_false, ite_self, Int.reduceEq, and_self, Int.add_neg_cancel_right, Int.add_zero, Int.zero_add, yl_o h.1.1, yl_o h1.1.1, yl_o h2.1.1, yl_o h3.1.1, yl_o h4.1.1, yl_o h5.1.1, yl_o h6.1.1, yl_o h7.1.1, yl_o h8.1.1, yl_o h9.1.1, yl_o h10.1.1, yl_o h12.1.1, f3, f3x, f2, f6, m1, m9, m10, q1, q9, q10, q6, k404', k1, k2, k3, k5, k6, k7, k8, k9, k10, k12, k13, dc, d1, w1, not_true, not_false_iff]
  · obtain ⟨X11, C11, h11, a11, b11, k11⟩ := th_18 (z := z) hk h10 c
    obtain ⟨X12, C12, h12, a12, b12, k12⟩ := th_18p (z := z) hk h11
    obtain ⟨X13, C13, h13, a13, b13, k13⟩ := d403 (z := z) hk h12
    have f3y := yl_f3 h11.1.1
    rw [hw.2.2.1] at f3y
    have dc : ((A.2.1 0).1 7 = 12) = False := eq_false c
    refine ⟨X13, by omega, by omega, ?_⟩
    simp (disch := omega) only [e0_182, e0_183, e0_184, e0_185, e0_188, e0_189, e0_190, e0_193, e0_194, e0_197, e0_198, e0_199, e0_200, e0_201, e0_204, e0_205, e0_206, e0_207, e0_210, e0_211, e0_214, e0_215, e0_216, e0_217, e0_218, e0_219, e0_222, e0_223, e0_226, e0_227, e0_228, e0_229, e0_230, e0_231, e0_234, e0_235, e0_238, e0_239, e0_242, e0_243, e0_245, e0_246, e0_247, e0_250, e0_251, e0_254, e0_255, e0_258, e0_259, e0_261, e0_262, e0_263, e0_266, e0_267, e0_268, e0_269, e0_272, e0_273, e0_274, e0_277, e0_278, e0_281, e0_282, e0_283, e0_284, e0_286, e0_287, e0_288, e0_289, e0_292, e0_293, e0_296, e0_297, e0_299, e0_300, e0_301, e0_302, e0_305, e0_306, e0_309, e0_310, e0_312, e0_313, e0_314, e0_317, e0_318, e0_319, e0_320, e0_323, e0_324, e0_327, e0_328, e0_331, e0_332, e0_333, e0_335, e0_338, e0_339, e0_341, e0_342, e0_343, e0_344, e0_347, e0_348, e0_351, e0_352, e0_354, e0_355, e0_358, e0_359, e0_360, e0_363, e0_364, e0_367, e0_368, e0_369, e0_372, e0_375, e0_376, e0_379, e0_380, ↓reduceIte, Bool.false_eq_true, not_false_eq_true, not_true_eq_false, Nat.reduceLeDiff, Nat.reduceAdd, Nat.reduceEqDiff, Int.reduceToNat, Int.toNat_natCast, iB0, iB1, ru_klI, ru_klR, ru_klF, ru_klJ, ru_kl0, ru_cs0, ru_csI, ru_csR, ru_csF, ru_csJ, wI_add, wI_sub, wI_mul, wI_lt, wI_le, wI_inj, ru_fdE, ru_fdN, ru_iaN, ru_baN, ru_laN, ru_qaN, ru_pfN, ru_isN, ru_bsN, ru_jsN, ru_qsN, ru_set2, Nat.add_right_cancel_iff, if_true, if_false, ite_self, Int.reduceEq, and_self, Int.add_neg_cancel_right, Int.add_zero, Int.zero_add, yl_o h.1.1, yl_o h1.1.1, yl_o h2.1.1, yl_o h3.1.1, yl_o h4.1.1, yl_o h5.1.1, yl_o h6.1.1, yl_o h7.1.1, yl_o h8.1.1, yl_o h9.1.1, yl_o h10.1.1, yl_o h11.1.1, yl_o h12.1.1, f3, f3y, f2, f6, m1, m9, m10, q1, q9, q10, q6, k404', k1, k2, k3, k5, k6, k7, k8, k9, k10, k11, k12, k13, dc, d1, w1, not_true, not_false_iff]
end END
