/-! ===== the smallest rectangle round some people, 2 ===== -/
theorem tgC_m {x : Int32} {n : Nat} (hn : n < 4096) (h : x &&& (wI n ^^^ wI (-1)) = wI 0) : ∃ m : Nat, x = wI m ∧ m < 4096 ∧ ∀ k, m.testBit k = true → n.testBit k = true := by
  have h1 : x.toBitVec &&& (BitVec.ofNat 32 n ^^^ BitVec.allOnes 32) = 0#32 := by
    have e1 : (wI (n : Int)).toBitVec = BitVec.ofNat 32 n := by rw [← wI_nI]; rfl
    have e2 : (wI (-1)).toBitVec = BitVec.allOnes 32 := by decide +kernel
    have e3 : (wI 0).toBitVec = 0#32 := by decide +kernel
    rw [← e1, ← e2, ← e3, ← h]
    rfl
  have hb : ∀ i, i < 32 → x.toBitVec.getLsbD i = true → n.testBit i = true := by
    intro i hi hx
    have h2 := congrArg (fun v => BitVec.getLsbD v i) h1
    simp only [BitVec.getLsbD_and, BitVec.getLsbD_xor, BitVec.getLsbD_allOnes, BitVec.getLsbD_ofNat, hi, decide_true, Bool.true_and, hx, BitVec.getLsbD_zero] at h2
    simpa using h2
  refine ⟨x.toBitVec.toNat, ?_, ?_, ?_⟩
  · have hlt : x.toBitVec.toNat < 4096 := by
      apply Nat.lt_pow_two_of_testBit (n := 12)
      intro i hi
      by_cases h32 : i < 32
      · apply Bool.eq_false_iff.mpr
        intro hx
        have := hb i h32 hx
        rw [Nat.testBit_lt_two_pow (Nat.lt_of_lt_of_le hn (Nat.pow_le_pow_right (n := 2) (by decide) hi))] at this
        exact absurd this (by decide)
      · exact Nat.testBit_lt_two_pow (Nat.lt_of_lt_of_le x.toBitVec.isLt (Nat.pow_le_pow_right (by decide) (by omega)))
    rw [← wI_nI]
    apply Int32.toBitVec_inj.mp
    show x.toBitVec = BitVec.ofNat 32 x.toBitVec.toNat
    rw [BitVec.ofNat_toNat, BitVec.setWidth_eq]
  · apply Nat.lt_pow_two_of_testBit (n := 12)
    intro i hi
    by_cases h32 : i < 32
    · apply Bool.eq_false_iff.mpr
      intro hx
      have := hb i h32 hx
      rw [Nat.testBit_lt_two_pow (Nat.lt_of_lt_of_le hn (Nat.pow_le_pow_right (n := 2) (by decide) hi))] at this
      exact absurd this (by decide)
    · exact Nat.testBit_lt_two_pow (Nat.lt_of_lt_of_le x.toBitVec.isLt (Nat.pow_le_pow_right (by decide) (by omega)))
  · intro k hk
    by_cases h32 : k < 32
    · exact hb k h32 hk
    · rw [Nat.testBit_lt_two_pow (Nat.lt_of_lt_of_le x.toBitVec.isLt (Nat.pow_le_pow_right (by decide) (by omega)))] at hk
      exact absurd hk (by decide)
section TG2
variable {z : Bool} {h : am_H} {M : tMd}
theorem m291 {a : Nat} {q : tPh} (hp : phAt h a q) (hr : phR q) {m : Nat} (hm : m < 4096) {w : Int} (hw : w = 0 ∨ w = 1 ∨ w = 2 ∨ w = 3) : ru_ev z 291 [.ref a, .int (wI m), .int (wI w)] h = some (.inl (some (.int (wI (tgF (decide (w < 2)) m.testBit (tgV q w) (if w < 2 then 1000 else 0) (q.1 7).toNat)))), h) := by
  have s := phR_s hr
  have key := m291l (z := z) hp hr hm hw (i0 := if w < 2 then 1000 else 0) (by split <;> omega) (n := (q.1 7).toNat) (by omega) (q.1 7).toNat 0 (by omega) none
  rcases hw with rfl | rfl | rfl | rfl
  all_goals
    simp only [Int.reduceLT, decide_true, decide_false, Int.reduceEq, or_true, true_or, or_false, false_or, or_self, if_false, if_true] at key ⊢
    simp (disch := omega) only [en291, hp.1, e291_0, e291_1, e291_4, e291_5, e291_6, e291_9, e291_10, e291_13, e291_14, e291_15, e291_16, e291_17, e291_20, e291_21, e291_24, e291_25, e291_27, e291_29, e291_32, e291_35, e291_38, e291_39, e291_41, e291_42, ↓reduceIte, Bool.false_eq_true, not_false_eq_true, not_true_eq_false, Nat.reduceLeDiff, Nat.reduceAdd, Nat.reduceEqDiff, Int.reduceToNat, Int.toNat_natCast, iB0, iB1, ru_klI, ru_klR, ru_klF, ru_klJ, ru_kl0, ru_cs0, ru_csI, ru_csR, ru_csF, ru_csJ, wI_add, wI_sub, wI_mul, wI_lt, wI_le, wI_inj, ru_fdE, ru_fdN, ru_iaN, ru_baN, ru_laN, ru_qaN, ru_pfN, ru_isN, ru_bsN, ru_jsN, ru_qsN, ru_set2, Nat.add_right_cancel_iff, if_true, if_false, ite_self, Int.reduceEq, not_true, not_false_iff, if_true, if_false]
    exact key
theorem p292l {f : Nat} (hf : f < 5) (hr : phR (mph M f)) {m : Nat} (hm : m < 4096) {w : Int} (hw : w = 0 ∨ w = 1 ∨ w = 2 ∨ w = 3) {i0 : Int} (hi : -1 ≤ i0 ∧ i0 ≤ 1000000000) {n : Nat} (hn : (mph M f).1 7 = n) : ∀ d k, k + d = n → ∀ l7 : Option Value,
    ru_n z 292 65 [some (.ref 1315), some (.int (wI f)), some (.int (wI m)), some (.int (wI w)), some (.int (wI (tgF (decide (w < 2)) m.testBit (tgV (mph M f) w) i0 k))), some (.int (wI k)), l7] [] (mdPut h M) = some (.inl (some (.int (wI (tgF (decide (w < 2)) m.testBit (tgV (mph M f) w) i0 n)))), mdPut h M) := by
  have s := phR_s hr
  intro d
  induction d with
  | zero =>
    intro k hk l7
    obtain rfl : k = n := by omega
    have c : ((mph M f).1 7 ≤ (k : Int)) = True := eq_true (by omega)
    simp (disch := omega) only [e292_0, e292_1, e292_2, e292_5, e292_8, e292_9, e292_10, e292_13, e292_14, e292_15, e292_16, e292_19, e292_20, e292_21, e292_22, e292_25, e292_26, e292_27, e292_28, e292_31, e292_34, e292_35, e292_38, e292_39, e292_40, e292_43, e292_46, e292_47, e292_48, e292_49, e292_50, e292_53, e292_56, e292_59, e292_60, e292_62, e292_63, e292_65, e292_67, e292_68, e292_69, e292_72, e292_75, e292_76, e292_77, e292_78, e292_81, e292_82, e292_83, e292_85, e292_88, e292_91, e292_92, e292_93, e292_95, e292_98, e292_100, e292_101, e292_103, e292_104, e292_105, e292_106, e292_107, e292_110, e292_111, e292_112, e292_115, e292_117, e292_119, e292_122, e292_125, e292_127, e292_129, e292_132, e292_134, e292_136, e292_139, e292_142, e292_144, ↓reduceIte, Bool.false_eq_true, not_false_eq_true, not_true_eq_false, Nat.reduceLeDiff, Nat.reduceAdd, Nat.reduceEqDiff, Int.reduceToNat, Int.toNat_natCast, iB0, iB1, ru_klI, ru_klR, ru_klF, ru_klJ, ru_kl0, ru_cs0, ru_csI, ru_csR, ru_csF, ru_csJ, wI_add, wI_sub, wI_mul, wI_lt, wI_le, wI_inj, ru_fdE, ru_fdN, ru_iaN, ru_baN, ru_laN, ru_qaN, ru_pfN, ru_isN, ru_bsN, ru_jsN, ru_qsN, ru_set2, Nat.add_right_cancel_iff, if_true, if_false, ite_self, md_e, md_f0, md_s0, md_f1, md_s1, md_f2, md_f3, md_f4, md_s4, md_f5, md_f6, md_f7, md_s7, md_f8, md_s8, md_f9, md_s9, md_f10, md_s10, md_f11, md_s11, md_f12, md_s12, md_f13, md_s13, md_f14, md_f15, md_s15, md_f16, md_s16, md_f17, md_s17, md_f18, md_s18, md_f19, md_f20, md_s20, md_f21, md_f22, md_s22, md_f23, md_f24, md_s24, md_f25, md_s25, md_f26, md_f27, md_f28, md_s28, md_f29, md_s29, md_f30, md_f31, md_f32, md_f33, md_f34, md_s34, md_f35, md_s35, md_f36, md_f37, md_f38, md_s38, md_a0, md_w0, md_a1, md_w1, md_a2, md_w2, md_a3, md_w3, md_a4, md_w4, md_a5, md_w5, md_a6, md_w6, md_a7, md_w7, md_a8, md_w8, md_a9, md_w9, md_a10, md_w10, md_a11, md_w11, md_a12, md_w12, md_a13, md_w13, md_a14, md_w14, md_a15, md_w15, up1_e, up1_n, mdT_1, mdT_n, mdT_2, mdT_T, p122, c]
  | succ d ih =>
    intro k hk l7
    have ih1 := ih (k + 1) (by omega)
    have s2 := shXY_rng hr k
    have hv : ∀ k, -1000 ≤ tgV (mph M f) w k ∧ tgV (mph M f) w k ≤ 1000000000 := by
      intro k
      have := shXY_rng hr k
      unfold tgV
      split <;> omega
    have t1 := tgF_rng (s := decide (w < 2)) (P := m.testBit) (v := tgV (mph M f) w) (i0 := i0) (a := -1000) (b := 1000000000) (by omega) hv k
    simp only [Int.natCast_add, Int.natCast_one] at ih1
    have c : ((mph M f).1 7 ≤ (k : Int)) = False := eq_false (by omega)
    have e5 := p129 (z := z) (h := h) hf (show k < 12 by omega) hr
    have e6 := p127 (z := z) (h := h) (M := M) hf (show k < 12 by omega)
    rw [e292_65]
    by_cases hP : m.testBit k = true
    · generalize ht : tgF (decide (w < 2)) m.testBit (tgV (mph M f) w) i0 k = t at ih1 t1
      rcases hw with rfl | rfl | rfl | rfl
      all_goals
        simp only [tgF, ht, hP, if_true, tgV, Int.reduceLT, decide_true, decide_false, Int.reduceEq, or_true, true_or, or_false, false_or, or_self, if_false, Bool.false_eq_true] at ih1 ⊢
        simp only [Int.reduceLT, decide_true, decide_false] at ht
        try rw [ht] at ih1
        simp (disch := omega) only [e292_0, e292_1, e292_2, e292_5, e292_8, e292_9, e292_10, e292_13, e292_14, e292_15, e292_16, e292_19, e292_20, e292_21, e292_22, e292_25, e292_26, e292_27, e292_28, e292_31, e292_34, e292_35, e292_38, e292_39, e292_40, e292_43, e292_46, e292_47, e292_48, e292_49, e292_50, e292_53, e292_56, e292_59, e292_60, e292_62, e292_63, e292_67, e292_68, e292_69, e292_72, e292_75, e292_76, e292_77, e292_78, e292_81, e292_82, e292_83, e292_85, e292_88, e292_91, e292_92, e292_93, e292_95, e292_98, e292_100, e292_101, e292_103, e292_104, e292_105, e292_106, e292_107, e292_110, e292_111, e292_112, e292_115, e292_117, e292_119, e292_122, e292_125, e292_127, e292_129, e292_132, e292_134, e292_136, e292_139, e292_142, e292_144, ↓reduceIte, Bool.false_eq_true, not_false_eq_true, not_true_eq_false, Nat.reduceLeDiff, Nat.reduceAdd, Nat.reduceEqDiff, Int.reduceToNat, Int.toNat_natCast, iB0, iB1, ru_klI, ru_klR, ru_klF, ru_klJ, ru_kl0, ru_cs0, ru_csI, ru_csR, ru_csF, ru_csJ, wI_add, wI_sub, wI_mul, wI_lt, wI_le, wI_inj, ru_fdE, ru_fdN, ru_iaN, ru_baN, ru_laN, ru_qaN, ru_pfN, ru_isN, ru_bsN, ru_jsN, ru_qsN, ru_set2, Nat.add_right_cancel_iff, if_true, if_false, ite_self, md_e, md_f0, md_s0, md_f1, md_s1, md_f2, md_f3, md_f4, md_s4, md_f5, md_f6, md_f7, md_s7, md_f8, md_s8, md_f9, md_s9, md_f10, md_s10, md_f11, md_s11, md_f12, md_s12, md_f13, md_s13, md_f14, md_f15, md_s15, md_f16, md_s16, md_f17, md_s17, md_f18, md_s18, md_f19, md_f20, md_s20, md_f21, md_f22, md_s22, md_f23, md_f24, md_s24, md_f25, md_s25, md_f26, md_f27, md_f28, md_s28, md_f29, md_s29, md_f30, md_f31, md_f32, md_f33, md_f34, md_s34, md_f35, md_s35, md_f36, md_f37, md_f38, md_s38, md_a0, md_w0, md_a1, md_w1, md_a2, md_w2, md_a3, md_w3, md_a4, md_w4, md_a5, md_w5, md_a6, md_w6, md_a7, md_w7, md_a8, md_w8, md_a9, md_w9, md_a10, md_w10, md_a11, md_w11, md_a12, md_w12, md_a13, md_w13, md_a14, md_w14, md_a15, md_w15, up1_e, up1_n, mdT_1, mdT_n, mdT_2, mdT_T, p122, c, e5, e6, wI_bit, Int.toNat_natCast, hP, if_true, if_false, not_true, not_false_iff, Int.reduceEq, Int.reduceMod, Int.reduceLE, wI_ne0, wI_rem]
        split
        · rename_i hc
          simp only [hc, if_true] at ih1
          exact ih1 _
        · rename_i hc
          simp only [hc, if_false] at ih1
          exact ih1 _
    · simp only [tgF, hP, if_false, Bool.false_eq_true] at ih1
      rcases hw with rfl | rfl | rfl | rfl
      all_goals
        simp (disch := omega) only [e292_0, e292_1, e292_2, e292_5, e292_8, e292_9, e292_10, e292_13, e292_14, e292_15, e292_16, e292_19, e292_20, e292_21, e292_22, e292_25, e292_26, e292_27, e292_28, e292_31, e292_34, e292_35, e292_38, e292_39, e292_40, e292_43, e292_46, e292_47, e292_48, e292_49, e292_50, e292_53, e292_56, e292_59, e292_60, e292_62, e292_63, e292_67, e292_68, e292_69, e292_72, e292_75, e292_76, e292_77, e292_78, e292_81, e292_82, e292_83, e292_85, e292_88, e292_91, e292_92, e292_93, e292_95, e292_98, e292_100, e292_101, e292_103, e292_104, e292_105, e292_106, e292_107, e292_110, e292_111, e292_112, e292_115, e292_117, e292_119, e292_122, e292_125, e292_127, e292_129, e292_132, e292_134, e292_136, e292_139, e292_142, e292_144, ↓reduceIte, Bool.false_eq_true, not_false_eq_true, not_true_eq_false, Nat.reduceLeDiff, Nat.reduceAdd, Nat.reduceEqDiff, Int.reduceToNat, Int.toNat_natCast, iB0, iB1, ru_klI, ru_klR, ru_klF, ru_klJ, ru_kl0, ru_cs0, ru_csI, ru_csR, ru_csF, ru_csJ, wI_add, wI_sub, wI_mul, wI_lt, wI_le, wI_inj, ru_fdE, ru_fdN, ru_iaN, ru_baN, ru_laN, ru_qaN, ru_pfN, ru_isN, ru_bsN, ru_jsN, ru_qsN, ru_set2, Nat.add_right_cancel_iff, if_true, if_false, ite_self, md_e, md_f0, md_s0, md_f1, md_s1, md_f2, md_f3, md_f4, md_s4, md_f5, md_f6, md_f7, md_s7, md_f8, md_s8, md_f9, md_s9, md_f10, md_s10, md_f11, md_s11, md_f12, md_s12, md_f13, md_s13, md_f14, md_f15, md_s15, md_f16, md_s16, md_f17, md_s17, md_f18, md_s18, md_f19, md_f20, md_s20, md_f21, md_f22, md_s22, md_f23, md_f24, md_s24, md_f25, md_s25, md_f26, md_f27, md_f28, md_s28, md_f29, md_s29, md_f30, md_f31, md_f32, md_f33, md_f34, md_s34, md_f35, md_s35, md_f36, md_f37, md_f38, md_s38, md_a0, md_w0, md_a1, md_w1, md_a2, md_w2, md_a3, md_w3, md_a4, md_w4, md_a5, md_w5, md_a6, md_w6, md_a7, md_w7, md_a8, md_w8, md_a9, md_w9, md_a10, md_w10, md_a11, md_w11, md_a12, md_w12, md_a13, md_w13, md_a14, md_w14, md_a15, md_w15, up1_e, up1_n, mdT_1, mdT_n, mdT_2, mdT_T, p122, c, e5, e6, wI_bit, Int.toNat_natCast, hP, if_false, not_true, not_false_iff, Int.reduceEq, Bool.false_eq_true, Int.reduceMod, wI_ne0, wI_rem]
        exact ih1 _
end TG2
