/-! ===== copyNames: the reference refuses ===== -/
def rfQ (M : tMd) (f k : Int) : Int := if rfPP M f k = 0 then (if f = k then 3 else 0) else rfPP M f k
section CPY2
variable {z : Bool} {h : am_H} {M : tMd}
theorem p369x (hM : mdR M) {f k : Int} (g : -2147483648 ≤ f ∧ f < 2147483648) (g2 : -2147483648 ≤ k ∧ k < 2147483648) (e : ¬ rfQ M f k = 0) : ru_ev z 369 [.ref 1315, .int (wI f), .int (wI k)] (mdPut h M) = some (.inl (some (.int (wI 0))), mdPut h (mdT M (rfQ M f k))) := by
  have e1 := p246 (z := z) (h := h) hM g g2
  unfold rfQ at e ⊢
  by_cases c : rfPP M f k = 0
  · rw [if_pos c] at e ⊢
    rw [if_pos c, c] at e1
    by_cases c2 : f = k
    · rw [if_pos c2]
      have d1 : (f = k) = True := eq_true c2
      simp (disch := omega) only [en369, e369_0, e369_1, e369_2, e369_3, e369_6, e369_9, e369_10, e369_11, e369_12, e369_15, e369_16, e369_19, e369_20, e369_21, e369_24, e369_27, e369_28, e369_29, e369_30, e369_33, e369_34, e369_35, e369_36, e369_38, e369_40, e369_42, e369_45, e369_46, e369_48, e369_50, e369_52, e369_55, e369_56, e369_57, e369_60, e369_61, e369_62, e369_64, e369_66, e369_69, e369_71, e369_72, e369_73, e369_76, e369_77, e369_78, e369_80, e369_82, e369_85, e369_87, e369_89, e369_90, e369_93, e369_95, e369_96, e369_99, e369_100, e369_101, e369_103, e369_104, e369_107, e369_110, e369_113, e369_114, e369_115, e369_117, e369_118, e369_119, e369_121, e369_122, e369_125, e369_126, e369_127, e369_130, e369_133, e369_136, e369_139, e369_142, e369_145, e369_146, ↓reduceIte, Bool.false_eq_true, not_false_eq_true, not_true_eq_false, Nat.reduceLeDiff, Nat.reduceAdd, Nat.reduceEqDiff, Int.reduceToNat, Int.toNat_natCast, iB0, iB1, ru_klI, ru_klR, ru_klF, ru_klJ, ru_kl0, ru_cs0, ru_csI, ru_csR, ru_csF, ru_csJ, wI_add, wI_sub, wI_mul, wI_lt, wI_le, wI_inj, ru_fdE, ru_fdN, ru_iaN, ru_baN, ru_laN, ru_qaN, ru_pfN, ru_isN, ru_bsN, ru_jsN, ru_qsN, ru_set2, Nat.add_right_cancel_iff, if_true, if_false, ite_self, Int.reduceEq, and_self, Int.add_neg_cancel_right, Int.add_zero, Int.zero_add, md_e, e1, d1, p54, not_true, if_true]
    · rw [if_neg c2] at e; exact absurd rfl e
  · rw [if_neg c]
    rw [if_neg c] at e1
    simp (disch := omega) only [en369, e369_0, e369_1, e369_2, e369_3, e369_6, e369_9, e369_10, e369_11, e369_12, e369_15, e369_16, e369_19, e369_20, e369_21, e369_24, e369_27, e369_28, e369_29, e369_30, e369_33, e369_34, e369_35, e369_36, e369_38, e369_40, e369_42, e369_45, e369_46, e369_48, e369_50, e369_52, e369_55, e369_56, e369_57, e369_60, e369_61, e369_62, e369_64, e369_66, e369_69, e369_71, e369_72, e369_73, e369_76, e369_77, e369_78, e369_80, e369_82, e369_85, e369_87, e369_89, e369_90, e369_93, e369_95, e369_96, e369_99, e369_100, e369_101, e369_103, e369_104, e369_107, e369_110, e369_113, e369_114, e369_115, e369_117, e369_118, e369_119, e369_121, e369_122, e369_125, e369_126, e369_127, e369_130, e369_133, e369_136, e369_139, e369_142, e369_145, e369_146, ↓reduceIte, Bool.false_eq_true, not_false_eq_true, not_true_eq_false, Nat.reduceLeDiff, Nat.reduceAdd, Nat.reduceEqDiff, Int.reduceToNat, Int.toNat_natCast, iB0, iB1, ru_klI, ru_klR, ru_klF, ru_klJ, ru_kl0, ru_cs0, ru_csI, ru_csR, ru_csF, ru_csJ, wI_add, wI_sub, wI_mul, wI_lt, wI_le, wI_inj, ru_fdE, ru_fdN, ru_iaN, ru_baN, ru_laN, ru_qaN, ru_pfN, ru_isN, ru_bsN, ru_jsN, ru_qsN, ru_set2, Nat.add_right_cancel_iff, if_true, if_false, ite_self, Int.reduceEq, and_self, Int.add_neg_cancel_right, Int.add_zero, Int.zero_add, md_e, e1]
end CPY2
