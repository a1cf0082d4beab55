/-! ===== the StringBuilder's operations: a number ===== -/
theorem numT_len (v : Nat) : (numT v).length = if v < 10 then 1 else 2 := by
  unfold numT
  split <;> rfl
section SBN
variable {z : Bool} {H : am_H} {C : tCl} {l : List Nat} {cap : Nat}
theorem k316 (h : sbS H C l cap) (hd : dgI H) {v : Nat} (hv : v ≤ 99) (hc : l.length + (numT v).length ≤ cap) : ∃ f' : Nat → Int, (∀ i, i < l.length + (numT v).length → f' i = (((l ++ numT v).getD i 0 : Nat) : Int)) ∧ ∃ q, ru_ev z 316 [.int (wI v), .int (wI ((l.length + (numT v).length : Nat) : Int)), .ref (C.2.2.2 1258 0)] (clPut H C) = some (.inl (some (.int q)), clPut (am_set H (C.2.2.2 1258 0) (.inl (1, cap, .inl (fun i => wI (f' i))))) C) := by
  obtain ⟨a1, a2, a3, a4, a5, a6, a7, f, a8, a9⟩ := id h
  obtain ⟨⟨fo, o1, o2⟩, ft, t1, t2⟩ := hd
  have e8 : (clPut H C).1 (C.2.2.2 1258 0) = some (.inl (1, cap, .inl (fun i => wI (f i)))) := by rw [clPut_o (by omega)]; exact a8
  have hA : (10 : Nat) ≠ C.2.2.2 1258 0 ∧ (11 : Nat) ≠ C.2.2.2 1258 0 := by omega
  have rd : ∀ j : Int, 0 ≤ j → j ≤ 99 → am_ba (clPut H C) 10 (wI j) = some (wI (48 + j % 10)) := fun j h1 h2 => by
    rw [ru_ba (show (clPut H C).1 10 = some (.inl (11, 100, .inl fo)) by rw [clPut_o (by omega)]; exact o1) (Or.inr (Or.inr rfl)) h1 (by omega) (by omega), o2 _ (by omega), show ((48 + j.toNat % 10 : Nat) : Int) = 48 + j % 10 by omega]
  have hnl := numT_len v
  have d0 : ((v : Int) < 0) = False := eq_false (by omega)
  have d0' : ((0 : Int) ≤ (v : Int)) = True := eq_true (by omega)
  have d1 : (-100 < -(v : Int)) = True := eq_true (by omega)
  have nb : ∀ j : Int, 0 ≤ j → j ≤ 127 → am_nb (wI j) = wI j := fun j h1 h2 => am_nb_s h1 h2
  by_cases c : v < 10
  · rw [if_pos c] at hnl
    rw [hnl] at hc ⊢
    have hw : am_bs (clPut H C) (C.2.2.2 1258 0) (wI (l.length : Nat)) (wI (48 + (v : Int) % 10)) = some (clPut (am_set H (C.2.2.2 1258 0) (.inl (1, cap, .inl (fun i => wI (up1 f l.length (48 + (v : Int) % 10) i))))) C) := by
      rw [ru_bs e8 (by omega) (by omega) (by omega), nb _ (by omega) (by omega), cl_seto (by omega), Int.toNat_natCast]
      have e0 : am_up (fun i => wI (f i)) l.length (wI (48 + (v : Int) % 10)) = fun i => wI (up1 f l.length (48 + (v : Int) % 10) i) := by
        funext j; unfold am_up up1; split <;> rfl
      rw [e0]
    refine ⟨up1 f l.length (48 + (v : Int) % 10), fun i hi => ?_, wI (l.length : Nat), ?_⟩
    · rw [getD_app]
      unfold up1 numT
      rw [if_pos c]
      by_cases ei : i = l.length
      · rw [if_pos ei, if_neg (by omega), ei, Nat.sub_self]
        show (48 : Int) + (v : Int) % 10 = ((48 + v : Nat) : Int)
        omega
      · rw [if_neg ei, if_pos (by omega), a9 i (by omega)]
    · have d2 : (-9 ≤ -(v : Int)) = True := eq_true (by omega)
      rw [show ((l.length + 1 : Nat) : Int) = (l.length : Int) + 1 by omega]
      have rd1 := rd (v : Int) (by omega) (by omega)
      simp (disch := omega) only [en316, e316_0, e316_1, e316_3, e316_4, e316_7, e316_8, e316_11, e316_12, e316_14, e316_16, e316_19, e316_20, e316_21, e316_22, e316_23, e316_25, e316_28, e316_29, e316_31, e316_32, e316_33, e316_34, e316_36, e316_37, e316_38, e316_39, e316_41, e316_42, e316_43, e316_44, e316_47, e316_49, e316_52, e316_54, e316_55, e316_56, e316_57, e316_60, e316_62, e316_65, e316_67, e316_68, e316_69, e316_72, e316_73, e316_76, e316_78, e316_81, e316_82, e316_83, e316_84, e316_85, e316_86, e316_88, e316_91, e316_92, e316_95, e316_97, e316_100, e316_101, e316_102, e316_103, e316_104, e316_106, e316_109, e316_110, e316_113, e316_115, e316_117, e316_118, e316_120, ↓reduceIte, Bool.false_eq_true, not_false_eq_true, not_true_eq_false, Nat.reduceLeDiff, Nat.reduceAdd, Nat.reduceEqDiff, Int.reduceToNat, Int.toNat_natCast, iB0, iB1, ru_klI, ru_klR, ru_klF, ru_klJ, ru_kl0, ru_cs0, ru_csI, ru_csR, ru_csF, ru_csJ, wI_add, wI_sub, wI_mul, wI_lt, wI_le, wI_inj, ru_fdE, ru_fdN, ru_iaN, ru_baN, ru_laN, ru_qaN, ru_pfN, ru_isN, ru_bsN, ru_jsN, ru_qsN, ru_set2, Nat.add_right_cancel_iff, if_true, if_false, ite_self, Int.reduceEq, and_self, Int.add_neg_cancel_right, Int.add_zero, Int.zero_add, d0, d0', d1, d2, wI_neg, Int.reduceNeg, Int.neg_neg, Int.add_neg_cancel_right, rd1, hw]
  · rw [if_neg c] at hnl
    rw [hnl] at hc ⊢
    have hw : am_bs (clPut H C) (C.2.2.2 1258 0) (wI ((l.length : Int) + 1)) (wI (48 + (v : Int) % 10)) = some (clPut (am_set H (C.2.2.2 1258 0) (.inl (1, cap, .inl (fun i => wI (up1 f (l.length + 1) (48 + (v : Int) % 10) i))))) C) := by
      rw [ru_bs e8 (by omega) (by omega) (by omega), nb _ (by omega) (by omega), cl_seto (by omega), show ((l.length : Int) + 1).toNat = l.length + 1 by omega]
      have e0 : am_up (fun i => wI (f i)) (l.length + 1) (wI (48 + (v : Int) % 10)) = fun i => wI (up1 f (l.length + 1) (48 + (v : Int) % 10) i) := by
        funext j; unfold am_up up1; split <;> rfl
      rw [e0]
    have e9 : (clPut (am_set H (C.2.2.2 1258 0) (.inl (1, cap, .inl (fun i => wI (up1 f (l.length + 1) (48 + (v : Int) % 10) i))))) C).1 (C.2.2.2 1258 0) = some (.inl (1, cap, .inl (fun i => wI (up1 f (l.length + 1) (48 + (v : Int) % 10) i)))) := by rw [clPut_o (by omega)]; exact ru_setE _ _ _
    have rt : am_ba (clPut (am_set H (C.2.2.2 1258 0) (.inl (1, cap, .inl (fun i => wI (up1 f (l.length + 1) (48 + (v : Int) % 10) i))))) C) 11 (wI (v : Int)) = some (wI (48 + (v : Int) / 10)) := by
      rw [ru_ba (show (clPut (am_set H (C.2.2.2 1258 0) (.inl (1, cap, .inl (fun i => wI (up1 f (l.length + 1) (48 + (v : Int) % 10) i))))) C).1 11 = some (.inl (11, 100, .inl ft)) by rw [clPut_o (by omega), ru_setN hA.2]; exact t1) (Or.inr (Or.inr rfl)) (by omega) (by omega) (by omega), t2 _ (by omega), show ((48 + (v : Int).toNat / 10 : Nat) : Int) = 48 + (v : Int) / 10 by omega]
    have hw2 : am_bs (clPut (am_set H (C.2.2.2 1258 0) (.inl (1, cap, .inl (fun i => wI (up1 f (l.length + 1) (48 + (v : Int) % 10) i))))) C) (C.2.2.2 1258 0) (wI (l.length : Nat)) (wI (48 + (v : Int) / 10)) = some (clPut (am_set H (C.2.2.2 1258 0) (.inl (1, cap, .inl (fun i => wI (up1 (up1 f (l.length + 1) (48 + (v : Int) % 10)) l.length (48 + (v : Int) / 10) i))))) C) := by
      rw [ru_bs e9 (by omega) (by omega) (by omega), nb _ (by omega) (by omega), cl_seto (by omega), Int.toNat_natCast, ru_setset]
      have e0 : am_up (fun i => wI (up1 f (l.length + 1) (48 + (v : Int) % 10) i)) l.length (wI (48 + (v : Int) / 10)) = fun i => wI (up1 (up1 f (l.length + 1) (48 + (v : Int) % 10)) l.length (48 + (v : Int) / 10) i) := by
        funext j; unfold am_up up1; split <;> rfl
      rw [e0]
    refine ⟨up1 (up1 f (l.length + 1) (48 + (v : Int) % 10)) l.length (48 + (v : Int) / 10), fun i hi => ?_, wI (l.length : Nat), ?_⟩
    · rw [getD_app]
      unfold up1 numT
      rw [if_neg c]
      by_cases ei : i = l.length
      · rw [if_pos ei, if_neg (by omega), ei, Nat.sub_self]
        show (48 : Int) + (v : Int) / 10 = ((48 + v / 10 : Nat) : Int)
        omega
      · rw [if_neg ei]
        by_cases ei2 : i = l.length + 1
        · rw [if_pos ei2, if_neg (by omega), ei2, show l.length + 1 - l.length = 1 by omega]
          show (48 : Int) + (v : Int) % 10 = ((48 + v % 10 : Nat) : Int)
          omega
        · rw [if_neg ei2, if_pos (by omega), a9 i (by omega)]
    · have d2 : (-9 ≤ -(v : Int)) = False := eq_false (by omega)
      rw [show ((l.length + 2 : Nat) : Int) = (l.length : Int) + 1 + 1 by omega]
      have rd1 := rd (v : Int) (by omega) (by omega)
      simp (disch := omega) only [en316, e316_0, e316_1, e316_3, e316_4, e316_7, e316_8, e316_11, e316_12, e316_14, e316_16, e316_19, e316_20, e316_21, e316_22, e316_23, e316_25, e316_28, e316_29, e316_31, e316_32, e316_33, e316_34, e316_36, e316_37, e316_38, e316_39, e316_41, e316_42, e316_43, e316_44, e316_47, e316_49, e316_52, e316_54, e316_55, e316_56, e316_57, e316_60, e316_62, e316_65, e316_67, e316_68, e316_69, e316_72, e316_73, e316_76, e316_78, e316_81, e316_82, e316_83, e316_84, e316_85, e316_86, e316_88, e316_91, e316_92, e316_95, e316_97, e316_100, e316_101, e316_102, e316_103, e316_104, e316_106, e316_109, e316_110, e316_113, e316_115, e316_117, e316_118, e316_120, ↓reduceIte, Bool.false_eq_true, not_false_eq_true, not_true_eq_false, Nat.reduceLeDiff, Nat.reduceAdd, Nat.reduceEqDiff, Int.reduceToNat, Int.toNat_natCast, iB0, iB1, ru_klI, ru_klR, ru_klF, ru_klJ, ru_kl0, ru_cs0, ru_csI, ru_csR, ru_csF, ru_csJ, wI_add, wI_sub, wI_mul, wI_lt, wI_le, wI_inj, ru_fdE, ru_fdN, ru_iaN, ru_baN, ru_laN, ru_qaN, ru_pfN, ru_isN, ru_bsN, ru_jsN, ru_qsN, ru_set2, Nat.add_right_cancel_iff, if_true, if_false, ite_self, Int.reduceEq, and_self, Int.add_neg_cancel_right, Int.add_zero, Int.zero_add, d0, d0', d1, d2, wI_neg, Int.reduceNeg, Int.neg_neg, Int.add_neg_cancel_right, rd1, rt, hw, hw2]
theorem k312 (h : sbS H C l cap) (hd : dgI H) {v : Nat} (hv : v ≤ 99) (hc : l.length + (numT v).length ≤ 500) : ∃ H' C' cap', ru_ev z 312 [.ref 1258, .int (wI v)] (clPut H C) = some (.inl (some (.ref 1258)), clPut H' C') ∧ sbS H' C' (l ++ numT v) cap' ∧ sbOn H H' C C' cap cap' := by
  obtain ⟨a1, a2, a3, a4, a5, a6, a7, f, a8, a9⟩ := id h
  obtain ⟨H1, C1, cap1, r1, b1, b2, b3, b4⟩ := k303 (z := z) h (m := l.length + (numT v).length) hc
  obtain ⟨f', u1, q, u2⟩ := k316 (z := z) b1 (dgI_on hd h b3) hv b2
  have hlen : (l ++ numT v).length = l.length + (numT v).length := List.length_append
  obtain ⟨v1, v2⟩ := sbS_put (f' := f') (m := C1.1 1258 2) b1 (l' := l ++ numT v) (by omega) (fun i hi => u1 i (by omega))
  rw [upI_self] at v1 v2
  have g3 := cl_g11_3 (h := H) (C := C)
  rw [a2] at g3
  have g0' := cl_g11_0 (h := H1) (C := C1)
  have w := cl_q11_3 (h := am_set H1 (C1.2.2.2 1258 0) (.inl (1, cap1, .inl (fun i => wI (f' i))))) (C := C1) (v := ((l ++ numT v).length : Int))
  have ks := k314 (z := z) (X := clPut H C) (v := (v : Int)) (by omega) (by omega)
  have hlat := k315 (z := z) b1
  have d0 : ((1 : Int) = 0) = False := eq_false (by decide)
  have es : (l.length : Int) + (if (v : Int) < 10 then 1 else 2) = ((l ++ numT v).length : Int) := by
    rw [hlen, numT_len]
    by_cases c : v < 10
    · rw [if_pos c, if_pos (by omega)]; omega
    · rw [if_neg c, if_neg (by omega)]; omega
  rw [show ((l.length + (numT v).length : Nat) : Int) = ((l ++ numT v).length : Int) by omega] at r1 u2
  have e313 : ru_ev z 313 [.ref 1258, .int (wI v)] (clPut H C) = some (.inl (some (.ref 1258)), clPut (am_set H1 (C1.2.2.2 1258 0) (.inl (1, cap1, .inl (fun i => wI (f' i))))) (upI C1 1258 3 ((l ++ numT v).length : Int))) := by
    simp (disch := omega) only [en313, e313_0, e313_1, e313_4, e313_5, e313_6, e313_7, e313_10, e313_11, e313_12, e313_13, e313_14, e313_17, e313_18, e313_21, e313_24, e313_25, e313_26, e313_27, e313_30, e313_33, e313_34, e313_48, e313_49, e313_50, e313_53, e313_54, ↓reduceIte, Bool.false_eq_true, not_false_eq_true, not_true_eq_false, Nat.reduceLeDiff, Nat.reduceAdd, Nat.reduceEqDiff, Int.reduceToNat, Int.toNat_natCast, iB0, iB1, ru_klI, ru_klR, ru_klF, ru_klJ, ru_kl0, ru_cs0, ru_csI, ru_csR, ru_csF, ru_csJ, wI_add, wI_sub, wI_mul, wI_lt, wI_le, wI_inj, ru_fdE, ru_fdN, ru_iaN, ru_baN, ru_laN, ru_qaN, ru_pfN, ru_isN, ru_bsN, ru_jsN, ru_qsN, ru_set2, Nat.add_right_cancel_iff, if_true, if_false, ite_self, Int.reduceEq, and_self, Int.add_neg_cancel_right, Int.add_zero, Int.zero_add, sb_e, g3, ks, es, r1, hlat, d0, g0', u2, w, ru_ctI]
  refine ⟨_, _, cap1, ?_, v1, sbOn_tr b3 v2⟩
  simp (disch := omega) only [en312, e312_0, e312_1, e312_2, e312_5, e312_6, e312_7, ↓reduceIte, Bool.false_eq_true, not_false_eq_true, not_true_eq_false, Nat.reduceLeDiff, Nat.reduceAdd, Nat.reduceEqDiff, Int.reduceToNat, Int.toNat_natCast, iB0, iB1, ru_klI, ru_klR, ru_klF, ru_klJ, ru_kl0, ru_cs0, ru_csI, ru_csR, ru_csF, ru_csJ, wI_add, wI_sub, wI_mul, wI_lt, wI_le, wI_inj, ru_fdE, ru_fdN, ru_iaN, ru_baN, ru_laN, ru_qaN, ru_pfN, ru_isN, ru_bsN, ru_jsN, ru_qsN, ru_set2, Nat.add_right_cancel_iff, if_true, if_false, ite_self, Int.reduceEq, and_self, Int.add_neg_cancel_right, Int.add_zero, Int.zero_add, sb_e, e313, ru_ctR]
end SBN
