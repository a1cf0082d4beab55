/-! ===== writeChange: the class, done ===== -/
theorem nat_i0 {a : Nat} : (((a : Nat) : Int) = 0) = (a = 0) := propext ⟨fun h => by omega, fun h => by omega⟩
section CHG2
variable {z : Bool} {M : tMd} {N : Nat}
theorem difN_dj (a b : Nat) : ∀ i, (difN a b).testBit i = true → (difN b a).testBit i = false := fun i h => by
  rw [difN_bit] at h ⊢
  revert h
  cases a.testBit i <;> cases b.testBit i <;> decide
theorem k337 {o n : Nat} (ho : o < 1048576) (hn : n < 1048576) {l : List Nat} {H : am_H} {C : tCl} {cap : Nat} (hm : wcM C M N) (hst : strs H) (hs : sbS H C l cap) : ∃ H' C' cap', ru_ev z 337 [.ref 1257, .int (wI o), .int (wI n), .ref (alb C + 1)] (clPut H C) = some (.inl none, clPut H' C') ∧ sbS H' C' (chT M N (difN n o) (difN o n)) cap' ∧ sbOn H H' C C' cap cap' := by
  have hN := hm.1.2.1
  have hA := difN_lt (b := o) hn
  have hB := difN_lt (b := n) ho
  have eA := wI_dif hn ho
  have eB := wI_dif ho hn
  have hdj := difN_dj n o
  generalize difN n o = A at *
  generalize difN o n = B at *
  obtain ⟨C1, q1, s1, o1⟩ := k301 (z := z) hs
  have m1 := wcM_on hm o1
  have ha1 := sbOn_alb o1
  have st1 := strs_on hst hs o1
  have l51 : (sbT 51).length = 9 := by decide
  have l52 : (sbT 52).length = 5 := by decide
  have l53 : (sbT 53).length = 10 := by decide
  have l54 : (sbT 54).length = 8 := by decide
  have lAB := nmT_len (M := M) hdj N 0 false false
  have lA := nmT_l (M := M) (w := A) N 0 false
  unfold chT
  by_cases a : A = 0
  · have dA : (A = 0) = True := eq_true a
    by_cases b : B = 0
    · have dB : (B = 0) = True := eq_true b
      obtain ⟨H2, C2, cap2, q2, s2, o2⟩ := k307 (z := z) s1 (st1 51 (by decide)) (by rw [List.length_nil]; omega) (by omega)
      refine ⟨H2, C2, cap2, ?_, ?_, sbOn_tr o1 o2⟩
      · have q2 : ru_ev z 307 [.ref 1258, .ref 351] (clPut H C1) = some (.inl (some (.ref 1258)), clPut H2 C2) := q2
        simp (disch := omega) only [en337, e337_0, e337_1, e337_2, e337_3, e337_4, e337_5, e337_7, e337_8, e337_9, e337_10, e337_11, e337_12, e337_14, e337_15, e337_18, e337_19, e337_22, e337_24, e337_27, e337_29, e337_32, e337_33, e337_36, e337_38, e337_41, e337_42, e337_44, e337_47, e337_48, e337_51, e337_53, e337_56, e337_57, e337_58, e337_60, e337_61, e337_64, e337_66, e337_69, e337_70, e337_73, e337_75, e337_78, e337_80, e337_83, e337_85, e337_88, e337_89, e337_90, e337_92, e337_93, e337_96, ↓reduceIte, Bool.false_eq_true, not_false_eq_true, not_true_eq_false, Nat.reduceLeDiff, Nat.reduceAdd, Nat.reduceEqDiff, Int.reduceToNat, Int.toNat_natCast, iB0, iB1, ru_klI, ru_klR, ru_klF, ru_klJ, ru_kl0, ru_cs0, ru_csI, ru_csR, ru_csF, ru_csJ, wI_add, wI_sub, wI_mul, wI_lt, wI_le, wI_inj, ru_fdE, ru_fdN, ru_iaN, ru_baN, ru_laN, ru_qaN, ru_pfN, ru_isN, ru_bsN, ru_jsN, ru_qsN, ru_set2, Nat.add_right_cancel_iff, if_true, if_false, ite_self, Int.reduceEq, and_self, Int.add_neg_cancel_right, Int.add_zero, Int.zero_add, cl_g7, eA, eB, q1, nat_i0, dA, dB, q2, ru_ctR, not_true]
      · rw [if_pos ⟨a, b⟩, if_pos a, if_pos b, List.append_nil, List.append_nil]; exact s2
    · have dB : (B = 0) = False := eq_false b
      obtain ⟨H2, C2, cap2, q2, s2, o2⟩ := k307 (z := z) s1 (st1 54 (by decide)) (by rw [List.length_nil]; omega) (by omega)
      have o12 := sbOn_tr o1 o2
      obtain ⟨H3, C3, cap3, q3, s3, o3⟩ := k338 (z := z) hB (wcM_on hm o12) (strs_on hst hs o12) (by rw [List.length_append, List.length_nil]; omega) s2
      rw [sbOn_alb o12] at q3
      refine ⟨H3, C3, cap3, ?_, ?_, sbOn_tr o12 o3⟩
      · have q2 : ru_ev z 307 [.ref 1258, .ref 354] (clPut H C1) = some (.inl (some (.ref 1258)), clPut H2 C2) := q2
        simp (disch := omega) only [en337, e337_0, e337_1, e337_2, e337_3, e337_4, e337_5, e337_7, e337_8, e337_9, e337_10, e337_11, e337_12, e337_14, e337_15, e337_18, e337_19, e337_22, e337_24, e337_27, e337_29, e337_32, e337_33, e337_36, e337_38, e337_41, e337_42, e337_44, e337_47, e337_48, e337_51, e337_53, e337_56, e337_57, e337_58, e337_60, e337_61, e337_64, e337_66, e337_69, e337_70, e337_73, e337_75, e337_78, e337_80, e337_83, e337_85, e337_88, e337_89, e337_90, e337_92, e337_93, e337_96, ↓reduceIte, Bool.false_eq_true, not_false_eq_true, not_true_eq_false, Nat.reduceLeDiff, Nat.reduceAdd, Nat.reduceEqDiff, Int.reduceToNat, Int.toNat_natCast, iB0, iB1, ru_klI, ru_klR, ru_klF, ru_klJ, ru_kl0, ru_cs0, ru_csI, ru_csR, ru_csF, ru_csJ, wI_add, wI_sub, wI_mul, wI_lt, wI_le, wI_inj, ru_fdE, ru_fdN, ru_iaN, ru_baN, ru_laN, ru_qaN, ru_pfN, ru_isN, ru_bsN, ru_jsN, ru_qsN, ru_set2, Nat.add_right_cancel_iff, if_true, if_false, ite_self, Int.reduceEq, and_self, Int.add_neg_cancel_right, Int.add_zero, Int.zero_add, cl_g7, eA, eB, q1, nat_i0, dA, dB, q2, q3, ru_ctR, not_true, not_false_iff]
      · rw [if_neg (fun h => b h.2), if_pos a, if_neg b, if_pos a, List.nil_append, List.nil_append]; exact s3
  · have dA : (A = 0) = False := eq_false a
    obtain ⟨H2, C2, cap2, q2, s2, o2⟩ := k307 (z := z) s1 (st1 52 (by decide)) (by rw [List.length_nil]; omega) (by omega)
    have q2 : ru_ev z 307 [.ref 1258, .ref 352] (clPut H C1) = some (.inl (some (.ref 1258)), clPut H2 C2) := q2
    have o12 := sbOn_tr o1 o2
    obtain ⟨H3, C3, cap3, q3, s3, o3⟩ := k338 (z := z) hA (wcM_on hm o12) (strs_on hst hs o12) (by rw [List.length_append, List.length_nil]; omega) s2
    rw [sbOn_alb o12] at q3
    have o13 := sbOn_tr o12 o3
    by_cases b : B = 0
    · have dB : (B = 0) = True := eq_true b
      refine ⟨H3, C3, cap3, ?_, ?_, o13⟩
      · simp (disch := omega) only [en337, e337_0, e337_1, e337_2, e337_3, e337_4, e337_5, e337_7, e337_8, e337_9, e337_10, e337_11, e337_12, e337_14, e337_15, e337_18, e337_19, e337_22, e337_24, e337_27, e337_29, e337_32, e337_33, e337_36, e337_38, e337_41, e337_42, e337_44, e337_47, e337_48, e337_51, e337_53, e337_56, e337_57, e337_58, e337_60, e337_61, e337_64, e337_66, e337_69, e337_70, e337_73, e337_75, e337_78, e337_80, e337_83, e337_85, e337_88, e337_89, e337_90, e337_92, e337_93, e337_96, ↓reduceIte, Bool.false_eq_true, not_false_eq_true, not_true_eq_false, Nat.reduceLeDiff, Nat.reduceAdd, Nat.reduceEqDiff, Int.reduceToNat, Int.toNat_natCast, iB0, iB1, ru_klI, ru_klR, ru_klF, ru_klJ, ru_kl0, ru_cs0, ru_csI, ru_csR, ru_csF, ru_csJ, wI_add, wI_sub, wI_mul, wI_lt, wI_le, wI_inj, ru_fdE, ru_fdN, ru_iaN, ru_baN, ru_laN, ru_qaN, ru_pfN, ru_isN, ru_bsN, ru_jsN, ru_qsN, ru_set2, Nat.add_right_cancel_iff, if_true, if_false, ite_self, Int.reduceEq, and_self, Int.add_neg_cancel_right, Int.add_zero, Int.zero_add, cl_g7, eA, eB, q1, nat_i0, dA, dB, q2, q3, ru_ctR, not_true, not_false_iff]
      · rw [if_neg (fun h => a h.1), if_neg a, if_pos b, List.nil_append, List.append_nil]; exact s3
    · have dB : (B = 0) = False := eq_false b
      obtain ⟨H4, C4, cap4, q4, s4, o4⟩ := k307 (z := z) s3 (strs_on hst hs o13 53 (by decide)) (by rw [List.length_append, List.length_append, List.length_nil]; omega) (by omega)
      have q4 : ru_ev z 307 [.ref 1258, .ref 353] (clPut H3 C3) = some (.inl (some (.ref 1258)), clPut H4 C4) := q4
      have o14 := sbOn_tr o13 o4
      obtain ⟨H5, C5, cap5, q5, s5, o5⟩ := k338 (z := z) hB (wcM_on hm o14) (strs_on hst hs o14) (by rw [List.length_append, List.length_append, List.length_append, List.length_nil]; omega) s4
      rw [sbOn_alb o14] at q5
      refine ⟨H5, C5, cap5, ?_, ?_, sbOn_tr o14 o5⟩
      · simp (disch := omega) only [en337, e337_0, e337_1, e337_2, e337_3, e337_4, e337_5, e337_7, e337_8, e337_9, e337_10, e337_11, e337_12, e337_14, e337_15, e337_18, e337_19, e337_22, e337_24, e337_27, e337_29, e337_32, e337_33, e337_36, e337_38, e337_41, e337_42, e337_44, e337_47, e337_48, e337_51, e337_53, e337_56, e337_57, e337_58, e337_60, e337_61, e337_64, e337_66, e337_69, e337_70, e337_73, e337_75, e337_78, e337_80, e337_83, e337_85, e337_88, e337_89, e337_90, e337_92, e337_93, e337_96, ↓reduceIte, Bool.false_eq_true, not_false_eq_true, not_true_eq_false, Nat.reduceLeDiff, Nat.reduceAdd, Nat.reduceEqDiff, Int.reduceToNat, Int.toNat_natCast, iB0, iB1, ru_klI, ru_klR, ru_klF, ru_klJ, ru_kl0, ru_cs0, ru_csI, ru_csR, ru_csF, ru_csJ, wI_add, wI_sub, wI_mul, wI_lt, wI_le, wI_inj, ru_fdE, ru_fdN, ru_iaN, ru_baN, ru_laN, ru_qaN, ru_pfN, ru_isN, ru_bsN, ru_jsN, ru_qsN, ru_set2, Nat.add_right_cancel_iff, if_true, if_false, ite_self, Int.reduceEq, and_self, Int.add_neg_cancel_right, Int.add_zero, Int.zero_add, cl_g7, eA, eB, q1, nat_i0, dA, dB, q2, q3, q4, q5, ru_ctR, not_true, not_false_iff]
      · rw [if_neg (fun h => a h.1), if_neg a, if_neg b, if_neg a, List.nil_append]
        simp only [List.nil_append, List.append_assoc] at s5 ⊢
        exact s5
end CHG2
