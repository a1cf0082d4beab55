/-! ===== is the token this word: the reference; a fault told ===== -/
section ISM
variable {z : Bool} {M : tMd} {C : tCl} {n s : Nat}
theorem p62l {h : am_H} {S V : Nat} {T : List Nat} (hs : stAt h S V T) (ht : T.length ≤ 8) (hb : ∀ j, j < T.length → T.getD j 0 ≤ 127) (h15 : M.1 15 = (T.length : Int)) (hw : ∀ q, q < 8 → 0 ≤ M.2 4 q ∧ M.2 4 q ≤ 127) : ∀ d i : Nat, i + d = T.length → ru_n z 62 30 [some (.ref 1315), some (.ref S), some (.int (wI i))] [] (mdPut h M) = some (.inl (some (.int (wI (if cmpW (M.2 4) T d i = true then 1 else 0)))), mdPut h M) := by
  obtain ⟨s1, f, s2, s3⟩ := stAt_md (N := M) hs
  have g15 := md_f15 (h := h) (M := M)
  rw [h15] at g15
  intro d
  induction d with
  | zero =>
    intro i hi
    obtain rfl : i = T.length := by omega
    simp (disch := omega) only [e62_30, e62_31, e62_32, e62_35, e62_60, e62_61, ↓reduceIte, Bool.false_eq_true, not_false_eq_true, not_true_eq_false, Nat.reduceLeDiff, Nat.reduceAdd, Nat.reduceEqDiff, Int.reduceToNat, Int.toNat_natCast, iB0, iB1, ru_klI, ru_klR, ru_klF, ru_klJ, ru_kl0, ru_cs0, ru_csI, ru_csR, ru_csF, ru_csJ, wI_add, wI_sub, wI_mul, wI_lt, wI_le, wI_inj, ru_fdE, ru_fdN, ru_iaN, ru_baN, ru_laN, ru_qaN, ru_pfN, ru_isN, ru_bsN, ru_jsN, ru_qsN, ru_set2, Nat.add_right_cancel_iff, if_true, if_false, ite_self, Int.reduceEq, and_self, Int.add_neg_cancel_right, Int.add_zero, Int.zero_add, md_e, g15, Int.le_refl, wI_and1, cmpW]
  | succ d ih =>
    intro i hi
    have kc := k31 (z := z) s1 s2 s3 (by omega) hb (i := i) (by omega)
    have c : ((T.length : Int) ≤ (i : Int)) = False := eq_false (by omega)
    have a4 : am_ia (mdPut h M) 1320 (wI (i : Nat)) = some (wI (M.2 4 i)) := mdA4 (mdAt_put h M) (by omega) (by omega)
    have b1 := hw i (by omega)
    have b2 := hb i (by omega)
    have es : cmpW (M.2 4) T (d + 1) i = if M.2 4 i = ((T.getD i 0 : Nat) : Int) then cmpW (M.2 4) T d (i + 1) else false := rfl
    rw [es]
    by_cases e : M.2 4 i = ((T.getD i 0 : Nat) : Int)
    · have d1 : (M.2 4 i = ((T.getD i 0 : Nat) : Int)) = True := eq_true e
      have ih1 := ih (i + 1) (by omega)
      simp only [Int.natCast_add, Int.natCast_one] at ih1
      rw [if_pos e, e62_30]
      simp (disch := omega) only [e62_31, e62_32, e62_35, e62_38, e62_39, e62_42, e62_43, e62_44, e62_45, e62_46, e62_49, e62_52, e62_53, e62_54, e62_57, ↓reduceIte, Bool.false_eq_true, not_false_eq_true, not_true_eq_false, Nat.reduceLeDiff, Nat.reduceAdd, Nat.reduceEqDiff, Int.reduceToNat, Int.toNat_natCast, iB0, iB1, ru_klI, ru_klR, ru_klF, ru_klJ, ru_kl0, ru_cs0, ru_csI, ru_csR, ru_csF, ru_csJ, wI_add, wI_sub, wI_mul, wI_lt, wI_le, wI_inj, ru_fdE, ru_fdN, ru_iaN, ru_baN, ru_laN, ru_qaN, ru_pfN, ru_isN, ru_bsN, ru_jsN, ru_qsN, ru_set2, Nat.add_right_cancel_iff, if_true, if_false, ite_self, Int.reduceEq, and_self, Int.add_neg_cancel_right, Int.add_zero, Int.zero_add, md_e, md_f14, g15, kc, c, a4, d1]
      exact ih1
    · have d1 : (M.2 4 i = ((T.getD i 0 : Nat) : Int)) = False := eq_false e
      rw [if_neg e, e62_30]
      simp (disch := omega) only [e62_31, e62_32, e62_35, e62_38, e62_39, e62_42, e62_43, e62_44, e62_45, e62_46, e62_49, e62_52, e62_53, e62_54, e62_57, ↓reduceIte, Bool.false_eq_true, not_false_eq_true, not_true_eq_false, Nat.reduceLeDiff, Nat.reduceAdd, Nat.reduceEqDiff, Int.reduceToNat, Int.toNat_natCast, iB0, iB1, ru_klI, ru_klR, ru_klF, ru_klJ, ru_kl0, ru_cs0, ru_csI, ru_csR, ru_csF, ru_csJ, wI_add, wI_sub, wI_mul, wI_lt, wI_le, wI_inj, ru_fdE, ru_fdN, ru_iaN, ru_baN, ru_laN, ru_qaN, ru_pfN, ru_isN, ru_bsN, ru_jsN, ru_qsN, ru_set2, Nat.add_right_cancel_iff, if_true, if_false, ite_self, Int.reduceEq, and_self, Int.add_neg_cancel_right, Int.add_zero, Int.zero_add, md_e, md_f14, g15, kc, c, a4, d1, wI_and1, Bool.false_eq_true, if_false]
/-- while the reference is not mute -/
theorem p62 {h : am_H} {S V : Nat} {T : List Nat} (hs : stAt h S V T) (ht : T.length ≤ 8) (hb : ∀ j, j < T.length → T.getD j 0 ≤ 127) (h17 : M.1 17 = 0) (ht2 : tkR C M n s) : ru_ev z 62 [.ref 1315, .ref S] (mdPut h M) = some (.inl (some (.int (wI (if isW M T = true then 1 else 0)))), mdPut h M) := by
  obtain ⟨s1, f, s2, s3⟩ := stAt_md (N := M) hs
  have kl := k29 (z := z) s1 s2 (by omega)
  obtain ⟨a1, a2, a3, a4, a5, a6⟩ := ht2
  have g17 := md_f17 (h := h) (M := M)
  rw [h17] at g17
  have e0 : ((0 : Int) = 0) = True := eq_true rfl
  have r13 : 0 ≤ M.1 13 ∧ M.1 13 ≤ 5 := by
    rcases a6 with ⟨-, k1⟩ | ⟨t, -, -, -, -, q⟩
    · omega
    · rcases q with ⟨-, k1, -⟩ | ⟨-, k1, -⟩ | ⟨-, k1⟩ | ⟨-, k1⟩ | ⟨-, k1⟩ <;> omega
  by_cases c1 : M.1 13 = 1
  · have d1 : (M.1 13 = 1) = True := eq_true c1
    have h15r : -2147483648 ≤ M.1 15 ∧ M.1 15 < 2147483648 := by
      rcases a6 with ⟨-, k1⟩ | ⟨t, -, -, -, -, q'⟩
      · omega
      · rcases q' with ⟨-, -, k3, k4, -⟩ | ⟨-, k1, -⟩ | ⟨-, k1⟩ | ⟨-, k1⟩ | ⟨-, k1⟩ <;> omega
    by_cases c2 : M.1 15 = (T.length : Int)
    · have d2 : (M.1 15 = (T.length : Int)) = True := eq_true c2
      have e : isW M T = cmpW (M.2 4) T T.length 0 := by unfold isW; rw [decide_eq_true ⟨c1, c2⟩, Bool.true_and]
      have hw : ∀ q, q < 8 → 0 ≤ M.2 4 q ∧ M.2 4 q ≤ 127 := fun q hq => by
        rcases a6 with ⟨-, k1⟩ | ⟨t, -, -, -, -, q'⟩
        · omega
        · rcases q' with ⟨-, -, -, -, k5, k6, -⟩ | ⟨-, k1, -⟩ | ⟨-, k1⟩ | ⟨-, k1⟩ | ⟨-, k1⟩
          · rw [k5 q hq]
            by_cases c : q < t - s
            · rw [if_pos c]; have := k6 q c; omega
            · rw [if_neg c]; omega
          · omega
          · omega
          · omega
          · omega
      have l := p62l (z := z) (M := M) hs ht hb c2 hw T.length 0 (by omega)
      rw [← e, show ((0 : Nat) : Int) = 0 from rfl] at l
      rw [← l]
      simp (disch := omega) only [e62_0, e62_1, e62_4, e62_7, e62_8, e62_11, e62_12, e62_15, e62_16, e62_19, e62_20, e62_23, e62_26, e62_27, e62_28, e62_29, en62, ↓reduceIte, Bool.false_eq_true, not_false_eq_true, not_true_eq_false, Nat.reduceLeDiff, Nat.reduceAdd, Nat.reduceEqDiff, Int.reduceToNat, Int.toNat_natCast, iB0, iB1, ru_klI, ru_klR, ru_klF, ru_klJ, ru_kl0, ru_cs0, ru_csI, ru_csR, ru_csF, ru_csJ, wI_add, wI_sub, wI_mul, wI_lt, wI_le, wI_inj, ru_fdE, ru_fdN, ru_iaN, ru_baN, ru_laN, ru_qaN, ru_pfN, ru_isN, ru_bsN, ru_jsN, ru_qsN, ru_set2, Nat.add_right_cancel_iff, if_true, if_false, ite_self, Int.reduceEq, and_self, Int.add_neg_cancel_right, Int.add_zero, Int.zero_add, md_e, g17, md_f13, md_f15, d1, d2, kl, not_true]
    · have d2 : (M.1 15 = (T.length : Int)) = False := eq_false c2
      have e : isW M T = false := by unfold isW; rw [decide_eq_false (fun h => c2 h.2)]; rfl
      rw [e]
      simp (disch := omega) only [e62_0, e62_1, e62_4, e62_7, e62_8, e62_11, e62_12, e62_15, e62_16, e62_19, e62_20, e62_23, e62_26, e62_27, e62_28, e62_29, en62, ↓reduceIte, Bool.false_eq_true, not_false_eq_true, not_true_eq_false, Nat.reduceLeDiff, Nat.reduceAdd, Nat.reduceEqDiff, Int.reduceToNat, Int.toNat_natCast, iB0, iB1, ru_klI, ru_klR, ru_klF, ru_klJ, ru_kl0, ru_cs0, ru_csI, ru_csR, ru_csF, ru_csJ, wI_add, wI_sub, wI_mul, wI_lt, wI_le, wI_inj, ru_fdE, ru_fdN, ru_iaN, ru_baN, ru_laN, ru_qaN, ru_pfN, ru_isN, ru_bsN, ru_jsN, ru_qsN, ru_set2, Nat.add_right_cancel_iff, if_true, if_false, ite_self, Int.reduceEq, and_self, Int.add_neg_cancel_right, Int.add_zero, Int.zero_add, md_e, g17, md_f13, md_f15, d1, d2, kl, not_true, not_false_iff, wI_and1, Bool.false_eq_true, if_false]
  · have d1 : (M.1 13 = 1) = False := eq_false c1
    have e : isW M T = false := by unfold isW; rw [decide_eq_false (fun h => c1 h.1)]; rfl
    rw [e]
    simp (disch := omega) only [e62_0, e62_1, e62_4, e62_7, e62_8, e62_11, e62_12, e62_15, e62_16, e62_19, e62_20, e62_23, e62_26, e62_27, e62_28, e62_29, en62, ↓reduceIte, Bool.false_eq_true, not_false_eq_true, not_true_eq_false, Nat.reduceLeDiff, Nat.reduceAdd, Nat.reduceEqDiff, Int.reduceToNat, Int.toNat_natCast, iB0, iB1, ru_klI, ru_klR, ru_klF, ru_klJ, ru_kl0, ru_cs0, ru_csI, ru_csR, ru_csF, ru_csJ, wI_add, wI_sub, wI_mul, wI_lt, wI_le, wI_inj, ru_fdE, ru_fdN, ru_iaN, ru_baN, ru_laN, ru_qaN, ru_pfN, ru_isN, ru_bsN, ru_jsN, ru_qsN, ru_set2, Nat.add_right_cancel_iff, if_true, if_false, ite_self, Int.reduceEq, and_self, Int.add_neg_cancel_right, Int.add_zero, Int.zero_add, md_e, g17, md_f13, d1, not_true, not_false_iff, wI_and1, Bool.false_eq_true, if_false]
/-- while it is mute -/
theorem p62m {h : am_H} {S : Nat} (h17 : ¬ M.1 17 = 0) (r17 : 0 ≤ M.1 17 ∧ M.1 17 ≤ 9) : ru_ev z 62 [.ref 1315, .ref S] (mdPut h M) = some (.inl (some (.int (wI 0))), mdPut h M) := by
  have d1 : (M.1 17 = 0) = False := eq_false h17
  simp (disch := omega) only [e62_0, e62_1, e62_4, e62_7, e62_8, e62_11, e62_12, e62_15, e62_16, e62_19, e62_20, e62_23, e62_26, e62_27, en62, ↓reduceIte, Bool.false_eq_true, not_false_eq_true, not_true_eq_false, Nat.reduceLeDiff, Nat.reduceAdd, Nat.reduceEqDiff, Int.reduceToNat, Int.toNat_natCast, iB0, iB1, ru_klI, ru_klR, ru_klF, ru_klJ, ru_kl0, ru_cs0, ru_csI, ru_csR, ru_csF, ru_csJ, wI_add, wI_sub, wI_mul, wI_lt, wI_le, wI_inj, ru_fdE, ru_fdN, ru_iaN, ru_baN, ru_laN, ru_qaN, ru_pfN, ru_isN, ru_bsN, ru_jsN, ru_qsN, ru_set2, Nat.add_right_cancel_iff, if_true, if_false, ite_self, Int.reduceEq, and_self, Int.add_neg_cancel_right, Int.add_zero, Int.zero_add, md_e, md_f17, d1, not_false_iff, wI_and1]
theorem p63 {h : am_H} {c : Int} (r17 : 0 ≤ M.1 17 ∧ M.1 17 ≤ 9) : ru_ev z 63 [.ref 1315, .int (wI c)] (mdPut h M) = some (.inl none, mdPut h (if M.1 17 = 0 then (up1 (up1 M.1 17 c) 18 (M.1 12), M.2) else M)) := by
  by_cases e : M.1 17 = 0
  · have d1 : (M.1 17 = 0) = True := eq_true e
    have g12 : am_fd (mdPut h (up1 M.1 17 c, M.2)) 1315 10 12 = some (.int (wI (M.1 12))) := md_f12
    have s18 : am_pf (mdPut h (up1 M.1 17 c, M.2)) 1315 10 18 0 (.int (wI (M.1 12))) = some (mdPut h (up1 (up1 M.1 17 c) 18 (M.1 12), M.2)) := md_s18
    rw [if_pos e]
    simp (disch := omega) only [en63, e63_0, e63_1, e63_4, e63_7, e63_8, e63_9, e63_12, e63_13, e63_14, e63_17, e63_20, ↓reduceIte, Bool.false_eq_true, not_false_eq_true, not_true_eq_false, Nat.reduceLeDiff, Nat.reduceAdd, Nat.reduceEqDiff, Int.reduceToNat, Int.toNat_natCast, iB0, iB1, ru_klI, ru_klR, ru_klF, ru_klJ, ru_kl0, ru_cs0, ru_csI, ru_csR, ru_csF, ru_csJ, wI_add, wI_sub, wI_mul, wI_lt, wI_le, wI_inj, ru_fdE, ru_fdN, ru_iaN, ru_baN, ru_laN, ru_qaN, ru_pfN, ru_isN, ru_bsN, ru_jsN, ru_qsN, ru_set2, Nat.add_right_cancel_iff, if_true, if_false, ite_self, Int.reduceEq, and_self, Int.add_neg_cancel_right, Int.add_zero, Int.zero_add, md_e, md_f17, md_s17, d1, g12, s18, not_true]
  · have d1 : (M.1 17 = 0) = False := eq_false e
    rw [if_neg e]
    simp (disch := omega) only [en63, e63_0, e63_1, e63_4, e63_7, e63_8, e63_9, e63_12, e63_13, e63_14, e63_17, e63_20, ↓reduceIte, Bool.false_eq_true, not_false_eq_true, not_true_eq_false, Nat.reduceLeDiff, Nat.reduceAdd, Nat.reduceEqDiff, Int.reduceToNat, Int.toNat_natCast, iB0, iB1, ru_klI, ru_klR, ru_klF, ru_klJ, ru_kl0, ru_cs0, ru_csI, ru_csR, ru_csF, ru_csJ, wI_add, wI_sub, wI_mul, wI_lt, wI_le, wI_inj, ru_fdE, ru_fdN, ru_iaN, ru_baN, ru_laN, ru_qaN, ru_pfN, ru_isN, ru_bsN, ru_jsN, ru_qsN, ru_set2, Nat.add_right_cancel_iff, if_true, if_false, ite_self, Int.reduceEq, and_self, Int.add_neg_cancel_right, Int.add_zero, Int.zero_add, md_e, md_f17, d1, not_false_iff]
theorem p66m {h : am_H} (h17 : ¬ M.1 17 = 0) (r17 : 0 ≤ M.1 17 ∧ M.1 17 ≤ 9) : ru_ev z 66 [.ref 1315] (mdPut h M) = some (.inl none, mdPut h M) := by
  have d1 : (M.1 17 = 0) = False := eq_false h17
  simp (disch := omega) only [en66, e66_0, e66_1, e66_4, e66_7, e66_8, e66_11, ↓reduceIte, Bool.false_eq_true, not_false_eq_true, not_true_eq_false, Nat.reduceLeDiff, Nat.reduceAdd, Nat.reduceEqDiff, Int.reduceToNat, Int.toNat_natCast, iB0, iB1, ru_klI, ru_klR, ru_klF, ru_klJ, ru_kl0, ru_cs0, ru_csI, ru_csR, ru_csF, ru_csJ, wI_add, wI_sub, wI_mul, wI_lt, wI_le, wI_inj, ru_fdE, ru_fdN, ru_iaN, ru_baN, ru_laN, ru_qaN, ru_pfN, ru_isN, ru_bsN, ru_jsN, ru_qsN, ru_set2, Nat.add_right_cancel_iff, if_true, if_false, ite_self, Int.reduceEq, and_self, Int.add_neg_cancel_right, Int.add_zero, Int.zero_add, md_e, md_f17, d1, not_false_iff]
theorem p66 {h : am_H} {M' : tMd} (h17 : M.1 17 = 0) (k : ru_ev z 57 [.ref 1315] (mdPut h M) = some (.inl none, mdPut h M')) : ru_ev z 66 [.ref 1315] (mdPut h M) = some (.inl none, mdPut h M') := by
  have d1 : (M.1 17 = 0) = True := eq_true h17
  simp (disch := omega) only [en66, e66_0, e66_1, e66_4, e66_7, e66_8, e66_11, ↓reduceIte, Bool.false_eq_true, not_false_eq_true, not_true_eq_false, Nat.reduceLeDiff, Nat.reduceAdd, Nat.reduceEqDiff, Int.reduceToNat, Int.toNat_natCast, iB0, iB1, ru_klI, ru_klR, ru_klF, ru_klJ, ru_kl0, ru_cs0, ru_csI, ru_csR, ru_csF, ru_csJ, wI_add, wI_sub, wI_mul, wI_lt, wI_le, wI_inj, ru_fdE, ru_fdN, ru_iaN, ru_baN, ru_laN, ru_qaN, ru_pfN, ru_isN, ru_bsN, ru_jsN, ru_qsN, ru_set2, Nat.add_right_cancel_iff, if_true, if_false, ite_self, Int.reduceEq, and_self, Int.add_neg_cancel_right, Int.add_zero, Int.zero_add, md_e, md_f17, h17, d1, k, not_true]
/-- the class's require: goes on, or stops with the fault told -/
theorem c36 {h : am_H} {b : Int} (hb : b = 0 ∨ b = 1) {c : Int} : ru_ev z 36 [.ref 1001, .int (wI b), .int (wI c)] (clPut h C) = if b = 1 then some (.inl none, clPut h C) else some (.inr 2, clPut (thr h) (upI (upI C 1001 2 c) 1001 3 (C.1 1001 5))) := by
  rcases hb with rfl | rfl
  · rw [if_neg (by decide)]
    have d1 : ((0 : Int) = 0) = True := eq_true rfl
    have g5 : am_fd (clPut h (upI C 1001 2 c)) 1001 1 5 = some (.int (wI (C.1 1001 5))) := cl_g1_5
    simp (disch := omega) only [en36, e36_0, e36_1, e36_4, e36_5, e36_6, e36_9, e36_10, e36_11, e36_14, e36_17, e36_20, e36_21, e36_27, ↓reduceIte, Bool.false_eq_true, not_false_eq_true, not_true_eq_false, Nat.reduceLeDiff, Nat.reduceAdd, Nat.reduceEqDiff, Int.reduceToNat, Int.toNat_natCast, iB0, iB1, ru_klI, ru_klR, ru_klF, ru_klJ, ru_kl0, ru_cs0, ru_csI, ru_csR, ru_csF, ru_csJ, wI_add, wI_sub, wI_mul, wI_lt, wI_le, wI_inj, ru_fdE, ru_fdN, ru_iaN, ru_baN, ru_laN, ru_qaN, ru_pfN, ru_isN, ru_bsN, ru_jsN, ru_qsN, ru_set2, Nat.add_right_cancel_iff, if_true, if_false, ite_self, Int.reduceEq, and_self, Int.add_neg_cancel_right, Int.add_zero, Int.zero_add, cl_e1, d1, cl_q1_2, cl_q1_3, g5, not_true, cl_thr]
  · rw [if_pos rfl]
    have d1 : ((1 : Int) = 0) = False := eq_false (by decide)
    simp (disch := omega) only [en36, e36_0, e36_1, e36_4, e36_5, e36_6, e36_9, e36_10, e36_11, e36_14, e36_17, e36_20, e36_21, e36_27, ↓reduceIte, Bool.false_eq_true, not_false_eq_true, not_true_eq_false, Nat.reduceLeDiff, Nat.reduceAdd, Nat.reduceEqDiff, Int.reduceToNat, Int.toNat_natCast, iB0, iB1, ru_klI, ru_klR, ru_klF, ru_klJ, ru_kl0, ru_cs0, ru_csI, ru_csR, ru_csF, ru_csJ, wI_add, wI_sub, wI_mul, wI_lt, wI_le, wI_inj, ru_fdE, ru_fdN, ru_iaN, ru_baN, ru_laN, ru_qaN, ru_pfN, ru_isN, ru_bsN, ru_jsN, ru_qsN, ru_set2, Nat.add_right_cancel_iff, if_true, if_false, ite_self, Int.reduceEq, and_self, Int.add_neg_cancel_right, Int.add_zero, Int.zero_add, cl_e1, d1, not_false_iff]
end ISM
