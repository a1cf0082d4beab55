/-! ===== a name told twice: class and reference ===== -/
/-- the first of the names from i on that is f1 f2 -/
def fdN (F1 F2 : Nat → Nat → Int) (f1 f2 : Nat → Int) : Nat → Nat → Int
  | 0, _ => -1
  | d + 1, i => if agN (F1 i) f1 8 0 = 0 ∧ agN (F2 i) f2 8 0 = 0 then (i : Int) else fdN F1 F2 f1 f2 d (i + 1)
theorem fdN_b (F1 F2 : Nat → Nat → Int) (f1 f2 : Nat → Int) : ∀ d i, -1 ≤ fdN F1 F2 f1 f2 d i ∧ fdN F1 F2 f1 f2 d i < (i : Int) + d
  | 0, i => by show (-1 : Int) ≤ -1 ∧ (-1 : Int) < (i : Int) + ((0 : Nat) : Int); omega
  | d + 1, i => by
    have h := fdN_b F1 F2 f1 f2 d (i + 1)
    show -1 ≤ (if agN (F1 i) f1 8 0 = 0 ∧ agN (F2 i) f2 8 0 = 0 then (i : Int) else fdN F1 F2 f1 f2 d (i + 1)) ∧ (if agN (F1 i) f1 8 0 = 0 ∧ agN (F2 i) f2 8 0 = 0 then (i : Int) else fdN F1 F2 f1 f2 d (i + 1)) < (i : Int) + ((d + 1 : Nat) : Int)
    split <;> omega
section FND
variable {z : Bool} {M : tMd} {C : tCl}
theorem c43l {h : am_H} {B N : Nat} (hB : B = 1003 ∨ B = 1034) (hN : C.1 (B + 1) 0 = (N : Int)) (hN20 : N ≤ 20) {F1 F2 : Nat → Nat → Int} {f1 f2 : Nat → Int} (h1 : ltR f1) (h2 : ltR f2) (hF : ∀ i, i < N → ltR (F1 i) ∧ ltR (F2 i) ∧ C.2.2.1 (B + 2) i = wdL (F1 i) ∧ C.2.2.1 (B + 3) i = wdL (F2 i)) : ∀ d i : Nat, i + d = N → ru_n z 43 3 [some (.ref (B + 1)), some (.long (wdL f1)), none, some (.long (wdL f2)), none, some (.int (wI i))] [] (clPut h C) = some (.inl (some (.int (wI (fdN F1 F2 f1 f2 d i)))), clPut h C) := by
  have k1 : clk (B + 1) = 3 ∧ clk (B + 2) = 103 ∧ clk (B + 3) = 103 ∧ cln (B + 2) = 20 ∧ cln (B + 3) = 20 := by rcases hB with rfl | rfl <;> decide +kernel
  have hB2 : 1003 ≤ B ∧ B ≤ 1034 := by omega
  have g0 := cl_f3_0 (h := h) (C := C) k1.1 (by omega)
  have g1 := cl_f3_1 (h := h) (C := C) k1.1 (by omega)
  have g2 := cl_f3_2 (h := h) (C := C) k1.1 (by omega)
  rw [hN] at g0
  intro d
  induction d with
  | zero =>
    intro i hi
    obtain rfl : i = N := by omega
    simp (disch := omega) only [e43_3, e43_5, e43_6, e43_9, e43_45, e43_46, ↓reduceIte, Bool.false_eq_true, not_false_eq_true, not_true_eq_false, Nat.reduceLeDiff, Nat.reduceAdd, Nat.reduceEqDiff, Int.reduceToNat, Int.toNat_natCast, iB0, iB1, ru_klI, ru_klR, ru_klF, ru_klJ, ru_kl0, ru_cs0, ru_csI, ru_csR, ru_csF, ru_csJ, wI_add, wI_sub, wI_mul, wI_lt, wI_le, wI_inj, ru_fdE, ru_fdN, ru_iaN, ru_baN, ru_laN, ru_qaN, ru_pfN, ru_isN, ru_bsN, ru_jsN, ru_qsN, ru_set2, Nat.add_right_cancel_iff, if_true, if_false, ite_self, Int.reduceEq, and_self, Int.add_neg_cancel_right, Int.add_zero, Int.zero_add, g0, Int.le_refl, fdN]
  | succ d ih =>
    intro i hi
    have ih1 := ih (i + 1) (by omega)
    simp only [Int.natCast_add, Int.natCast_one] at ih1
    have c : ((N : Int) ≤ (i : Int)) = False := eq_false (by omega)
    obtain ⟨r1, r2, r3, r4⟩ := hF i (by omega)
    have y1 := cl_l (h := h) (C := C) k1.2.1 (by omega) k1.2.2.2.1 (i := (i : Int)) (by omega) (by omega) (by omega)
    have y2 := cl_l (h := h) (C := C) k1.2.2.1 (by omega) k1.2.2.2.2 (i := (i : Int)) (by omega) (by omega) (by omega)
    rw [Int.toNat_natCast, r3, show B + 2 = B + 1 + 1 from rfl] at y1
    rw [Int.toNat_natCast, r4, show B + 3 = B + 1 + 2 from rfl] at y2
    have c3 := wdL_0 r1 h1
    have c4 := wdL_0 r2 h2
    have es : fdN F1 F2 f1 f2 (d + 1) i = if agN (F1 i) f1 8 0 = 0 ∧ agN (F2 i) f2 8 0 = 0 then (i : Int) else fdN F1 F2 f1 f2 d (i + 1) := rfl
    rw [es]
    by_cases e1 : agN (F1 i) f1 8 0 = 0
    · have d1 : (agN (F1 i) f1 8 0 = 0) = True := eq_true e1
      by_cases e2 : agN (F2 i) f2 8 0 = 0
      · have d2 : (agN (F2 i) f2 8 0 = 0) = True := eq_true e2
        rw [if_pos ⟨e1, e2⟩, e43_3]
        simp (disch := omega) only [e43_5, e43_6, e43_9, e43_12, e43_13, e43_16, e43_18, e43_19, e43_20, e43_21, e43_24, e43_25, e43_28, e43_30, e43_31, e43_32, e43_33, e43_36, e43_38, e43_39, e43_42, e43_45, e43_46, ↓reduceIte, Bool.false_eq_true, not_false_eq_true, not_true_eq_false, Nat.reduceLeDiff, Nat.reduceAdd, Nat.reduceEqDiff, Int.reduceToNat, Int.toNat_natCast, iB0, iB1, ru_klI, ru_klR, ru_klF, ru_klJ, ru_kl0, ru_cs0, ru_csI, ru_csR, ru_csF, ru_csJ, wI_add, wI_sub, wI_mul, wI_lt, wI_le, wI_inj, ru_fdE, ru_fdN, ru_iaN, ru_baN, ru_laN, ru_qaN, ru_pfN, ru_isN, ru_bsN, ru_jsN, ru_qsN, ru_set2, Nat.add_right_cancel_iff, if_true, if_false, ite_self, Int.reduceEq, and_self, Int.add_neg_cancel_right, Int.add_zero, Int.zero_add, g0, g1, g2, c, y1, y2, lg_c0, c3, c4, d1, d2, not_true]
      · have d2 : (agN (F2 i) f2 8 0 = 0) = False := eq_false e2
        rw [if_neg (fun h => e2 h.2), e43_3]
        simp (disch := omega) only [e43_5, e43_6, e43_9, e43_12, e43_13, e43_16, e43_18, e43_19, e43_20, e43_21, e43_24, e43_25, e43_28, e43_30, e43_31, e43_32, e43_33, e43_36, e43_38, e43_39, e43_42, e43_45, e43_46, ↓reduceIte, Bool.false_eq_true, not_false_eq_true, not_true_eq_false, Nat.reduceLeDiff, Nat.reduceAdd, Nat.reduceEqDiff, Int.reduceToNat, Int.toNat_natCast, iB0, iB1, ru_klI, ru_klR, ru_klF, ru_klJ, ru_kl0, ru_cs0, ru_csI, ru_csR, ru_csF, ru_csJ, wI_add, wI_sub, wI_mul, wI_lt, wI_le, wI_inj, ru_fdE, ru_fdN, ru_iaN, ru_baN, ru_laN, ru_qaN, ru_pfN, ru_isN, ru_bsN, ru_jsN, ru_qsN, ru_set2, Nat.add_right_cancel_iff, if_true, if_false, ite_self, Int.reduceEq, and_self, Int.add_neg_cancel_right, Int.add_zero, Int.zero_add, g0, g1, g2, c, y1, y2, lg_c0, c3, c4, d1, d2, not_true, not_false_iff]
        exact ih1
    · have d1 : (agN (F1 i) f1 8 0 = 0) = False := eq_false e1
      rw [if_neg (fun h => e1 h.1), e43_3]
      simp (disch := omega) only [e43_5, e43_6, e43_9, e43_12, e43_13, e43_16, e43_18, e43_19, e43_20, e43_21, e43_24, e43_25, e43_28, e43_30, e43_31, e43_32, e43_33, e43_36, e43_38, e43_39, e43_42, e43_45, e43_46, ↓reduceIte, Bool.false_eq_true, not_false_eq_true, not_true_eq_false, Nat.reduceLeDiff, Nat.reduceAdd, Nat.reduceEqDiff, Int.reduceToNat, Int.toNat_natCast, iB0, iB1, ru_klI, ru_klR, ru_klF, ru_klJ, ru_kl0, ru_cs0, ru_csI, ru_csR, ru_csF, ru_csJ, wI_add, wI_sub, wI_mul, wI_lt, wI_le, wI_inj, ru_fdE, ru_fdN, ru_iaN, ru_baN, ru_laN, ru_qaN, ru_pfN, ru_isN, ru_bsN, ru_jsN, ru_qsN, ru_set2, Nat.add_right_cancel_iff, if_true, if_false, ite_self, Int.reduceEq, and_self, Int.add_neg_cancel_right, Int.add_zero, Int.zero_add, g0, g1, g2, c, y1, y2, lg_c0, c3, c4, d1, not_true, not_false_iff]
      exact ih1
end FND
