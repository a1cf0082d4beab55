/-! ===== a name told twice: class and reference ===== -/
/-- the first of the names from i on that is f1 f2 -/
def fdN (F1 F2 : Nat → Nat → Int) (f1 f2 : Nat → Int) : Nat → Nat → Int
  | 0, _ => -1
  | d + 1, i => if agN (F1 i) f1 8 0 = 0 ∧ agN (F2 i) f2 8 0 = 0 then (i : Int) else fdN F1 F2 f1 f2 d (i + 1)
theorem fdN_b (F1 F2 : Nat → Nat → Int) (f1 f2 : Nat → Int) : ∀ d i, -1 ≤ fdN F1 F2 f1 f2 d i ∧ fdN F1 F2 f1 f2 d i < (i : Int) + d
  | 0, i => by show (-1 : Int) ≤ -1 ∧ (-1 : Int) < (i : Int) + ((0 : Nat) : Int); omega
  | d + 1, i => by
    have h := fdN_b F1 F2 f1 f2 d (i + 1)
    show -1 ≤ (if agN (F1 i) f1 8 0 = 0 ∧ agN (F2 i) f2 8 0 = 0 then (i : Int) else fdN F1 F2 f1 f2 d (i + 1)) ∧ (if agN (F1 i) f1 8 0 = 0 ∧ agN (F2 i) f2 8 0 = 0 then (i : Int) else fdN F1 F2 f1 f2 d (i + 1)) < (i : Int) + ((d + 1 : Nat) : Int)
    split <;> omega
section FND
variable {z : Bool} {M : tMd} {C : tCl}
theorem c43l {h : am_H} {B N : Nat} (hB : B = 1003 ∨ B = 1034) (hN : C.1 (B + 1) 0 = (N : Int)) (hN20 : N ≤ 20) {F1 F2 : Nat → Nat → Int} {f1 f2 : Nat → Int} (h1 : ltR f1) (h2 : ltR f2) (hF : ∀ i, i < N → ltR (F1 i) ∧ ltR (F2 i) ∧ C.2.2.1 (B + 2) i = wdL (F1 i) ∧ C.2.2.1 (B + 3) i = wdL (F2 i)) : ∀ d i : Nat, i + d = N → ru_n z 43 3 [some (.ref (B + 1)), some (.long (wdL f1)), none, some (.long (wdL f2)), none, some (.int (wI i))] [] (clPut h C) = some (.inl (some (.int (wI (fdN F1 F2 f1 f2 d i)))), clPut h C) := by
  have k1 : clk (B + 1) = 3 ∧ clk (B + 2) = 103 ∧ clk (B + 3) = 103 ∧ cln (B + 2) = 20 ∧ cln (B + 3) = 20 := by rcases hB with rfl | rfl <;> decide +kernel
  have hB2 : 1003 ≤ B ∧ B ≤ 1034 := by omega
  have g0 := cl_f3_0 (h := h) (C := C) k1.1 (by omega)
  have g1 := cl_f3_1 (h := h) (C := C) k1.1 (by omega)
  have g2 := cl_f3_2 (h := h) (C := C) k1.1 (by omega)
  rw [hN] at g0
  intro d
  induction d with
  | zero =>
    intro i hi
    obtain rfl : i = N := by omega
    simp (disch := omega) only [e43_3, e43_5, e43_6, e43_9, e43_45, e43_46, ↓reduceIte, Bool.false_eq_true, not_false_eq_true, not_true_eq_false, Nat.reduceLeDiff, Nat.reduceAdd, Nat.reduceEqDiff, Int.reduceToNat, Int.toNat_natCast, iB0, iB1, ru_klI, ru_klR, ru_klF, ru_klJ, ru_kl0, ru_cs0, ru_csI, ru_csR, ru_csF, ru_csJ, wI_add, wI_sub, wI_mul, wI_lt, wI_le, wI_inj, ru_fdE, ru_fdN, ru_iaN, ru_baN, ru_laN, ru_qaN, ru_pfN, ru_isN, ru_bsN, ru_jsN, ru_qsN, ru_set2, Nat.add_right_cancel_iff, if_true, if_false, ite_self, Int.reduceEq, and_self, Int.add_neg_cancel_right, Int.add_zero, Int.zero_add, g0, Int.le_refl, fdN]
  | succ d ih =>
    intro i hi
    have ih1 := ih (i + 1) (by omega)
    simp only [Int.natCast_add, Int.natCast_one] at ih1
    have c : ((N : Int) ≤ (i : Int)) = False := eq_false (by omega)
    obtain ⟨r1, r2, r3, r4⟩ := hF i (by omega)
    have y1 := cl_l (h := h) (C := C) k1.2.1 (by omega) k1.2.2.2.1 (i := (i : Int)) (by omega) (by omega) (by omega)
    have y2 := cl_l (h := h) (C := C) k1.2.2.1 (by omega) k1.2.2.2.2 (i := (i : Int)) (by omega) (by omega) (by omega)
    rw [Int.toNat_natCast, r3, show B + 2 = B + 1 + 1 from rfl] at y1
    rw [Int.toNat_natCast, r4, show B + 3 = B + 1 + 2 from rfl] at y2
    have c3 := wdL_0 r1 h1
    have c4 := wdL_0 r2 h2
    have es : fdN F1 F2 f1 f2 (d + 1) i = if agN (F1 i) f1 8 0 = 0 ∧ agN (F2 i) f2 8 0 = 0 then (i : Int) else fdN F1 F2 f1 f2 d (i + 1) := rfl
    rw [es]
    by_cases e1 : agN (F1 i) f1 8 0 = 0
    · have d1 : (agN (F1 i) f1 8 0 = 0) = True := eq_true e1
      by_cases e2 : agN (F2 i) f2 8 0 = 0
      · have d2 : (agN (F2 i) f2 8 0 = 0) = True := eq_true e2
        rw [if_pos ⟨e1, e2⟩, e43_3]
        simp (disch := omega) only [e43_5, e43_6, e43_9, e43_12, e43_13, e43_16, e43_18, e43_19, e43_20, e43_21, e43_24, e43_25, e43_28, e43_30, e43_31, e43_32, e43_33, e43_36, e43_38, e43_39, e43_42, e43_45, e43_46, ↓reduceIte, Bool.false_eq_true, not_false_eq_true, not_true_eq_false, Nat.reduceLeDiff, Nat.reduceAdd, Nat.reduceEqDiff, Int.reduceToNat, Int.toNat_natCast, iB0, iB1, ru_klI, ru_klR, ru_klF, ru_klJ, ru_kl0, ru_cs0, ru_csI, ru_csR, ru_csF, ru_csJ, wI_add, wI_sub, wI_mul, wI_lt, wI_le, wI_inj, ru_fdE, ru_fdN, ru_iaN, ru_baN, ru_laN, ru_qaN, ru_pfN, ru_isN, ru_bsN, ru_jsN, ru_qsN, ru_set2, Nat.add_right_cancel_iff, if_true, if_false, ite_self, Int.reduceEq, and_self, Int.add_neg_cancel_right, Int.add_zero, Int.zero_add, g0, g1, g2, c, y1, y2, lg_c0, c3, c4, d1, d2, not_true]
      · have d2 : (agN (F2 i) f2 8 0 = 0) = False := eq_false e2
        rw [if_neg (fun h => e2 h.2), e43_3]
        simp (disch := omega) only [e43_5, e43_6, e43_9, e43_12, e43_13, e43_16, e43_18, e43_19, e43_20, e43_21, e43_24, e43_25, e43_28, e43_30, e43_31, e43_32, e43_33, e43_36, e43_38, e43_39, e43_42, e43_45, e43_46, ↓reduceIte, Bool.false_eq_true, not_false_eq_true, not_true_eq_false, Nat.reduceLeDiff, Nat.reduceAdd, Nat.reduceEqDiff, Int.reduceToNat, Int.toNat_natCast, iB0, iB1, ru_klI, ru_klR, ru_klF, ru_klJ, ru_kl0, ru_cs0, ru_csI, ru_csR, ru_csF, ru_csJ, wI_add, wI_sub, wI_mul, wI_lt, wI_le, wI_inj, ru_fdE, ru_fdN, ru_iaN, ru_baN, ru_laN, ru_qaN, ru_pfN, ru_isN, ru_bsN, ru_jsN, ru_qsN, ru_set2, Nat.add_right_cancel_iff, if_true, if_false, ite_self, Int.reduceEq, and_self, Int.add_neg_cancel_right, Int.add_zero, Int.zero_add, g0, g1, g2, c, y1, y2, lg_c0, c3, c4, d1, d2, not_true, not_false_iff]
        exact ih1
    · have d1 : (agN (F1 i) f1 8 0 = 0) = False := eq_false e1
      rw [if_neg (fun h => e1 h.1), e43_3]
      simp (disch := omega) only [e43_5, e43_6, e43_9, e43_12, e43_13, e43_16, e43_18, e43_19, e43_20, e43_21, e43_24, e43_25, e43_28, e43_30, e43_31, e43_32, e43_33, e43_36, e43_38, e43_39, e43_42, e43_45, e43_46, ↓reduceIte, Bool.false_eq_true, not_false_eq_true, not_true_eq_false, Nat.reduceLeDiff, Nat.reduceAdd, Nat.reduceEqDiff, Int.reduceToNat, Int.toNat_natCast, iB0, iB1, ru_klI, ru_klR, ru_klF, ru_klJ, ru_kl0, ru_cs0, ru_csI, ru_csR, ru_csF, ru_csJ, wI_add, wI_sub, wI_mul, wI_lt, wI_le, wI_inj, ru_fdE, ru_fdN, ru_iaN, ru_baN, ru_laN, ru_qaN, ru_pfN, ru_isN, ru_bsN, ru_jsN, ru_qsN, ru_set2, Nat.add_right_cancel_iff, if_true, if_false, ite_self, Int.reduceEq, and_self, Int.add_neg_cancel_right, Int.add_zero, Int.zero_add, g0, g1, g2, c, y1, y2, lg_c0, c3, c4, d1, not_true, not_false_iff]
      exact ih1
end FND
section FND2
variable {z : Bool} {M : tMd} {C : tCl}
theorem c43 {h : am_H} {B N : Nat} (hB : B = 1003 ∨ B = 1034) (hN : C.1 (B + 1) 0 = (N : Int)) (hN20 : N ≤ 20) {F1 F2 : Nat → Nat → Int} {f1 f2 : Nat → Int} (h1 : ltR f1) (h2 : ltR f2) (hF : ∀ i, i < N → ltR (F1 i) ∧ ltR (F2 i) ∧ C.2.2.1 (B + 2) i = wdL (F1 i) ∧ C.2.2.1 (B + 3) i = wdL (F2 i)) : ru_ev z 43 [.ref (B + 1), .long (wdL f1), .long (wdL f2)] (clPut h C) = some (.inl (some (.int (wI (fdN F1 F2 f1 f2 N 0)))), clPut h C) := by
  have k := c43l (z := z) (h := h) hB hN hN20 h1 h2 hF N 0 (by omega)
  have k1 : clk (B + 1) = 3 := by rcases hB with rfl | rfl <;> decide +kernel
  have e : (clPut h C).1 (B + 1) = some (.inr (3, clL3 C (B + 1))) := clP3 k1 (by omega)
  rw [show ((0 : Nat) : Int) = 0 from rfl] at k
  simp (disch := omega) only [e43_0, e43_1, en43, ↓reduceIte, Bool.false_eq_true, not_false_eq_true, not_true_eq_false, Nat.reduceLeDiff, Nat.reduceAdd, Nat.reduceEqDiff, Int.reduceToNat, Int.toNat_natCast, iB0, iB1, ru_klI, ru_klR, ru_klF, ru_klJ, ru_kl0, ru_cs0, ru_csI, ru_csR, ru_csF, ru_csJ, wI_add, wI_sub, wI_mul, wI_lt, wI_le, wI_inj, ru_fdE, ru_fdN, ru_iaN, ru_baN, ru_laN, ru_qaN, ru_pfN, ru_isN, ru_bsN, ru_jsN, ru_qsN, ru_set2, Nat.add_right_cancel_iff, if_true, if_false, ite_self, Int.reduceEq, and_self, Int.add_neg_cancel_right, Int.add_zero, Int.zero_add, e]
  exact k
theorem p70l {h : am_H} {a N off : Nat} {G : Nat → Int} (hA : (mdPut h M).1 a = some (.inl (0, 320, .inl (fun i => wI (G i))))) (hN : N ≤ 20) (hoff : off + 8 ≤ 104) (hG : ∀ i, i < 16 * N → -1000 ≤ G i ∧ G i ≤ 1000) (h7 : ∀ k, k < 8 → -1000 ≤ M.2 7 (off + k) ∧ M.2 7 (off + k) ≤ 1000) (h4 : ∀ k, k < 8 → -1000 ≤ M.2 4 k ∧ M.2 4 k ≤ 1000) : ∀ d i : Nat, i + d = N → ru_n z 70 3 [some (.ref 1315), some (.ref a), some (.int (wI N)), some (.ref 1323), some (.int (wI off)), some (.int (wI i))] [] (mdPut h M) = some (.inl (some (.int (wI (fdN (fun i k => G (16 * i + k)) (fun i k => G (16 * i + 8 + k)) (fun k => M.2 7 (off + k)) (fun k => M.2 4 k) d i)))), mdPut h M) := by
  have a7 := mdC7 (mdAt_put h M)
  have a4 := mdC4 (mdAt_put h M)
  intro d
  induction d with
  | zero =>
    intro i hi
    obtain rfl : i = N := by omega
    simp (disch := omega) only [e70_3, e70_5, e70_6, e70_53, e70_54, ↓reduceIte, Bool.false_eq_true, not_false_eq_true, not_true_eq_false, Nat.reduceLeDiff, Nat.reduceAdd, Nat.reduceEqDiff, Int.reduceToNat, Int.toNat_natCast, iB0, iB1, ru_klI, ru_klR, ru_klF, ru_klJ, ru_kl0, ru_cs0, ru_csI, ru_csR, ru_csF, ru_csJ, wI_add, wI_sub, wI_mul, wI_lt, wI_le, wI_inj, ru_fdE, ru_fdN, ru_iaN, ru_baN, ru_laN, ru_qaN, ru_pfN, ru_isN, ru_bsN, ru_jsN, ru_qsN, ru_set2, Nat.add_right_cancel_iff, if_true, if_false, ite_self, Int.reduceEq, and_self, Int.add_neg_cancel_right, Int.add_zero, Int.zero_add, Int.le_refl, fdN]
  | succ d ih =>
    intro i hi
    have ih1 := ih (i + 1) (by omega)
    simp only [Int.natCast_add, Int.natCast_one] at ih1
    have c : ((N : Int) ≤ (i : Int)) = False := eq_false (by omega)
    have x1 := p71 (z := z) hA a7 (i := 16 * i) (j := off) (by omega) (by omega) (by omega) (by omega) (fun k hk => hG _ (by omega)) h7
    have x2 := p71 (z := z) hA a4 (i := 16 * i + 8) (j := 0) (by omega) (by omega) (by omega) (by omega) (fun k hk => hG _ (by omega)) (fun k hk => by rw [Nat.zero_add]; exact h4 k hk)
    simp only [Nat.zero_add] at x2
    simp only [Int.natCast_add, Int.natCast_mul, show ((16 : Nat) : Int) = 16 from rfl, show ((8 : Nat) : Int) = 8 from rfl, show ((0 : Nat) : Int) = 0 from rfl] at x1 x2
    have es : fdN (fun i k => G (16 * i + k)) (fun i k => G (16 * i + 8 + k)) (fun k => M.2 7 (off + k)) (fun k => M.2 4 k) (d + 1) i = if agN (fun k => G (16 * i + k)) (fun k => M.2 7 (off + k)) 8 0 = 0 ∧ agN (fun k => G (16 * i + 8 + k)) (fun k => M.2 4 k) 8 0 = 0 then (i : Int) else fdN (fun i k => G (16 * i + k)) (fun i k => G (16 * i + 8 + k)) (fun k => M.2 7 (off + k)) (fun k => M.2 4 k) d (i + 1) := rfl
    have d0 : ((0 : Int) = 0) = True := eq_true rfl
    have d1 : ((1 : Int) = 0) = False := eq_false (by decide)
    rw [es]
    by_cases e1 : agN (fun k => G (16 * i + k)) (fun k => M.2 7 (off + k)) 8 0 = 0
    · rw [if_pos e1] at x1
      by_cases e2 : agN (fun k => G (16 * i + 8 + k)) (fun k => M.2 4 k) 8 0 = 0
      · rw [if_pos e2] at x2
        rw [if_pos ⟨e1, e2⟩, e70_3]
        simp (disch := omega) only [e70_5, e70_6, e70_9, e70_10, e70_12, e70_14, e70_15, e70_16, e70_18, e70_21, e70_24, e70_25, e70_27, e70_29, e70_30, e70_32, e70_33, e70_34, e70_37, e70_38, e70_41, e70_44, e70_46, ↓reduceIte, Bool.false_eq_true, not_false_eq_true, not_true_eq_false, Nat.reduceLeDiff, Nat.reduceAdd, Nat.reduceEqDiff, Int.reduceToNat, Int.toNat_natCast, iB0, iB1, ru_klI, ru_klR, ru_klF, ru_klJ, ru_kl0, ru_cs0, ru_csI, ru_csR, ru_csF, ru_csJ, wI_add, wI_sub, wI_mul, wI_lt, wI_le, wI_inj, ru_fdE, ru_fdN, ru_iaN, ru_baN, ru_laN, ru_qaN, ru_pfN, ru_isN, ru_bsN, ru_jsN, ru_qsN, ru_set2, Nat.add_right_cancel_iff, if_true, if_false, ite_self, Int.reduceEq, and_self, Int.add_neg_cancel_right, Int.add_zero, Int.zero_add, md_e, md_f14, c, x1, x2, d0, d1, not_true]
      · rw [if_neg e2] at x2
        rw [if_neg (fun h => e2 h.2), e70_3]
        simp (disch := omega) only [e70_5, e70_6, e70_9, e70_10, e70_12, e70_14, e70_15, e70_16, e70_18, e70_21, e70_24, e70_25, e70_27, e70_29, e70_30, e70_32, e70_33, e70_34, e70_37, e70_38, e70_41, e70_44, e70_46, e70_47, e70_50, ↓reduceIte, Bool.false_eq_true, not_false_eq_true, not_true_eq_false, Nat.reduceLeDiff, Nat.reduceAdd, Nat.reduceEqDiff, Int.reduceToNat, Int.toNat_natCast, iB0, iB1, ru_klI, ru_klR, ru_klF, ru_klJ, ru_kl0, ru_cs0, ru_csI, ru_csR, ru_csF, ru_csJ, wI_add, wI_sub, wI_mul, wI_lt, wI_le, wI_inj, ru_fdE, ru_fdN, ru_iaN, ru_baN, ru_laN, ru_qaN, ru_pfN, ru_isN, ru_bsN, ru_jsN, ru_qsN, ru_set2, Nat.add_right_cancel_iff, if_true, if_false, ite_self, Int.reduceEq, and_self, Int.add_neg_cancel_right, Int.add_zero, Int.zero_add, md_e, md_f14, c, x1, x2, d0, d1, not_true, not_false_iff]
        exact ih1
    · rw [if_neg e1] at x1
      rw [if_neg (fun h => e1 h.1), e70_3]
      simp (disch := omega) only [e70_5, e70_6, e70_9, e70_10, e70_12, e70_14, e70_15, e70_16, e70_18, e70_21, e70_24, e70_25, e70_27, e70_29, e70_30, e70_32, e70_33, e70_34, e70_37, e70_38, e70_41, e70_44, e70_46, e70_47, e70_50, ↓reduceIte, Bool.false_eq_true, not_false_eq_true, not_true_eq_false, Nat.reduceLeDiff, Nat.reduceAdd, Nat.reduceEqDiff, Int.reduceToNat, Int.toNat_natCast, iB0, iB1, ru_klI, ru_klR, ru_klF, ru_klJ, ru_kl0, ru_cs0, ru_csI, ru_csR, ru_csF, ru_csJ, wI_add, wI_sub, wI_mul, wI_lt, wI_le, wI_inj, ru_fdE, ru_fdN, ru_iaN, ru_baN, ru_laN, ru_qaN, ru_pfN, ru_isN, ru_bsN, ru_jsN, ru_qsN, ru_set2, Nat.add_right_cancel_iff, if_true, if_false, ite_self, Int.reduceEq, and_self, Int.add_neg_cancel_right, Int.add_zero, Int.zero_add, md_e, md_f14, c, x1, d0, d1, not_true, not_false_iff]
      exact ih1
end FND2
