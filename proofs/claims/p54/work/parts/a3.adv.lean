/-! ===== the class's scanner: the next token ===== -/
/-- letters and digits from a place on -/
def lnL (C : tCl) (n s : Nat) : Nat := eF (rgB C 97 122) (n - s) s - s
def lnD (C : tCl) (n s : Nat) : Nat := eF (rgB C 48 57) (n - s) s - s
def tkC (C : tCl) (p : Nat → Int) (w : Int64) (n s : Nat) : tCl :=
  if n ≤ s then inP C (up1 p 5 (s : Int)) w 205
  else if 0 < lnL C n s then inP C (up1 (up1 p 5 (s : Int)) 6 ((s : Int) + (lnL C n s : Nat))) (wdL (lwF C s (if lnL C n s ≤ 8 then lnL C n s else 8))) (if lnL C n s ≤ 8 then 200 else 204)
  else if 0 < lnD C n s then inP C (up1 (up1 (up1 p 5 (s : Int)) 6 ((s : Int) + (lnD C n s : Nat))) 9 (nmV C s (if lnD C n s ≤ 4 then lnD C n s else 4))) w (if lnD C n s ≤ 4 then 201 else 204)
  else inP C (up1 (up1 p 5 (s : Int)) 6 ((s : Int) + 1)) w (if C.2.1 1002 s = 59 then 202 else if C.2.1 1002 s = 44 then 203 else 204)
theorem lnL_b (C : tCl) {n s : Nat} (hs : s ≤ n) : s + lnL C n s ≤ n ∧ (∀ j, j < lnL C n s → 97 ≤ C.2.1 1002 (s + j) ∧ C.2.1 1002 (s + j) ≤ 122) ∧ (s + lnL C n s < n → ¬ (97 ≤ C.2.1 1002 (s + lnL C n s) ∧ C.2.1 1002 (s + lnL C n s) ≤ 122)) ∧ ((eF (rgB C 97 122) (n - s) s : Nat) : Int) - (s : Int) = ((lnL C n s : Nat) : Int) := by
  have b := eF_b (rgB C 97 122) (n - s) s
  unfold lnL
  refine ⟨by omega, fun j hj => of_decide_eq_true (eF_t (rgB C 97 122) (n - s) s (s + j) (by omega) (by omega)), fun hlt => ?_, by omega⟩
  have f := eF_f (rgB C 97 122) (n - s) s (by omega)
  rw [show s + (eF (rgB C 97 122) (n - s) s - s) = eF (rgB C 97 122) (n - s) s by omega]
  exact of_decide_eq_false f
theorem lnD_b (C : tCl) {n s : Nat} (hs : s ≤ n) : s + lnD C n s ≤ n ∧ (∀ j, j < lnD C n s → 48 ≤ C.2.1 1002 (s + j) ∧ C.2.1 1002 (s + j) ≤ 57) ∧ (s + lnD C n s < n → ¬ (48 ≤ C.2.1 1002 (s + lnD C n s) ∧ C.2.1 1002 (s + lnD C n s) ≤ 57)) ∧ ((eF (rgB C 48 57) (n - s) s : Nat) : Int) - (s : Int) = ((lnD C n s : Nat) : Int) := by
  have b := eF_b (rgB C 48 57) (n - s) s
  unfold lnD
  refine ⟨by omega, fun j hj => of_decide_eq_true (eF_t (rgB C 48 57) (n - s) s (s + j) (by omega) (by omega)), fun hlt => ?_, by omega⟩
  have f := eF_f (rgB C 48 57) (n - s) s (by omega)
  rw [show s + (eF (rgB C 48 57) (n - s) s - s) = eF (rgB C 48 57) (n - s) s by omega]
  exact of_decide_eq_false f
section ADV
variable {z : Bool} {h : am_H} {C : tCl} {p : Nat → Int} {w : Int64} {k : Nat}
theorem c20 {n e s : Nat} (h4 : p 4 = (n : Int)) (h6 : p 6 = (e : Int)) (he : e ≤ n) (hn : n ≤ 1200) (hb : ∀ i, i < n → -128 ≤ C.2.1 1002 i ∧ C.2.1 1002 i ≤ 127) (hs : s = eF (rgB C 32 32) (n - e) e) : ru_ev z 20 [.ref 1001] (clPut h (inP C p w k)) = some (.inl none, clPut h (tkC C p w n s)) := by
  have sb := eF_b (rgB C 32 32) (n - e) e
  rw [← hs] at sb
  have hsn : s ≤ n := by omega
  have k1 := c20l (z := z) (h := h) (w := w) (k := k) h4 hn hb (n - e) e (by omega)
  rw [← hs] at k1
  have g4 : up1 p 5 (s : Int) 4 = (n : Int) := by rw [up1_n (by decide)]; exact h4
  have g5 : up1 p 5 (s : Int) 5 = (s : Int) := up1_e _ _ _
  have x1 := c21 (z := z) (h := h) (w := w) (k := k) (lo := 97) (hi := 122) g4 g5 hsn hn (by omega) (by omega) hb
  have x2 := c21 (z := z) (h := h) (w := w) (k := k) (lo := 48) (hi := 57) g4 g5 hsn hn (by omega) (by omega) hb
  obtain ⟨l1, l2, l3, l4⟩ := lnL_b C hsn
  obtain ⟨d1, d2, d3, d4⟩ := lnD_b C hsn
  rw [l4] at x1
  rw [d4] at x2
  have y := c22 (z := z) (h := h) (C := C) (p := up1 p 5 (s : Int)) (w := w) (k := k) (s := s) (L := lnL C n s) (by omega) g5 (by omega) l2
  have v := c23 (z := z) (h := h) (C := C) (p := up1 p 5 (s : Int)) (w := w) (k := k) (s := s) (D := lnD C n s) (by omega) g5 (by omega) d2
  unfold tkC
  have fin : ru_n z 20 46 [some (.ref 1001), none, none] [] (clPut h (inP C (up1 p 5 (s : Int)) w k)) = some (.inl none, clPut h (tkC C p w n s)) := by
    unfold tkC
    by_cases c1 : n ≤ s
    · have e1 : ((s : Int) < (n : Int)) = False := eq_false (by omega)
      rw [if_pos c1]
      simp (disch := omega) only [e20_46, e20_47, e20_49, e20_51, e20_54, e20_55, e20_56, e20_58, e20_60, e20_63, e20_64, e20_65, e20_68, e20_69, e20_72, e20_75, e20_76, e20_79, e20_82, e20_85, e20_86, e20_89, e20_90, e20_91, e20_94, e20_97, e20_98, e20_101, e20_102, e20_103, e20_106, e20_109, e20_110, e20_111, e20_114, e20_115, e20_118, e20_119, e20_122, ↓reduceIte, Bool.false_eq_true, not_false_eq_true, not_true_eq_false, Nat.reduceLeDiff, Nat.reduceAdd, Nat.reduceEqDiff, Int.reduceToNat, Int.toNat_natCast, iB0, iB1, ru_klI, ru_klR, ru_klF, ru_klJ, ru_kl0, ru_cs0, ru_csI, ru_csR, ru_csF, ru_csJ, wI_add, wI_sub, wI_mul, wI_lt, wI_le, wI_inj, ru_fdE, ru_fdN, ru_iaN, ru_baN, ru_laN, ru_qaN, ru_pfN, ru_isN, ru_bsN, ru_jsN, ru_qsN, ru_set2, Nat.add_right_cancel_iff, if_true, if_false, ite_self, Int.reduceEq, and_self, Int.add_neg_cancel_right, Int.add_zero, Int.zero_add, in_f4, in_f5, in_s7, g4, g5, x1, x2, e1]
    · have e1 : ((s : Int) < (n : Int)) = True := eq_true (by omega)
      rw [if_neg c1]
      by_cases c2 : 0 < lnL C n s
      · have e2 : ((lnL C n s : Int) ≤ 0) = False := eq_false (by omega)
        rw [if_pos c2]
        simp (disch := omega) only [e20_46, e20_47, e20_49, e20_51, e20_54, e20_55, e20_56, e20_58, e20_60, e20_63, e20_64, e20_65, e20_68, e20_69, e20_72, e20_75, e20_76, e20_79, e20_82, e20_85, e20_86, e20_89, e20_90, e20_91, e20_94, e20_97, e20_98, e20_101, e20_102, e20_103, e20_106, e20_109, e20_110, e20_111, e20_114, e20_115, e20_118, e20_119, e20_122, ↓reduceIte, Bool.false_eq_true, not_false_eq_true, not_true_eq_false, Nat.reduceLeDiff, Nat.reduceAdd, Nat.reduceEqDiff, Int.reduceToNat, Int.toNat_natCast, iB0, iB1, ru_klI, ru_klR, ru_klF, ru_klJ, ru_kl0, ru_cs0, ru_csI, ru_csR, ru_csF, ru_csJ, wI_add, wI_sub, wI_mul, wI_lt, wI_le, wI_inj, ru_fdE, ru_fdN, ru_iaN, ru_baN, ru_laN, ru_qaN, ru_pfN, ru_isN, ru_bsN, ru_jsN, ru_qsN, ru_set2, Nat.add_right_cancel_iff, if_true, if_false, ite_self, Int.reduceEq, and_self, Int.add_neg_cancel_right, Int.add_zero, Int.zero_add, in_f4, in_f5, g4, g5, x1, x2, e1, e2, y]
      · have e2 : ((lnL C n s : Int) ≤ 0) = True := eq_true (by omega)
        rw [if_neg c2]
        by_cases c3 : 0 < lnD C n s
        · have e3 : ((lnD C n s : Int) ≤ 0) = False := eq_false (by omega)
          rw [if_pos c3]
          simp (disch := omega) only [e20_46, e20_47, e20_49, e20_51, e20_54, e20_55, e20_56, e20_58, e20_60, e20_63, e20_64, e20_65, e20_68, e20_69, e20_72, e20_75, e20_76, e20_79, e20_82, e20_85, e20_86, e20_89, e20_90, e20_91, e20_94, e20_97, e20_98, e20_101, e20_102, e20_103, e20_106, e20_109, e20_110, e20_111, e20_114, e20_115, e20_118, e20_119, e20_122, ↓reduceIte, Bool.false_eq_true, not_false_eq_true, not_true_eq_false, Nat.reduceLeDiff, Nat.reduceAdd, Nat.reduceEqDiff, Int.reduceToNat, Int.toNat_natCast, iB0, iB1, ru_klI, ru_klR, ru_klF, ru_klJ, ru_kl0, ru_cs0, ru_csI, ru_csR, ru_csF, ru_csJ, wI_add, wI_sub, wI_mul, wI_lt, wI_le, wI_inj, ru_fdE, ru_fdN, ru_iaN, ru_baN, ru_laN, ru_qaN, ru_pfN, ru_isN, ru_bsN, ru_jsN, ru_qsN, ru_set2, Nat.add_right_cancel_iff, if_true, if_false, ite_self, Int.reduceEq, and_self, Int.add_neg_cancel_right, Int.add_zero, Int.zero_add, in_f4, in_f5, g4, g5, x1, x2, e1, e2, e3, v]
        · have e3 : ((lnD C n s : Int) ≤ 0) = True := eq_true (by omega)
          rw [if_neg c3]
          have rb := in_b (h := h) (C := C) (p := up1 p 5 (s : Int)) (w := w) (k := k) (i := (s : Int)) (by omega) (by omega)
          rw [Int.toNat_natCast] at rb
          have u := c24 (z := z) (h := h) (C := C) (p := up1 p 5 (s : Int)) (w := w) (k := k) (s := s) (x := C.2.1 1002 s) g5 (by omega) (hb s (by omega))
          simp (disch := omega) only [e20_46, e20_47, e20_49, e20_51, e20_54, e20_55, e20_56, e20_58, e20_60, e20_63, e20_64, e20_65, e20_68, e20_69, e20_72, e20_75, e20_76, e20_79, e20_82, e20_85, e20_86, e20_89, e20_90, e20_91, e20_94, e20_97, e20_98, e20_101, e20_102, e20_103, e20_106, e20_109, e20_110, e20_111, e20_114, e20_115, e20_118, e20_119, e20_122, ↓reduceIte, Bool.false_eq_true, not_false_eq_true, not_true_eq_false, Nat.reduceLeDiff, Nat.reduceAdd, Nat.reduceEqDiff, Int.reduceToNat, Int.toNat_natCast, iB0, iB1, ru_klI, ru_klR, ru_klF, ru_klJ, ru_kl0, ru_cs0, ru_csI, ru_csR, ru_csF, ru_csJ, wI_add, wI_sub, wI_mul, wI_lt, wI_le, wI_inj, ru_fdE, ru_fdN, ru_iaN, ru_baN, ru_laN, ru_qaN, ru_pfN, ru_isN, ru_bsN, ru_jsN, ru_qsN, ru_set2, Nat.add_right_cancel_iff, if_true, if_false, ite_self, Int.reduceEq, and_self, Int.add_neg_cancel_right, Int.add_zero, Int.zero_add, in_f0, in_f4, in_f5, g4, g5, x1, x2, e1, e2, e3, rb, u]
  unfold tkC at fin
  rw [← fin, ← k1]
  simp (disch := omega) only [e20_0, e20_1, e20_2, e20_5, en20, ↓reduceIte, Bool.false_eq_true, not_false_eq_true, not_true_eq_false, Nat.reduceLeDiff, Nat.reduceAdd, Nat.reduceEqDiff, Int.reduceToNat, Int.toNat_natCast, iB0, iB1, ru_klI, ru_klR, ru_klF, ru_klJ, ru_kl0, ru_cs0, ru_csI, ru_csR, ru_csF, ru_csJ, wI_add, wI_sub, wI_mul, wI_lt, wI_le, wI_inj, ru_fdE, ru_fdN, ru_iaN, ru_baN, ru_laN, ru_qaN, ru_pfN, ru_isN, ru_bsN, ru_jsN, ru_qsN, ru_set2, Nat.add_right_cancel_iff, if_true, if_false, ite_self, Int.reduceEq, and_self, Int.add_neg_cancel_right, Int.add_zero, Int.zero_add, in_e, in_f6, in_s5, h6]
end ADV
