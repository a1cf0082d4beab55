/-! ===== the class's scanner: numbers, signs, the next token ===== -/
def nmV (C : tCl) (s : Nat) : Nat → Int
  | 0 => 0
  | i + 1 => 10 * nmV C s i + C.2.1 1002 (s + i) - 48
theorem nmV_b {C : tCl} {s : Nat} : ∀ m, m ≤ 4 → (∀ j, j < m → 48 ≤ C.2.1 1002 (s + j) ∧ C.2.1 1002 (s + j) ≤ 57) → 0 ≤ nmV C s m ∧ nmV C s m ≤ 9999 := by
  intro m hm hb
  have b := fun j hj => hb j hj
  have hc : m = 0 ∨ m = 1 ∨ m = 2 ∨ m = 3 ∨ m = 4 := by omega
  rcases hc with rfl | rfl | rfl | rfl | rfl
  · simp only [nmV]; omega
  · have h0 := hb 0 (by omega); simp only [nmV]; omega
  · have h0 := hb 0 (by omega); have h1 := hb 1 (by omega); simp only [nmV]; omega
  · have h0 := hb 0 (by omega); have h1 := hb 1 (by omega); have h2 := hb 2 (by omega); simp only [nmV]; omega
  · have h0 := hb 0 (by omega); have h1 := hb 1 (by omega); have h2 := hb 2 (by omega); have h3 := hb 3 (by omega); simp only [nmV]; omega
section SCA
variable {z : Bool} {h : am_H} {C : tCl} {p : Nat → Int} {w : Int64} {k : Nat}
theorem c23l {s D m : Nat} (hm : m = if D ≤ 4 then D else 4) (hD : D ≤ 1200) (h5 : p 5 = (s : Int)) (hs : s + D ≤ 1200) (hb : ∀ j, j < D → 48 ≤ C.2.1 1002 (s + j) ∧ C.2.1 1002 (s + j) ≤ 57) : ∀ d i : Nat, i + d = m → ru_n z 23 35 [some (.ref 1001), some (.int (wI D)), some (.int (wI i))] [] (clPut h (inP C (up1 p 9 (nmV C s i)) w k)) = some (.inl none, clPut h (inP C (up1 p 9 (nmV C s m)) w k)) := by
  have hm8 : m ≤ 4 ∧ m ≤ D := by rw [hm]; split <;> omega
  intro d
  induction d with
  | zero =>
    intro i hin
    obtain rfl : i = m := by omega
    by_cases c : D ≤ 4
    · have c1 : ((D : Int) ≤ (i : Int)) = True := eq_true (by rw [if_pos c] at hm; omega)
      simp (disch := omega) only [e23_35, e23_36, e23_37, e23_77, ↓reduceIte, Bool.false_eq_true, not_false_eq_true, not_true_eq_false, Nat.reduceLeDiff, Nat.reduceAdd, Nat.reduceEqDiff, Int.reduceToNat, Int.toNat_natCast, iB0, iB1, ru_klI, ru_klR, ru_klF, ru_klJ, ru_kl0, ru_cs0, ru_csI, ru_csR, ru_csF, ru_csJ, wI_add, wI_sub, wI_mul, wI_lt, wI_le, wI_inj, ru_fdE, ru_fdN, ru_iaN, ru_baN, ru_laN, ru_qaN, ru_pfN, ru_isN, ru_bsN, ru_jsN, ru_qsN, ru_set2, Nat.add_right_cancel_iff, if_true, if_false, ite_self, Int.reduceEq, and_self, Int.add_neg_cancel_right, Int.add_zero, Int.zero_add, c1]
    · have c1 : ((D : Int) ≤ (i : Int)) = False := eq_false (by rw [if_neg c] at hm; omega)
      have c2 : ((4 : Int) ≤ (i : Int)) = True := eq_true (by rw [if_neg c] at hm; omega)
      simp (disch := omega) only [e23_35, e23_36, e23_37, e23_40, e23_41, e23_42, e23_77, ↓reduceIte, Bool.false_eq_true, not_false_eq_true, not_true_eq_false, Nat.reduceLeDiff, Nat.reduceAdd, Nat.reduceEqDiff, Int.reduceToNat, Int.toNat_natCast, iB0, iB1, ru_klI, ru_klR, ru_klF, ru_klJ, ru_kl0, ru_cs0, ru_csI, ru_csR, ru_csF, ru_csJ, wI_add, wI_sub, wI_mul, wI_lt, wI_le, wI_inj, ru_fdE, ru_fdN, ru_iaN, ru_baN, ru_laN, ru_qaN, ru_pfN, ru_isN, ru_bsN, ru_jsN, ru_qsN, ru_set2, Nat.add_right_cancel_iff, if_true, if_false, ite_self, Int.reduceEq, and_self, Int.add_neg_cancel_right, Int.add_zero, Int.zero_add, c1, c2]
  | succ d ih =>
    intro i hin
    have ih1 := ih (i + 1) (by omega)
    simp only [Int.natCast_add, Int.natCast_one] at ih1
    have c1 : ((D : Int) ≤ (i : Int)) = False := eq_false (by omega)
    have c2 : ((4 : Int) ≤ (i : Int)) = False := eq_false (by omega)
    have rb := in_b (h := h) (C := C) (p := up1 p 9 (nmV C s i)) (w := w) (k := k) (i := (s : Int) + (i : Int)) (by omega) (by omega)
    rw [show ((s : Int) + (i : Int)).toNat = s + i by omega] at rb
    have hbi := hb i (by omega)
    have nb := nmV_b (C := C) (s := s) i (by omega) (fun j hj => hb j (by omega))
    have e5 : up1 p 9 (nmV C s i) 5 = (s : Int) := by rw [up1_n (by decide)]; exact h5
    have e9 : up1 p 9 (nmV C s i) 9 = nmV C s i := up1_e _ _ _
    have ev : up1 p 9 (10 * nmV C s i + C.2.1 1002 (s + i) - 48) = up1 p 9 (nmV C s (i + 1)) := rfl
    rw [e23_35]
    simp (disch := omega) only [e23_36, e23_37, e23_40, e23_41, e23_42, e23_45, e23_46, e23_48, e23_49, e23_52, e23_53, e23_54, e23_57, e23_58, e23_61, e23_62, e23_63, e23_64, e23_65, e23_67, e23_68, e23_71, e23_74, ↓reduceIte, Bool.false_eq_true, not_false_eq_true, not_true_eq_false, Nat.reduceLeDiff, Nat.reduceAdd, Nat.reduceEqDiff, Int.reduceToNat, Int.toNat_natCast, iB0, iB1, ru_klI, ru_klR, ru_klF, ru_klJ, ru_kl0, ru_cs0, ru_csI, ru_csR, ru_csF, ru_csJ, wI_add, wI_sub, wI_mul, wI_lt, wI_le, wI_inj, ru_fdE, ru_fdN, ru_iaN, ru_baN, ru_laN, ru_qaN, ru_pfN, ru_isN, ru_bsN, ru_jsN, ru_qsN, ru_set2, Nat.add_right_cancel_iff, if_true, if_false, ite_self, Int.reduceEq, and_self, Int.add_neg_cancel_right, Int.add_zero, Int.zero_add, in_f0, in_f5, in_f9, in_s9, e5, e9, c1, c2, rb, up1_up1, ev, ru_ctR]
    exact ih1
theorem c23 {s D : Nat} (hD : D ≤ 1200) (h5 : p 5 = (s : Int)) (hs : s + D ≤ 1200) (hb : ∀ j, j < D → 48 ≤ C.2.1 1002 (s + j) ∧ C.2.1 1002 (s + j) ≤ 57) : ru_ev z 23 [.ref 1001, .int (wI D)] (clPut h (inP C p w k)) = some (.inl none, clPut h (inP C (up1 (up1 p 6 ((s : Int) + D)) 9 (nmV C s (if D ≤ 4 then D else 4))) w (if D ≤ 4 then 201 else 204))) := by
  have key := fun k2 => c23l (z := z) (h := h) (C := C) (p := up1 p 6 ((s : Int) + D)) (w := w) (k := k2) (s := s) (D := D) rfl hD (by rw [up1_n (by decide)]; exact h5) hs hb (if D ≤ 4 then D else 4) 0 (by omega)
  rw [show ((0 : Nat) : Int) = 0 from rfl] at key
  have e0 : nmV C s 0 = 0 := rfl
  rw [e0] at key
  by_cases c : D ≤ 4
  · have c1 : ((D : Int) ≤ 4) = True := eq_true (by omega)
    have k2 := key 201
    simp only [if_pos c] at k2 ⊢
    simp (disch := omega) only [e23_0, e23_1, e23_2, e23_5, e23_6, e23_7, e23_10, e23_11, e23_12, e23_13, e23_16, e23_19, e23_22, e23_25, e23_28, e23_29, e23_30, e23_33, e23_34, en23, ↓reduceIte, Bool.false_eq_true, not_false_eq_true, not_true_eq_false, Nat.reduceLeDiff, Nat.reduceAdd, Nat.reduceEqDiff, Int.reduceToNat, Int.toNat_natCast, iB0, iB1, ru_klI, ru_klR, ru_klF, ru_klJ, ru_kl0, ru_cs0, ru_csI, ru_csR, ru_csF, ru_csJ, wI_add, wI_sub, wI_mul, wI_lt, wI_le, wI_inj, ru_fdE, ru_fdN, ru_iaN, ru_baN, ru_laN, ru_qaN, ru_pfN, ru_isN, ru_bsN, ru_jsN, ru_qsN, ru_set2, Nat.add_right_cancel_iff, if_true, if_false, ite_self, Int.reduceEq, and_self, Int.add_neg_cancel_right, Int.add_zero, Int.zero_add, in_e, in_f5, in_s6, in_s7, in_s9, h5, c1]
    exact k2
  · have c1 : ((D : Int) ≤ 4) = False := eq_false (by omega)
    have k2 := key 204
    simp only [if_neg c] at k2 ⊢
    simp (disch := omega) only [e23_0, e23_1, e23_2, e23_5, e23_6, e23_7, e23_10, e23_11, e23_12, e23_13, e23_16, e23_19, e23_22, e23_25, e23_28, e23_29, e23_30, e23_33, e23_34, en23, ↓reduceIte, Bool.false_eq_true, not_false_eq_true, not_true_eq_false, Nat.reduceLeDiff, Nat.reduceAdd, Nat.reduceEqDiff, Int.reduceToNat, Int.toNat_natCast, iB0, iB1, ru_klI, ru_klR, ru_klF, ru_klJ, ru_kl0, ru_cs0, ru_csI, ru_csR, ru_csF, ru_csJ, wI_add, wI_sub, wI_mul, wI_lt, wI_le, wI_inj, ru_fdE, ru_fdN, ru_iaN, ru_baN, ru_laN, ru_qaN, ru_pfN, ru_isN, ru_bsN, ru_jsN, ru_qsN, ru_set2, Nat.add_right_cancel_iff, if_true, if_false, ite_self, Int.reduceEq, and_self, Int.add_neg_cancel_right, Int.add_zero, Int.zero_add, in_e, in_f5, in_s6, in_s7, in_s9, h5, c1]
    exact k2
theorem c24 {s : Nat} {x : Int} (h5 : p 5 = (s : Int)) (hs : s < 1200) (hx : -128 ≤ x ∧ x ≤ 127) : ru_ev z 24 [.ref 1001, .int (wI x)] (clPut h (inP C p w k)) = some (.inl none, clPut h (inP C (up1 p 6 ((s : Int) + 1)) w (if x = 59 then 202 else if x = 44 then 203 else 204))) := by
  by_cases c1 : x = 59
  · have d1 : (x = 59) = True := eq_true c1
    rw [if_pos c1]
    simp (disch := omega) only [en24, e24_0, e24_1, e24_2, e24_5, e24_6, e24_7, e24_10, e24_11, e24_12, e24_14, e24_17, e24_20, e24_23, e24_24, e24_26, e24_29, e24_32, e24_35, e24_38, e24_41, ↓reduceIte, Bool.false_eq_true, not_false_eq_true, not_true_eq_false, Nat.reduceLeDiff, Nat.reduceAdd, Nat.reduceEqDiff, Int.reduceToNat, Int.toNat_natCast, iB0, iB1, ru_klI, ru_klR, ru_klF, ru_klJ, ru_kl0, ru_cs0, ru_csI, ru_csR, ru_csF, ru_csJ, wI_add, wI_sub, wI_mul, wI_lt, wI_le, wI_inj, ru_fdE, ru_fdN, ru_iaN, ru_baN, ru_laN, ru_qaN, ru_pfN, ru_isN, ru_bsN, ru_jsN, ru_qsN, ru_set2, Nat.add_right_cancel_iff, if_true, if_false, ite_self, Int.reduceEq, and_self, Int.add_neg_cancel_right, Int.add_zero, Int.zero_add, in_e, in_f5, in_s6, in_s7, h5, d1, not_true]
  · have d1 : (x = 59) = False := eq_false c1
    rw [if_neg c1]
    by_cases c2 : x = 44
    · have d2 : (x = 44) = True := eq_true c2
      rw [if_pos c2]
      simp (disch := omega) only [en24, e24_0, e24_1, e24_2, e24_5, e24_6, e24_7, e24_10, e24_11, e24_12, e24_14, e24_17, e24_20, e24_23, e24_24, e24_26, e24_29, e24_32, e24_35, e24_38, e24_41, ↓reduceIte, Bool.false_eq_true, not_false_eq_true, not_true_eq_false, Nat.reduceLeDiff, Nat.reduceAdd, Nat.reduceEqDiff, Int.reduceToNat, Int.toNat_natCast, iB0, iB1, ru_klI, ru_klR, ru_klF, ru_klJ, ru_kl0, ru_cs0, ru_csI, ru_csR, ru_csF, ru_csJ, wI_add, wI_sub, wI_mul, wI_lt, wI_le, wI_inj, ru_fdE, ru_fdN, ru_iaN, ru_baN, ru_laN, ru_qaN, ru_pfN, ru_isN, ru_bsN, ru_jsN, ru_qsN, ru_set2, Nat.add_right_cancel_iff, if_true, if_false, ite_self, Int.reduceEq, and_self, Int.add_neg_cancel_right, Int.add_zero, Int.zero_add, in_e, in_f5, in_s6, in_s7, h5, d1, d2, not_true, not_false_iff]
    · have d2 : (x = 44) = False := eq_false c2
      rw [if_neg c2]
      simp (disch := omega) only [en24, e24_0, e24_1, e24_2, e24_5, e24_6, e24_7, e24_10, e24_11, e24_12, e24_14, e24_17, e24_20, e24_23, e24_24, e24_26, e24_29, e24_32, e24_35, e24_38, e24_41, ↓reduceIte, Bool.false_eq_true, not_false_eq_true, not_true_eq_false, Nat.reduceLeDiff, Nat.reduceAdd, Nat.reduceEqDiff, Int.reduceToNat, Int.toNat_natCast, iB0, iB1, ru_klI, ru_klR, ru_klF, ru_klJ, ru_kl0, ru_cs0, ru_csI, ru_csR, ru_csF, ru_csJ, wI_add, wI_sub, wI_mul, wI_lt, wI_le, wI_inj, ru_fdE, ru_fdN, ru_iaN, ru_baN, ru_laN, ru_qaN, ru_pfN, ru_isN, ru_bsN, ru_jsN, ru_qsN, ru_set2, Nat.add_right_cancel_iff, if_true, if_false, ite_self, Int.reduceEq, and_self, Int.add_neg_cancel_right, Int.add_zero, Int.zero_add, in_e, in_f5, in_s6, in_s7, h5, d1, d2, not_true, not_false_iff]
theorem c20l {n : Nat} (h4 : p 4 = (n : Int)) (hn : n ≤ 1200) (hb : ∀ i, i < n → -128 ≤ C.2.1 1002 i ∧ C.2.1 1002 i ≤ 127) : ∀ d i : Nat, i + d = n → ru_n z 20 8 [some (.ref 1001), none, none] [] (clPut h (inP C (up1 p 5 (i : Int)) w k)) = ru_n z 20 46 [some (.ref 1001), none, none] [] (clPut h (inP C (up1 p 5 ((eF (rgB C 32 32) d i : Nat) : Int)) w k)) := by
  intro d
  induction d with
  | zero =>
    intro i hin
    obtain rfl : i = n := by omega
    have e4 : up1 p 5 (i : Int) 4 = (i : Int) := by rw [up1_n (by decide)]; exact h4
    have e5 : up1 p 5 (i : Int) 5 = (i : Int) := up1_e _ _ _
    simp (disch := omega) only [e20_8, e20_9, e20_12, e20_13, e20_16, ↓reduceIte, Bool.false_eq_true, not_false_eq_true, not_true_eq_false, Nat.reduceLeDiff, Nat.reduceAdd, Nat.reduceEqDiff, Int.reduceToNat, Int.toNat_natCast, iB0, iB1, ru_klI, ru_klR, ru_klF, ru_klJ, ru_kl0, ru_cs0, ru_csI, ru_csR, ru_csF, ru_csJ, wI_add, wI_sub, wI_mul, wI_lt, wI_le, wI_inj, ru_fdE, ru_fdN, ru_iaN, ru_baN, ru_laN, ru_qaN, ru_pfN, ru_isN, ru_bsN, ru_jsN, ru_qsN, ru_set2, Nat.add_right_cancel_iff, if_true, if_false, ite_self, Int.reduceEq, and_self, Int.add_neg_cancel_right, Int.add_zero, Int.zero_add, in_f4, in_f5, e4, e5, Int.le_refl, eF]
  | succ d ih =>
    intro i hin
    have e4 : up1 p 5 (i : Int) 4 = (n : Int) := by rw [up1_n (by decide)]; exact h4
    have e5 : up1 p 5 (i : Int) 5 = (i : Int) := up1_e _ _ _
    have c : ((n : Int) ≤ (i : Int)) = False := eq_false (by omega)
    have rb := in_b (h := h) (C := C) (p := up1 p 5 (i : Int)) (w := w) (k := k) (i := (i : Int)) (by omega) (by omega)
    rw [Int.toNat_natCast] at rb
    have b := hb i (by omega)
    show _ = ru_n z 20 46 [some (.ref 1001), none, none] [] (clPut h (inP C (up1 p 5 (((if rgB C 32 32 i = true then eF (rgB C 32 32) d (i + 1) else i : Nat) : Nat) : Int)) w k))
    by_cases c1 : C.2.1 1002 i = 32
    · have d1 : (C.2.1 1002 i = 32) = True := eq_true c1
      have e : rgB C 32 32 i = true := decide_eq_true (by omega)
      have ih1 := ih (i + 1) (by omega)
      simp only [Int.natCast_add, Int.natCast_one] at ih1
      rw [if_pos e, e20_8]
      simp (disch := omega) only [e20_9, e20_12, e20_13, e20_16, e20_19, e20_20, e20_23, e20_24, e20_27, e20_28, e20_30, e20_33, e20_34, e20_35, e20_38, e20_39, e20_40, e20_43, ↓reduceIte, Bool.false_eq_true, not_false_eq_true, not_true_eq_false, Nat.reduceLeDiff, Nat.reduceAdd, Nat.reduceEqDiff, Int.reduceToNat, Int.toNat_natCast, iB0, iB1, ru_klI, ru_klR, ru_klF, ru_klJ, ru_kl0, ru_cs0, ru_csI, ru_csR, ru_csF, ru_csJ, wI_add, wI_sub, wI_mul, wI_lt, wI_le, wI_inj, ru_fdE, ru_fdN, ru_iaN, ru_baN, ru_laN, ru_qaN, ru_pfN, ru_isN, ru_bsN, ru_jsN, ru_qsN, ru_set2, Nat.add_right_cancel_iff, if_true, if_false, ite_self, Int.reduceEq, and_self, Int.add_neg_cancel_right, Int.add_zero, Int.zero_add, in_f0, in_f4, in_f5, in_s5, e4, e5, c, rb, d1, up1_up1, not_true, ru_ctR]
      exact ih1
    · have d1 : (C.2.1 1002 i = 32) = False := eq_false c1
      have e : ¬ rgB C 32 32 i = true := fun e => by have := of_decide_eq_true e; omega
      rw [if_neg e, e20_8]
      simp (disch := omega) only [e20_9, e20_12, e20_13, e20_16, e20_19, e20_20, e20_23, e20_24, e20_27, e20_28, e20_30, e20_33, e20_34, e20_35, e20_38, e20_39, e20_40, e20_43, ↓reduceIte, Bool.false_eq_true, not_false_eq_true, not_true_eq_false, Nat.reduceLeDiff, Nat.reduceAdd, Nat.reduceEqDiff, Int.reduceToNat, Int.toNat_natCast, iB0, iB1, ru_klI, ru_klR, ru_klF, ru_klJ, ru_kl0, ru_cs0, ru_csI, ru_csR, ru_csF, ru_csJ, wI_add, wI_sub, wI_mul, wI_lt, wI_le, wI_inj, ru_fdE, ru_fdN, ru_iaN, ru_baN, ru_laN, ru_qaN, ru_pfN, ru_isN, ru_bsN, ru_jsN, ru_qsN, ru_set2, Nat.add_right_cancel_iff, if_true, if_false, ite_self, Int.reduceEq, and_self, Int.add_neg_cancel_right, Int.add_zero, Int.zero_add, in_f0, in_f4, in_f5, in_s5, e4, e5, c, rb, d1, not_false_iff, ru_ctR]
end SCA
