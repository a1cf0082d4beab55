/-! ===== a number that must stand here ===== -/
/-- the fault, if any -/
def nbT (M : tMd) (lo hi : Int) : Int := if M.1 13 = 2 then (if lo ≤ M.1 16 ∧ M.1 16 ≤ hi then 0 else 2) else 1
/-- the class, stopped by the fault t -/
def erC (C : tCl) (t : Int) : tCl := upI (upI C 1001 2 t) 1001 3 (C.1 1001 5)
/-- the reference, mute after the fault t -/
def erM (M : tMd) (t : Int) : tMd := (up1 (up1 M.1 17 t) 18 (M.1 12), M.2)
section NUM
variable {z : Bool} {M : tMd} {C : tCl} {n s : Nat}
theorem tkR_k (ht : tkR C M n s) : (200 ≤ C.2.2.2 1001 7 ∧ C.2.2.2 1001 7 < 206) ∧ (0 ≤ M.1 13 ∧ M.1 13 ≤ 5) ∧ (C.2.2.2 1001 7 = 200 ↔ M.1 13 = 1) ∧ (C.2.2.2 1001 7 = 201 ↔ M.1 13 = 2) ∧ (C.2.2.2 1001 7 = 202 ↔ M.1 13 = 3) ∧ (C.2.2.2 1001 7 = 203 ↔ M.1 13 = 4) ∧ (C.2.2.2 1001 7 = 205 ↔ M.1 13 = 0) ∧ (M.1 13 = 2 → C.1 1001 9 = M.1 16 ∧ 0 ≤ M.1 16 ∧ M.1 16 ≤ 9999) := by
  obtain ⟨a1, a2, a3, a4, a5, a6⟩ := ht
  rcases a6 with ⟨k1, k2⟩ | ⟨t, -, -, -, -, q⟩
  · rw [k1, k2]; refine ⟨by omega, by omega, by omega, by omega, by omega, by omega, by omega, fun h => by omega⟩
  · rcases q with ⟨k1, k2, -⟩ | ⟨k1, k2, k3⟩ | ⟨k1, k2⟩ | ⟨k1, k2⟩ | ⟨k1, k2⟩
    · rw [k1, k2]; refine ⟨by omega, by omega, by omega, by omega, by omega, by omega, by omega, fun h => by omega⟩
    · rw [k1, k2]; exact ⟨by omega, by omega, by omega, by omega, by omega, by omega, by omega, fun _ => k3⟩
    · rw [k1, k2]; refine ⟨by omega, by omega, by omega, by omega, by omega, by omega, by omega, fun h => by omega⟩
    · rw [k1, k2]; refine ⟨by omega, by omega, by omega, by omega, by omega, by omega, by omega, fun h => by omega⟩
    · rw [k1, k2]; refine ⟨by omega, by omega, by omega, by omega, by omega, by omega, by omega, fun h => by omega⟩
theorem c38 {h : am_H} (ht : tkR C M n s) {lo hi : Int} (g1 : -2147483648 ≤ lo ∧ lo < 2147483648) (g2 : -2147483648 ≤ hi ∧ hi < 2147483648) : ru_ev z 38 [.ref 1001, .int (wI lo), .int (wI hi)] (clPut h C) = if nbT M lo hi = 0 then some (.inl (some (.int (wI (M.1 16)))), clPut h C) else some (.inr 2, clPut (thr h) (erC C (nbT M lo hi))) := by
  obtain ⟨k0, -, -, k2, -, -, -, k9⟩ := tkR_k ht
  have r1 := c36 (z := z) (h := h) (C := C) (b := 1) (Or.inr rfl) (c := 1)
  have r0 := c36 (z := z) (h := h) (C := C) (b := 0) (Or.inl rfl) (c := 1)
  have q1 := c36 (z := z) (h := h) (C := C) (b := 1) (Or.inr rfl) (c := 2)
  have q0 := c36 (z := z) (h := h) (C := C) (b := 0) (Or.inl rfl) (c := 2)
  rw [if_pos rfl] at r1 q1
  rw [if_neg (by decide)] at r0 q0
  have e1 : (200 ≤ C.2.2.2 1001 7) = True := eq_true k0.1
  have e2 : (C.2.2.2 1001 7 < 206) = True := eq_true k0.2
  unfold nbT
  by_cases c1 : M.1 13 = 2
  · have d1 : (C.2.2.2 1001 7 = 201) = True := eq_true (k2.mpr c1)
    obtain ⟨n1, n2, n3⟩ := k9 c1
    have g9 := cl_g1_9 (h := h) (C := C)
    rw [n1] at g9
    rw [if_pos c1]
    by_cases c2 : lo ≤ M.1 16 ∧ M.1 16 ≤ hi
    · have d2 : (M.1 16 < lo) = False := eq_false (by omega)
      have d3 : (hi < M.1 16) = False := eq_false (by omega)
      rw [if_pos c2, if_pos rfl]
      simp (disch := omega) only [en38, e38_0, e38_1, e38_2, e38_5, e38_8, e38_11, e38_12, e38_15, e38_16, e38_17, e38_20, e38_21, e38_22, e38_25, e38_26, e38_29, e38_30, e38_33, e38_34, e38_37, e38_38, e38_41, e38_42, e38_43, e38_46, e38_47, e38_50, ↓reduceIte, Bool.false_eq_true, not_false_eq_true, not_true_eq_false, Nat.reduceLeDiff, Nat.reduceAdd, Nat.reduceEqDiff, Int.reduceToNat, Int.toNat_natCast, iB0, iB1, ru_klI, ru_klR, ru_klF, ru_klJ, ru_kl0, ru_cs0, ru_csI, ru_csR, ru_csF, ru_csJ, wI_add, wI_sub, wI_mul, wI_lt, wI_le, wI_inj, ru_fdE, ru_fdN, ru_iaN, ru_baN, ru_laN, ru_qaN, ru_pfN, ru_isN, ru_bsN, ru_jsN, ru_qsN, ru_set2, Nat.add_right_cancel_iff, if_true, if_false, ite_self, Int.reduceEq, and_self, Int.add_neg_cancel_right, Int.add_zero, Int.zero_add, cl_e1, cl_g1_7, g9, e1, e2, d1, d2, d3, r1, q1, Nat.reduceLT, not_true]
    · rw [if_neg c2, if_neg (by decide)]
      by_cases c3 : M.1 16 < lo
      · have d2 : (M.1 16 < lo) = True := eq_true c3
        simp (disch := omega) only [en38, e38_0, e38_1, e38_2, e38_5, e38_8, e38_11, e38_12, e38_15, e38_16, e38_17, e38_20, e38_21, e38_22, e38_25, e38_26, e38_29, e38_30, e38_33, e38_34, e38_37, e38_38, e38_41, e38_42, e38_43, e38_46, e38_47, e38_50, ↓reduceIte, Bool.false_eq_true, not_false_eq_true, not_true_eq_false, Nat.reduceLeDiff, Nat.reduceAdd, Nat.reduceEqDiff, Int.reduceToNat, Int.toNat_natCast, iB0, iB1, ru_klI, ru_klR, ru_klF, ru_klJ, ru_kl0, ru_cs0, ru_csI, ru_csR, ru_csF, ru_csJ, wI_add, wI_sub, wI_mul, wI_lt, wI_le, wI_inj, ru_fdE, ru_fdN, ru_iaN, ru_baN, ru_laN, ru_qaN, ru_pfN, ru_isN, ru_bsN, ru_jsN, ru_qsN, ru_set2, Nat.add_right_cancel_iff, if_true, if_false, ite_self, Int.reduceEq, and_self, Int.add_neg_cancel_right, Int.add_zero, Int.zero_add, cl_e1, cl_g1_7, g9, e1, e2, d1, d2, r1, q0, Nat.reduceLT, not_true]
        rfl
      · have d2 : (M.1 16 < lo) = False := eq_false c3
        have d3 : (hi < M.1 16) = True := eq_true (by omega)
        simp (disch := omega) only [en38, e38_0, e38_1, e38_2, e38_5, e38_8, e38_11, e38_12, e38_15, e38_16, e38_17, e38_20, e38_21, e38_22, e38_25, e38_26, e38_29, e38_30, e38_33, e38_34, e38_37, e38_38, e38_41, e38_42, e38_43, e38_46, e38_47, e38_50, ↓reduceIte, Bool.false_eq_true, not_false_eq_true, not_true_eq_false, Nat.reduceLeDiff, Nat.reduceAdd, Nat.reduceEqDiff, Int.reduceToNat, Int.toNat_natCast, iB0, iB1, ru_klI, ru_klR, ru_klF, ru_klJ, ru_kl0, ru_cs0, ru_csI, ru_csR, ru_csF, ru_csJ, wI_add, wI_sub, wI_mul, wI_lt, wI_le, wI_inj, ru_fdE, ru_fdN, ru_iaN, ru_baN, ru_laN, ru_qaN, ru_pfN, ru_isN, ru_bsN, ru_jsN, ru_qsN, ru_set2, Nat.add_right_cancel_iff, if_true, if_false, ite_self, Int.reduceEq, and_self, Int.add_neg_cancel_right, Int.add_zero, Int.zero_add, cl_e1, cl_g1_7, g9, e1, e2, d1, d2, d3, r1, q0, Nat.reduceLT, not_true]
        rfl
  · have d1 : (C.2.2.2 1001 7 = 201) = False := eq_false (fun h => c1 (k2.mp h))
    rw [if_neg c1, if_neg (by decide)]
    simp (disch := omega) only [en38, e38_0, e38_1, e38_2, e38_5, e38_8, e38_11, e38_12, e38_15, e38_16, e38_17, e38_20, e38_21, e38_22, e38_25, e38_26, e38_29, e38_30, e38_33, e38_34, e38_37, e38_38, e38_41, e38_42, e38_43, e38_46, e38_47, e38_50, ↓reduceIte, Bool.false_eq_true, not_false_eq_true, not_true_eq_false, Nat.reduceLeDiff, Nat.reduceAdd, Nat.reduceEqDiff, Int.reduceToNat, Int.toNat_natCast, iB0, iB1, ru_klI, ru_klR, ru_klF, ru_klJ, ru_kl0, ru_cs0, ru_csI, ru_csR, ru_csF, ru_csJ, wI_add, wI_sub, wI_mul, wI_lt, wI_le, wI_inj, ru_fdE, ru_fdN, ru_iaN, ru_baN, ru_laN, ru_qaN, ru_pfN, ru_isN, ru_bsN, ru_jsN, ru_qsN, ru_set2, Nat.add_right_cancel_iff, if_true, if_false, ite_self, Int.reduceEq, and_self, Int.add_neg_cancel_right, Int.add_zero, Int.zero_add, cl_e1, cl_g1_7, e1, e2, d1, r0, Nat.reduceLT, not_true, not_false_iff]
    rfl
theorem p65 {h : am_H} (ht : tkR C M n s) (h17 : M.1 17 = 0) {lo hi : Int} (g1 : -2147483648 ≤ lo ∧ lo < 2147483648) (g2 : -2147483648 ≤ hi ∧ hi < 2147483648) : ru_ev z 65 [.ref 1315, .int (wI lo), .int (wI hi)] (mdPut h M) = if nbT M lo hi = 0 then some (.inl (some (.int (wI (M.1 16)))), mdPut h M) else some (.inl (some (.int (wI lo))), mdPut h (erM M (nbT M lo hi))) := by
  obtain ⟨-, k1, -, -, -, -, -, k9⟩ := tkR_k ht
  have f1 := p63 (z := z) (h := h) (M := M) (c := 1) (by omega)
  have f2 := p63 (z := z) (h := h) (M := M) (c := 2) (by omega)
  rw [if_pos h17] at f1 f2
  have g17 : ∀ t, am_fd (mdPut h (erM M t)) 1315 10 17 = some (.int (wI t)) := fun t => by rw [md_f17]; rfl
  unfold nbT
  by_cases c1 : M.1 13 = 2
  · have d1 : (M.1 13 = 2) = True := eq_true c1
    obtain ⟨-, n2, n3⟩ := k9 c1
    have m := m53 (z := z) (h := mdPut h M) (v := M.1 16) (a := lo) (b := hi) (by omega) g1 g2
    have d0 : ((0 : Int) = 0) = True := eq_true rfl
    rw [if_pos c1]
    by_cases c2 : lo ≤ M.1 16 ∧ M.1 16 ≤ hi
    · rw [if_pos c2] at m
      have d4 : ((1 : Int) = 0) = False := eq_false (by decide)
      rw [if_pos c2, if_pos rfl]
      simp (disch := omega) only [en65, e65_0, e65_1, e65_4, e65_5, e65_8, e65_9, e65_10, e65_13, e65_16, e65_17, e65_20, e65_21, e65_22, e65_25, e65_28, e65_29, e65_30, e65_33, e65_34, e65_37, e65_40, e65_41, e65_44, e65_45, e65_48, ↓reduceIte, Bool.false_eq_true, not_false_eq_true, not_true_eq_false, Nat.reduceLeDiff, Nat.reduceAdd, Nat.reduceEqDiff, Int.reduceToNat, Int.toNat_natCast, iB0, iB1, ru_klI, ru_klR, ru_klF, ru_klJ, ru_kl0, ru_cs0, ru_csI, ru_csR, ru_csF, ru_csJ, wI_add, wI_sub, wI_mul, wI_lt, wI_le, wI_inj, ru_fdE, ru_fdN, ru_iaN, ru_baN, ru_laN, ru_qaN, ru_pfN, ru_isN, ru_bsN, ru_jsN, ru_qsN, ru_set2, Nat.add_right_cancel_iff, if_true, if_false, ite_self, Int.reduceEq, and_self, Int.add_neg_cancel_right, Int.add_zero, Int.zero_add, md_e, md_f13, md_f16, md_f17, d1, m, d4, d0, h17, not_true, not_false_iff]
    · rw [if_neg c2] at m
      have d4 : ((2 : Int) = 0) = False := eq_false (by decide)
      rw [if_neg c2, if_neg (by decide)]
      have g17' := g17 2
      unfold erM at g17'
      simp (disch := omega) only [en65, e65_0, e65_1, e65_4, e65_5, e65_8, e65_9, e65_10, e65_13, e65_16, e65_17, e65_20, e65_21, e65_22, e65_25, e65_28, e65_29, e65_30, e65_33, e65_34, e65_37, e65_40, e65_41, e65_44, e65_45, e65_48, ↓reduceIte, Bool.false_eq_true, not_false_eq_true, not_true_eq_false, Nat.reduceLeDiff, Nat.reduceAdd, Nat.reduceEqDiff, Int.reduceToNat, Int.toNat_natCast, iB0, iB1, ru_klI, ru_klR, ru_klF, ru_klJ, ru_kl0, ru_cs0, ru_csI, ru_csR, ru_csF, ru_csJ, wI_add, wI_sub, wI_mul, wI_lt, wI_le, wI_inj, ru_fdE, ru_fdN, ru_iaN, ru_baN, ru_laN, ru_qaN, ru_pfN, ru_isN, ru_bsN, ru_jsN, ru_qsN, ru_set2, Nat.add_right_cancel_iff, if_true, if_false, ite_self, Int.reduceEq, and_self, Int.add_neg_cancel_right, Int.add_zero, Int.zero_add, md_e, md_f13, md_f16, d1, m, d4, d0, f2, g17', not_true, not_false_iff]
      rfl
  · have d1 : (M.1 13 = 2) = False := eq_false c1
    have d4 : ((1 : Int) = 0) = False := eq_false (by decide)
    rw [if_neg c1, if_neg (by decide)]
    have g17' := g17 1
    unfold erM at g17'
    simp (disch := omega) only [en65, e65_0, e65_1, e65_4, e65_5, e65_8, e65_9, e65_10, e65_13, e65_16, e65_17, e65_20, e65_21, e65_22, e65_25, e65_28, e65_29, e65_30, e65_33, e65_34, e65_37, e65_40, e65_41, e65_44, e65_45, e65_48, ↓reduceIte, Bool.false_eq_true, not_false_eq_true, not_true_eq_false, Nat.reduceLeDiff, Nat.reduceAdd, Nat.reduceEqDiff, Int.reduceToNat, Int.toNat_natCast, iB0, iB1, ru_klI, ru_klR, ru_klF, ru_klJ, ru_kl0, ru_cs0, ru_csI, ru_csR, ru_csF, ru_csJ, wI_add, wI_sub, wI_mul, wI_lt, wI_le, wI_inj, ru_fdE, ru_fdN, ru_iaN, ru_baN, ru_laN, ru_qaN, ru_pfN, ru_isN, ru_bsN, ru_jsN, ru_qsN, ru_set2, Nat.add_right_cancel_iff, if_true, if_false, ite_self, Int.reduceEq, and_self, Int.add_neg_cancel_right, Int.add_zero, Int.zero_add, md_e, md_f13, d1, d4, f1, g17', not_true, not_false_iff]
    rfl
end NUM
