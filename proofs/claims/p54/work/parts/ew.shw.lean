/-! ===== the class reads beside, between: the pieces ===== -/
section SHW
variable {z : Bool} {C0 C C' : tCl} {n A N R : Nat} {F L : Nat → List Nat} {h : am_H} {q : tPh}
/-- who in the picture has a name -/
theorem f107 (hR : 1315 ≤ R) (hq : fpI C0 C q) {nm : Nat} (hnm : nm ≤ 19) {k : Nat} (hk : shH q (nm : Int) = (k : Int)) {nn : Nat} {S : tRd} : ru_ev z 107 [.ref R, .int (wI nm)] (clPut (rdH h R nn S) C) = some (.inl (some (.int (wI k))), clPut (rdH h R nn S) C) := by
  have a9 : phR (cph C 1065) := by rw [hq.2.2.1]; exact hq.2.2.2
  have x := m108 (z := z) (cl_ph (h := rdH h R nn S) (C := C) isPh_draft) a9 (nm := (nm : Int)) (by omega)
  rw [hq.2.2.1] at x
  have kr := hofF_rng (q.2 3) (nm : Int) (q.1 7).toNat 0
  have s := (phR_s hq.2.2.2).2.2.2.2.2.2.2
  unfold shH at hk
  by_cases c : ¬ hofF (q.2 3) (nm : Int) (q.1 7).toNat 0 = -1 ∧ shw q (hofF (q.2 3) (nm : Int) (q.1 7).toNat 0).toNat = true
  · rw [if_pos c] at hk
    rw [hk] at x c
    rw [Int.toNat_natCast] at c
    have y := m82 (z := z) (cl_ph (h := rdH h R nn S) (C := C) isPh_draft) a9 (i := (k : Int)) (by omega) (by omega)
    rw [Int.toNat_natCast, hq.2.2.1, if_pos c.2] at y
    have pe : (clPut (rdH h R nn S) C).1 1065 = some (.inr (6, clL6 C 1065)) := clP6 (by decide +kernel) (by decide)
    have d1 : ((k : Int) = -1) = False := eq_false (by omega)
    have d2 : ((1 : Int) = 0) = False := eq_false (by decide)
    simp (disch := omega) only [en107, e107_0, e107_1, e107_4, e107_5, e107_8, e107_9, e107_10, e107_13, e107_14, e107_15, e107_18, e107_19, e107_22, e107_23, e107_26, e107_29, e107_30, e107_33, e107_34, e107_36, e107_39, e107_40, ↓reduceIte, Bool.false_eq_true, not_false_eq_true, not_true_eq_false, Nat.reduceLeDiff, Nat.reduceAdd, Nat.reduceEqDiff, Int.reduceToNat, Int.toNat_natCast, iB0, iB1, ru_klI, ru_klR, ru_klF, ru_klJ, ru_kl0, ru_cs0, ru_csI, ru_csR, ru_csF, ru_csJ, wI_add, wI_sub, wI_mul, wI_lt, wI_le, wI_inj, ru_fdE, ru_fdN, ru_iaN, ru_baN, ru_laN, ru_qaN, ru_pfN, ru_isN, ru_bsN, ru_jsN, ru_qsN, ru_set2, Nat.add_right_cancel_iff, if_true, if_false, ite_self, Int.reduceEq, and_self, Int.add_neg_cancel_right, Int.add_zero, Int.zero_add, rd_e hR, rd_f0 hR, rd_f2 hR, pe, x, y, d1, d2, fw36, not_false_iff]
  · rw [if_neg c] at hk; omega
theorem sbT_20 : sbT 20 = [108, 101, 102, 116] := rfl
theorem sbT_19 : sbT 19 = [114, 105, 103, 104, 116] := rfl
/-- the side that the token tells -/
theorem f96 (hR : 1315 ≤ R) (hst : strs h) {W T : List Nat} {lf : Int} (hW : (lf = 1 ∧ W = sbT 20) ∨ (lf = 0 ∧ W = sbT 19)) (ht : tkw C n W T) {nn : Nat} {S : tRd} : ru_ev z 96 [.ref R] (clPut (rdH h R nn S) C) = some (.inl (some (.int (wI (if lf = 1 then -1 else 1)))), clPut (rdH h R nn S) C) := by
  have hs2 := strs_rd (nm := nn) (S := S) hR hst
  have x := fw28 (z := z) hs2 (i := 19) (by decide) (by decide) ht
  have y := fw28 (z := z) hs2 (i := 20) (by decide) (by decide) ht
  have d2 : ((1 : Int) = 0) = False := eq_false (by decide)
  rcases hW with ⟨rfl, rfl⟩ | ⟨rfl, rfl⟩
  · rw [if_neg (by rw [sbT_20, sbT_19]; decide)] at x
    rw [if_pos rfl] at y ⊢
    simp (disch := omega) only [en96, e96_0, e96_1, e96_4, e96_6, e96_9, e96_10, e96_11, e96_14, e96_15, e96_18, e96_19, e96_22, e96_24, e96_27, e96_30, e96_31, e96_34, e96_35, e96_36, e96_39, e96_40, e96_43, e96_44, e96_47, e96_48, ↓reduceIte, Bool.false_eq_true, not_false_eq_true, not_true_eq_false, Nat.reduceLeDiff, Nat.reduceAdd, Nat.reduceEqDiff, Int.reduceToNat, Int.toNat_natCast, iB0, iB1, ru_klI, ru_klR, ru_klF, ru_klJ, ru_kl0, ru_cs0, ru_csI, ru_csR, ru_csF, ru_csJ, wI_add, wI_sub, wI_mul, wI_lt, wI_le, wI_inj, ru_fdE, ru_fdN, ru_iaN, ru_baN, ru_laN, ru_qaN, ru_pfN, ru_isN, ru_bsN, ru_jsN, ru_qsN, ru_set2, Nat.add_right_cancel_iff, if_true, if_false, ite_self, Int.reduceEq, and_self, Int.add_neg_cancel_right, Int.add_zero, Int.zero_add, rd_e hR, rd_f0 hR, x, y, fw36, d2, not_true, not_false_iff, Nat.reduceAdd]
  · rw [if_pos rfl] at x
    rw [if_neg (by decide)]
    simp (disch := omega) only [en96, e96_0, e96_1, e96_4, e96_6, e96_9, e96_10, e96_11, e96_14, e96_15, e96_18, e96_19, e96_22, e96_24, e96_27, e96_30, e96_31, e96_34, e96_35, e96_36, e96_39, e96_40, e96_43, e96_44, e96_47, e96_48, ↓reduceIte, Bool.false_eq_true, not_false_eq_true, not_true_eq_false, Nat.reduceLeDiff, Nat.reduceAdd, Nat.reduceEqDiff, Int.reduceToNat, Int.toNat_natCast, iB0, iB1, ru_klI, ru_klR, ru_klF, ru_klJ, ru_kl0, ru_cs0, ru_csI, ru_csR, ru_csF, ru_csJ, wI_add, wI_sub, wI_mul, wI_lt, wI_le, wI_inj, ru_fdE, ru_fdN, ru_iaN, ru_baN, ru_laN, ru_qaN, ru_pfN, ru_isN, ru_bsN, ru_jsN, ru_qsN, ru_set2, Nat.add_right_cancel_iff, if_true, if_false, ite_self, Int.reduceEq, and_self, Int.add_neg_cancel_right, Int.add_zero, Int.zero_add, rd_e hR, rd_f0 hR, x, fw36, d2, not_true, not_false_iff, Nat.reduceAdd]
end SHW
