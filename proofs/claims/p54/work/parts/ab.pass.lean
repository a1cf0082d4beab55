/-! ===== passing a word, passing a number: both go on, or the class stops and the reference is mute ===== -/
section PASS
variable {z : Bool} {M : tMd} {C : tCl} {n s : Nat}
theorem tk_adv (ht : tkR C M n s) (h13 : ¬ M.1 13 = 0) (hby : byI C M n) : ∃ C' M' s', (∀ h, ru_ev z 20 [.ref 1001] (clPut h C) = some (.inl none, clPut h C')) ∧ (∀ h, ru_ev z 57 [.ref 1315] (mdPut h M) = some (.inl none, mdPut h M')) ∧ tkR C' M' n s' ∧ inS C C' ∧ scS M M' ∧ s < s' := by
  obtain ⟨a1, a2, a3, a4, a5, a6⟩ := ht
  rcases a6 with ⟨-, k2⟩ | ⟨t, t1, t2, t3, t4, -⟩
  · exact absurd k2 h13
  · obtain ⟨C', M', s', k1, k2, k3, k4, k5, k6⟩ := adv_j (z := z) a1 a2 t3 t4 t2 hby
    exact ⟨C', M', s', k1, k2, k3, k4, k5, by omega⟩
theorem byI_S {C' : tCl} {M' : tMd} (h : byI C M n) (h1 : inS C C') (h2 : scS M M') : byI C' M' n := by
  unfold byI at h ⊢
  rw [h1.2.2.1, h2.2 3 (by decide)]; exact h
theorem ps_num (ht : tkR C M n s) (h17 : M.1 17 = 0) (hby : byI C M n) {lo hi : Int} (g1 : -2147483648 ≤ lo ∧ lo < 2147483648) (g2 : -2147483648 ≤ hi ∧ hi < 2147483648) :
    (nbT M lo hi = 0 ∧ ∃ C' M' s', (∀ h, ru_ev z 37 [.ref 1001, .int (wI lo), .int (wI hi)] (clPut h C) = some (.inl (some (.int (wI (M.1 16)))), clPut h C')) ∧ (∀ h, ru_ev z 64 [.ref 1315, .int (wI lo), .int (wI hi)] (mdPut h M) = some (.inl (some (.int (wI (M.1 16)))), mdPut h M')) ∧ tkR C' M' n s' ∧ inS C C' ∧ scS M M' ∧ s < s') ∨
    (¬ nbT M lo hi = 0 ∧ (∀ h, ru_ev z 37 [.ref 1001, .int (wI lo), .int (wI hi)] (clPut h C) = some (.inr 2, clPut (thr h) (erC C (nbT M lo hi)))) ∧ (∀ h, ru_ev z 64 [.ref 1315, .int (wI lo), .int (wI hi)] (mdPut h M) = some (.inl (some (.int (wI lo))), mdPut h (erM M (nbT M lo hi))))) := by
  by_cases e : nbT M lo hi = 0
  · left
    have h13 : M.1 13 = 2 := by
      by_cases c : M.1 13 = 2
      · exact c
      · unfold nbT at e; rw [if_neg c] at e; exact absurd e (by decide)
    obtain ⟨C', M', s', k1, k2, k3, k4, k5⟩ := tk_adv (z := z) ht (by omega) hby
    refine ⟨e, C', M', s', fun h => ?_, fun h => ?_, k3, k4, k5⟩
    · have x := c38 (z := z) (h := h) ht g1 g2
      rw [if_pos e] at x
      simp (disch := omega) only [en37, e37_0, e37_1, e37_2, e37_3, e37_6, e37_7, e37_8, e37_11, e37_12, ↓reduceIte, Bool.false_eq_true, not_false_eq_true, not_true_eq_false, Nat.reduceLeDiff, Nat.reduceAdd, Nat.reduceEqDiff, Int.reduceToNat, Int.toNat_natCast, iB0, iB1, ru_klI, ru_klR, ru_klF, ru_klJ, ru_kl0, ru_cs0, ru_csI, ru_csR, ru_csF, ru_csJ, wI_add, wI_sub, wI_mul, wI_lt, wI_le, wI_inj, ru_fdE, ru_fdN, ru_iaN, ru_baN, ru_laN, ru_qaN, ru_pfN, ru_isN, ru_bsN, ru_jsN, ru_qsN, ru_set2, Nat.add_right_cancel_iff, if_true, if_false, ite_self, Int.reduceEq, and_self, Int.add_neg_cancel_right, Int.add_zero, Int.zero_add, cl_e1, x, k1]
    · have x := p65 (z := z) (h := h) ht h17 g1 g2
      rw [if_pos e] at x
      have y := p66 (z := z) (h := h) h17 (k2 h)
      simp (disch := omega) only [en64, e64_0, e64_1, e64_2, e64_3, e64_6, e64_7, e64_8, e64_11, e64_12, ↓reduceIte, Bool.false_eq_true, not_false_eq_true, not_true_eq_false, Nat.reduceLeDiff, Nat.reduceAdd, Nat.reduceEqDiff, Int.reduceToNat, Int.toNat_natCast, iB0, iB1, ru_klI, ru_klR, ru_klF, ru_klJ, ru_kl0, ru_cs0, ru_csI, ru_csR, ru_csF, ru_csJ, wI_add, wI_sub, wI_mul, wI_lt, wI_le, wI_inj, ru_fdE, ru_fdN, ru_iaN, ru_baN, ru_laN, ru_qaN, ru_pfN, ru_isN, ru_bsN, ru_jsN, ru_qsN, ru_set2, Nat.add_right_cancel_iff, if_true, if_false, ite_self, Int.reduceEq, and_self, Int.add_neg_cancel_right, Int.add_zero, Int.zero_add, md_e, x, y]
  · right
    refine ⟨e, fun h => ?_, fun h => ?_⟩
    · have x := c38 (z := z) (h := h) ht g1 g2
      rw [if_neg e] at x
      simp (disch := omega) only [en37, e37_0, e37_1, e37_2, e37_3, e37_6, e37_7, e37_8, e37_11, e37_12, ↓reduceIte, Bool.false_eq_true, not_false_eq_true, not_true_eq_false, Nat.reduceLeDiff, Nat.reduceAdd, Nat.reduceEqDiff, Int.reduceToNat, Int.toNat_natCast, iB0, iB1, ru_klI, ru_klR, ru_klF, ru_klJ, ru_kl0, ru_cs0, ru_csI, ru_csR, ru_csF, ru_csJ, wI_add, wI_sub, wI_mul, wI_lt, wI_le, wI_inj, ru_fdE, ru_fdN, ru_iaN, ru_baN, ru_laN, ru_qaN, ru_pfN, ru_isN, ru_bsN, ru_jsN, ru_qsN, ru_set2, Nat.add_right_cancel_iff, if_true, if_false, ite_self, Int.reduceEq, and_self, Int.add_neg_cancel_right, Int.add_zero, Int.zero_add, cl_e1, x]
    · have x := p65 (z := z) (h := h) ht h17 g1 g2
      rw [if_neg e] at x
      have r : (erM M (nbT M lo hi)).1 17 = nbT M lo hi := rfl
      have b : 0 ≤ nbT M lo hi ∧ nbT M lo hi ≤ 9 := by
        unfold nbT
        repeat' split
        all_goals omega
      have y := p66m (z := z) (h := h) (M := erM M (nbT M lo hi)) (by rw [r]; exact e) (by rw [r]; exact b)
      simp (disch := omega) only [en64, e64_0, e64_1, e64_2, e64_3, e64_6, e64_7, e64_8, e64_11, e64_12, ↓reduceIte, Bool.false_eq_true, not_false_eq_true, not_true_eq_false, Nat.reduceLeDiff, Nat.reduceAdd, Nat.reduceEqDiff, Int.reduceToNat, Int.toNat_natCast, iB0, iB1, ru_klI, ru_klR, ru_klF, ru_klJ, ru_kl0, ru_cs0, ru_csI, ru_csR, ru_csF, ru_csJ, wI_add, wI_sub, wI_mul, wI_lt, wI_le, wI_inj, ru_fdE, ru_fdN, ru_iaN, ru_baN, ru_laN, ru_qaN, ru_pfN, ru_isN, ru_bsN, ru_jsN, ru_qsN, ru_set2, Nat.add_right_cancel_iff, if_true, if_false, ite_self, Int.reduceEq, and_self, Int.add_neg_cancel_right, Int.add_zero, Int.zero_add, md_e, x, y]
theorem ps_word (ht : tkR C M n s) (h17 : M.1 17 = 0) (hby : byI C M n) {S V S2 V2 : Nat} {T : List Nat} (hT : T.length ≤ 8) (hb : ∀ j, j < T.length → T.getD j 0 ≤ 127) :
    (isW M T = true ∧ ∃ C' M' s', (∀ h, stAt h S V T → ru_ev z 27 [.ref 1001, .ref S] (clPut h C) = some (.inl none, clPut h C')) ∧ (∀ h, stAt h S2 V2 T → ru_ev z 61 [.ref 1315, .ref S2] (mdPut h M) = some (.inl (some (.int (wI 1))), mdPut h M')) ∧ tkR C' M' n s' ∧ inS C C' ∧ scS M M' ∧ s < s') ∨
    (isW M T = false ∧ (∀ h, stAt h S V T → ru_ev z 27 [.ref 1001, .ref S] (clPut h C) = some (.inr 2, clPut (thr h) (erC C 1))) ∧ (∀ h, stAt h S2 V2 T → ru_ev z 61 [.ref 1315, .ref S2] (mdPut h M) = some (.inl (some (.int (wI 0))), mdPut h M))) := by
  by_cases e : isW M T = true
  · left
    have h13 : M.1 13 = 1 := by
      unfold isW at e
      rw [Bool.and_eq_true, decide_eq_true_eq] at e
      exact e.1.1
    obtain ⟨C', M', s', k1, k2, k3, k4, k5⟩ := tk_adv (z := z) ht (by omega) hby
    refine ⟨e, C', M', s', fun h hS => ?_, fun h hS => ?_, k3, k4, k5⟩
    · have x := c28 (z := z) hS hT hb ht hby
      rw [if_pos e] at x
      have y := c36 (z := z) (h := h) (C := C) (b := 1) (Or.inr rfl) (c := 1)
      rw [if_pos rfl] at y
      simp (disch := omega) only [en27, e27_0, e27_1, e27_2, e27_3, e27_6, e27_7, e27_10, e27_11, e27_14, ↓reduceIte, Bool.false_eq_true, not_false_eq_true, not_true_eq_false, Nat.reduceLeDiff, Nat.reduceAdd, Nat.reduceEqDiff, Int.reduceToNat, Int.toNat_natCast, iB0, iB1, ru_klI, ru_klR, ru_klF, ru_klJ, ru_kl0, ru_cs0, ru_csI, ru_csR, ru_csF, ru_csJ, wI_add, wI_sub, wI_mul, wI_lt, wI_le, wI_inj, ru_fdE, ru_fdN, ru_iaN, ru_baN, ru_laN, ru_qaN, ru_pfN, ru_isN, ru_bsN, ru_jsN, ru_qsN, ru_set2, Nat.add_right_cancel_iff, if_true, if_false, ite_self, Int.reduceEq, and_self, Int.add_neg_cancel_right, Int.add_zero, Int.zero_add, cl_e1, x, y, k1]
    · have x := p62 (z := z) hS hT hb h17 ht
      rw [if_pos e] at x
      have d1 : ((1 : Int) = 0) = False := eq_false (by decide)
      simp (disch := omega) only [en61, e61_0, e61_1, e61_2, e61_5, e61_6, e61_7, e61_10, e61_11, e61_14, e61_15, ↓reduceIte, Bool.false_eq_true, not_false_eq_true, not_true_eq_false, Nat.reduceLeDiff, Nat.reduceAdd, Nat.reduceEqDiff, Int.reduceToNat, Int.toNat_natCast, iB0, iB1, ru_klI, ru_klR, ru_klF, ru_klJ, ru_kl0, ru_cs0, ru_csI, ru_csR, ru_csF, ru_csJ, wI_add, wI_sub, wI_mul, wI_lt, wI_le, wI_inj, ru_fdE, ru_fdN, ru_iaN, ru_baN, ru_laN, ru_qaN, ru_pfN, ru_isN, ru_bsN, ru_jsN, ru_qsN, ru_set2, Nat.add_right_cancel_iff, if_true, if_false, ite_self, Int.reduceEq, and_self, Int.add_neg_cancel_right, Int.add_zero, Int.zero_add, md_e, x, k2, d1, wI_and1]
  · right
    refine ⟨Bool.eq_false_iff.mpr e, fun h hS => ?_, fun h hS => ?_⟩
    · have x := c28 (z := z) hS hT hb ht hby
      rw [if_neg e] at x
      have y := c36 (z := z) (h := h) (C := C) (b := 0) (Or.inl rfl) (c := 1)
      rw [if_neg (by decide)] at y
      simp (disch := omega) only [en27, e27_0, e27_1, e27_2, e27_3, e27_6, e27_7, e27_10, e27_11, e27_14, ↓reduceIte, Bool.false_eq_true, not_false_eq_true, not_true_eq_false, Nat.reduceLeDiff, Nat.reduceAdd, Nat.reduceEqDiff, Int.reduceToNat, Int.toNat_natCast, iB0, iB1, ru_klI, ru_klR, ru_klF, ru_klJ, ru_kl0, ru_cs0, ru_csI, ru_csR, ru_csF, ru_csJ, wI_add, wI_sub, wI_mul, wI_lt, wI_le, wI_inj, ru_fdE, ru_fdN, ru_iaN, ru_baN, ru_laN, ru_qaN, ru_pfN, ru_isN, ru_bsN, ru_jsN, ru_qsN, ru_set2, Nat.add_right_cancel_iff, if_true, if_false, ite_self, Int.reduceEq, and_self, Int.add_neg_cancel_right, Int.add_zero, Int.zero_add, cl_e1, x, y]
      rfl
    · have x := p62 (z := z) hS hT hb h17 ht
      rw [if_neg e] at x
      have d1 : ((0 : Int) = 0) = True := eq_true rfl
      simp (disch := omega) only [en61, e61_0, e61_1, e61_2, e61_5, e61_6, e61_7, e61_10, e61_11, e61_14, e61_15, ↓reduceIte, Bool.false_eq_true, not_false_eq_true, not_true_eq_false, Nat.reduceLeDiff, Nat.reduceAdd, Nat.reduceEqDiff, Int.reduceToNat, Int.toNat_natCast, iB0, iB1, ru_klI, ru_klR, ru_klF, ru_klJ, ru_kl0, ru_cs0, ru_csI, ru_csR, ru_csF, ru_csJ, wI_add, wI_sub, wI_mul, wI_lt, wI_le, wI_inj, ru_fdE, ru_fdN, ru_iaN, ru_baN, ru_laN, ru_qaN, ru_pfN, ru_isN, ru_bsN, ru_jsN, ru_qsN, ru_set2, Nat.add_right_cancel_iff, if_true, if_false, ite_self, Int.reduceEq, and_self, Int.add_neg_cancel_right, Int.add_zero, Int.zero_add, md_e, x, d1, wI_and1]
end PASS
