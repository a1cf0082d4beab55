/-! ===== the reference writes ===== -/
theorem k31 {z : Bool} {X : am_H} {S V : Nat} {t : List Nat} (h : X.1 S = some (.inr (50, [.ref V, .int (wI 0)]))) {f : Nat → Int32} (h2 : X.1 V = some (.inl (11, t.length, .inl f))) (h3 : ∀ j, j < t.length → f j = wI ((t.getD j 0 : Nat) : Int)) (ht : t.length ≤ 100) (hb : ∀ j, j < t.length → t.getD j 0 ≤ 127) {i : Nat} (hi : i < t.length) : ru_ev z 31 [.ref S, .int (wI i)] X = some (.inl (some (.int (wI ((t.getD i 0 : Nat) : Int)))), X) := by
  have f0 : am_fd X S 50 0 = some (.ref V) := ru_fd h rfl
  have f1 : am_fd X S 50 1 = some (.int (wI 0)) := ru_fd h rfl
  have al : am_al X V = some (wI (t.length : Nat)) := ru_al h2 (by decide)
  have n0 : am_nb (wI 0) = wI 0 := by decide +kernel
  have a1 : wI 1 &&& 1 = wI 1 := by decide +kernel
  have d0 : ((1 : Int) = 0) = False := eq_false (by decide)
  have kc := k34 (z := z) (X := X) (i := (i : Int)) (n := ((t.length : Nat) : Int)) (by omega) (by omega) (by omega)
  have rd := ru_ba (z := (i : Int)) h2 (Or.inr (Or.inr rfl)) (by omega) (by omega) (by omega)
  rw [Int.toNat_natCast, h3 i hi] at rd
  have hbi := hb i hi
  obtain ⟨c1, c2⟩ := am_ch (v := ((t.getD i 0 : Nat) : Int)) (by omega) (by omega)
  have e33 : ru_ev z 33 [.ref V, .int (wI i)] X = some (.inl (some (.int (wI ((t.getD i 0 : Nat) : Int)))), X) := by
    simp (disch := omega) only [en33, e33_0, e33_1, e33_2, e33_3, e33_6, e33_7, e33_8, e33_9, e33_12, e33_13, e33_14, ↓reduceIte, Bool.false_eq_true, not_false_eq_true, not_true_eq_false, Nat.reduceLeDiff, Nat.reduceAdd, Nat.reduceEqDiff, Int.reduceToNat, Int.toNat_natCast, iB0, iB1, ru_klI, ru_klR, ru_klF, ru_klJ, ru_kl0, ru_cs0, ru_csI, ru_csR, ru_csF, ru_csJ, wI_add, wI_sub, wI_mul, wI_lt, wI_le, wI_inj, ru_fdE, ru_fdN, ru_iaN, ru_baN, ru_laN, ru_qaN, ru_pfN, ru_isN, ru_bsN, ru_jsN, ru_qsN, ru_set2, Nat.add_right_cancel_iff, if_true, if_false, ite_self, Int.reduceEq, and_self, Int.add_neg_cancel_right, Int.add_zero, Int.zero_add, al, kc, rd, c1, c2]
  have e32 : ru_ev z 32 [.ref S] X = some (.inl (some (.int (wI 1))), X) := by
    simp (disch := omega) only [en32, e32_0, e32_3, e32_6, e32_7, e32_10, e32_13, e32_14, e32_18, ↓reduceIte, Bool.false_eq_true, not_false_eq_true, not_true_eq_false, Nat.reduceLeDiff, Nat.reduceAdd, Nat.reduceEqDiff, Int.reduceToNat, Int.toNat_natCast, iB0, iB1, ru_klI, ru_klR, ru_klF, ru_klJ, ru_kl0, ru_cs0, ru_csI, ru_csR, ru_csF, ru_csJ, wI_add, wI_sub, wI_mul, wI_lt, wI_le, wI_inj, ru_fdE, ru_fdN, ru_iaN, ru_baN, ru_laN, ru_qaN, ru_pfN, ru_isN, ru_bsN, ru_jsN, ru_qsN, ru_set2, Nat.add_right_cancel_iff, if_true, if_false, ite_self, Int.reduceEq, and_self, Int.add_neg_cancel_right, Int.add_zero, Int.zero_add, h, f1, n0, a1, d0]
  simp (disch := omega) only [en31, e31_0, e31_1, e31_4, e31_7, e31_8, e31_11, e31_12, e31_15, ↓reduceIte, Bool.false_eq_true, not_false_eq_true, not_true_eq_false, Nat.reduceLeDiff, Nat.reduceAdd, Nat.reduceEqDiff, Int.reduceToNat, Int.toNat_natCast, iB0, iB1, ru_klI, ru_klR, ru_klF, ru_klJ, ru_kl0, ru_cs0, ru_csI, ru_csR, ru_csF, ru_csJ, wI_add, wI_sub, wI_mul, wI_lt, wI_le, wI_inj, ru_fdE, ru_fdN, ru_iaN, ru_baN, ru_laN, ru_qaN, ru_pfN, ru_isN, ru_bsN, ru_jsN, ru_qsN, ru_set2, Nat.add_right_cancel_iff, if_true, if_false, ite_self, Int.reduceEq, and_self, Int.add_neg_cancel_right, Int.add_zero, Int.zero_add, h, f0, e32, e33, d0, c2]
section SAY
variable {z : Bool} {h : am_H} {M N : tMd} {l : List Nat}
theorem stAt_md {S V : Nat} {t : List Nat} (hs : stAt h S V t) : (mdPut h N).1 S = some (.inr (50, [.ref V, .int (wI 0)])) ∧ ∃ f, (mdPut h N).1 V = some (.inl (11, t.length, .inl f)) ∧ ∀ j, j < t.length → f j = wI ((t.getD j 0 : Nat) : Int) := by
  obtain ⟨a1, ⟨f, a2, a3⟩, a4, a5⟩ := hs
  exact ⟨by rw [mdPut_o (by omega)]; exact a1, f, by rw [mdPut_o (by omega)]; exact a2, a3⟩
end SAY
