/-! ===== the law's album: holders, names given, people put in, the nearest ===== -/
def hgF (f : Nat → Int) (nm : Int) (n : Nat) : Nat → Int := if hofF f nm n 0 = -1 then f else up1 f (hofF f nm n 0).toNat (-1)
section GV
variable {z : Bool} {X : am_H} {B : Nat} {A : tLw}
theorem d414l (h : ylP X B A) (hr : ylR A) {f m : Nat} {nm : Int} (hf : f < 3) (g : -2147483648 ≤ nm ∧ nm < 2147483648) (hm : (A.2.1 f).1 7 = (m : Int)) (hm2 : m ≤ 12) : ∀ d k, k + d = m → ru_n z 414 2 [some (.ref (B + 1)), some (.int (wI f)), some (.int (wI nm)), some (.int (wI k))] [] X = some (.inl (some (.int (wI (hofF ((A.2.1 f).2 3) nm d k)))), X) := by
  intro d
  induction d with
  | zero =>
    intro k hk
    obtain rfl : k = m := by omega
    rw [show hofF ((A.2.1 f).2 3) nm 0 k = -1 from rfl]
    simp (disch := omega) only [e414_0, e414_1, e414_2, e414_3, e414_4, e414_7, e414_8, e414_9, e414_12, e414_13, e414_16, e414_17, e414_18, e414_19, e414_20, e414_21, e414_24, e414_25, e414_26, e414_29, e414_32, e414_33, ↓reduceIte, Bool.false_eq_true, not_false_eq_true, not_true_eq_false, Nat.reduceLeDiff, Nat.reduceAdd, Nat.reduceEqDiff, Int.reduceToNat, Int.toNat_natCast, iB0, iB1, ru_klI, ru_klR, ru_klF, ru_klJ, ru_kl0, ru_cs0, ru_csI, ru_csR, ru_csF, ru_csJ, wI_add, wI_sub, wI_mul, wI_lt, wI_le, wI_inj, ru_fdE, ru_fdN, ru_iaN, ru_baN, ru_laN, ru_qaN, ru_pfN, ru_isN, ru_bsN, ru_jsN, ru_qsN, ru_set2, Nat.add_right_cancel_iff, if_true, if_false, ite_self, Int.reduceEq, and_self, Int.add_neg_cancel_right, Int.add_zero, Int.zero_add, yl_o h, yl_f8 h, yl_8 h, hm, Int.le_refl]
  | succ d ih =>
    intro k hk
    have d1 : ((m : Int) ≤ (k : Int)) = False := eq_false (by omega)
    have i1 := ih (k + 1) (by omega)
    rw [show (((k + 1 : Nat)) : Int) = (k : Int) + 1 by omega] at i1
    have s2 := phR_i (hr f) k
    unfold hofF
    rw [e414_2]
    by_cases e : (A.2.1 f).2 3 k = nm
    · rw [if_pos e]
      have e1 : (¬ (A.2.1 f).2 3 k = nm) = False := eq_false (fun h => h e)
      simp (disch := omega) only [e414_0, e414_1, e414_3, e414_4, e414_7, e414_8, e414_9, e414_12, e414_13, e414_16, e414_17, e414_18, e414_19, e414_20, e414_21, e414_24, e414_25, e414_26, e414_29, e414_32, e414_33, ↓reduceIte, Bool.false_eq_true, not_false_eq_true, not_true_eq_false, Nat.reduceLeDiff, Nat.reduceAdd, Nat.reduceEqDiff, Int.reduceToNat, Int.toNat_natCast, iB0, iB1, ru_klI, ru_klR, ru_klF, ru_klJ, ru_kl0, ru_cs0, ru_csI, ru_csR, ru_csF, ru_csJ, wI_add, wI_sub, wI_mul, wI_lt, wI_le, wI_inj, ru_fdE, ru_fdN, ru_iaN, ru_baN, ru_laN, ru_qaN, ru_pfN, ru_isN, ru_bsN, ru_jsN, ru_qsN, ru_set2, Nat.add_right_cancel_iff, if_true, if_false, ite_self, Int.reduceEq, and_self, Int.add_neg_cancel_right, Int.add_zero, Int.zero_add, yl_o h, yl_f8 h, yl_8 h, hm, d1, yl_f12 h, yl_q21 h, yl_n h, Int.toNat_natCast, e]
    · rw [if_neg e]
      simp (disch := omega) only [e414_0, e414_1, e414_3, e414_4, e414_7, e414_8, e414_9, e414_12, e414_13, e414_16, e414_17, e414_18, e414_19, e414_20, e414_21, e414_24, e414_25, e414_26, e414_29, e414_32, e414_33, ↓reduceIte, Bool.false_eq_true, not_false_eq_true, not_true_eq_false, Nat.reduceLeDiff, Nat.reduceAdd, Nat.reduceEqDiff, Int.reduceToNat, Int.toNat_natCast, iB0, iB1, ru_klI, ru_klR, ru_klF, ru_klJ, ru_kl0, ru_cs0, ru_csI, ru_csR, ru_csF, ru_csJ, wI_add, wI_sub, wI_mul, wI_lt, wI_le, wI_inj, ru_fdE, ru_fdN, ru_iaN, ru_baN, ru_laN, ru_qaN, ru_pfN, ru_isN, ru_bsN, ru_jsN, ru_qsN, ru_set2, Nat.add_right_cancel_iff, if_true, if_false, ite_self, Int.reduceEq, and_self, Int.add_neg_cancel_right, Int.add_zero, Int.zero_add, yl_o h, yl_f8 h, yl_8 h, hm, d1, yl_f12 h, yl_q21 h, yl_n h, Int.toNat_natCast, e, i1]
theorem d414 (h : ylP X B A) (hr : ylR A) {f : Nat} {nm : Int} (hf : f < 3) (g : -2147483648 ≤ nm ∧ nm < 2147483648) : ru_ev z 414 [.ref (B + 1), .int (wI f), .int (wI nm)] X = some (.inl (some (.int (wI (hofF ((A.2.1 f).2 3) nm ((A.2.1 f).1 7).toNat 0)))), X) := by
  have s := (phR_s (hr f)).2.2.2.2.2.2.2
  have k := d414l (z := z) h hr hf g (m := ((A.2.1 f).1 7).toNat) (by omega) (by omega) _ 0 (Nat.zero_add _)
  simp only [Int.ofNat_zero, Int.natCast_zero] at k
  simp (disch := omega) only [en414, e414_0, e414_1, ↓reduceIte, Bool.false_eq_true, not_false_eq_true, not_true_eq_false, Nat.reduceLeDiff, Nat.reduceAdd, Nat.reduceEqDiff, Int.reduceToNat, Int.toNat_natCast, iB0, iB1, ru_klI, ru_klR, ru_klF, ru_klJ, ru_kl0, ru_cs0, ru_csI, ru_csR, ru_csF, ru_csJ, wI_add, wI_sub, wI_mul, wI_lt, wI_le, wI_inj, ru_fdE, ru_fdN, ru_iaN, ru_baN, ru_laN, ru_qaN, ru_pfN, ru_isN, ru_bsN, ru_jsN, ru_qsN, ru_set2, Nat.add_right_cancel_iff, if_true, if_false, ite_self, Int.reduceEq, and_self, Int.add_neg_cancel_right, Int.add_zero, Int.zero_add, yl_o h, k]
theorem d421 (h : ylP X B A) (hr : ylR A) {f : Nat} {nm : Int} (hf : f < 3) (g : -2147483648 ≤ nm ∧ nm < 2147483648) : ru_ev z 421 [.ref (B + 1), .int (wI f), .int (wI nm)] X = some (.inl (some (.int (wI (shH (A.2.1 f) nm)))), X) := by
  have s := (phR_s (hr f)).2.2.2.2.2.2.2
  have k := d414 (z := z) h hr hf g
  have kr := hofF_rng ((A.2.1 f).2 3) nm ((A.2.1 f).1 7).toNat 0
  unfold shH
  obtain ⟨w, hw⟩ : ∃ w, w = hofF ((A.2.1 f).2 3) nm ((A.2.1 f).1 7).toNat 0 := ⟨_, rfl⟩
  rw [← hw] at k kr ⊢
  by_cases c : w = -1
  · rw [if_neg (fun h => h.1 c)]
    simp (disch := omega) only [en421, e421_0, e421_1, e421_2, e421_3, e421_6, e421_7, e421_8, e421_11, e421_12, e421_13, e421_14, e421_17, e421_20, e421_21, e421_24, e421_25, ↓reduceIte, Bool.false_eq_true, not_false_eq_true, not_true_eq_false, Nat.reduceLeDiff, Nat.reduceAdd, Nat.reduceEqDiff, Int.reduceToNat, Int.toNat_natCast, iB0, iB1, ru_klI, ru_klR, ru_klF, ru_klJ, ru_kl0, ru_cs0, ru_csI, ru_csR, ru_csF, ru_csJ, wI_add, wI_sub, wI_mul, wI_lt, wI_le, wI_inj, ru_fdE, ru_fdN, ru_iaN, ru_baN, ru_laN, ru_qaN, ru_pfN, ru_isN, ru_bsN, ru_jsN, ru_qsN, ru_set2, Nat.add_right_cancel_iff, if_true, if_false, ite_self, Int.reduceEq, and_self, Int.add_neg_cancel_right, Int.add_zero, Int.zero_add, yl_o h, k, c, Int.reduceLT, Int.reduceLE]
  · obtain ⟨o, rfl⟩ := Int.eq_ofNat_of_zero_le (show 0 ≤ w by omega)
    have k8 := d408 (z := z) h hr hf (show o < 12 by omega)
    have d1 : ((o : Int) < 0) = False := eq_false (by omega)
    rw [Int.toNat_natCast]
    by_cases e : shw (A.2.1 f) o = true
    · rw [if_pos ⟨c, e⟩]
      rw [if_pos e] at k8
      simp (disch := omega) only [en421, e421_0, e421_1, e421_2, e421_3, e421_6, e421_7, e421_8, e421_11, e421_12, e421_13, e421_14, e421_17, e421_20, e421_21, e421_24, e421_25, ↓reduceIte, Bool.false_eq_true, not_false_eq_true, not_true_eq_false, Nat.reduceLeDiff, Nat.reduceAdd, Nat.reduceEqDiff, Int.reduceToNat, Int.toNat_natCast, iB0, iB1, ru_klI, ru_klR, ru_klF, ru_klJ, ru_kl0, ru_cs0, ru_csI, ru_csR, ru_csF, ru_csJ, wI_add, wI_sub, wI_mul, wI_lt, wI_le, wI_inj, ru_fdE, ru_fdN, ru_iaN, ru_baN, ru_laN, ru_qaN, ru_pfN, ru_isN, ru_bsN, ru_jsN, ru_qsN, ru_set2, Nat.add_right_cancel_iff, if_true, if_false, ite_self, Int.reduceEq, and_self, Int.add_neg_cancel_right, Int.add_zero, Int.zero_add, yl_o h, k, k8, d1]
    · rw [if_neg (fun h => e h.2)]
      rw [if_neg e] at k8
      simp (disch := omega) only [en421, e421_0, e421_1, e421_2, e421_3, e421_6, e421_7, e421_8, e421_11, e421_12, e421_13, e421_14, e421_17, e421_20, e421_21, e421_24, e421_25, ↓reduceIte, Bool.false_eq_true, not_false_eq_true, not_true_eq_false, Nat.reduceLeDiff, Nat.reduceAdd, Nat.reduceEqDiff, Int.reduceToNat, Int.toNat_natCast, iB0, iB1, ru_klI, ru_klR, ru_klF, ru_klJ, ru_kl0, ru_cs0, ru_csI, ru_csR, ru_csF, ru_csJ, wI_add, wI_sub, wI_mul, wI_lt, wI_le, wI_inj, ru_fdE, ru_fdN, ru_iaN, ru_baN, ru_laN, ru_qaN, ru_pfN, ru_isN, ru_bsN, ru_jsN, ru_qsN, ru_set2, Nat.add_right_cancel_iff, if_true, if_false, ite_self, Int.reduceEq, and_self, Int.add_neg_cancel_right, Int.add_zero, Int.zero_add, yl_o h, k, k8, d1]
theorem d413 (h : ylP X B A) (hr : ylR A) {f k : Nat} {nm : Int} (hf : f < 3) (hk : k < 12) (g : -2147483648 ≤ nm ∧ nm < 2147483648) : ∃ X', ru_ev z 413 [.ref (B + 1), .int (wI f), .int (wI k), .int (wI nm)] X = some (.inl none, X') ∧ ylP X' B (ylU A f ((A.2.1 f).1, upC (A.2.1 f).2 3 (up1 (hgF ((A.2.1 f).2 3) nm ((A.2.1 f).1 7).toNat) k nm))) ∧ ylE X X' B := by
  have s := (phR_s (hr f)).2.2.2.2.2.2.2
  have k4 := d414 (z := z) h hr hf g
  have kr := hofF_rng ((A.2.1 f).2 3) nm ((A.2.1 f).1 7).toNat 0
  unfold hgF
  obtain ⟨w, hw⟩ : ∃ w, w = hofF ((A.2.1 f).2 3) nm ((A.2.1 f).1 7).toNat 0 := ⟨_, rfl⟩
  rw [← hw] at k4 kr ⊢
  by_cases c : w = -1
  · rw [if_pos c]
    obtain ⟨X1, q1, q2, q3⟩ := yl_wn h (k := (k : Int)) (v := nm) hf (by omega) (by omega)
    rw [Int.toNat_natCast] at q2
    refine ⟨X1, ?_, q2, q3⟩
    simp (disch := omega) only [en413, e413_0, e413_1, e413_2, e413_3, e413_6, e413_8, e413_10, e413_13, e413_14, e413_17, e413_18, e413_19, e413_21, e413_22, e413_23, e413_24, e413_27, e413_28, e413_29, e413_30, e413_31, e413_32, ↓reduceIte, Bool.false_eq_true, not_false_eq_true, not_true_eq_false, Nat.reduceLeDiff, Nat.reduceAdd, Nat.reduceEqDiff, Int.reduceToNat, Int.toNat_natCast, iB0, iB1, ru_klI, ru_klR, ru_klF, ru_klJ, ru_kl0, ru_cs0, ru_csI, ru_csR, ru_csF, ru_csJ, wI_add, wI_sub, wI_mul, wI_lt, wI_le, wI_inj, ru_fdE, ru_fdN, ru_iaN, ru_baN, ru_laN, ru_qaN, ru_pfN, ru_isN, ru_bsN, ru_jsN, ru_qsN, ru_set2, Nat.add_right_cancel_iff, if_true, if_false, ite_self, Int.reduceEq, and_self, Int.add_neg_cancel_right, Int.add_zero, Int.zero_add, yl_o h, k4, c, yl_f12 h, yl_q21 h, q1, Int.reduceLT, Int.reduceLE]
  · rw [if_neg c]
    obtain ⟨o, rfl⟩ := Int.eq_ofNat_of_zero_le (show 0 ≤ w by omega)
    have d1 : ((o : Int) < 0) = False := eq_false (by omega)
    obtain ⟨X1, q1, q2, q3⟩ := yl_wn h (k := (o : Int)) (v := -1) hf (by omega) (by omega)
    obtain ⟨X2, r1, r2, r3⟩ := yl_wn q2 (k := (k : Int)) (v := nm) hf (by omega) (by omega)
    rw [Int.toNat_natCast] at q2 r2 ⊢
    rw [ylU_up, ylU_s] at r2
    refine ⟨X2, ?_, ?_, ylE_t q3 r3⟩
    · simp (disch := omega) only [en413, e413_0, e413_1, e413_2, e413_3, e413_6, e413_8, e413_10, e413_13, e413_14, e413_17, e413_18, e413_19, e413_21, e413_22, e413_23, e413_24, e413_27, e413_28, e413_29, e413_30, e413_31, e413_32, ↓reduceIte, Bool.false_eq_true, not_false_eq_true, not_true_eq_false, Nat.reduceLeDiff, Nat.reduceAdd, Nat.reduceEqDiff, Int.reduceToNat, Int.toNat_natCast, iB0, iB1, ru_klI, ru_klR, ru_klF, ru_klJ, ru_kl0, ru_cs0, ru_csI, ru_csR, ru_csF, ru_csJ, wI_add, wI_sub, wI_mul, wI_lt, wI_le, wI_inj, ru_fdE, ru_fdN, ru_iaN, ru_baN, ru_laN, ru_qaN, ru_pfN, ru_isN, ru_bsN, ru_jsN, ru_qsN, ru_set2, Nat.add_right_cancel_iff, if_true, if_false, ite_self, Int.reduceEq, and_self, Int.add_neg_cancel_right, Int.add_zero, Int.zero_add, yl_o h, k4, d1, yl_f12 h, yl_q21 h, q1, yl_o q2, yl_f12 q2, yl_q21 q2, r1]
    · dsimp only at r2
      rw [upC_e, upC_up] at r2
      exact r2
theorem d398 (h : ylP X B A) (hr : ylR A) {f m : Nat} {px py : Int} (hf : f < 3) (hm : (A.2.1 f).1 7 = (m : Int)) (hm2 : m < 12) : ∃ X', ru_ev z 398 [.ref (B + 1), .int (wI f), .int (wI px), .int (wI py)] X = some (.inl none, X') ∧ ylP X' B (ylU A f (up1 (A.2.1 f).1 7 ((m : Int) + 1), upC (upC (upC (A.2.1 f).2 0 (up1 ((A.2.1 f).2 0) m px)) 1 (up1 ((A.2.1 f).2 1) m py)) 3 (up1 ((A.2.1 f).2 3) m (-1)))) ∧ ylE X X' B := by
  obtain ⟨X1, a1, a2, a3⟩ := yl_wx h (k := (m : Int)) (v := px) hf (by omega) (by omega)
  obtain ⟨X2, b1, b2, b3⟩ := yl_wy a2 (k := (m : Int)) (v := py) hf (by omega) (by omega)
  obtain ⟨X3, c1, c2, c3⟩ := yl_wn b2 (k := (m : Int)) (v := -1) hf (by omega) (by omega)
  obtain ⟨X4, d1, d2, d3⟩ := yl_w8 c2 (v := (m : Int) + 1) hf
  refine ⟨X4, ?_, ?_, ylE_t a3 (ylE_t b3 (ylE_t c3 d3))⟩
  · have m1 : am_ia X1 (B + 8) (wI f) = some (wI m) := by rw [yl_8 a2 hf, ylU_s, hm]
    have m2 : am_ia X2 (B + 8) (wI f) = some (wI m) := by rw [yl_8 b2 hf, ylU_s]; show some (wI (((ylU A f _).2.1 f).1 7)) = _; rw [ylU_s, hm]
    have m3 : am_ia X3 (B + 8) (wI f) = some (wI m) := by rw [yl_8 c2 hf, ylU_s]; show some (wI (((ylU (ylU A f _) f _).2.1 f).1 7)) = _; rw [ylU_s]; show some (wI (((ylU A f _).2.1 f).1 7)) = _; rw [ylU_s, hm]
    simp (disch := omega) only [en398, e398_0, e398_1, e398_4, e398_5, e398_6, e398_7, e398_10, e398_11, e398_12, e398_13, e398_14, e398_15, e398_18, e398_19, e398_20, e398_21, e398_24, e398_25, e398_26, e398_27, e398_28, e398_29, e398_32, e398_33, e398_34, e398_35, e398_38, e398_39, e398_40, e398_41, e398_42, e398_43, e398_46, e398_47, e398_48, e398_49, e398_50, e398_51, e398_52, ↓reduceIte, Bool.false_eq_true, not_false_eq_true, not_true_eq_false, Nat.reduceLeDiff, Nat.reduceAdd, Nat.reduceEqDiff, Int.reduceToNat, Int.toNat_natCast, iB0, iB1, ru_klI, ru_klR, ru_klF, ru_klJ, ru_kl0, ru_cs0, ru_csI, ru_csR, ru_csF, ru_csJ, wI_add, wI_sub, wI_mul, wI_lt, wI_le, wI_inj, ru_fdE, ru_fdN, ru_iaN, ru_baN, ru_laN, ru_qaN, ru_pfN, ru_isN, ru_bsN, ru_jsN, ru_qsN, ru_set2, Nat.add_right_cancel_iff, if_true, if_false, ite_self, Int.reduceEq, and_self, Int.add_neg_cancel_right, Int.add_zero, Int.zero_add, ru_ctR, ru_ctI, yl_o h, yl_f8 h, yl_f10 h, yl_f11 h, yl_f12 h, yl_q13 h, yl_8 h, hm, a1, yl_o a2, yl_f8 a2, yl_f11 a2, yl_f12 a2, yl_q17 a2, m1, b1, yl_o b2, yl_f8 b2, yl_f12 b2, yl_q21 b2, m2, c1, yl_o c2, yl_f8 c2, m3, d1]
  · simp only [ylU_up, ylU_s, Int.toNat_natCast] at d2
    have e1 : (upC (upC (A.2.1 f).2 0 (up1 ((A.2.1 f).2 0) m px)) 1 (up1 (upC (A.2.1 f).2 0 (up1 ((A.2.1 f).2 0) m px) 1) m py)) = upC (upC (A.2.1 f).2 0 (up1 ((A.2.1 f).2 0) m px)) 1 (up1 ((A.2.1 f).2 1) m py) := by rw [upC_n (c := 0) (j := 1) (by decide)]
    rw [e1, upC_n (c := 1) (j := 3) (by decide), upC_n (c := 0) (j := 3) (by decide)] at d2
    exact d2
end GV
