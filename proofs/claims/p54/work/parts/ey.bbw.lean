/-! ===== the class reads beside, between ===== -/
section BBW
variable {z : Bool} {C0 C C' : tCl} {n A N R : Nat} {F L : Nat → List Nat} {h : am_H} {q : tPh}
theorem f111 {gap : Int} (hq : phR q) (ok : piOK (piGet C 1070) q gap) {r M : Nat} {e : Nat → Nat} (hrow : rowAt q gap r M e) {i j : Nat} (hi : i < M) (hj : j < M) (hij : i + 2 = j ∨ j + 2 = i) : ru_ev z 111 [.ref 1070, .int (wI (e i)), .int (wI (e j))] (clPut h C) = some (.inl (some (.int (wI (e ((i + j) / 2))))), clPut h C) := by
  obtain ⟨RR, rc, h1, h2, h3⟩ := id hrow
  obtain ⟨a1, a2, a3, a4⟩ := pk_lf hq ok h2 h3 hi
  obtain ⟨b1, b2, b3, b4⟩ := pk_lf hq ok h2 h3 hj
  have N12 := enO_12 h3
  have k9 : ∀ st : Int, ((st = 1 ∧ i + 2 = j) ∨ (st = -1 ∧ j + 2 = i)) → ru_ev z 109 [.ref 1070, .int (wI (e i)), .int (wI st)] (clPut h C) = some (.inl (some (.int (wI (e ((i + j) / 2))))), clPut h C) := fun st hs => f109 (z := z) (h := h) hq ok hrow hi (j := (i + j) / 2) (by omega) (by omega)
  obtain ⟨p, hpp⟩ : ∃ p, p = piGet C 1070 := ⟨_, rfl⟩
  rw [← hpp] at a3 a4 b3 b4
  have eC : piPut C 1070 p = C := by rw [hpp]; exact piPut_get C 1070
  have hP : isPi 1070 := Or.inl rfl
  have m1 := m112 (z := z) (h := clPut h (piPut C 1070 p)) (a := (j : Int) - (i : Int)) (by omega)
  have ab : abF ((j : Int) - (i : Int)) = 2 := by unfold abF; split <;> omega
  rw [ab] at m1
  rw [← eC] at k9 ⊢
  rcases hij with c | c
  · have k := k9 1 (Or.inl ⟨rfl, c⟩)
    have d1 : ((j : Int) - (i : Int) ≤ 0) = False := eq_false (by omega)
    simp (disch := omega) only [en111, e111_0, e111_1, e111_4, e111_5, e111_6, e111_7, e111_10, e111_11, e111_12, e111_13, e111_14, e111_15, e111_18, e111_19, e111_20, e111_21, e111_24, e111_25, e111_26, e111_29, e111_30, e111_33, e111_34, e111_37, e111_38, e111_39, e111_40, e111_41, e111_42, e111_45, e111_46, e111_49, e111_50, e111_53, ↓reduceIte, Bool.false_eq_true, not_false_eq_true, not_true_eq_false, Nat.reduceLeDiff, Nat.reduceAdd, Nat.reduceEqDiff, Int.reduceToNat, Int.toNat_natCast, iB0, iB1, ru_klI, ru_klR, ru_klF, ru_klJ, ru_kl0, ru_cs0, ru_csI, ru_csR, ru_csF, ru_csJ, wI_add, wI_sub, wI_mul, wI_lt, wI_le, wI_inj, ru_fdE, ru_fdN, ru_iaN, ru_baN, ru_laN, ru_qaN, ru_pfN, ru_isN, ru_bsN, ru_jsN, ru_qsN, ru_set2, Nat.add_right_cancel_iff, if_true, if_false, ite_self, Int.reduceEq, and_self, Int.add_neg_cancel_right, Int.add_zero, Int.zero_add, pi_e hP, pi_f5 hP, pi_f6 hP, pi_a3 hP, pi_a4 hP, Int.toNat_natCast, a3, a4, b3, b4, m1, d1, k, not_true]
  · have k := k9 (-1) (Or.inr ⟨rfl, c⟩)
    have d1 : ((j : Int) - (i : Int) ≤ 0) = True := eq_true (by omega)
    simp (disch := omega) only [en111, e111_0, e111_1, e111_4, e111_5, e111_6, e111_7, e111_10, e111_11, e111_12, e111_13, e111_14, e111_15, e111_18, e111_19, e111_20, e111_21, e111_24, e111_25, e111_26, e111_29, e111_30, e111_33, e111_34, e111_37, e111_38, e111_39, e111_40, e111_41, e111_42, e111_45, e111_46, e111_49, e111_50, e111_53, ↓reduceIte, Bool.false_eq_true, not_false_eq_true, not_true_eq_false, Nat.reduceLeDiff, Nat.reduceAdd, Nat.reduceEqDiff, Int.reduceToNat, Int.toNat_natCast, iB0, iB1, ru_klI, ru_klR, ru_klF, ru_klJ, ru_kl0, ru_cs0, ru_csI, ru_csR, ru_csF, ru_csJ, wI_add, wI_sub, wI_mul, wI_lt, wI_le, wI_inj, ru_fdE, ru_fdN, ru_iaN, ru_baN, ru_laN, ru_qaN, ru_pfN, ru_isN, ru_bsN, ru_jsN, ru_qsN, ru_set2, Nat.add_right_cancel_iff, if_true, if_false, ite_self, Int.reduceEq, and_self, Int.add_neg_cancel_right, Int.add_zero, Int.zero_add, pi_e hP, pi_f5 hP, pi_f6 hP, pi_a3 hP, pi_a4 hP, Int.toNat_natCast, a3, a4, b3, b4, m1, d1, k, not_true]
theorem sd_wd {lf : Int} {sd : List Nat} (hW : (lf = 1 ∧ sd = sbT 20) ∨ (lf = 0 ∧ sd = sbT 19)) : wdK sd := by
  rcases hW with ⟨-, rfl⟩ | ⟨-, rfl⟩
  · refine ⟨by decide, by decide, ?_⟩
    rw [sbT_20]; decide
  · refine ⟨by decide, by decide, ?_⟩
    rw [sbT_19]; decide
theorem f106 (hR : 1315 ≤ R) (hst : strs h) (hs : nmS C0 A N F L) {q0 : tPh} {gap : Int} (hq : fpI C0 C q) (hpi : piOK (piGet C0 1070) q0 gap) (hE : psE q q0) {W T sd : List Nat} {a c r M i j : Nat} {e : Nat → Nat} {lf : Int} (ha : a < N) (hc : c < N) (hrow : rowAt q gap r M e) (hi : i < M) (hj : j < M) (hka : shH q (a : Int) = (e i : Int)) (hij : (lf = 1 ∧ j + 1 = i) ∨ (lf = 0 ∧ j = i + 1)) (hsd : (lf = 1 ∧ sd = sbT 20) ∨ (lf = 0 ∧ sd = sbT 19)) (ht : tkw C n W ([32] ++ (F a ++ ([32] ++ (L a ++ ([32] ++ (sd ++ ([32] ++ (F c ++ ([32] ++ (L c ++ T))))))))))) (hT : enT T) (S : tRd) : ∃ C', ru_ev z 106 [.ref R] (clPut (rdH h R (A + 1) S) C) = some (.inl none, clPut (rdH h R (A + 1) (S.1 + 1, S.2)) C') ∧ tkT C' n T ∧ fpI C0 C' (gvQ q (e j) c) := by
  obtain ⟨s0, p0, -⟩ := ht
  have l32 : isL 32 = false := by decide
  have N20 := hs.2.2.1
  have wa := (hs.2.2.2 a ha).1
  have wc := (hs.2.2.2 c hc).1
  obtain ⟨C1, a1, a2, a3⟩ := av_w (z := z) p0 spK_1 wa.1 (Or.inr l32)
  have q1 := fpI_S hq a3
  obtain ⟨C2, b1, b2, b3⟩ := fw105 (z := z) (h := h) (R := R) hR hst (nmS_pr hs q1.1) ha a2 (Or.inr l32)
  have q2 := fpI_S q1 b2
  obtain ⟨s2, p2, -⟩ := id b1
  obtain ⟨C3, c1, c2, c3⟩ := av_w (z := z) p2 spK_1 (sd_wd hsd) (Or.inr l32)
  have q3 := fpI_S q2 c3
  obtain ⟨s3, p3, -⟩ := id c2
  obtain ⟨C4, d1, d2, d3⟩ := av_w (z := z) p3 spK_1 wc.1 (Or.inr l32)
  have q4 := fpI_S q3 d3
  obtain ⟨RR, rc, r1, r2, r3⟩ := id hrow
  have ej := r3.1 j hj
  simp only [Bool.and_eq_true] at ej
  have sj := (shS_rng hq.2.2.2 ej.2.1).2.2.1
  obtain ⟨C5, C6, v1, v2, v3, v4, v5, -⟩ := gvw (z := z) (h := h) hR hst hs q4 hc sj d2 hT
  refine ⟨C6, ?_, v4, v5⟩
  have x1 := a1 (rdH h R (A + 1) S)
  have x2 := b3 S
  have x3 := f107 (z := z) (h := h) (nn := A + 1) (S := S) hR q2 (nm := a) (by omega) hka
  have x4 := c1 (rdH h R (A + 1) S)
  have x5 := f96 (z := z) (h := h) (nn := A + 1) (S := S) hR hst hsd c2
  have x6 := f109 (z := z) (h := rdH h R (A + 1) S) q3.2.2.2 (fp_pi q3 hpi hE) hrow hi hj (st := if lf = 1 then -1 else 1) (by
    rcases hij with ⟨rfl, k⟩ | ⟨rfl, k⟩
    · right; exact ⟨rfl, k⟩
    · left; exact ⟨rfl, k⟩)
  have x7 := d1 (rdH h R (A + 1) S)
  have y1 := v1 S
  have y2 := v2 S
  have y3 := v3 (rdH h R (A + 1) (S.1 + 1, S.2))
  have fP : ∀ D : tCl, (clPut (rdH h R (A + 1) S) D).1 1070 = some (.inr (4, clL4 D 1070)) := fun D => clP4 (by decide +kernel) (by decide)
  have dk : (((e j : Nat) : Int) = -1) = False := eq_false (by omega)
  simp (disch := omega) only [en106, e106_0, e106_1, e106_4, e106_7, e106_8, e106_9, e106_12, e106_15, e106_16, e106_17, e106_20, e106_23, e106_24, e106_27, e106_28, e106_29, e106_32, e106_35, e106_36, e106_37, e106_40, e106_41, e106_42, e106_45, e106_46, e106_49, e106_50, e106_52, e106_55, e106_56, e106_59, e106_62, e106_63, e106_64, e106_65, e106_68, e106_71, e106_72, e106_75, e106_78, ↓reduceIte, Bool.false_eq_true, not_false_eq_true, not_true_eq_false, Nat.reduceLeDiff, Nat.reduceAdd, Nat.reduceEqDiff, Int.reduceToNat, Int.toNat_natCast, iB0, iB1, ru_klI, ru_klR, ru_klF, ru_klJ, ru_kl0, ru_cs0, ru_csI, ru_csR, ru_csF, ru_csJ, wI_add, wI_sub, wI_mul, wI_lt, wI_le, wI_inj, ru_fdE, ru_fdN, ru_iaN, ru_baN, ru_laN, ru_qaN, ru_pfN, ru_isN, ru_bsN, ru_jsN, ru_qsN, ru_set2, Nat.add_right_cancel_iff, if_true, if_false, ite_self, Int.reduceEq, and_self, Int.add_neg_cancel_right, Int.add_zero, Int.zero_add, rd_e hR, rd_f0 hR, rd_f3 hR, cl_e1, fP, x1, x2, x3, x4, x5, x6, x7, dk, fw36, y1, y2, y3, not_false_iff]
theorem f110 (hR : 1315 ≤ R) (hst : strs h) (hs : nmS C0 A N F L) {q0 : tPh} {gap : Int} (hq : fpI C0 C q) (hpi : piOK (piGet C0 1070) q0 gap) (hE : psE q q0) {W T : List Nat} {a b c r M i j : Nat} {e : Nat → Nat} (ha : a < N) (hb : b < N) (hc : c < N) (hrow : rowAt q gap r M e) (hi : i < M) (hj : j < M) (hka : shH q (a : Int) = (e i : Int)) (hkb : shH q (b : Int) = (e j : Int)) (hij : i + 2 = j ∨ j + 2 = i) (ht : tkw C n W ([32] ++ (F a ++ ([32] ++ (L a ++ ([32] ++ (F b ++ ([32] ++ (L b ++ ([32] ++ (F c ++ ([32] ++ (L c ++ T))))))))))))) (hT : enT T) (S : tRd) : ∃ C', ru_ev z 110 [.ref R] (clPut (rdH h R (A + 1) S) C) = some (.inl none, clPut (rdH h R (A + 1) (S.1 + 1, S.2)) C') ∧ tkT C' n T ∧ fpI C0 C' (gvQ q (e ((i + j) / 2)) c) := by
  obtain ⟨s0, p0, -⟩ := ht
  have l32 : isL 32 = false := by decide
  have N20 := hs.2.2.1
  have wa := (hs.2.2.2 a ha).1
  have wb := (hs.2.2.2 b hb).1
  have wc := (hs.2.2.2 c hc).1
  obtain ⟨C1, a1, a2, a3⟩ := av_w (z := z) p0 spK_1 wa.1 (Or.inr l32)
  have q1 := fpI_S hq a3
  obtain ⟨C2, b1, b2, b3⟩ := fw105 (z := z) (h := h) (R := R) hR hst (nmS_pr hs q1.1) ha a2 (Or.inr l32)
  have q2 := fpI_S q1 b2
  obtain ⟨s2, p2, -⟩ := id b1
  obtain ⟨C3, c1, c2, c3⟩ := av_w (z := z) p2 spK_1 wb.1 (Or.inr l32)
  have q3 := fpI_S q2 c3
  obtain ⟨C4, d1, d2, d3⟩ := fw105 (z := z) (h := h) (R := R) hR hst (nmS_pr hs q3.1) hb c2 (Or.inr l32)
  have q4 := fpI_S q3 d2
  obtain ⟨s4, p4, -⟩ := id d1
  obtain ⟨C5, e1, e2, e3⟩ := av_w (z := z) p4 spK_1 wc.1 (Or.inr l32)
  have q5 := fpI_S q4 e3
  obtain ⟨RR, rc, r1, r2, r3⟩ := id hrow
  have ej := r3.1 ((i + j) / 2) (by omega)
  simp only [Bool.and_eq_true] at ej
  have sj := (shS_rng hq.2.2.2 ej.2.1).2.2.1
  obtain ⟨C6, C7, v1, v2, v3, v4, v5, -⟩ := gvw (z := z) (h := h) hR hst hs q5 hc sj e2 hT
  refine ⟨C7, ?_, v4, v5⟩
  have x1 := a1 (rdH h R (A + 1) S)
  have x2 := b3 S
  have x3 := f107 (z := z) (h := h) (nn := A + 1) (S := S) hR q2 (nm := a) (by omega) hka
  have x4 := c1 (rdH h R (A + 1) S)
  have x5 := d3 S
  have x6 := f107 (z := z) (h := h) (nn := A + 1) (S := S) hR q4 (nm := b) (by omega) hkb
  have x7 := f111 (z := z) (h := rdH h R (A + 1) S) q4.2.2.2 (fp_pi q4 hpi hE) hrow hi hj hij
  have x8 := e1 (rdH h R (A + 1) S)
  have y1 := v1 S
  have y2 := v2 S
  have y3 := v3 (rdH h R (A + 1) (S.1 + 1, S.2))
  have fP : ∀ D : tCl, (clPut (rdH h R (A + 1) S) D).1 1070 = some (.inr (4, clL4 D 1070)) := fun D => clP4 (by decide +kernel) (by decide)
  have dk : (((e ((i + j) / 2) : Nat) : Int) = -1) = False := eq_false (by omega)
  simp (disch := omega) only [en110, e110_0, e110_1, e110_4, e110_7, e110_8, e110_9, e110_12, e110_15, e110_16, e110_17, e110_20, e110_23, e110_24, e110_25, e110_28, e110_31, e110_32, e110_33, e110_36, e110_37, e110_38, e110_41, e110_42, e110_43, e110_46, e110_47, e110_48, e110_51, e110_52, e110_55, e110_56, e110_58, e110_61, e110_62, e110_65, e110_68, e110_69, e110_70, e110_71, e110_74, e110_77, e110_78, e110_81, e110_84, ↓reduceIte, Bool.false_eq_true, not_false_eq_true, not_true_eq_false, Nat.reduceLeDiff, Nat.reduceAdd, Nat.reduceEqDiff, Int.reduceToNat, Int.toNat_natCast, iB0, iB1, ru_klI, ru_klR, ru_klF, ru_klJ, ru_kl0, ru_cs0, ru_csI, ru_csR, ru_csF, ru_csJ, wI_add, wI_sub, wI_mul, wI_lt, wI_le, wI_inj, ru_fdE, ru_fdN, ru_iaN, ru_baN, ru_laN, ru_qaN, ru_pfN, ru_isN, ru_bsN, ru_jsN, ru_qsN, ru_set2, Nat.add_right_cancel_iff, if_true, if_false, ite_self, Int.reduceEq, and_self, Int.add_neg_cancel_right, Int.add_zero, Int.zero_add, rd_e hR, rd_f0 hR, rd_f3 hR, cl_e1, fP, x1, x2, x3, x4, x5, x6, x7, x8, dk, fw36, y1, y2, y3, not_false_iff]
end BBW
