/-! ===== the class's queue of a row, of all ===== -/
section QUE
variable {z : Bool} {C0 C C' : tCl} {n A N R : Nat} {F L : Nat → List Nat} {h : am_H} {q : tPh}
theorem f934 {gap : Int} (hq : phR q) (ok : piOK (piGet C 1070) q gap) {r M : Nat} {e : Nat → Nat} (hrow : rowAt q gap r M e) : (r : Int) < C.1 1070 1 ∧ C.1 1070 1 ≤ 12 ∧ (∀ h, ru_ev z 93 [.ref 1070, .int (wI r)] (clPut h C) = some (.inl (some (.int (wI M))), clPut h C)) ∧ ∀ h i, i < M → ru_ev z 94 [.ref 1070, .int (wI r), .int (wI ((i : Nat) : Int))] (clPut h C) = some (.inl (some (.int (wI (e i)))), clPut h C) := by
  obtain ⟨RR, rc, h1, h2, h3⟩ := hrow
  obtain ⟨t1, -⟩ := pk_row (pheq_r q) hq ok h2
  obtain ⟨b1, b2⟩ := pk_at (pheq_r q) hq ok h2 h3 h1
  have rcb := pi_rc ok
  have N12 := enO_12 h3
  have pat := fun (j : Nat) (hj : (j : Int) < (M : Int)) => pi_at ok hq (r := r) (j := j) (by omega) (by unfold lenC at b1; rw [b1]; exact hj)
  obtain ⟨p, hpp⟩ : ∃ p, p = piGet C 1070 := ⟨_, rfl⟩
  have e1 : C.1 1070 1 = (piGet C 1070).1 1 := rfl
  have eC : piPut C 1070 p = C := by rw [hpp]; exact piPut_get C 1070
  have hP : isPi 1070 := Or.inl rfl
  rw [e1]
  rw [← hpp] at b1 b2 pat rcb t1 ⊢
  unfold lenC at b1
  have x3 : (((r : Nat) : Int) + 1).toNat = r + 1 := by omega
  have r7 : p.2 6 (r + 1) = p.2 6 r + (M : Int) := by omega
  have eN : p.2 6 r + (M : Int) - p.2 6 r = (M : Int) := by omega
  refine ⟨by omega, rcb.2, fun h => ?_, fun h i hi => ?_⟩
  · rw [← eC]
    simp (disch := omega) only [en93, e93_0, e93_1, e93_4, e93_5, e93_6, e93_7, e93_8, e93_9, e93_12, e93_13, e93_14, e93_15, ↓reduceIte, Bool.false_eq_true, not_false_eq_true, not_true_eq_false, Nat.reduceLeDiff, Nat.reduceAdd, Nat.reduceEqDiff, Int.reduceToNat, Int.toNat_natCast, iB0, iB1, ru_klI, ru_klR, ru_klF, ru_klJ, ru_kl0, ru_cs0, ru_csI, ru_csR, ru_csF, ru_csJ, wI_add, wI_sub, wI_mul, wI_lt, wI_le, wI_inj, ru_fdE, ru_fdN, ru_iaN, ru_baN, ru_laN, ru_qaN, ru_pfN, ru_isN, ru_bsN, ru_jsN, ru_qsN, ru_set2, Nat.add_right_cancel_iff, if_true, if_false, ite_self, Int.reduceEq, and_self, Int.add_neg_cancel_right, Int.add_zero, Int.zero_add, pi_e hP, pi_f8 hP, pi_a6 hP, Int.toNat_natCast, x3, r7, eN]
  · have b3 := b2 i hi
    unfold plC at b3
    obtain ⟨⟨c1, c2⟩, -⟩ := pat i (by omega)
    rw [← eC]
    simp (disch := omega) only [en94, e94_0, e94_1, e94_4, e94_5, e94_8, e94_9, e94_10, e94_11, e94_12, e94_13, ↓reduceIte, Bool.false_eq_true, not_false_eq_true, not_true_eq_false, Nat.reduceLeDiff, Nat.reduceAdd, Nat.reduceEqDiff, Int.reduceToNat, Int.toNat_natCast, iB0, iB1, ru_klI, ru_klR, ru_klF, ru_klJ, ru_kl0, ru_cs0, ru_csI, ru_csR, ru_csF, ru_csJ, wI_add, wI_sub, wI_mul, wI_lt, wI_le, wI_inj, ru_fdE, ru_fdN, ru_iaN, ru_baN, ru_laN, ru_qaN, ru_pfN, ru_isN, ru_bsN, ru_jsN, ru_qsN, ru_set2, Nat.add_right_cancel_iff, if_true, if_false, ite_self, Int.reduceEq, and_self, Int.add_neg_cancel_right, Int.add_zero, Int.zero_add, pi_e hP, pi_f7 hP, pi_f8 hP, pi_a5 hP, pi_a6 hP, Int.toNat_natCast, b3]
theorem f92 (hR : 1315 ≤ R) {q0 : tPh} {gap : Int} (hq : fpI C0 C q) (hpi : piOK (piGet C0 1070) q0 gap) (hE : psE q q0) {W sd X : List Nat} {r M : Nat} {e : Nat → Nat} (hr : r ≤ 99) (hrow : rowAt q gap r M e) (hsd : wdK sd) (hX : X = [] ∨ isL (X.getD 0 0) = false) (ht : tkw C n W ([32] ++ (numT r ++ ([32] ++ (sd ++ X))))) {gv Tq cl : Int} {Q : Nat → Int} {fi : Nat → Int64} : ∃ (C' : tCl) (Q' : Nat → Int), ru_ev z 92 [.ref R] (clPut (rdH h R (A + 1) (gv, Tq, cl, Q, fi)) C) = some (.inl none, clPut (rdH h R (A + 1) (gv, M, cl, Q', fi)) C') ∧ (∀ k, k < M → Q' k = (e k : Int)) ∧ tkw C' n sd X ∧ fpI C0 C' q := by
  obtain ⟨s0, p0, -⟩ := ht
  obtain ⟨C1, a1, a2, a3⟩ := av_n (z := z) hr p0 spK_1 (Or.inr (by show isD 32 = false; decide))
  obtain ⟨s1, e1, -, p1, -⟩ := id a2
  obtain ⟨C2, b1, b2, b3⟩ := av_w (z := z) p1 spK_1 hsd hX
  have q1 := fpI_S hq a3
  have q2 := fpI_S q1 b3
  obtain ⟨c1, c2, c3, c4⟩ := f934 (z := z) q2.2.2.2 (fp_pi q2 hpi hE) hrow
  have M12 : M ≤ 12 := by obtain ⟨RR, rc, h1, h2, h3⟩ := hrow; exact enO_12 h3
  have e70 : C1.1 1070 1 = C2.1 1070 1 := by rw [b3.1 1070 (by decide)]
  obtain ⟨Q', d1, d2⟩ := c92l (z := z) (C := C2) (H := h) (nm := A + 1) hR (row := (r : Int)) (T := M) M12 (v := fun i => (e i : Int)) (g := gv) (c := cl) (F := fi) (fun S i hi => c4 _ i hi) M 0 (Nat.zero_add _) Q (fun j hj => by omega)
  refine ⟨C2, Q', ?_, d1, b2, q2⟩
  have x1 := a1 (rdH h R (A + 1) (gv, Tq, cl, Q, fi))
  have x2 := fw37 (z := z) (h := rdH h R (A + 1) (gv, Tq, cl, Q, fi)) a2 (lo := 0) (hi := C2.1 1070 1 - 1) (by omega) (by omega) (by omega) (by omega) b1
  have x3 := c3 (rdH h R (A + 1) (gv, Tq, cl, Q, fi))
  have gP : am_fd (clPut (rdH h R (A + 1) (gv, Tq, cl, Q, fi)) C1) 1070 4 1 = some (.int (wI (C2.1 1070 1))) := by rw [← e70]; exact cl_f4_1 (by decide +kernel) (by decide)
  have fP : ∀ S (D : tCl), (clPut (rdH h R (A + 1) S) D).1 1070 = some (.inr (4, clL4 D 1070)) := fun S D => clP4 (by decide +kernel) (by decide)
  simp only [Int.natCast_zero, Int.ofNat_zero] at d2
  simp (disch := omega) only [en92, e92_0, e92_1, e92_4, e92_7, e92_8, e92_11, e92_12, e92_13, e92_16, e92_19, e92_20, e92_21, e92_24, e92_25, e92_26, e92_27, e92_30, e92_31, e92_34, e92_37, e92_38, ↓reduceIte, Bool.false_eq_true, not_false_eq_true, not_true_eq_false, Nat.reduceLeDiff, Nat.reduceAdd, Nat.reduceEqDiff, Int.reduceToNat, Int.toNat_natCast, iB0, iB1, ru_klI, ru_klR, ru_klF, ru_klJ, ru_kl0, ru_cs0, ru_csI, ru_csR, ru_csF, ru_csJ, wI_add, wI_sub, wI_mul, wI_lt, wI_le, wI_inj, ru_fdE, ru_fdN, ru_iaN, ru_baN, ru_laN, ru_qaN, ru_pfN, ru_isN, ru_bsN, ru_jsN, ru_qsN, ru_set2, Nat.add_right_cancel_iff, if_true, if_false, ite_self, Int.reduceEq, and_self, Int.add_neg_cancel_right, Int.add_zero, Int.zero_add, rd_e hR, rd_f0 hR, rd_f3 hR, rd_s6 hR, cl_e1, fP, x1, gP, x2, x3, d2]
theorem f102 (hR : 1315 ≤ R) {q0 : tPh} {gap : Int} (hq : fpI C0 C q) (hpi : piOK (piGet C0 1070) q0 gap) (hE : psE q q0) {W sd X : List Nat} {M : Nat} {e : Nat → Nat} (he : enO (shS q) (kyO (shX q) (shY q)) M e) (hsd : wdK sd) (hX : X = [] ∨ isL (X.getD 0 0) = false) (ht : tkw C n W ([32] ++ (sd ++ X))) {gv Tq cl : Int} {Q : Nat → Int} {fi : Nat → Int64} : ∃ (C' : tCl) (Q' : Nat → Int), ru_ev z 102 [.ref R] (clPut (rdH h R (A + 1) (gv, Tq, cl, Q, fi)) C) = some (.inl none, clPut (rdH h R (A + 1) (gv, M, cl, Q', fi)) C') ∧ (∀ k, k < M → Q' k = (e k : Int)) ∧ tkw C' n sd X ∧ fpI C0 C' q := by
  obtain ⟨s0, p0, -⟩ := ht
  obtain ⟨C1, a1, a2, a3⟩ := av_w (z := z) p0 spK_1 hsd hX
  have q1 := fpI_S hq a3
  obtain ⟨n0, eo, er, o1, o2, o3, o4, -⟩ := fp_pi q1 hpi hE
  obtain ⟨u1, u2⟩ := enO_uni he o3
  have M12 := enO_12 he
  have o1' : C1.1 1070 0 = (M : Int) := by rw [← u1]; exact o1
  obtain ⟨Q', d1, d2⟩ := c102l (z := z) (C := C1) (H := h) (nm := A + 1) hR (T := M) M12 (v := fun i => (e i : Int)) (g := gv) (c := cl) (F := fi) (fun i hi => by
    have o4i := o4 i (by omega)
    rw [u2 i hi] at o4i
    exact o4i) M 0 (Nat.zero_add _) Q (fun j hj => by omega)
  refine ⟨C1, Q', ?_, d1, a2, q1⟩
  have x1 := a1 (rdH h R (A + 1) (gv, Tq, cl, Q, fi))
  have gP : am_fd (clPut (rdH h R (A + 1) (gv, Tq, cl, Q, fi)) C1) 1070 4 0 = some (.int (wI (M : Int))) := by rw [← o1']; exact cl_f4_0 (by decide +kernel) (by decide)
  simp only [Int.natCast_zero, Int.ofNat_zero] at d2
  simp (disch := omega) only [en102, e102_0, e102_1, e102_4, e102_7, e102_8, e102_9, e102_12, e102_15, e102_18, e102_19, ↓reduceIte, Bool.false_eq_true, not_false_eq_true, not_true_eq_false, Nat.reduceLeDiff, Nat.reduceAdd, Nat.reduceEqDiff, Int.reduceToNat, Int.toNat_natCast, iB0, iB1, ru_klI, ru_klR, ru_klF, ru_klJ, ru_kl0, ru_cs0, ru_csI, ru_csR, ru_csF, ru_csJ, wI_add, wI_sub, wI_mul, wI_lt, wI_le, wI_inj, ru_fdE, ru_fdN, ru_iaN, ru_baN, ru_laN, ru_qaN, ru_pfN, ru_isN, ru_bsN, ru_jsN, ru_qsN, ru_set2, Nat.add_right_cancel_iff, if_true, if_false, ite_self, Int.reduceEq, and_self, Int.add_neg_cancel_right, Int.add_zero, Int.zero_add, rd_e hR, rd_f0 hR, rd_f3 hR, rd_s6 hR, cl_e1, x1, gP, d2]
end QUE
