/-! ===== phrases: neighbours; the reference, mute ===== -/
def prR (n : Nat) (C0 : tCl) (M0 : tMd) (rc : Int) : Prop := piOK (piGet C0 1070) (cph C0 1065) (M0.1 24) ∧ lrOK M0 n rc (M0.2 11) (M0.2 12) (M0.2 13) ∧ M0.1 34 = rc ∧ phR (cph C0 1065) ∧ phR (mph M0 n) ∧ pheq (cph C0 1065) (mph M0 n)
def nbV (M0 : tMd) (n : Nat) (r j : Int) : Int := fnF (stP (M0.2 11) (M0.2 12) r j) ((mph M0 n).1 7).toNat 0
theorem piOK_c {p p' : tPi} {q : tPh} {gap : Int} (h : piOK p q gap) (e1 : p'.1 = p.1) (e2 : ∀ c, c < 7 → p'.2 c = p.2 c) : piOK p' q gap := by
  unfold piOK at h ⊢
  rw [e1, e2 0 (by decide), e2 1 (by decide), e2 2 (by decide), e2 3 (by decide), e2 4 (by decide), e2 5 (by decide), e2 6 (by decide)]
  exact h
section ROW
variable {z : Bool} {M M0 : tMd} {C C0 : tCl} {n l s A N R : Nat} {gv rc : Int}
theorem pr_pi (hr : prI n C0 M0 C M gv) (hR : prR n C0 M0 rc) : piOK (piGet C 1070) (cph C0 1065) (M0.1 24) := by
  obtain ⟨a1, -⟩ := hr
  refine piOK_c hR.1 (a1.1 1070 (by decide)) (fun c hc => a1.2.1 _ (by omega) (by omega))
theorem pr_mdQ (hr : prI n C0 M0 C M gv) (hR : prR n C0 M0 rc) : mdQ M rc (M0.2 11) (M0.2 12) (M0.2 13) = M := by
  have a3 := hr.2.2.1
  unfold mdQ
  rw [← a3.2 11 (by decide) (by decide) (by decide), ← a3.2 12 (by decide) (by decide) (by decide), ← a3.2 13 (by decide) (by decide) (by decide), ← hR.2.2.1, ← a3.1 34 (by omega) (by decide), up1_self, upC_self, upC_self, upC_self]
theorem nb_137 (hn : n < 5) (hr : prI n C0 M0 C M gv) (hR : prR n C0 M0 rc) {r j : Int} (gr : -2147483648 ≤ r ∧ r < 2147483648) (gj : -2147483648 ≤ j ∧ j < 2147483648) {h : am_H} : ru_ev z 137 [.ref 1315, .int (wI n), .int (wI r), .int (wI j)] (mdPut h M) = some (.inl (some (.int (wI (nbV M0 n r j)))), mdPut h M) := by
  obtain ⟨a1, a2, a3, a4, a5, a6, a7, a8, a9, b1, b2, b3, b4⟩ := id hr
  have sm := phR_s hR.2.2.2.2.1
  obtain ⟨m, hm⟩ := Int.eq_ofNat_of_zero_le sm.2.2.2.2.2.2.2.1
  have k := p137 (z := z) (h := h) (M := M) (rm := rc) (R := M0.2 11) (L := M0.2 12) (Q := M0.2 13) hn (m := m) ((b2.1 7 (by decide)).trans hm) (by omega) (fun k hk => by have := (lr_rng hR.2.1 k hk).1; omega) (fun k hk => (lr_rng hR.2.1 k hk).2) gr gj
  rw [pr_mdQ hr hR] at k
  unfold nbV
  rw [hm, Int.toNat_natCast]
  exact k
theorem lr_at (hR : prR n C0 M0 rc) {k : Nat} (hk : shS (mph M0 n) k = true) : k < 12 ∧ (0 ≤ M0.2 11 k ∧ M0.2 11 k < rc ∧ rc ≤ 12) ∧ 0 ≤ M0.2 12 k ∧ M0.2 12 k < M0.2 13 (M0.2 11 k).toNat ∧ M0.2 13 (M0.2 11 k).toNat ≤ 12 := by
  obtain ⟨-, ⟨l1, l2, l3⟩, -, -, q2, -⟩ := hR
  have hk12 := (shS_rng q2 hk).2.2.2.1
  have r := rwOK_rng l1 hk12 hk
  have e2 := l2 k hk12
  unfold plF at e2
  rw [if_pos hk] at e2
  have lt := lfN_lt (shS (mph M0 n)) (M0.2 11) (shX (mph M0 n)) hk12 hk
  have e3 := l3 (M0.2 11 k).toNat (by omega)
  rw [Int.toNat_of_nonneg r.1] at e3
  have c12 : rlN (shS (mph M0 n)) (M0.2 11) (M0.2 11 k) ≤ 12 := cnB_le _ _
  exact ⟨hk12, ⟨r.1, r.2.1, r.2.2.2⟩, by omega, by omega, by omega⟩
theorem nb_no (hR : prR n C0 M0 rc) {r j : Int} (hr : 0 ≤ r) (hj : ¬ (0 ≤ j ∧ j < M0.2 13 r.toNat)) : nbV M0 n r j = -1 := by
  have sm := phR_s hR.2.2.2.2.1
  refine fnF_no _ _ (fun k _ hk hst => ?_)
  unfold stP at hst
  obtain ⟨b1, b2, b3⟩ := of_decide_eq_true hst
  by_cases c : shS (mph M0 n) k = true
  · have x := lr_at hR c
    rw [b1, b2] at x
    omega
  · obtain ⟨n', e', -, -, g4, -⟩ := hR.2.1.1
    have := g4 k (by omega) c
    omega
theorem nb_109 (hr : prI n C0 M0 C M gv) (hR : prR n C0 M0 rc) {k : Nat} (hk : shS (mph M0 n) k = true) {st : Int} (hst : -1 ≤ st ∧ st ≤ 1) {h : am_H} : ru_ev z 109 [.ref 1070, .int (wI k), .int (wI st)] (clPut h C) = some (.inl (some (.int (wI (nbV M0 n (M0.2 11 k) (M0.2 12 k + st))))), clPut h C) := by
  have hP : isPi 1070 := Or.inl rfl
  have hp := pr_pi hr hR
  obtain ⟨l1, l2, l3, l4, l5⟩ := pl_link hp hR.2.1 hR.2.2.2.2.2 hR.2.2.2.1 hR.2.2.2.2.1
  obtain ⟨k12, x1, x2, x3, x4⟩ := lr_at hR hk
  have e3 := l2 k k12
  have e4 := l3 k k12
  obtain ⟨r, hrr⟩ := Int.eq_ofNat_of_zero_le x1.1
  obtain ⟨p, hpp⟩ : ∃ p, p = piGet C 1070 := ⟨_, rfl⟩
  rw [← hpp] at hp l1 l2 l3 l4 l5 e3 e4
  have eC : piPut C 1070 p = C := by rw [hpp]; exact piPut_get C 1070
  rw [← eC]
  rw [hrr] at e3 x3 x4 ⊢
  rw [Int.toNat_natCast] at x3 x4
  have k9 := k93 (z := z) (h := h) (C := C) hP (p := p) (r := r) (by omega)
  rw [l4 r (by omega)] at k9
  have d0 : ((r : Int) = -1) = False := eq_false (by omega)
  by_cases c1 : M0.2 12 k + st < 0
  · have d1 : (M0.2 12 k + st < 0) = True := eq_true c1
    rw [nb_no hR (by omega) (by omega)]
    simp (disch := omega) only [en109, e109_0, e109_1, e109_4, e109_5, e109_6, e109_7, e109_8, e109_9, e109_12, e109_13, e109_14, e109_15, e109_18, e109_19, e109_20, e109_21, e109_22, e109_24, e109_26, e109_29, e109_31, e109_32, e109_33, e109_36, e109_39, e109_40, e109_43, e109_44, e109_45, e109_47, e109_50, ↓reduceIte, Bool.false_eq_true, not_false_eq_true, not_true_eq_false, Nat.reduceLeDiff, Nat.reduceAdd, Nat.reduceEqDiff, Int.reduceToNat, Int.toNat_natCast, iB0, iB1, ru_klI, ru_klR, ru_klF, ru_klJ, ru_kl0, ru_cs0, ru_csI, ru_csR, ru_csF, ru_csJ, wI_add, wI_sub, wI_mul, wI_lt, wI_le, wI_inj, ru_fdE, ru_fdN, ru_iaN, ru_baN, ru_laN, ru_qaN, ru_pfN, ru_isN, ru_bsN, ru_jsN, ru_qsN, ru_set2, Nat.add_right_cancel_iff, if_true, if_false, ite_self, Int.reduceEq, and_self, Int.add_neg_cancel_right, Int.add_zero, Int.zero_add, pi_e hP, pi_f0 hP, pi_s0 hP, pi_f1 hP, pi_s1 hP, pi_f2 hP, pi_a0 hP, pi_w0 hP, pi_f3 hP, pi_a1 hP, pi_w1 hP, pi_f4 hP, pi_a2 hP, pi_w2 hP, pi_f5 hP, pi_a3 hP, pi_w3 hP, pi_f6 hP, pi_a4 hP, pi_w4 hP, pi_f7 hP, pi_a5 hP, pi_w5 hP, pi_f8 hP, pi_a6 hP, pi_w6 hP, pi_f9 hP, pi_a7 hP, pi_w7 hP, pi_f10 hP, pi_a8 hP, pi_w8 hP, pi_f11 hP, pi_a9 hP, pi_w9 hP, Int.reduceEq, ru_ctR, ru_ctI, upC_e, upC_n, upC_up, up1_e, up1_n, e3, e4, d0, d1, not_true, not_false_iff, Int.toNat_natCast]
  · have d1 : (M0.2 12 k + st < 0) = False := eq_false c1
    by_cases c2 : M0.2 12 k + st < M0.2 13 r
    · have d2 : (M0.2 12 k + st < M0.2 13 r) = True := eq_true c2
      obtain ⟨j, hj⟩ := Int.eq_ofNat_of_zero_le (show 0 ≤ M0.2 12 k + st by omega)
      obtain ⟨k', w1, w2, w3, w4, w5⟩ := l5 r j (by omega) (by omega)
      have hrs := piOK_rs hp (r := r) (by omega)
      have h6 : 0 ≤ p.2 6 r ∧ p.2 6 r + M0.2 13 r ≤ 12 := by
        have y := l4 r (by omega)
        have z1 := hrs.1
        have z2 := hrs.2.1
        have z3 := hrs.2.2
        omega
      have kk := k94 (z := z) (h := h) (C := C) hP (p := p) (r := r) (j := (j : Int)) (by omega) (by omega) (by omega)
      rw [w4] at kk
      have ev : nbV M0 n ((r : Nat) : Int) (j : Int) = (k' : Int) := w5
      rw [hj, ev]
      rw [hj] at d1 d2
      simp (disch := omega) only [en109, e109_0, e109_1, e109_4, e109_5, e109_6, e109_7, e109_8, e109_9, e109_12, e109_13, e109_14, e109_15, e109_18, e109_19, e109_20, e109_21, e109_22, e109_24, e109_26, e109_29, e109_31, e109_32, e109_33, e109_36, e109_39, e109_40, e109_43, e109_44, e109_45, e109_47, e109_50, ↓reduceIte, Bool.false_eq_true, not_false_eq_true, not_true_eq_false, Nat.reduceLeDiff, Nat.reduceAdd, Nat.reduceEqDiff, Int.reduceToNat, Int.toNat_natCast, iB0, iB1, ru_klI, ru_klR, ru_klF, ru_klJ, ru_kl0, ru_cs0, ru_csI, ru_csR, ru_csF, ru_csJ, wI_add, wI_sub, wI_mul, wI_lt, wI_le, wI_inj, ru_fdE, ru_fdN, ru_iaN, ru_baN, ru_laN, ru_qaN, ru_pfN, ru_isN, ru_bsN, ru_jsN, ru_qsN, ru_set2, Nat.add_right_cancel_iff, if_true, if_false, ite_self, Int.reduceEq, and_self, Int.add_neg_cancel_right, Int.add_zero, Int.zero_add, pi_e hP, pi_f0 hP, pi_s0 hP, pi_f1 hP, pi_s1 hP, pi_f2 hP, pi_a0 hP, pi_w0 hP, pi_f3 hP, pi_a1 hP, pi_w1 hP, pi_f4 hP, pi_a2 hP, pi_w2 hP, pi_f5 hP, pi_a3 hP, pi_w3 hP, pi_f6 hP, pi_a4 hP, pi_w4 hP, pi_f7 hP, pi_a5 hP, pi_w5 hP, pi_f8 hP, pi_a6 hP, pi_w6 hP, pi_f9 hP, pi_a7 hP, pi_w7 hP, pi_f10 hP, pi_a8 hP, pi_w8 hP, pi_f11 hP, pi_a9 hP, pi_w9 hP, Int.reduceEq, ru_ctR, ru_ctI, upC_e, upC_n, upC_up, up1_e, up1_n, e3, e4, hj, d0, d1, d2, k9, kk, not_true, not_false_iff, Int.toNat_natCast]
    · have d2 : (M0.2 12 k + st < M0.2 13 r) = False := eq_false c2
      rw [nb_no hR (by omega) (by rw [Int.toNat_natCast]; omega)]
      simp (disch := omega) only [en109, e109_0, e109_1, e109_4, e109_5, e109_6, e109_7, e109_8, e109_9, e109_12, e109_13, e109_14, e109_15, e109_18, e109_19, e109_20, e109_21, e109_22, e109_24, e109_26, e109_29, e109_31, e109_32, e109_33, e109_36, e109_39, e109_40, e109_43, e109_44, e109_45, e109_47, e109_50, ↓reduceIte, Bool.false_eq_true, not_false_eq_true, not_true_eq_false, Nat.reduceLeDiff, Nat.reduceAdd, Nat.reduceEqDiff, Int.reduceToNat, Int.toNat_natCast, iB0, iB1, ru_klI, ru_klR, ru_klF, ru_klJ, ru_kl0, ru_cs0, ru_csI, ru_csR, ru_csF, ru_csJ, wI_add, wI_sub, wI_mul, wI_lt, wI_le, wI_inj, ru_fdE, ru_fdN, ru_iaN, ru_baN, ru_laN, ru_qaN, ru_pfN, ru_isN, ru_bsN, ru_jsN, ru_qsN, ru_set2, Nat.add_right_cancel_iff, if_true, if_false, ite_self, Int.reduceEq, and_self, Int.add_neg_cancel_right, Int.add_zero, Int.zero_add, pi_e hP, pi_f0 hP, pi_s0 hP, pi_f1 hP, pi_s1 hP, pi_f2 hP, pi_a0 hP, pi_w0 hP, pi_f3 hP, pi_a1 hP, pi_w1 hP, pi_f4 hP, pi_a2 hP, pi_w2 hP, pi_f5 hP, pi_a3 hP, pi_w3 hP, pi_f6 hP, pi_a4 hP, pi_w4 hP, pi_f7 hP, pi_a5 hP, pi_w5 hP, pi_f8 hP, pi_a6 hP, pi_w6 hP, pi_f9 hP, pi_a7 hP, pi_w7 hP, pi_f10 hP, pi_a8 hP, pi_w8 hP, pi_f11 hP, pi_a9 hP, pi_w9 hP, Int.reduceEq, ru_ctR, ru_ctI, upC_e, upC_n, upC_up, up1_e, up1_n, e3, e4, d0, d1, d2, k9, not_true, not_false_iff, Int.toNat_natCast]
theorem u146 {h : am_H} (hm : mutM M) : ru_ev z 146 [.ref 1315] (mdPut h M) = some (.inl (some (.int (wI (-1)))), mdPut h M) := by
  have u0 := u68 (z := z) (h := h) (off := 0) hm
  have u1 := u66 (z := z) (h := h) hm
  have u3 := u69 (z := z) (h := h) hm
  have u4 := u63 (z := z) (h := h) (c := 1) hm
  have u5 := u63 (z := z) (h := h) (c := 6) hm
  have r17 := hm.1
  have d9 : (M.1 17 = 0) = False := eq_false (by omega)
  have d0 : ((0 : Int) = 0) = True := eq_true rfl
  have dm : ((-1 : Int) = -1) = True := eq_true rfl
  simp (disch := omega) only [en146, e146_0, e146_1, e146_2, e146_5, e146_6, e146_9, e146_10, e146_13, e146_14, e146_17, e146_20, e146_21, e146_22, e146_25, e146_26, e146_29, e146_32, e146_33, e146_34, e146_37, e146_38, e146_41, e146_42, e146_45, e146_46, e146_49, e146_52, e146_53, e146_54, e146_55, e146_56, e146_59, e146_60, e146_62, e146_65, e146_66, ↓reduceIte, Bool.false_eq_true, not_false_eq_true, not_true_eq_false, Nat.reduceLeDiff, Nat.reduceAdd, Nat.reduceEqDiff, Int.reduceToNat, Int.toNat_natCast, iB0, iB1, ru_klI, ru_klR, ru_klF, ru_klJ, ru_kl0, ru_cs0, ru_csI, ru_csR, ru_csF, ru_csJ, wI_add, wI_sub, wI_mul, wI_lt, wI_le, wI_inj, ru_fdE, ru_fdN, ru_iaN, ru_baN, ru_laN, ru_qaN, ru_pfN, ru_isN, ru_bsN, ru_jsN, ru_qsN, ru_set2, Nat.add_right_cancel_iff, if_true, if_false, ite_self, Int.reduceEq, and_self, Int.add_neg_cancel_right, Int.add_zero, Int.zero_add, md_e, md_f17, md_f23, u0, u1, u3, u4, u5, d9, d0, dm, not_true, not_false_iff]
theorem u145 {h : am_H} {f k : Int32} (hm : mutM M) : ru_ev z 145 [.ref 1315, .int f, .int k] (mdPut h M) = some (.inl none, mdPut h M) := by
  have u0 := u146 (z := z) (h := h) hm
  have u1 := u66 (z := z) (h := h) hm
  have r17 := hm.1
  have d9 : (M.1 17 = 0) = False := eq_false (by omega)
  simp (disch := omega) only [en145, e145_0, e145_1, e145_4, e145_5, e145_6, e145_9, e145_12, e145_13, e145_14, e145_15, e145_16, e145_19, e145_20, e145_21, e145_24, e145_25, e145_26, e145_29, e145_30, e145_33, ↓reduceIte, Bool.false_eq_true, not_false_eq_true, not_true_eq_false, Nat.reduceLeDiff, Nat.reduceAdd, Nat.reduceEqDiff, Int.reduceToNat, Int.toNat_natCast, iB0, iB1, ru_klI, ru_klR, ru_klF, ru_klJ, ru_kl0, ru_cs0, ru_csI, ru_csR, ru_csF, ru_csJ, wI_add, wI_sub, wI_mul, wI_lt, wI_le, wI_inj, ru_fdE, ru_fdN, ru_iaN, ru_baN, ru_laN, ru_qaN, ru_pfN, ru_isN, ru_bsN, ru_jsN, ru_qsN, ru_set2, Nat.add_right_cancel_iff, if_true, if_false, ite_self, Int.reduceEq, and_self, Int.add_neg_cancel_right, Int.add_zero, Int.zero_add, md_e, md_f17, u0, u1, d9, not_true, not_false_iff]
theorem u148 {h : am_H} {f : Int32} (hm : mutM M) : ru_ev z 148 [.ref 1315, .int f] (mdPut h M) = some (.inl (some (.int (wI (-1)))), mdPut h M) := by
  have u0 := u146 (z := z) (h := h) hm
  have u5 := u63 (z := z) (h := h) (c := 6) hm
  have r17 := hm.1
  have d9 : (M.1 17 = 0) = False := eq_false (by omega)
  have dm : ((-1 : Int) = -1) = True := eq_true rfl
  simp (disch := omega) only [en148, e148_0, e148_1, e148_4, e148_5, e148_6, e148_9, e148_12, e148_13, e148_14, e148_15, e148_18, e148_21, e148_22, e148_23, e148_24, e148_25, e148_28, e148_29, e148_31, e148_34, e148_35, ↓reduceIte, Bool.false_eq_true, not_false_eq_true, not_true_eq_false, Nat.reduceLeDiff, Nat.reduceAdd, Nat.reduceEqDiff, Int.reduceToNat, Int.toNat_natCast, iB0, iB1, ru_klI, ru_klR, ru_klF, ru_klJ, ru_kl0, ru_cs0, ru_csI, ru_csR, ru_csF, ru_csJ, wI_add, wI_sub, wI_mul, wI_lt, wI_le, wI_inj, ru_fdE, ru_fdN, ru_iaN, ru_baN, ru_laN, ru_qaN, ru_pfN, ru_isN, ru_bsN, ru_jsN, ru_qsN, ru_set2, Nat.add_right_cancel_iff, if_true, if_false, ite_self, Int.reduceEq, and_self, Int.add_neg_cancel_right, Int.add_zero, Int.zero_add, md_e, md_f17, u0, u5, d9, dm, not_true, not_false_iff]
theorem u132 {h : am_H} (hm : mutM M) : ru_ev z 132 [.ref 1315] (mdPut h M) = some (.inl (some (.int (wI 0))), mdPut h M) := by
  have u0 := u62 (z := z) (h := h) (S := 366) hm
  have u1 := u62 (z := z) (h := h) (S := 367) hm
  have u4 := u63 (z := z) (h := h) (c := 1) hm
  have d0 : ((0 : Int) = 0) = True := eq_true rfl
  simp (disch := omega) only [en132, e132_0, e132_1, e132_3, e132_6, e132_7, e132_8, e132_11, e132_12, e132_14, e132_17, e132_20, e132_21, e132_22, e132_25, e132_26, ↓reduceIte, Bool.false_eq_true, not_false_eq_true, not_true_eq_false, Nat.reduceLeDiff, Nat.reduceAdd, Nat.reduceEqDiff, Int.reduceToNat, Int.toNat_natCast, iB0, iB1, ru_klI, ru_klR, ru_klF, ru_klJ, ru_kl0, ru_cs0, ru_csI, ru_csR, ru_csF, ru_csJ, wI_add, wI_sub, wI_mul, wI_lt, wI_le, wI_inj, ru_fdE, ru_fdN, ru_iaN, ru_baN, ru_laN, ru_qaN, ru_pfN, ru_isN, ru_bsN, ru_jsN, ru_qsN, ru_set2, Nat.add_right_cancel_iff, if_true, if_false, ite_self, Int.reduceEq, and_self, Int.add_neg_cancel_right, Int.add_zero, Int.zero_add, md_e, u0, u1, u4, d0, not_true, not_false_iff, wI_and1]
theorem u131 {h : am_H} {f r : Int32} (hm : mutM M) : ru_ev z 131 [.ref 1315, .int f, .int r] (mdPut h M) = some (.inl none, mdPut h M) := by
  have u0 := u132 (z := z) (h := h) hm
  have u1 := u66 (z := z) (h := h) hm
  have r17 := hm.1
  have d9 : (M.1 17 = 0) = False := eq_false (by omega)
  have d1 : ((1 : Int) = 0) = False := eq_false (by decide)
  simp (disch := omega) only [en131, e131_0, e131_1, e131_4, e131_5, e131_6, e131_9, e131_10, e131_12, e131_13, e131_15, e131_17, e131_20, e131_21, e131_24, e131_27, e131_28, e131_30, e131_33, e131_36, e131_37, e131_38, e131_39, e131_40, e131_42, e131_45, e131_46, e131_49, e131_50, e131_52, e131_55, e131_56, e131_59, e131_62, e131_65, e131_66, e131_67, e131_68, e131_69, e131_71, e131_74, e131_76, e131_77, e131_80, e131_83, e131_84, e131_87, e131_88, e131_91, e131_92, e131_95, e131_96, e131_98, e131_100, e131_103, e131_104, e131_107, e131_110, ↓reduceIte, Bool.false_eq_true, not_false_eq_true, not_true_eq_false, Nat.reduceLeDiff, Nat.reduceAdd, Nat.reduceEqDiff, Int.reduceToNat, Int.toNat_natCast, iB0, iB1, ru_klI, ru_klR, ru_klF, ru_klJ, ru_kl0, ru_cs0, ru_csI, ru_csR, ru_csF, ru_csJ, wI_add, wI_sub, wI_mul, wI_lt, wI_le, wI_inj, ru_fdE, ru_fdN, ru_iaN, ru_baN, ru_laN, ru_qaN, ru_pfN, ru_isN, ru_bsN, ru_jsN, ru_qsN, ru_set2, Nat.add_right_cancel_iff, if_true, if_false, ite_self, Int.reduceEq, and_self, Int.add_neg_cancel_right, Int.add_zero, Int.zero_add, md_e, md_f17, u0, u1, d9, d1, not_true, not_false_iff]
end ROW
