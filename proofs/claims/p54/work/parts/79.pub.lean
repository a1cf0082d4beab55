/-! ===== the class's calls that arrange a picture: rows, places ===== -/
theorem clR_pi {C : tCl} {P : Nat} {p : tPi} (hP : isPi P) (hR : clR C) : clR (piPut C P p) ∧ alb (piPut C P p) = alb C ∧ cPm (piPut C P p) = cPm C ∧ cNm (piPut C P p) = cNm C ∧ (∀ i, cAp (piPut C P p) i = cAp C i) ∧ (∀ i, i < 5 → cph (piPut C P p) (cAp C i) = cph C (cAp C i)) ∧ (piPut C P p).1 (alb C) 0 = C.1 (alb C) 0 ∧ ∀ f, rcP (piPut C P p) f = rcP C f := by
  obtain ⟨hA, h1, h2, h3, h4⟩ := hR
  obtain ⟨-, -, -, -, -, -, -, a1, a2⟩ := clA_k hA
  have hp : 1070 ≤ P ∧ P ≤ 1081 := by rcases hP with rfl | rfl <;> omega
  have e0 : alb (piPut C P p) = alb C := rfl
  have e1 : cPm (piPut C P p) = cPm C := by unfold cPm; rw [e0, piPut_1 (by omega)]
  have e2 : cNm (piPut C P p) = cNm C := by unfold cNm; rw [e0, piPut_1 (by omega)]
  have e3 : ∀ i, cAp (piPut C P p) i = cAp C i := fun i => rfl
  have e4 : ∀ i, i < 5 → cph (piPut C P p) (cAp C i) = cph C (cAp C i) := fun i hi => piPut_ph (by unfold cAp; omega)
  have e5 : (piPut C P p).1 (alb C) 0 = C.1 (alb C) 0 := by rw [piPut_1 (by omega)]
  refine ⟨⟨hA, by rw [e1]; exact h1, by rw [e2]; exact h2, by rw [e0, e5]; exact h3, fun i hi => by rw [e3, e4 i hi]; exact h4 i hi⟩, e0, e1, e2, e3, e4, e5, fun f => ?_⟩
  unfold rcP; rw [e1]
section PUB
variable {z : Bool} {h : am_H} {C : tCl} {P : Nat}
theorem k93 (hP : isPi P) {p : tPi} {r : Nat} (hr : r < 12) : ru_ev z 93 [.ref P, .int (wI r)] (clPut h (piPut C P p)) = some (.inl (some (.int (wI (p.2 6 (r + 1) - p.2 6 r)))), clPut h (piPut C P p)) := by
  have e1 : ((r : Int) + 1).toNat = r + 1 := by omega
  simp (disch := omega) only [en93, e93_0, e93_1, e93_4, e93_5, e93_6, e93_7, e93_8, e93_9, e93_12, e93_13, e93_14, e93_15, ↓reduceIte, Bool.false_eq_true, not_false_eq_true, not_true_eq_false, Nat.reduceLeDiff, Nat.reduceAdd, Nat.reduceEqDiff, Int.reduceToNat, Int.toNat_natCast, iB0, iB1, ru_klI, ru_klR, ru_klF, ru_klJ, ru_kl0, ru_cs0, ru_csI, ru_csR, ru_csF, ru_csJ, wI_add, wI_sub, wI_mul, wI_lt, wI_le, wI_inj, ru_fdE, ru_fdN, ru_iaN, ru_baN, ru_laN, ru_qaN, ru_pfN, ru_isN, ru_bsN, ru_jsN, ru_qsN, ru_set2, Nat.add_right_cancel_iff, if_true, if_false, ite_self, Int.reduceEq, and_self, Int.add_neg_cancel_right, Int.add_zero, Int.zero_add, pi_e hP, pi_f0 hP, pi_s0 hP, pi_f1 hP, pi_s1 hP, pi_f2 hP, pi_a0 hP, pi_w0 hP, pi_f3 hP, pi_a1 hP, pi_w1 hP, pi_f4 hP, pi_a2 hP, pi_w2 hP, pi_f5 hP, pi_a3 hP, pi_w3 hP, pi_f6 hP, pi_a4 hP, pi_w4 hP, pi_f7 hP, pi_a5 hP, pi_w5 hP, pi_f8 hP, pi_a6 hP, pi_w6 hP, pi_f9 hP, pi_a7 hP, pi_w7 hP, pi_f10 hP, pi_a8 hP, pi_w8 hP, pi_f11 hP, pi_a9 hP, pi_w9 hP, Int.reduceEq, ru_ctR, ru_ctI, upC_e, upC_n, upC_up, up1_e, up1_n, e1]
theorem k94 (hP : isPi P) {p : tPi} {r : Nat} {j : Int} (hr : r < 13) (h1 : 0 ≤ p.2 6 r + j) (h2 : p.2 6 r + j < 12) : ru_ev z 94 [.ref P, .int (wI r), .int (wI j)] (clPut h (piPut C P p)) = some (.inl (some (.int (wI (p.2 5 (p.2 6 r + j).toNat)))), clPut h (piPut C P p)) := by
  simp (disch := omega) only [en94, e94_0, e94_1, e94_4, e94_5, e94_8, e94_9, e94_10, e94_11, e94_12, e94_13, ↓reduceIte, Bool.false_eq_true, not_false_eq_true, not_true_eq_false, Nat.reduceLeDiff, Nat.reduceAdd, Nat.reduceEqDiff, Int.reduceToNat, Int.toNat_natCast, iB0, iB1, ru_klI, ru_klR, ru_klF, ru_klJ, ru_kl0, ru_cs0, ru_csI, ru_csR, ru_csF, ru_csJ, wI_add, wI_sub, wI_mul, wI_lt, wI_le, wI_inj, ru_fdE, ru_fdN, ru_iaN, ru_baN, ru_laN, ru_qaN, ru_pfN, ru_isN, ru_bsN, ru_jsN, ru_qsN, ru_set2, Nat.add_right_cancel_iff, if_true, if_false, ite_self, Int.reduceEq, and_self, Int.add_neg_cancel_right, Int.add_zero, Int.zero_add, pi_e hP, pi_f0 hP, pi_s0 hP, pi_f1 hP, pi_s1 hP, pi_f2 hP, pi_a0 hP, pi_w0 hP, pi_f3 hP, pi_a1 hP, pi_w1 hP, pi_f4 hP, pi_a2 hP, pi_w2 hP, pi_f5 hP, pi_a3 hP, pi_w3 hP, pi_f6 hP, pi_a4 hP, pi_w4 hP, pi_f7 hP, pi_a5 hP, pi_w5 hP, pi_f8 hP, pi_a6 hP, pi_w6 hP, pi_f9 hP, pi_a7 hP, pi_w7 hP, pi_f10 hP, pi_a8 hP, pi_w8 hP, pi_f11 hP, pi_a9 hP, pi_w9 hP, Int.reduceEq, ru_ctR, ru_ctI, upC_e, upC_n, upC_up, up1_e, up1_n]
/-- photo f arranged -/
theorem c187 (hR : clR C) {f : Int} (g : -2147483648 ≤ f ∧ f < 2147483648) (e : rcP C f = 0) : ∃ P p', P = 1070 ∧ piOK p' (cph C (cAp C f.toNat)) (C.1 (alb C) 0) ∧ ru_ev z 187 [.ref 1000, .int (wI f)] (clPut h C) = some (.inl (some (.ref P)), clPut h (piPut C P p')) := by
  obtain ⟨c1, c2, c3⟩ := rcP_0 e
  have r := hR.2.1
  have e1 := d78 (z := z) (h := h) hR g
  rw [oR_0 e] at e1
  obtain ⟨-, -, -, -, -, -, -, a1, a2⟩ := clA_k hR.1
  obtain ⟨p', k1, k2⟩ := k81 (z := z) (h := h) (C := C) (P := 1070) (Or.inl rfl) (cAp_ph hR.1 (i := f.toNat) (by omega)) (by unfold cAp; omega) rfl (hR.2.2.2.2 _ (by omega)) hR.2.2.2.1 (piGet C 1070)
  rw [piPut_get] at k2
  refine ⟨1070, p', rfl, k1, ?_⟩
  have e0 : (clPut h (piPut C 1070 p')).1 1000 = some (.inr (0, clL0 (piPut C 1070 p') 1000)) := cl_e0
  simp (disch := omega) only [en187, e187_0, e187_1, e187_4, e187_5, e187_6, e187_9, e187_10, e187_13, e187_16, e187_19, e187_20, e187_23, ↓reduceIte, Bool.false_eq_true, not_false_eq_true, not_true_eq_false, Nat.reduceLeDiff, Nat.reduceAdd, Nat.reduceEqDiff, Int.reduceToNat, Int.toNat_natCast, iB0, iB1, ru_klI, ru_klR, ru_klF, ru_klJ, ru_kl0, ru_cs0, ru_csI, ru_csR, ru_csF, ru_csJ, wI_add, wI_sub, wI_mul, wI_lt, wI_le, wI_inj, ru_fdE, ru_fdN, ru_iaN, ru_baN, ru_laN, ru_qaN, ru_pfN, ru_isN, ru_bsN, ru_jsN, ru_qsN, ru_set2, Nat.add_right_cancel_iff, if_true, if_false, ite_self, Int.reduceEq, and_self, Int.add_neg_cancel_right, Int.add_zero, Int.zero_add, cl_e0, cl_g0_4, e1, clF hR.1, k2]
theorem c187x (hR : clR C) {f : Int} (g : -2147483648 ≤ f ∧ f < 2147483648) (e : ¬ rcP C f = 0) : ru_ev z 187 [.ref 1000, .int (wI f)] (clPut h C) = some (.inr (rcP C f - 1), clPut (thr h) C) := by
  have e1 := d78 (z := z) (h := h) hR g
  rw [oR_n e] at e1
  simp (disch := omega) only [en187, e187_0, e187_1, e187_4, e187_5, e187_6, e187_9, e187_10, e187_13, e187_16, e187_19, e187_20, e187_23, ↓reduceIte, Bool.false_eq_true, not_false_eq_true, not_true_eq_false, Nat.reduceLeDiff, Nat.reduceAdd, Nat.reduceEqDiff, Int.reduceToNat, Int.toNat_natCast, iB0, iB1, ru_klI, ru_klR, ru_klF, ru_klJ, ru_kl0, ru_cs0, ru_csI, ru_csR, ru_csF, ru_csJ, wI_add, wI_sub, wI_mul, wI_lt, wI_le, wI_inj, ru_fdE, ru_fdN, ru_iaN, ru_baN, ru_laN, ru_qaN, ru_pfN, ru_isN, ru_bsN, ru_jsN, ru_qsN, ru_set2, Nat.add_right_cancel_iff, if_true, if_false, ite_self, Int.reduceEq, and_self, Int.add_neg_cancel_right, Int.add_zero, Int.zero_add, cl_e0, cl_g0_4, e1]
theorem c191 (hR : clR C) {f r : Int} (g : -2147483648 ≤ f ∧ f < 2147483648) (g2 : -2147483648 ≤ r ∧ r < 2147483648) (e : rcP C f = 0) : ∃ P p', P = 1070 ∧ piOK p' (cph C (cAp C f.toNat)) (C.1 (alb C) 0) ∧ (0 ≤ p'.1 1 ∧ p'.1 1 ≤ 12) ∧ ru_ev z 191 [.ref 1000, .int (wI f), .int (wI r)] (clPut h C) = if 0 ≤ r ∧ r < p'.1 1 then some (.inl (some (.ref P)), clPut h (piPut C P p')) else some (.inr 1, clPut (thr h) (piPut C P p')) := by
  obtain ⟨P, p', hP0, hOK, e1⟩ := c187 (z := z) (h := h) hR g e
  have hP : isPi P := Or.inl hP0
  have hrc : 0 ≤ p'.1 1 ∧ p'.1 1 ≤ 12 := by
    obtain ⟨n, eo, er, h0, h1, h2, h3, h4, -⟩ := hOK
    have := rwOK_rc h4
    omega
  refine ⟨P, p', hP0, hOK, hrc, ?_⟩
  by_cases c1 : r < 0
  · rw [if_neg (by omega)]
    have c2 : (r < 0) = True := eq_true c1
    simp (disch := omega) only [en191, e191_0, e191_1, e191_2, e191_5, e191_6, e191_7, e191_10, e191_11, e191_12, e191_15, e191_18, e191_21, e191_22, e191_29, e191_30, ↓reduceIte, Bool.false_eq_true, not_false_eq_true, not_true_eq_false, Nat.reduceLeDiff, Nat.reduceAdd, Nat.reduceEqDiff, Int.reduceToNat, Int.toNat_natCast, iB0, iB1, ru_klI, ru_klR, ru_klF, ru_klJ, ru_kl0, ru_cs0, ru_csI, ru_csR, ru_csF, ru_csJ, wI_add, wI_sub, wI_mul, wI_lt, wI_le, wI_inj, ru_fdE, ru_fdN, ru_iaN, ru_baN, ru_laN, ru_qaN, ru_pfN, ru_isN, ru_bsN, ru_jsN, ru_qsN, ru_set2, Nat.add_right_cancel_iff, if_true, if_false, ite_self, Int.reduceEq, and_self, Int.add_neg_cancel_right, Int.add_zero, Int.zero_add, cl_e0, e1, c2, cl_thr]
  · have c2 : (r < 0) = False := eq_false c1
    by_cases c3 : r < p'.1 1
    · rw [if_pos ⟨by omega, c3⟩]
      have c4 : (r < p'.1 1) = True := eq_true c3
      simp (disch := omega) only [en191, e191_0, e191_1, e191_2, e191_5, e191_6, e191_7, e191_10, e191_11, e191_12, e191_15, e191_18, e191_21, e191_22, e191_29, e191_30, ↓reduceIte, Bool.false_eq_true, not_false_eq_true, not_true_eq_false, Nat.reduceLeDiff, Nat.reduceAdd, Nat.reduceEqDiff, Int.reduceToNat, Int.toNat_natCast, iB0, iB1, ru_klI, ru_klR, ru_klF, ru_klJ, ru_kl0, ru_cs0, ru_csI, ru_csR, ru_csF, ru_csJ, wI_add, wI_sub, wI_mul, wI_lt, wI_le, wI_inj, ru_fdE, ru_fdN, ru_iaN, ru_baN, ru_laN, ru_qaN, ru_pfN, ru_isN, ru_bsN, ru_jsN, ru_qsN, ru_set2, Nat.add_right_cancel_iff, if_true, if_false, ite_self, Int.reduceEq, and_self, Int.add_neg_cancel_right, Int.add_zero, Int.zero_add, pi_e hP, pi_f0 hP, pi_s0 hP, pi_f1 hP, pi_s1 hP, pi_f2 hP, pi_a0 hP, pi_w0 hP, pi_f3 hP, pi_a1 hP, pi_w1 hP, pi_f4 hP, pi_a2 hP, pi_w2 hP, pi_f5 hP, pi_a3 hP, pi_w3 hP, pi_f6 hP, pi_a4 hP, pi_w4 hP, pi_f7 hP, pi_a5 hP, pi_w5 hP, pi_f8 hP, pi_a6 hP, pi_w6 hP, pi_f9 hP, pi_a7 hP, pi_w7 hP, pi_f10 hP, pi_a8 hP, pi_w8 hP, pi_f11 hP, pi_a9 hP, pi_w9 hP, Int.reduceEq, ru_ctR, ru_ctI, upC_e, upC_n, upC_up, up1_e, up1_n, cl_e0, e1, c2, c4]
    · rw [if_neg (by omega)]
      have c4 : (r < p'.1 1) = False := eq_false c3
      simp (disch := omega) only [en191, e191_0, e191_1, e191_2, e191_5, e191_6, e191_7, e191_10, e191_11, e191_12, e191_15, e191_18, e191_21, e191_22, e191_29, e191_30, ↓reduceIte, Bool.false_eq_true, not_false_eq_true, not_true_eq_false, Nat.reduceLeDiff, Nat.reduceAdd, Nat.reduceEqDiff, Int.reduceToNat, Int.toNat_natCast, iB0, iB1, ru_klI, ru_klR, ru_klF, ru_klJ, ru_kl0, ru_cs0, ru_csI, ru_csR, ru_csF, ru_csJ, wI_add, wI_sub, wI_mul, wI_lt, wI_le, wI_inj, ru_fdE, ru_fdN, ru_iaN, ru_baN, ru_laN, ru_qaN, ru_pfN, ru_isN, ru_bsN, ru_jsN, ru_qsN, ru_set2, Nat.add_right_cancel_iff, if_true, if_false, ite_self, Int.reduceEq, and_self, Int.add_neg_cancel_right, Int.add_zero, Int.zero_add, pi_e hP, pi_f0 hP, pi_s0 hP, pi_f1 hP, pi_s1 hP, pi_f2 hP, pi_a0 hP, pi_w0 hP, pi_f3 hP, pi_a1 hP, pi_w1 hP, pi_f4 hP, pi_a2 hP, pi_w2 hP, pi_f5 hP, pi_a3 hP, pi_w3 hP, pi_f6 hP, pi_a4 hP, pi_w4 hP, pi_f7 hP, pi_a5 hP, pi_w5 hP, pi_f8 hP, pi_a6 hP, pi_w6 hP, pi_f9 hP, pi_a7 hP, pi_w7 hP, pi_f10 hP, pi_a8 hP, pi_w8 hP, pi_f11 hP, pi_a9 hP, pi_w9 hP, Int.reduceEq, ru_ctR, ru_ctI, upC_e, upC_n, upC_up, up1_e, up1_n, cl_e0, e1, c2, c4, cl_thr]
theorem c191x (hR : clR C) {f r : Int} (g : -2147483648 ≤ f ∧ f < 2147483648) (e : ¬ rcP C f = 0) : ru_ev z 191 [.ref 1000, .int (wI f), .int (wI r)] (clPut h C) = some (.inr (rcP C f - 1), clPut (thr h) C) := by
  simp (disch := omega) only [en191, e191_0, e191_1, e191_2, e191_5, e191_6, e191_7, e191_10, e191_11, e191_12, e191_15, e191_18, e191_21, e191_22, e191_29, e191_30, ↓reduceIte, Bool.false_eq_true, not_false_eq_true, not_true_eq_false, Nat.reduceLeDiff, Nat.reduceAdd, Nat.reduceEqDiff, Int.reduceToNat, Int.toNat_natCast, iB0, iB1, ru_klI, ru_klR, ru_klF, ru_klJ, ru_kl0, ru_cs0, ru_csI, ru_csR, ru_csF, ru_csJ, wI_add, wI_sub, wI_mul, wI_lt, wI_le, wI_inj, ru_fdE, ru_fdN, ru_iaN, ru_baN, ru_laN, ru_qaN, ru_pfN, ru_isN, ru_bsN, ru_jsN, ru_qsN, ru_set2, Nat.add_right_cancel_iff, if_true, if_false, ite_self, Int.reduceEq, and_self, Int.add_neg_cancel_right, Int.add_zero, Int.zero_add, cl_e0, c187x hR g e]
/-- what a call says that arranges photo f: refused as f is, or T of what lies -/
def rpC (C : tCl) (f : Int) (T : tPi → Nat → Int → Prop) (t : Nat) (v : Int) (C' : tCl) : Prop := (¬ rcP C f = 0 ∧ t = rcP C f ∧ C' = C) ∨ (rcP C f = 0 ∧ ∃ p', C' = piPut C 1070 p' ∧ piOK p' (cph C (cAp C f.toNat)) (C.1 (alb C) 0) ∧ T p' t v)
theorem c186 (hR : clR C) {f : Int} (g : -2147483648 ≤ f ∧ f < 2147483648) : ∃ t v C', ru_ev z 186 [.ref 1000, .int (wI f)] (clPut h C) = oR t (some (.int (wI v))) (clPut h C') (clPut (thr h) C') ∧ rpC C f (fun p t v => t = 0 ∧ v = p.1 1) t v C' := by
  by_cases e : rcP C f = 0
  · obtain ⟨P, p', hP0, hOK, e1⟩ := c187 (z := z) (h := h) hR g e
    have hP : isPi P := Or.inl hP0
    refine ⟨0, p'.1 1, piPut C P p', ?_, Or.inr ⟨e, p', by rw [hP0], hOK, rfl, rfl⟩⟩
    rw [oR_0 rfl]
    simp (disch := omega) only [en186, e186_0, e186_1, e186_2, e186_5, e186_8, ↓reduceIte, Bool.false_eq_true, not_false_eq_true, not_true_eq_false, Nat.reduceLeDiff, Nat.reduceAdd, Nat.reduceEqDiff, Int.reduceToNat, Int.toNat_natCast, iB0, iB1, ru_klI, ru_klR, ru_klF, ru_klJ, ru_kl0, ru_cs0, ru_csI, ru_csR, ru_csF, ru_csJ, wI_add, wI_sub, wI_mul, wI_lt, wI_le, wI_inj, ru_fdE, ru_fdN, ru_iaN, ru_baN, ru_laN, ru_qaN, ru_pfN, ru_isN, ru_bsN, ru_jsN, ru_qsN, ru_set2, Nat.add_right_cancel_iff, if_true, if_false, ite_self, Int.reduceEq, and_self, Int.add_neg_cancel_right, Int.add_zero, Int.zero_add, pi_e hP, pi_f0 hP, pi_s0 hP, pi_f1 hP, pi_s1 hP, pi_f2 hP, pi_a0 hP, pi_w0 hP, pi_f3 hP, pi_a1 hP, pi_w1 hP, pi_f4 hP, pi_a2 hP, pi_w2 hP, pi_f5 hP, pi_a3 hP, pi_w3 hP, pi_f6 hP, pi_a4 hP, pi_w4 hP, pi_f7 hP, pi_a5 hP, pi_w5 hP, pi_f8 hP, pi_a6 hP, pi_w6 hP, pi_f9 hP, pi_a7 hP, pi_w7 hP, pi_f10 hP, pi_a8 hP, pi_w8 hP, pi_f11 hP, pi_a9 hP, pi_w9 hP, Int.reduceEq, ru_ctR, ru_ctI, upC_e, upC_n, upC_up, up1_e, up1_n, cl_e0, e1]
  · refine ⟨rcP C f, 0, C, ?_, Or.inl ⟨e, rfl, rfl⟩⟩
    rw [oR_n e]
    simp (disch := omega) only [en186, e186_0, e186_1, e186_2, e186_5, e186_8, ↓reduceIte, Bool.false_eq_true, not_false_eq_true, not_true_eq_false, Nat.reduceLeDiff, Nat.reduceAdd, Nat.reduceEqDiff, Int.reduceToNat, Int.toNat_natCast, iB0, iB1, ru_klI, ru_klR, ru_klF, ru_klJ, ru_kl0, ru_cs0, ru_csI, ru_csR, ru_csF, ru_csJ, wI_add, wI_sub, wI_mul, wI_lt, wI_le, wI_inj, ru_fdE, ru_fdN, ru_iaN, ru_baN, ru_laN, ru_qaN, ru_pfN, ru_isN, ru_bsN, ru_jsN, ru_qsN, ru_set2, Nat.add_right_cancel_iff, if_true, if_false, ite_self, Int.reduceEq, and_self, Int.add_neg_cancel_right, Int.add_zero, Int.zero_add, cl_e0, c187x hR g e]
theorem c190 (hR : clR C) {f r : Int} (g : -2147483648 ≤ f ∧ f < 2147483648) (g2 : -2147483648 ≤ r ∧ r < 2147483648) : ∃ t v C', ru_ev z 190 [.ref 1000, .int (wI f), .int (wI r)] (clPut h C) = oR t (some (.int (wI v))) (clPut h C') (clPut (thr h) C') ∧ rpC C f (fun p t v => (0 ≤ r ∧ r < p.1 1 ∧ t = 0 ∧ v = p.2 6 (r.toNat + 1) - p.2 6 r.toNat) ∨ (¬ (0 ≤ r ∧ r < p.1 1) ∧ t = 2)) t v C' := by
  by_cases e : rcP C f = 0
  · obtain ⟨P, p', hP0, hOK, hrc, e1⟩ := c191 (z := z) (h := h) hR g g2 e
    have hP : isPi P := Or.inl hP0
    by_cases c : 0 ≤ r ∧ r < p'.1 1
    · refine ⟨0, p'.2 6 (r.toNat + 1) - p'.2 6 r.toNat, piPut C P p', ?_, Or.inr ⟨e, p', by rw [hP0], hOK, Or.inl ⟨c.1, c.2, rfl, rfl⟩⟩⟩
      rw [if_pos c] at e1
      have e2 := k93 (z := z) (h := h) (C := C) hP (p := p') (r := r.toNat) (by omega)
      rw [show ((r.toNat : Nat) : Int) = r by omega] at e2
      rw [oR_0 rfl]
      simp (disch := omega) only [en190, e190_0, e190_1, e190_2, e190_3, e190_6, e190_7, e190_10, ↓reduceIte, Bool.false_eq_true, not_false_eq_true, not_true_eq_false, Nat.reduceLeDiff, Nat.reduceAdd, Nat.reduceEqDiff, Int.reduceToNat, Int.toNat_natCast, iB0, iB1, ru_klI, ru_klR, ru_klF, ru_klJ, ru_kl0, ru_cs0, ru_csI, ru_csR, ru_csF, ru_csJ, wI_add, wI_sub, wI_mul, wI_lt, wI_le, wI_inj, ru_fdE, ru_fdN, ru_iaN, ru_baN, ru_laN, ru_qaN, ru_pfN, ru_isN, ru_bsN, ru_jsN, ru_qsN, ru_set2, Nat.add_right_cancel_iff, if_true, if_false, ite_self, Int.reduceEq, and_self, Int.add_neg_cancel_right, Int.add_zero, Int.zero_add, cl_e0, e1, e2]
    · refine ⟨2, 0, piPut C P p', ?_, Or.inr ⟨e, p', by rw [hP0], hOK, Or.inr ⟨c, rfl⟩⟩⟩
      rw [if_neg c] at e1
      rw [oR_n (by decide)]
      simp (disch := omega) only [en190, e190_0, e190_1, e190_2, e190_3, e190_6, e190_7, e190_10, ↓reduceIte, Bool.false_eq_true, not_false_eq_true, not_true_eq_false, Nat.reduceLeDiff, Nat.reduceAdd, Nat.reduceEqDiff, Int.reduceToNat, Int.toNat_natCast, iB0, iB1, ru_klI, ru_klR, ru_klF, ru_klJ, ru_kl0, ru_cs0, ru_csI, ru_csR, ru_csF, ru_csJ, wI_add, wI_sub, wI_mul, wI_lt, wI_le, wI_inj, ru_fdE, ru_fdN, ru_iaN, ru_baN, ru_laN, ru_qaN, ru_pfN, ru_isN, ru_bsN, ru_jsN, ru_qsN, ru_set2, Nat.add_right_cancel_iff, if_true, if_false, ite_self, Int.reduceEq, and_self, Int.add_neg_cancel_right, Int.add_zero, Int.zero_add, cl_e0, e1]
  · refine ⟨rcP C f, 0, C, ?_, Or.inl ⟨e, rfl, rfl⟩⟩
    rw [oR_n e]
    simp (disch := omega) only [en190, e190_0, e190_1, e190_2, e190_3, e190_6, e190_7, e190_10, ↓reduceIte, Bool.false_eq_true, not_false_eq_true, not_true_eq_false, Nat.reduceLeDiff, Nat.reduceAdd, Nat.reduceEqDiff, Int.reduceToNat, Int.toNat_natCast, iB0, iB1, ru_klI, ru_klR, ru_klF, ru_klJ, ru_kl0, ru_cs0, ru_csI, ru_csR, ru_csF, ru_csJ, wI_add, wI_sub, wI_mul, wI_lt, wI_le, wI_inj, ru_fdE, ru_fdN, ru_iaN, ru_baN, ru_laN, ru_qaN, ru_pfN, ru_isN, ru_bsN, ru_jsN, ru_qsN, ru_set2, Nat.add_right_cancel_iff, if_true, if_false, ite_self, Int.reduceEq, and_self, Int.add_neg_cancel_right, Int.add_zero, Int.zero_add, cl_e0, c191x hR g e]
theorem piOK_rs {p : tPi} {q : tPh} {gap : Int} (hOK : piOK p q gap) {r : Nat} (hr : (r : Int) < p.1 1) : p.2 6 r = (rsN (shS q) (p.2 3) r : Nat) ∧ p.2 6 (r + 1) = (rsN (shS q) (p.2 3) r + rlN (shS q) (p.2 3) r : Nat) ∧ rsN (shS q) (p.2 3) r + rlN (shS q) (p.2 3) r ≤ 12 := by
  obtain ⟨n, eo, er, h0, h1, h2, h3, h4, h5, h6, h7, h8⟩ := hOK
  have e1 := h8 r (by omega)
  have e2 := h8 (r + 1) (by omega)
  have e3 := rsN_succ (shS q) (p.2 3) r
  have e4 := rsN_le (shS q) (p.2 3) ((r : Int) + 1)
  have e5 := cnB_le (shS q) 12
  rw [Int.natCast_add, Int.natCast_one, e3] at e2
  exact ⟨e1, e2, by omega⟩
theorem c195 (hR : clR C) {f r j : Int} (g : -2147483648 ≤ f ∧ f < 2147483648) (g2 : -2147483648 ≤ r ∧ r < 2147483648) (g3 : -2147483648 ≤ j ∧ j < 2147483648) : ∃ t v C', ru_ev z 195 [.ref 1000, .int (wI f), .int (wI r), .int (wI j)] (clPut h C) = oR t (some (.int (wI v))) (clPut h C') (clPut (thr h) C') ∧ rpC C f (fun p t v => (0 ≤ r ∧ r < p.1 1 ∧ 0 ≤ j ∧ j < p.2 6 (r.toNat + 1) - p.2 6 r.toNat ∧ t = 0 ∧ v = p.2 5 (p.2 6 r.toNat + j).toNat) ∨ (¬ (0 ≤ r ∧ r < p.1 1 ∧ 0 ≤ j ∧ j < p.2 6 (r.toNat + 1) - p.2 6 r.toNat) ∧ t = 2)) t v C' := by
  by_cases e : rcP C f = 0
  · obtain ⟨P, p', hP0, hOK, hrc, e1⟩ := c191 (z := z) (h := h) hR g g2 e
    have hP : isPi P := Or.inl hP0
    by_cases c : 0 ≤ r ∧ r < p'.1 1
    · rw [if_pos c] at e1
      obtain ⟨n, rfl⟩ := Int.eq_ofNat_of_zero_le c.1
      have hrs := piOK_rs hOK c.2
      have e2 := k93 (z := z) (h := h) (C := C) hP (p := p') (r := n) (by omega)
      simp only [Int.toNat_natCast]
      by_cases c2 : j < 0
      · refine ⟨2, 0, piPut C P p', ?_, Or.inr ⟨e, p', by rw [hP0], hOK, Or.inr ⟨by omega, rfl⟩⟩⟩
        have c3 : (j < 0) = True := eq_true c2
        rw [oR_n (by decide)]
        simp (disch := omega) only [en195, e195_0, e195_1, e195_2, e195_3, e195_6, e195_8, e195_9, e195_12, e195_13, e195_15, e195_16, e195_19, e195_22, e195_25, e195_26, e195_32, e195_34, e195_35, e195_36, e195_39, ↓reduceIte, Bool.false_eq_true, not_false_eq_true, not_true_eq_false, Nat.reduceLeDiff, Nat.reduceAdd, Nat.reduceEqDiff, Int.reduceToNat, Int.toNat_natCast, iB0, iB1, ru_klI, ru_klR, ru_klF, ru_klJ, ru_kl0, ru_cs0, ru_csI, ru_csR, ru_csF, ru_csJ, wI_add, wI_sub, wI_mul, wI_lt, wI_le, wI_inj, ru_fdE, ru_fdN, ru_iaN, ru_baN, ru_laN, ru_qaN, ru_pfN, ru_isN, ru_bsN, ru_jsN, ru_qsN, ru_set2, Nat.add_right_cancel_iff, if_true, if_false, ite_self, Int.reduceEq, and_self, Int.add_neg_cancel_right, Int.add_zero, Int.zero_add, cl_e0, e1, c3, cl_thr]
      · have c3 : (j < 0) = False := eq_false c2
        by_cases c4 : j < p'.2 6 (n + 1) - p'.2 6 n
        · refine ⟨0, p'.2 5 (p'.2 6 n + j).toNat, piPut C P p', ?_, Or.inr ⟨e, p', by rw [hP0], hOK, Or.inl ⟨c.1, c.2, by omega, c4, rfl, rfl⟩⟩⟩
          have c5 : (j < p'.2 6 (n + 1) - p'.2 6 n) = True := eq_true c4
          have e3 := k94 (z := z) (h := h) (C := C) hP (p := p') (r := n) (j := j) (by omega) (by omega) (by omega)
          rw [oR_0 rfl]
          simp (disch := omega) only [en195, e195_0, e195_1, e195_2, e195_3, e195_6, e195_8, e195_9, e195_12, e195_13, e195_15, e195_16, e195_19, e195_22, e195_25, e195_26, e195_32, e195_34, e195_35, e195_36, e195_39, ↓reduceIte, Bool.false_eq_true, not_false_eq_true, not_true_eq_false, Nat.reduceLeDiff, Nat.reduceAdd, Nat.reduceEqDiff, Int.reduceToNat, Int.toNat_natCast, iB0, iB1, ru_klI, ru_klR, ru_klF, ru_klJ, ru_kl0, ru_cs0, ru_csI, ru_csR, ru_csF, ru_csJ, wI_add, wI_sub, wI_mul, wI_lt, wI_le, wI_inj, ru_fdE, ru_fdN, ru_iaN, ru_baN, ru_laN, ru_qaN, ru_pfN, ru_isN, ru_bsN, ru_jsN, ru_qsN, ru_set2, Nat.add_right_cancel_iff, if_true, if_false, ite_self, Int.reduceEq, and_self, Int.add_neg_cancel_right, Int.add_zero, Int.zero_add, cl_e0, e1, e2, e3, c3, c5]
        · refine ⟨2, 0, piPut C P p', ?_, Or.inr ⟨e, p', by rw [hP0], hOK, Or.inr ⟨by omega, rfl⟩⟩⟩
          have c5 : (j < p'.2 6 (n + 1) - p'.2 6 n) = False := eq_false c4
          rw [oR_n (by decide)]
          simp (disch := omega) only [en195, e195_0, e195_1, e195_2, e195_3, e195_6, e195_8, e195_9, e195_12, e195_13, e195_15, e195_16, e195_19, e195_22, e195_25, e195_26, e195_32, e195_34, e195_35, e195_36, e195_39, ↓reduceIte, Bool.false_eq_true, not_false_eq_true, not_true_eq_false, Nat.reduceLeDiff, Nat.reduceAdd, Nat.reduceEqDiff, Int.reduceToNat, Int.toNat_natCast, iB0, iB1, ru_klI, ru_klR, ru_klF, ru_klJ, ru_kl0, ru_cs0, ru_csI, ru_csR, ru_csF, ru_csJ, wI_add, wI_sub, wI_mul, wI_lt, wI_le, wI_inj, ru_fdE, ru_fdN, ru_iaN, ru_baN, ru_laN, ru_qaN, ru_pfN, ru_isN, ru_bsN, ru_jsN, ru_qsN, ru_set2, Nat.add_right_cancel_iff, if_true, if_false, ite_self, Int.reduceEq, and_self, Int.add_neg_cancel_right, Int.add_zero, Int.zero_add, cl_e0, e1, e2, c3, c5, cl_thr]
    · refine ⟨2, 0, piPut C P p', ?_, Or.inr ⟨e, p', by rw [hP0], hOK, Or.inr ⟨by omega, rfl⟩⟩⟩
      rw [if_neg c] at e1
      rw [oR_n (by decide)]
      simp (disch := omega) only [en195, e195_0, e195_1, e195_2, e195_3, e195_6, e195_8, e195_9, e195_12, e195_13, e195_15, e195_16, e195_19, e195_22, e195_25, e195_26, e195_32, e195_34, e195_35, e195_36, e195_39, ↓reduceIte, Bool.false_eq_true, not_false_eq_true, not_true_eq_false, Nat.reduceLeDiff, Nat.reduceAdd, Nat.reduceEqDiff, Int.reduceToNat, Int.toNat_natCast, iB0, iB1, ru_klI, ru_klR, ru_klF, ru_klJ, ru_kl0, ru_cs0, ru_csI, ru_csR, ru_csF, ru_csJ, wI_add, wI_sub, wI_mul, wI_lt, wI_le, wI_inj, ru_fdE, ru_fdN, ru_iaN, ru_baN, ru_laN, ru_qaN, ru_pfN, ru_isN, ru_bsN, ru_jsN, ru_qsN, ru_set2, Nat.add_right_cancel_iff, if_true, if_false, ite_self, Int.reduceEq, and_self, Int.add_neg_cancel_right, Int.add_zero, Int.zero_add, cl_e0, e1]
  · refine ⟨rcP C f, 0, C, ?_, Or.inl ⟨e, rfl, rfl⟩⟩
    rw [oR_n e]
    simp (disch := omega) only [en195, e195_0, e195_1, e195_2, e195_3, e195_6, e195_8, e195_9, e195_12, e195_13, e195_15, e195_16, e195_19, e195_22, e195_25, e195_26, e195_32, e195_34, e195_35, e195_36, e195_39, ↓reduceIte, Bool.false_eq_true, not_false_eq_true, not_true_eq_false, Nat.reduceLeDiff, Nat.reduceAdd, Nat.reduceEqDiff, Int.reduceToNat, Int.toNat_natCast, iB0, iB1, ru_klI, ru_klR, ru_klF, ru_klJ, ru_kl0, ru_cs0, ru_csI, ru_csR, ru_csF, ru_csJ, wI_add, wI_sub, wI_mul, wI_lt, wI_le, wI_inj, ru_fdE, ru_fdN, ru_iaN, ru_baN, ru_laN, ru_qaN, ru_pfN, ru_isN, ru_bsN, ru_jsN, ru_qsN, ru_set2, Nat.add_right_cancel_iff, if_true, if_false, ite_self, Int.reduceEq, and_self, Int.add_neg_cancel_right, Int.add_zero, Int.zero_add, cl_e0, c191x hR g e]
/-- as rpC, but the person is looked for first -/
def rpK (C : tCl) (f k : Int) (T : tPi → Nat → Int → Prop) (t : Nat) (v : Int) (C' : tCl) : Prop := (¬ rcK C f k = 0 ∧ t = rcK C f k ∧ C' = C) ∨ (rcK C f k = 0 ∧ ∃ p', C' = piPut C 1070 p' ∧ piOK p' (cph C (cAp C f.toNat)) (C.1 (alb C) 0) ∧ T p' t v)
theorem c198 (hR : clR C) {f k : Int} (g : -2147483648 ≤ f ∧ f < 2147483648) (g2 : -2147483648 ≤ k ∧ k < 2147483648) : ∃ t v C', ru_ev z 198 [.ref 1000, .int (wI f), .int (wI k)] (clPut h C) = oR t (some (.int (wI v))) (clPut h C') (clPut (thr h) C') ∧ rpK C f k (fun p t v => t = 0 ∧ v = p.2 3 k.toNat) t v C' := by
  have e1 := d174 (z := z) (h := h) hR g g2
  by_cases e : rcK C f k = 0
  · obtain ⟨k0, k1, k2⟩ := rcK_0 e
    have hq := (dph (h := h) hR k0).2
    have s := phR_s hq
    obtain ⟨P, p', hP0, hOK, e2⟩ := c187 (z := z) (h := h) hR g k0
    have hP : isPi P := Or.inl hP0
    refine ⟨0, p'.2 3 k.toNat, piPut C P p', ?_, Or.inr ⟨e, p', by rw [hP0], hOK, rfl, rfl⟩⟩
    rw [oR_0 e] at e1
    rw [oR_0 rfl]
    simp (disch := omega) only [en198, e198_0, e198_1, e198_2, e198_3, e198_6, e198_7, e198_8, e198_9, e198_12, e198_15, e198_16, e198_17, ↓reduceIte, Bool.false_eq_true, not_false_eq_true, not_true_eq_false, Nat.reduceLeDiff, Nat.reduceAdd, Nat.reduceEqDiff, Int.reduceToNat, Int.toNat_natCast, iB0, iB1, ru_klI, ru_klR, ru_klF, ru_klJ, ru_kl0, ru_cs0, ru_csI, ru_csR, ru_csF, ru_csJ, wI_add, wI_sub, wI_mul, wI_lt, wI_le, wI_inj, ru_fdE, ru_fdN, ru_iaN, ru_baN, ru_laN, ru_qaN, ru_pfN, ru_isN, ru_bsN, ru_jsN, ru_qsN, ru_set2, Nat.add_right_cancel_iff, if_true, if_false, ite_self, Int.reduceEq, and_self, Int.add_neg_cancel_right, Int.add_zero, Int.zero_add, pi_e hP, pi_f0 hP, pi_s0 hP, pi_f1 hP, pi_s1 hP, pi_f2 hP, pi_a0 hP, pi_w0 hP, pi_f3 hP, pi_a1 hP, pi_w1 hP, pi_f4 hP, pi_a2 hP, pi_w2 hP, pi_f5 hP, pi_a3 hP, pi_w3 hP, pi_f6 hP, pi_a4 hP, pi_w4 hP, pi_f7 hP, pi_a5 hP, pi_w5 hP, pi_f8 hP, pi_a6 hP, pi_w6 hP, pi_f9 hP, pi_a7 hP, pi_w7 hP, pi_f10 hP, pi_a8 hP, pi_w8 hP, pi_f11 hP, pi_a9 hP, pi_w9 hP, Int.reduceEq, ru_ctR, ru_ctI, upC_e, upC_n, upC_up, up1_e, up1_n, cl_e0, e1, e2]
  · refine ⟨rcK C f k, 0, C, ?_, Or.inl ⟨e, rfl, rfl⟩⟩
    rw [oR_n e] at e1 ⊢
    simp (disch := omega) only [en198, e198_0, e198_1, e198_2, e198_3, e198_6, e198_7, e198_8, e198_9, e198_12, e198_15, e198_16, e198_17, ↓reduceIte, Bool.false_eq_true, not_false_eq_true, not_true_eq_false, Nat.reduceLeDiff, Nat.reduceAdd, Nat.reduceEqDiff, Int.reduceToNat, Int.toNat_natCast, iB0, iB1, ru_klI, ru_klR, ru_klF, ru_klJ, ru_kl0, ru_cs0, ru_csI, ru_csR, ru_csF, ru_csJ, wI_add, wI_sub, wI_mul, wI_lt, wI_le, wI_inj, ru_fdE, ru_fdN, ru_iaN, ru_baN, ru_laN, ru_qaN, ru_pfN, ru_isN, ru_bsN, ru_jsN, ru_qsN, ru_set2, Nat.add_right_cancel_iff, if_true, if_false, ite_self, Int.reduceEq, and_self, Int.add_neg_cancel_right, Int.add_zero, Int.zero_add, cl_e0, e1]
theorem c201 (hR : clR C) {f k : Int} (g : -2147483648 ≤ f ∧ f < 2147483648) (g2 : -2147483648 ≤ k ∧ k < 2147483648) : ∃ t v C', ru_ev z 201 [.ref 1000, .int (wI f), .int (wI k)] (clPut h C) = oR t (some (.int (wI v))) (clPut h C') (clPut (thr h) C') ∧ rpK C f k (fun p t v => t = 0 ∧ v = p.2 4 k.toNat) t v C' := by
  have e1 := d174 (z := z) (h := h) hR g g2
  by_cases e : rcK C f k = 0
  · obtain ⟨k0, k1, k2⟩ := rcK_0 e
    have hq := (dph (h := h) hR k0).2
    have s := phR_s hq
    obtain ⟨P, p', hP0, hOK, e2⟩ := c187 (z := z) (h := h) hR g k0
    have hP : isPi P := Or.inl hP0
    refine ⟨0, p'.2 4 k.toNat, piPut C P p', ?_, Or.inr ⟨e, p', by rw [hP0], hOK, rfl, rfl⟩⟩
    rw [oR_0 e] at e1
    rw [oR_0 rfl]
    simp (disch := omega) only [en201, e201_0, e201_1, e201_2, e201_3, e201_6, e201_7, e201_8, e201_9, e201_12, e201_15, e201_16, e201_17, ↓reduceIte, Bool.false_eq_true, not_false_eq_true, not_true_eq_false, Nat.reduceLeDiff, Nat.reduceAdd, Nat.reduceEqDiff, Int.reduceToNat, Int.toNat_natCast, iB0, iB1, ru_klI, ru_klR, ru_klF, ru_klJ, ru_kl0, ru_cs0, ru_csI, ru_csR, ru_csF, ru_csJ, wI_add, wI_sub, wI_mul, wI_lt, wI_le, wI_inj, ru_fdE, ru_fdN, ru_iaN, ru_baN, ru_laN, ru_qaN, ru_pfN, ru_isN, ru_bsN, ru_jsN, ru_qsN, ru_set2, Nat.add_right_cancel_iff, if_true, if_false, ite_self, Int.reduceEq, and_self, Int.add_neg_cancel_right, Int.add_zero, Int.zero_add, pi_e hP, pi_f0 hP, pi_s0 hP, pi_f1 hP, pi_s1 hP, pi_f2 hP, pi_a0 hP, pi_w0 hP, pi_f3 hP, pi_a1 hP, pi_w1 hP, pi_f4 hP, pi_a2 hP, pi_w2 hP, pi_f5 hP, pi_a3 hP, pi_w3 hP, pi_f6 hP, pi_a4 hP, pi_w4 hP, pi_f7 hP, pi_a5 hP, pi_w5 hP, pi_f8 hP, pi_a6 hP, pi_w6 hP, pi_f9 hP, pi_a7 hP, pi_w7 hP, pi_f10 hP, pi_a8 hP, pi_w8 hP, pi_f11 hP, pi_a9 hP, pi_w9 hP, Int.reduceEq, ru_ctR, ru_ctI, upC_e, upC_n, upC_up, up1_e, up1_n, cl_e0, e1, e2]
  · refine ⟨rcK C f k, 0, C, ?_, Or.inl ⟨e, rfl, rfl⟩⟩
    rw [oR_n e] at e1 ⊢
    simp (disch := omega) only [en201, e201_0, e201_1, e201_2, e201_3, e201_6, e201_7, e201_8, e201_9, e201_12, e201_15, e201_16, e201_17, ↓reduceIte, Bool.false_eq_true, not_false_eq_true, not_true_eq_false, Nat.reduceLeDiff, Nat.reduceAdd, Nat.reduceEqDiff, Int.reduceToNat, Int.toNat_natCast, iB0, iB1, ru_klI, ru_klR, ru_klF, ru_klJ, ru_kl0, ru_cs0, ru_csI, ru_csR, ru_csF, ru_csJ, wI_add, wI_sub, wI_mul, wI_lt, wI_le, wI_inj, ru_fdE, ru_fdN, ru_iaN, ru_baN, ru_laN, ru_qaN, ru_pfN, ru_isN, ru_bsN, ru_jsN, ru_qsN, ru_set2, Nat.add_right_cancel_iff, if_true, if_false, ite_self, Int.reduceEq, and_self, Int.add_neg_cancel_right, Int.add_zero, Int.zero_add, cl_e0, e1]
theorem piOK_n {p : tPi} {q : tPh} {gap : Int} (hOK : piOK p q gap) : 0 ≤ p.1 0 ∧ p.1 0 ≤ 12 ∧ p.1 0 = (cnB (shS q) 12 : Nat) := by
  obtain ⟨n, eo, er, h0, h1, h2, -⟩ := hOK
  have := enO_12 h2
  have := enO_n h2
  omega
theorem c204 (hR : clR C) {f j : Int} (g : -2147483648 ≤ f ∧ f < 2147483648) (g2 : -2147483648 ≤ j ∧ j < 2147483648) : ∃ t v C', ru_ev z 204 [.ref 1000, .int (wI f), .int (wI j)] (clPut h C) = oR t (some (.int (wI v))) (clPut h C') (clPut (thr h) C') ∧ rpC C f (fun p t v => (0 ≤ j ∧ j < p.1 0 ∧ t = 0 ∧ v = p.2 2 j.toNat) ∨ (¬ (0 ≤ j ∧ j < p.1 0) ∧ t = 2)) t v C' := by
  by_cases e : rcP C f = 0
  · obtain ⟨P, p', hP0, hOK, e1⟩ := c187 (z := z) (h := h) hR g e
    have hP : isPi P := Or.inl hP0
    have hn := piOK_n hOK
    by_cases c2 : j < 0
    · refine ⟨2, 0, piPut C P p', ?_, Or.inr ⟨e, p', by rw [hP0], hOK, Or.inr ⟨by omega, rfl⟩⟩⟩
      have c3 : (j < 0) = True := eq_true c2
      rw [oR_n (by decide)]
      simp (disch := omega) only [en204, e204_0, e204_1, e204_2, e204_5, e204_6, e204_7, e204_10, e204_11, e204_12, e204_15, e204_18, e204_21, e204_22, e204_28, e204_29, e204_32, e204_33, e204_34, ↓reduceIte, Bool.false_eq_true, not_false_eq_true, not_true_eq_false, Nat.reduceLeDiff, Nat.reduceAdd, Nat.reduceEqDiff, Int.reduceToNat, Int.toNat_natCast, iB0, iB1, ru_klI, ru_klR, ru_klF, ru_klJ, ru_kl0, ru_cs0, ru_csI, ru_csR, ru_csF, ru_csJ, wI_add, wI_sub, wI_mul, wI_lt, wI_le, wI_inj, ru_fdE, ru_fdN, ru_iaN, ru_baN, ru_laN, ru_qaN, ru_pfN, ru_isN, ru_bsN, ru_jsN, ru_qsN, ru_set2, Nat.add_right_cancel_iff, if_true, if_false, ite_self, Int.reduceEq, and_self, Int.add_neg_cancel_right, Int.add_zero, Int.zero_add, cl_e0, e1, c3, cl_thr]
    · have c3 : (j < 0) = False := eq_false c2
      by_cases c4 : j < p'.1 0
      · refine ⟨0, p'.2 2 j.toNat, piPut C P p', ?_, Or.inr ⟨e, p', by rw [hP0], hOK, Or.inl ⟨by omega, c4, rfl, rfl⟩⟩⟩
        have c5 : (j < p'.1 0) = True := eq_true c4
        rw [oR_0 rfl]
        simp (disch := omega) only [en204, e204_0, e204_1, e204_2, e204_5, e204_6, e204_7, e204_10, e204_11, e204_12, e204_15, e204_18, e204_21, e204_22, e204_28, e204_29, e204_32, e204_33, e204_34, ↓reduceIte, Bool.false_eq_true, not_false_eq_true, not_true_eq_false, Nat.reduceLeDiff, Nat.reduceAdd, Nat.reduceEqDiff, Int.reduceToNat, Int.toNat_natCast, iB0, iB1, ru_klI, ru_klR, ru_klF, ru_klJ, ru_kl0, ru_cs0, ru_csI, ru_csR, ru_csF, ru_csJ, wI_add, wI_sub, wI_mul, wI_lt, wI_le, wI_inj, ru_fdE, ru_fdN, ru_iaN, ru_baN, ru_laN, ru_qaN, ru_pfN, ru_isN, ru_bsN, ru_jsN, ru_qsN, ru_set2, Nat.add_right_cancel_iff, if_true, if_false, ite_self, Int.reduceEq, and_self, Int.add_neg_cancel_right, Int.add_zero, Int.zero_add, pi_e hP, pi_f0 hP, pi_s0 hP, pi_f1 hP, pi_s1 hP, pi_f2 hP, pi_a0 hP, pi_w0 hP, pi_f3 hP, pi_a1 hP, pi_w1 hP, pi_f4 hP, pi_a2 hP, pi_w2 hP, pi_f5 hP, pi_a3 hP, pi_w3 hP, pi_f6 hP, pi_a4 hP, pi_w4 hP, pi_f7 hP, pi_a5 hP, pi_w5 hP, pi_f8 hP, pi_a6 hP, pi_w6 hP, pi_f9 hP, pi_a7 hP, pi_w7 hP, pi_f10 hP, pi_a8 hP, pi_w8 hP, pi_f11 hP, pi_a9 hP, pi_w9 hP, Int.reduceEq, ru_ctR, ru_ctI, upC_e, upC_n, upC_up, up1_e, up1_n, cl_e0, e1, c3, c5]
      · refine ⟨2, 0, piPut C P p', ?_, Or.inr ⟨e, p', by rw [hP0], hOK, Or.inr ⟨by omega, rfl⟩⟩⟩
        have c5 : (j < p'.1 0) = False := eq_false c4
        rw [oR_n (by decide)]
        simp (disch := omega) only [en204, e204_0, e204_1, e204_2, e204_5, e204_6, e204_7, e204_10, e204_11, e204_12, e204_15, e204_18, e204_21, e204_22, e204_28, e204_29, e204_32, e204_33, e204_34, ↓reduceIte, Bool.false_eq_true, not_false_eq_true, not_true_eq_false, Nat.reduceLeDiff, Nat.reduceAdd, Nat.reduceEqDiff, Int.reduceToNat, Int.toNat_natCast, iB0, iB1, ru_klI, ru_klR, ru_klF, ru_klJ, ru_kl0, ru_cs0, ru_csI, ru_csR, ru_csF, ru_csJ, wI_add, wI_sub, wI_mul, wI_lt, wI_le, wI_inj, ru_fdE, ru_fdN, ru_iaN, ru_baN, ru_laN, ru_qaN, ru_pfN, ru_isN, ru_bsN, ru_jsN, ru_qsN, ru_set2, Nat.add_right_cancel_iff, if_true, if_false, ite_self, Int.reduceEq, and_self, Int.add_neg_cancel_right, Int.add_zero, Int.zero_add, pi_e hP, pi_f0 hP, pi_s0 hP, pi_f1 hP, pi_s1 hP, pi_f2 hP, pi_a0 hP, pi_w0 hP, pi_f3 hP, pi_a1 hP, pi_w1 hP, pi_f4 hP, pi_a2 hP, pi_w2 hP, pi_f5 hP, pi_a3 hP, pi_w3 hP, pi_f6 hP, pi_a4 hP, pi_w4 hP, pi_f7 hP, pi_a5 hP, pi_w5 hP, pi_f8 hP, pi_a6 hP, pi_w6 hP, pi_f9 hP, pi_a7 hP, pi_w7 hP, pi_f10 hP, pi_a8 hP, pi_w8 hP, pi_f11 hP, pi_a9 hP, pi_w9 hP, Int.reduceEq, ru_ctR, ru_ctI, upC_e, upC_n, upC_up, up1_e, up1_n, cl_e0, e1, c3, c5, cl_thr]
  · refine ⟨rcP C f, 0, C, ?_, Or.inl ⟨e, rfl, rfl⟩⟩
    rw [oR_n e]
    simp (disch := omega) only [en204, e204_0, e204_1, e204_2, e204_5, e204_6, e204_7, e204_10, e204_11, e204_12, e204_15, e204_18, e204_21, e204_22, e204_28, e204_29, e204_32, e204_33, e204_34, ↓reduceIte, Bool.false_eq_true, not_false_eq_true, not_true_eq_false, Nat.reduceLeDiff, Nat.reduceAdd, Nat.reduceEqDiff, Int.reduceToNat, Int.toNat_natCast, iB0, iB1, ru_klI, ru_klR, ru_klF, ru_klJ, ru_kl0, ru_cs0, ru_csI, ru_csR, ru_csF, ru_csJ, wI_add, wI_sub, wI_mul, wI_lt, wI_le, wI_inj, ru_fdE, ru_fdN, ru_iaN, ru_baN, ru_laN, ru_qaN, ru_pfN, ru_isN, ru_bsN, ru_jsN, ru_qsN, ru_set2, Nat.add_right_cancel_iff, if_true, if_false, ite_self, Int.reduceEq, and_self, Int.add_neg_cancel_right, Int.add_zero, Int.zero_add, cl_e0, c187x hR g e]
end PUB
