/-! ===== aspect, spacing: class and reference ===== -/
section ASP
variable {z : Bool} {h : am_H} {C : tCl} {M : tMd}
theorem fd_ok {a b : Int} (ha : 0 ≤ a ∧ a ≤ 1000) (hb : 1 ≤ b ∧ b ≤ 1000) : ((fI (flV a b) &&& 0x7fffffff ≤ 0x7f800000) = True) ∧ FP.fdiv (FP.i2f (wI a)) (FP.i2f (wI b)) = fI (flV a b) := by
  obtain ⟨n, rfl⟩ := Int.eq_ofNat_of_zero_le ha.1
  obtain ⟨m, rfl⟩ := Int.eq_ofNat_of_zero_le (show 0 ≤ b by omega)
  rw [fI_V, Int.toNat_natCast, Int.toNat_natCast]
  exact ⟨eq_true (fl_and32 (flQ_n (by omega) (by omega) (by omega))), rfl⟩
theorem c277 (hR : clR C) {f : Int} (g : -2147483648 ≤ f ∧ f < 2147483648) (hw : rcP C f = 0 → (cph C (cAp C f.toNat)).1 2 ≤ (cph C (cAp C f.toNat)).1 4 ∧ (cph C (cAp C f.toNat)).1 3 ≤ (cph C (cAp C f.toNat)).1 5) : ru_ev z 277 [.ref 1000, .int (wI f)] (clPut h C) = oR (rcP C f) (some (.float (fI (flV ((cph C (cAp C f.toNat)).1 4 - (cph C (cAp C f.toNat)).1 2 + 1) ((cph C (cAp C f.toNat)).1 5 - (cph C (cAp C f.toNat)).1 3 + 1))))) (clPut h C) (clPut (thr h) C) := by
  have e1 := d78 (z := z) (h := h) hR g
  by_cases e : rcP C f = 0
  · rw [oR_0 e] at e1 ⊢
    have w := hw e
    obtain ⟨hp, hq⟩ := dph (h := h) hR e
    have s := phR_s hq
    obtain ⟨d1, d2⟩ := fd_ok (a := (cph C (cAp C f.toNat)).1 4 - (cph C (cAp C f.toNat)).1 2 + 1) (b := (cph C (cAp C f.toNat)).1 5 - (cph C (cAp C f.toNat)).1 3 + 1) (by omega) (by omega)
    have m1 := m278 (z := z) hp
    have m2 := m279 (z := z) hp
    simp (disch := omega) only [en277, e277_0, e277_1, e277_2, e277_5, e277_6, e277_7, e277_10, e277_11, e277_12, e277_15, e277_16, e277_17, ↓reduceIte, Bool.false_eq_true, not_false_eq_true, not_true_eq_false, Nat.reduceLeDiff, Nat.reduceAdd, Nat.reduceEqDiff, Int.reduceToNat, Int.toNat_natCast, iB0, iB1, ru_klI, ru_klR, ru_klF, ru_klJ, ru_kl0, ru_cs0, ru_csI, ru_csR, ru_csF, ru_csJ, wI_add, wI_sub, wI_mul, wI_lt, wI_le, wI_inj, ru_fdE, ru_fdN, ru_iaN, ru_baN, ru_laN, ru_qaN, ru_pfN, ru_isN, ru_bsN, ru_jsN, ru_qsN, ru_set2, Nat.add_right_cancel_iff, if_true, if_false, ite_self, Int.reduceEq, and_self, Int.add_neg_cancel_right, Int.add_zero, Int.zero_add, cl_e0, e1, m1, m2, d1, d2]
  · rw [oR_n e] at e1 ⊢
    simp (disch := omega) only [en277, e277_0, e277_1, e277_2, e277_5, e277_6, e277_7, e277_10, e277_11, e277_12, e277_15, e277_16, e277_17, ↓reduceIte, Bool.false_eq_true, not_false_eq_true, not_true_eq_false, Nat.reduceLeDiff, Nat.reduceAdd, Nat.reduceEqDiff, Int.reduceToNat, Int.toNat_natCast, iB0, iB1, ru_klI, ru_klR, ru_klF, ru_klJ, ru_kl0, ru_cs0, ru_csI, ru_csR, ru_csF, ru_csJ, wI_add, wI_sub, wI_mul, wI_lt, wI_le, wI_inj, ru_fdE, ru_fdN, ru_iaN, ru_baN, ru_laN, ru_qaN, ru_pfN, ru_isN, ru_bsN, ru_jsN, ru_qsN, ru_set2, Nat.add_right_cancel_iff, if_true, if_false, ite_self, Int.reduceEq, and_self, Int.add_neg_cancel_right, Int.add_zero, Int.zero_add, cl_e0, e1]
theorem p280 (hM : mdR M) {f : Int} (g : -2147483648 ≤ f ∧ f < 2147483648) (hw : rfP M f = 0 → (mph M f.toNat).1 2 ≤ (mph M f.toNat).1 4 ∧ (mph M f.toNat).1 3 ≤ (mph M f.toNat).1 5) : ru_ev z 280 [.ref 1315, .int (wI f)] (mdPut h M) = some (.inl (some (.float (fI (if rfP M f = 0 then flV ((mph M f.toNat).1 4 - (mph M f.toNat).1 2 + 1) ((mph M f.toNat).1 5 - (mph M f.toNat).1 3 + 1) else 0)))), mdPut h (mdT M (rfP M f))) := by
  have e := p117 (z := z) (h := h) hM g
  by_cases e1 : rfP M f = 0
  · have w := hw e1
    obtain ⟨n, hn, rfl, hq⟩ := mph_at hM e1
    simp only [Int.toNat_natCast] at w ⊢
    have s := phR_s hq
    rw [if_pos e1]
    obtain ⟨d1, d2⟩ := fd_ok (a := (mph M n).1 4 - (mph M n).1 2 + 1) (b := (mph M n).1 5 - (mph M n).1 3 + 1) (by omega) (by omega)
    have m1 := p281 (z := z) (h := h) (M := mdT M (rfP M (n : Nat))) hn hq
    have m2 := p282 (z := z) (h := h) (M := mdT M (rfP M (n : Nat))) hn hq
    rw [show mph (mdT M (rfP M (n : Nat))) n = mph M n from rfl] at m1 m2
    rw [if_pos e1] at e
    simp (disch := omega) only [en280, e280_0, e280_1, e280_2, e280_5, e280_8, e280_9, e280_12, e280_13, e280_14, e280_17, e280_18, e280_19, e280_20, e280_23, e280_24, e280_25, ↓reduceIte, Bool.false_eq_true, not_false_eq_true, not_true_eq_false, Nat.reduceLeDiff, Nat.reduceAdd, Nat.reduceEqDiff, Int.reduceToNat, Int.toNat_natCast, iB0, iB1, ru_klI, ru_klR, ru_klF, ru_klJ, ru_kl0, ru_cs0, ru_csI, ru_csR, ru_csF, ru_csJ, wI_add, wI_sub, wI_mul, wI_lt, wI_le, wI_inj, ru_fdE, ru_fdN, ru_iaN, ru_baN, ru_laN, ru_qaN, ru_pfN, ru_isN, ru_bsN, ru_jsN, ru_qsN, ru_set2, Nat.add_right_cancel_iff, if_true, if_false, ite_self, Int.reduceEq, and_self, Int.add_neg_cancel_right, Int.add_zero, Int.zero_add, md_e, e, m1, m2, d1, d2]
  · rw [if_neg e1] at e ⊢
    simp (disch := omega) only [en280, e280_0, e280_1, e280_2, e280_5, e280_8, e280_9, e280_12, e280_13, e280_14, e280_17, e280_18, e280_19, e280_20, e280_23, e280_24, e280_25, ↓reduceIte, Bool.false_eq_true, not_false_eq_true, not_true_eq_false, Nat.reduceLeDiff, Nat.reduceAdd, Nat.reduceEqDiff, Int.reduceToNat, Int.toNat_natCast, iB0, iB1, ru_klI, ru_klR, ru_klF, ru_klJ, ru_kl0, ru_cs0, ru_csI, ru_csR, ru_csF, ru_csJ, wI_add, wI_sub, wI_mul, wI_lt, wI_le, wI_inj, ru_fdE, ru_fdN, ru_iaN, ru_baN, ru_laN, ru_qaN, ru_pfN, ru_isN, ru_bsN, ru_jsN, ru_qsN, ru_set2, Nat.add_right_cancel_iff, if_true, if_false, ite_self, Int.reduceEq, and_self, Int.add_neg_cancel_right, Int.add_zero, Int.zero_add, md_e, e, fI_0]
/-- a row's mean distance, class -/
def spV (p : tPi) (r : Nat) : Int := if p.2 6 (r + 1) - p.2 6 r - 1 < 1 then 0 else flV (p.2 0 (p.2 5 (p.2 6 r + (p.2 6 (r + 1) - p.2 6 r - 1)).toNat).toNat - p.2 0 (p.2 5 (p.2 6 r + 0).toNat).toNat) (p.2 6 (r + 1) - p.2 6 r - 1)
/-- a place's person stands where the class says, and no further left than the first of the row -/
theorem pi_x0 {p : tPi} {q : tPh} {gap : Int} (hp : piOK p q gap) (hq : phR q) {r j : Nat} (hr : (r : Int) < p.1 1) (hj : (j : Int) < p.2 6 (r + 1) - p.2 6 r) : (0 ≤ p.2 6 r + (j : Int) ∧ p.2 6 r + (j : Int) < 12) ∧ ∃ a b : Nat, p.2 5 (p.2 6 r + 0).toNat = (a : Int) ∧ p.2 5 (p.2 6 r + (j : Int)).toNat = (b : Int) ∧ a < 12 ∧ b < 12 ∧ shS q a = true ∧ shS q b = true ∧ p.2 0 a = shX q a ∧ p.2 0 b = shX q b ∧ 0 ≤ shX q a ∧ shX q a ≤ shX q b ∧ shX q b ≤ 999 := by
  have k1 := piOK_rs hp hr
  obtain ⟨n, eo, er, h0, hx, w1, w2, h4, h5, h6, h7, h8⟩ := hp
  have hxr : ∀ k, k < 12 → shS q k = true → 0 ≤ shX q k ∧ shX q k ≤ 999 := fun k _ hs => (shS_rng hq hs).1
  obtain ⟨a1, a2, a3⟩ := er_at h6 hxr (r := (r : Int)) (j := j) (by omega)
  obtain ⟨b1, b2, b3⟩ := er_at h6 hxr (r := (r : Int)) (j := 0) (by omega)
  have a4 := h6.1 _ a1
  have b4 := h6.1 _ b1
  have a5 := hxr _ a4.1 a4.2
  have b5 := hxr _ b4.1 b4.2
  refine ⟨by omega, er (rsN (shS q) (p.2 3) r + 0), er (rsN (shS q) (p.2 3) r + j), ?_, ?_, b4.1, a4.1, b4.2, a4.2, (hx _ b4.1 b4.2).1, (hx _ a4.1 a4.2).1, b5.1, ?_, a5.2⟩
  · rw [k1.1, show (((rsN (shS q) (p.2 3) r : Nat) : Int) + 0).toNat = rsN (shS q) (p.2 3) r + 0 by omega]
    exact h7 _ b1
  · rw [k1.1, show (((rsN (shS q) (p.2 3) r : Nat) : Int) + (j : Int)).toNat = rsN (shS q) (p.2 3) r + j by omega]
    exact h7 _ a1
  · by_cases c : shX q (er (rsN (shS q) (p.2 3) r + j)) < shX q (er (rsN (shS q) (p.2 3) r + 0))
    · exfalso
      unfold lfN at b3
      have := cnB_pos (P := fun o => shS q o && (decide (p.2 3 o = p.2 3 (er (rsN (shS q) (p.2 3) r + 0))) && lfB (shX q) o (er (rsN (shS q) (p.2 3) r + 0)))) (k := er (rsN (shS q) (p.2 3) r + j)) 12 a4.1 (by
        rw [a4.2, a2, b2]
        unfold lfB
        rw [if_neg (by omega), decide_eq_true c]
        simp)
      omega
    · omega
theorem c274 (hR : clR C) {f r : Int} (g : -2147483648 ≤ f ∧ f < 2147483648) (g2 : -2147483648 ≤ r ∧ r < 2147483648) : ∃ t v C', ru_ev z 274 [.ref 1000, .int (wI f), .int (wI r)] (clPut h C) = oR t (some (.float (fI v))) (clPut h C') (clPut (thr h) C') ∧ rpC C f (fun p t v => (0 ≤ r ∧ r < p.1 1 ∧ t = 0 ∧ v = spV p r.toNat) ∨ (¬ (0 ≤ r ∧ r < p.1 1) ∧ t = 2)) t v C' := by
  by_cases e : rcP C f = 0
  · obtain ⟨P, p', hP0, hOK, hrc, e1⟩ := c191 (z := z) (h := h) hR g g2 e
    have hP : isPi P := Or.inl hP0
    by_cases c : 0 ≤ r ∧ r < p'.1 1
    · refine ⟨0, spV p' r.toNat, piPut C P p', ?_, Or.inr ⟨e, p', by rw [hP0], hOK, Or.inl ⟨c.1, c.2, rfl, rfl⟩⟩⟩
      rw [if_pos c] at e1
      have hq := (dph (h := h) hR e).2
      obtain ⟨m, rfl⟩ := Int.eq_ofNat_of_zero_le c.1
      simp only [Int.toNat_natCast]
      have e2 := k93 (z := z) (h := h) (C := C) hP (p := p') (r := m) (by omega)
      have ln := pi_len hOK (r := m) (by omega)
      rw [oR_0 rfl]
      unfold spV
      by_cases c2 : p'.2 6 (m + 1) - p'.2 6 m - 1 < 1
      · rw [if_pos c2]
        have d1 : (1 ≤ p'.2 6 (m + 1) - p'.2 6 m - 1) = False := eq_false (by omega)
        simp (disch := omega) only [en274, e274_0, e274_1, e274_2, e274_3, e274_6, e274_7, e274_8, e274_9, e274_12, e274_13, e274_14, e274_16, e274_18, e274_19, e274_22, e274_23, e274_24, e274_25, e274_28, e274_29, e274_30, e274_31, e274_34, e274_35, e274_37, e274_38, e274_41, e274_42, e274_43, e274_45, e274_48, e274_49, e274_51, e274_53, e274_55, e274_56, e274_57, e274_59, e274_60, e274_61, ↓reduceIte, Bool.false_eq_true, not_false_eq_true, not_true_eq_false, Nat.reduceLeDiff, Nat.reduceAdd, Nat.reduceEqDiff, Int.reduceToNat, Int.toNat_natCast, iB0, iB1, ru_klI, ru_klR, ru_klF, ru_klJ, ru_kl0, ru_cs0, ru_csI, ru_csR, ru_csF, ru_csJ, wI_add, wI_sub, wI_mul, wI_lt, wI_le, wI_inj, ru_fdE, ru_fdN, ru_iaN, ru_baN, ru_laN, ru_qaN, ru_pfN, ru_isN, ru_bsN, ru_jsN, ru_qsN, ru_set2, Nat.add_right_cancel_iff, if_true, if_false, ite_self, Int.reduceEq, and_self, Int.add_neg_cancel_right, Int.add_zero, Int.zero_add, cl_e0, e1, e2, d1, fI_0]
      · rw [if_neg c2]
        have d1 : (1 ≤ p'.2 6 (m + 1) - p'.2 6 m - 1) = True := eq_true (by omega)
        obtain ⟨j, hj⟩ := Int.eq_ofNat_of_zero_le (show 0 ≤ p'.2 6 (m + 1) - p'.2 6 m - 1 by omega)
        obtain ⟨x0, a, b, x1, x2, x3, x4, x5, x6, x7, x8, x9, x10, x11⟩ := pi_x0 hOK hq (r := m) (j := j) (by omega) (by omega)
        have y0 := pi_x0 hOK hq (r := m) (j := 0) (by omega) (by omega)
        have z1 := k94 (z := z) (h := h) (C := C) hP (p := p') (r := m) (j := 0) (by omega) (by omega) (by omega)
        have z2 := k94 (z := z) (h := h) (C := C) hP (p := p') (r := m) (j := (j : Int)) (by omega) (by omega) (by omega)
        rw [hj, x1, x2]
        rw [x1] at z1
        rw [x2] at z2
        rw [hj] at d1
        simp only [Int.toNat_natCast]
        rw [x7, x8]
        have w1 := pi_a0 (h := h) (C := C) hP (p := p') (i := (a : Int)) (by omega) (by omega)
        have w2 := pi_a0 (h := h) (C := C) hP (p := p') (i := (b : Int)) (by omega) (by omega)
        rw [Int.toNat_natCast, x7] at w1
        rw [Int.toNat_natCast, x8] at w2
        obtain ⟨d2, d3⟩ := fd_ok (a := shX (cph C (cAp C f.toNat)) b - shX (cph C (cAp C f.toNat)) a) (b := (j : Int)) (by omega) (by omega)
        have f2 := pi_f2 (h := h) (C := C) (P := P) hP (p := p')
        simp (disch := omega) only [en274, e274_0, e274_1, e274_2, e274_3, e274_6, e274_7, e274_8, e274_9, e274_12, e274_13, e274_14, e274_16, e274_18, e274_19, e274_22, e274_23, e274_24, e274_25, e274_28, e274_29, e274_30, e274_31, e274_34, e274_35, e274_37, e274_38, e274_41, e274_42, e274_43, e274_45, e274_48, e274_49, e274_51, e274_53, e274_55, e274_56, e274_57, e274_59, e274_60, e274_61, ↓reduceIte, Bool.false_eq_true, not_false_eq_true, not_true_eq_false, Nat.reduceLeDiff, Nat.reduceAdd, Nat.reduceEqDiff, Int.reduceToNat, Int.toNat_natCast, iB0, iB1, ru_klI, ru_klR, ru_klF, ru_klJ, ru_kl0, ru_cs0, ru_csI, ru_csR, ru_csF, ru_csJ, wI_add, wI_sub, wI_mul, wI_lt, wI_le, wI_inj, ru_fdE, ru_fdN, ru_iaN, ru_baN, ru_laN, ru_qaN, ru_pfN, ru_isN, ru_bsN, ru_jsN, ru_qsN, ru_set2, Nat.add_right_cancel_iff, if_true, if_false, ite_self, Int.reduceEq, and_self, Int.add_neg_cancel_right, Int.add_zero, Int.zero_add, cl_e0, e1, e2, hj, d1, z1, z2, w1, w2, f2, d2, d3]
    · refine ⟨2, 0, piPut C P p', ?_, Or.inr ⟨e, p', by rw [hP0], hOK, Or.inr ⟨c, rfl⟩⟩⟩
      rw [if_neg c] at e1
      rw [oR_n (by decide)]
      simp (disch := omega) only [en274, e274_0, e274_1, e274_2, e274_3, e274_6, e274_7, e274_8, e274_9, e274_12, e274_13, e274_14, e274_16, e274_18, e274_19, e274_22, e274_23, e274_24, e274_25, e274_28, e274_29, e274_30, e274_31, e274_34, e274_35, e274_37, e274_38, e274_41, e274_42, e274_43, e274_45, e274_48, e274_49, e274_51, e274_53, e274_55, e274_56, e274_57, e274_59, e274_60, e274_61, ↓reduceIte, Bool.false_eq_true, not_false_eq_true, not_true_eq_false, Nat.reduceLeDiff, Nat.reduceAdd, Nat.reduceEqDiff, Int.reduceToNat, Int.toNat_natCast, iB0, iB1, ru_klI, ru_klR, ru_klF, ru_klJ, ru_kl0, ru_cs0, ru_csI, ru_csR, ru_csF, ru_csJ, wI_add, wI_sub, wI_mul, wI_lt, wI_le, wI_inj, ru_fdE, ru_fdN, ru_iaN, ru_baN, ru_laN, ru_qaN, ru_pfN, ru_isN, ru_bsN, ru_jsN, ru_qsN, ru_set2, Nat.add_right_cancel_iff, if_true, if_false, ite_self, Int.reduceEq, and_self, Int.add_neg_cancel_right, Int.add_zero, Int.zero_add, cl_e0, e1]
  · refine ⟨rcP C f, 0, C, ?_, Or.inl ⟨e, rfl, rfl⟩⟩
    rw [oR_n e]
    simp (disch := omega) only [en274, e274_0, e274_1, e274_2, e274_3, e274_6, e274_7, e274_8, e274_9, e274_12, e274_13, e274_14, e274_16, e274_18, e274_19, e274_22, e274_23, e274_24, e274_25, e274_28, e274_29, e274_30, e274_31, e274_34, e274_35, e274_37, e274_38, e274_41, e274_42, e274_43, e274_45, e274_48, e274_49, e274_51, e274_53, e274_55, e274_56, e274_57, e274_59, e274_60, e274_61, ↓reduceIte, Bool.false_eq_true, not_false_eq_true, not_true_eq_false, Nat.reduceLeDiff, Nat.reduceAdd, Nat.reduceEqDiff, Int.reduceToNat, Int.toNat_natCast, iB0, iB1, ru_klI, ru_klR, ru_klF, ru_klJ, ru_kl0, ru_cs0, ru_csI, ru_csR, ru_csF, ru_csJ, wI_add, wI_sub, wI_mul, wI_lt, wI_le, wI_inj, ru_fdE, ru_fdN, ru_iaN, ru_baN, ru_laN, ru_qaN, ru_pfN, ru_isN, ru_bsN, ru_jsN, ru_qsN, ru_set2, Nat.add_right_cancel_iff, if_true, if_false, ite_self, Int.reduceEq, and_self, Int.add_neg_cancel_right, Int.add_zero, Int.zero_add, cl_e0, c191x hR g e]
/-- a row's mean distance, reference -/
def spW (M : tMd) (f : Nat) (R L Q : Nat → Int) (r : Nat) : Int := if Q r = 1 then 0 else flV (shX (mph M f) (fnF (stP R L (r : Int) (Q r - 1)) ((mph M f).1 7).toNat 0).toNat - shX (mph M f) (fnF (stP R L (r : Int) 0) ((mph M f).1 7).toNat 0).toNat) (Q r - 1)
theorem p275 (hM : mdR M) {f r : Int} (g : -2147483648 ≤ f ∧ f < 2147483648) (g2 : -2147483648 ≤ r ∧ r < 2147483648) (hK : rfP M f = 0 → ∀ rc R L Q, lrOK M f.toNat rc R L Q → ∀ r : Nat, (r : Int) < rc → ∃ a b : Nat, a < 12 ∧ b < 12 ∧ fnF (stP R L (r : Int) 0) ((mph M f.toNat).1 7).toNat 0 = (a : Int) ∧ fnF (stP R L (r : Int) (Q r - 1)) ((mph M f.toNat).1 7).toNat 0 = (b : Int) ∧ (1 ≤ Q r ∧ Q r ≤ 12) ∧ (0 ≤ shX (mph M f.toNat) b - shX (mph M f.toNat) a ∧ shX (mph M f.toNat) b - shX (mph M f.toNat) a ≤ 999)) :
    ∃ b M', ru_ev z 275 [.ref 1315, .int (wI f), .int (wI r)] (mdPut h M) = some (.inl (some (.float (fI b))), mdPut h M') ∧ rpM M f (fun rc R L Q t b => (0 ≤ r ∧ r < rc ∧ t = 0 ∧ b = spW M f.toNat R L Q r.toNat) ∨ (¬ (0 ≤ r ∧ r < rc) ∧ t = 2)) b M' := by
  by_cases e1 : rfP M f = 0
  · obtain ⟨rc, R, L, Q, q1, q2, q3⟩ := p193 (z := z) (h := h) hM g g2 e1
    by_cases c : 0 ≤ r ∧ r ≤ rc - 1
    · rw [if_pos c, if_pos c] at q3
      obtain ⟨m, rfl⟩ := Int.eq_ofNat_of_zero_le c.1
      obtain ⟨a, b, k1, k2, k3, k4, k5, k6⟩ := hK e1 rc R L Q q1 m (by omega)
      obtain ⟨n, hn, rfl, hq⟩ := mph_at hM e1
      simp only [Int.toNat_natCast] at k3 k4 k6 q1 ⊢
      refine ⟨spW M n R L Q m, mdT (mdQ M rc R L Q) 0, ?_, Or.inr ⟨e1, rc, R, L, Q, 0, rfl, by rw [Int.toNat_natCast]; exact q1, Or.inl ⟨c.1, by omega, rfl, rfl⟩⟩⟩
      have s := phR_s hq
      obtain ⟨mm, hmm⟩ := Int.eq_ofNat_of_zero_le s.2.2.2.2.2.2.2.1
      obtain ⟨r1, r2⟩ := lr_rng9 q1
      have ea : am_ia (mdPut h (mdT (mdQ M rc R L Q) 0)) 1329 (wI (m : Nat)) = some (wI (Q m)) := by
        have := md_a13 (h := h) (M := mdT (mdQ M rc R L Q) 0) (i := (m : Int)) (by omega) (by omega)
        rw [this, Int.toNat_natCast]; rfl
      unfold spW
      rw [k3, k4, Int.toNat_natCast, Int.toNat_natCast]
      by_cases c2 : Q m = 1
      · rw [if_pos c2]
        have d1 : (Q m = 1) = True := eq_true c2
        simp (disch := omega) only [en275, e275_0, e275_1, e275_2, e275_3, e275_6, e275_9, e275_10, e275_13, e275_14, e275_15, e275_16, e275_19, e275_20, e275_21, e275_22, e275_23, e275_24, e275_25, e275_26, e275_27, e275_30, e275_31, e275_32, e275_33, e275_34, e275_37, e275_40, e275_41, e275_42, e275_43, e275_44, e275_45, e275_46, e275_49, e275_52, e275_53, e275_54, e275_55, e275_56, e275_57, e275_60, e275_61, e275_62, e275_63, e275_64, e275_65, e275_66, ↓reduceIte, Bool.false_eq_true, not_false_eq_true, not_true_eq_false, Nat.reduceLeDiff, Nat.reduceAdd, Nat.reduceEqDiff, Int.reduceToNat, Int.toNat_natCast, iB0, iB1, ru_klI, ru_klR, ru_klF, ru_klJ, ru_kl0, ru_cs0, ru_csI, ru_csR, ru_csF, ru_csJ, wI_add, wI_sub, wI_mul, wI_lt, wI_le, wI_inj, ru_fdE, ru_fdN, ru_iaN, ru_baN, ru_laN, ru_qaN, ru_pfN, ru_isN, ru_bsN, ru_jsN, ru_qsN, ru_set2, Nat.add_right_cancel_iff, if_true, if_false, ite_self, Int.reduceEq, and_self, Int.add_neg_cancel_right, Int.add_zero, Int.zero_add, md_e, q3, md_f33, ea, d1, fI_0, not_true]
      · rw [if_neg c2]
        have d1 : (Q m = 1) = False := eq_false c2
        have x1 := p137 (z := z) (h := h) (M := mdT M 0) (rm := rc) (R := R) (L := L) (Q := Q) hn (m := mm) (by exact hmm) (by omega) r1 r2 (r := (m : Int)) (j := Q m - 1) (by omega) (by omega)
        have x2 := p137 (z := z) (h := h) (M := mdT M 0) (rm := rc) (R := R) (L := L) (Q := Q) hn (m := mm) (by exact hmm) (by omega) r1 r2 (r := (m : Int)) (j := 0) (by omega) (by omega)
        rw [hmm, Int.toNat_natCast] at k3 k4
        rw [k4, mdQ_T] at x1
        rw [k3, mdQ_T] at x2
        have y1 := p129 (z := z) (h := h) (M := mdT (mdQ M rc R L Q) 0) (k := b) hn k2 hq
        have y2 := p129 (z := z) (h := h) (M := mdT (mdQ M rc R L Q) 0) (k := a) hn k1 hq
        rw [show mph (mdT (mdQ M rc R L Q) 0) n = mph M n from rfl] at y1 y2
        obtain ⟨d2, d3⟩ := fd_ok (a := shX (mph M n) b - shX (mph M n) a) (b := Q m - 1) (by omega) (by omega)
        simp (disch := omega) only [en275, e275_0, e275_1, e275_2, e275_3, e275_6, e275_9, e275_10, e275_13, e275_14, e275_15, e275_16, e275_19, e275_20, e275_21, e275_22, e275_23, e275_24, e275_25, e275_26, e275_27, e275_30, e275_31, e275_32, e275_33, e275_34, e275_37, e275_40, e275_41, e275_42, e275_43, e275_44, e275_45, e275_46, e275_49, e275_52, e275_53, e275_54, e275_55, e275_56, e275_57, e275_60, e275_61, e275_62, e275_63, e275_64, e275_65, e275_66, ↓reduceIte, Bool.false_eq_true, not_false_eq_true, not_true_eq_false, Nat.reduceLeDiff, Nat.reduceAdd, Nat.reduceEqDiff, Int.reduceToNat, Int.toNat_natCast, iB0, iB1, ru_klI, ru_klR, ru_klF, ru_klJ, ru_kl0, ru_cs0, ru_csI, ru_csR, ru_csF, ru_csJ, wI_add, wI_sub, wI_mul, wI_lt, wI_le, wI_inj, ru_fdE, ru_fdN, ru_iaN, ru_baN, ru_laN, ru_qaN, ru_pfN, ru_isN, ru_bsN, ru_jsN, ru_qsN, ru_set2, Nat.add_right_cancel_iff, if_true, if_false, ite_self, Int.reduceEq, and_self, Int.add_neg_cancel_right, Int.add_zero, Int.zero_add, md_e, q3, md_f33, ea, d1, x1, x2, y1, y2, d2, d3, not_false_iff]
    · rw [if_neg c, if_neg c] at q3
      refine ⟨0, mdT (mdQ M rc R L Q) 2, ?_, Or.inr ⟨e1, rc, R, L, Q, 2, rfl, q1, Or.inr ⟨by omega, rfl⟩⟩⟩
      simp (disch := omega) only [en275, e275_0, e275_1, e275_2, e275_3, e275_6, e275_9, e275_10, e275_13, e275_14, e275_15, e275_16, e275_19, e275_20, e275_21, e275_22, e275_23, e275_24, e275_25, e275_26, e275_27, e275_30, e275_31, e275_32, e275_33, e275_34, e275_37, e275_40, e275_41, e275_42, e275_43, e275_44, e275_45, e275_46, e275_49, e275_52, e275_53, e275_54, e275_55, e275_56, e275_57, e275_60, e275_61, e275_62, e275_63, e275_64, e275_65, e275_66, ↓reduceIte, Bool.false_eq_true, not_false_eq_true, not_true_eq_false, Nat.reduceLeDiff, Nat.reduceAdd, Nat.reduceEqDiff, Int.reduceToNat, Int.toNat_natCast, iB0, iB1, ru_klI, ru_klR, ru_klF, ru_klJ, ru_kl0, ru_cs0, ru_csI, ru_csR, ru_csF, ru_csJ, wI_add, wI_sub, wI_mul, wI_lt, wI_le, wI_inj, ru_fdE, ru_fdN, ru_iaN, ru_baN, ru_laN, ru_qaN, ru_pfN, ru_isN, ru_bsN, ru_jsN, ru_qsN, ru_set2, Nat.add_right_cancel_iff, if_true, if_false, ite_self, Int.reduceEq, and_self, Int.add_neg_cancel_right, Int.add_zero, Int.zero_add, md_e, q3, Int.reduceEq, fI_0]
  · refine ⟨0, mdT M (rfP M f), ?_, Or.inl ⟨e1, rfl⟩⟩
    simp (disch := omega) only [en275, e275_0, e275_1, e275_2, e275_3, e275_6, e275_9, e275_10, e275_13, e275_14, e275_15, e275_16, e275_19, e275_20, e275_21, e275_22, e275_23, e275_24, e275_25, e275_26, e275_27, e275_30, e275_31, e275_32, e275_33, e275_34, e275_37, e275_40, e275_41, e275_42, e275_43, e275_44, e275_45, e275_46, e275_49, e275_52, e275_53, e275_54, e275_55, e275_56, e275_57, e275_60, e275_61, e275_62, e275_63, e275_64, e275_65, e275_66, ↓reduceIte, Bool.false_eq_true, not_false_eq_true, not_true_eq_false, Nat.reduceLeDiff, Nat.reduceAdd, Nat.reduceEqDiff, Int.reduceToNat, Int.toNat_natCast, iB0, iB1, ru_klI, ru_klR, ru_klF, ru_klJ, ru_kl0, ru_cs0, ru_csI, ru_csR, ru_csF, ru_csJ, wI_add, wI_sub, wI_mul, wI_lt, wI_le, wI_inj, ru_fdE, ru_fdN, ru_iaN, ru_baN, ru_laN, ru_qaN, ru_pfN, ru_isN, ru_bsN, ru_jsN, ru_qsN, ru_set2, Nat.add_right_cancel_iff, if_true, if_false, ite_self, Int.reduceEq, and_self, Int.add_neg_cancel_right, Int.add_zero, Int.zero_add, md_e, p193x hM g e1, Int.reduceEq, fI_0]
end ASP
