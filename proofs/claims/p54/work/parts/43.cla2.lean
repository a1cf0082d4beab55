/-! ===== the class's methods, 2: public reads of a photo ===== -/
/-- an answer, or a refusal: t = 0 answers v, else the exception t - 1 -/
def oR (t : Nat) (v : Option Value) (g g' : am_H) : am_R := if t = 0 then some (.inl v, g) else some (.inr (t - 1), g')
def rcP (C : tCl) (f : Int) : Nat := if cPm C = 0 then 1 else if 0 ≤ f ∧ f < cPm C then 0 else 2
def rcK (C : tCl) (f k : Int) : Nat := if rcP C f = 0 then (if 0 ≤ k ∧ k < (cph C (cAp C f.toNat)).1 7 then 0 else 2) else rcP C f
def rcN (C : tCl) (n : Int) : Nat := if cPm C = 0 then 1 else if 0 ≤ n ∧ n < cNm C then 0 else 2
theorem rcP_0 {C : tCl} {f : Int} (h : rcP C f = 0) : ¬ cPm C = 0 ∧ 0 ≤ f ∧ f < cPm C := by
  unfold rcP at h
  split at h
  · omega
  · split at h
    · exact ⟨by assumption, by assumption⟩
    · omega
theorem rcK_0 {C : tCl} {f k : Int} (h : rcK C f k = 0) : rcP C f = 0 ∧ 0 ≤ k ∧ k < (cph C (cAp C f.toNat)).1 7 := by
  unfold rcK at h
  split at h
  · split at h
    · exact ⟨by assumption, by assumption⟩
    · omega
  · omega
theorem oR_0 {t : Nat} {v : Option Value} {g g' : am_H} (h : t = 0) : oR t v g g' = some (.inl v, g) := if_pos h
theorem oR_n {t : Nat} {v : Option Value} {g g' : am_H} (h : ¬ t = 0) : oR t v g g' = some (.inr (t - 1), g') := if_neg h
theorem bsN_all {q : tPh} (hr : phR q) (k : Nat) : bsN (inR q 0 0 999 999) k = bsN (shw q) k := by
  induction k with
  | zero => rfl
  | succ k ih =>
    have e : inR q 0 0 999 999 k = shw q k := by
      unfold inR
      by_cases hs : shw q k = true
      · have s := phR_s hr
        have s2 := phR_i hr k
        rw [hs, Bool.true_and]
        simp only [shw, decide_eq_true_eq] at hs
        unfold shX shY
        apply decide_eq_true
        split <;> omega
      · simp only [Bool.not_eq_true] at hs
        rw [hs, Bool.false_and]
    simp only [bsN, e, ih]
section CLA2
variable {z : Bool} {h : am_H} {C : tCl}
theorem d78 (hR : clR C) {f : Int} (g : -2147483648 ≤ f ∧ f < 2147483648) : ru_ev z 78 [.ref 1000, .int (wI f)] (clPut h C) = oR (rcP C f) (some (.ref (cAp C f.toNat))) (clPut h C) (clPut (thr h) C) := by
  rw [c78 hR g]
  unfold oR rcP
  repeat' split
  all_goals first | rfl | (exfalso; omega) | simp_all
theorem d174 (hR : clR C) {f k : Int} (g : -2147483648 ≤ f ∧ f < 2147483648) (g2 : -2147483648 ≤ k ∧ k < 2147483648) : ru_ev z 174 [.ref 1000, .int (wI f), .int (wI k)] (clPut h C) = oR (rcK C f k) (some (.ref (cAp C f.toNat))) (clPut h C) (clPut (thr h) C) := by
  rw [c174 hR g g2]
  unfold oR rcK rcP
  repeat' split
  all_goals first | rfl | (exfalso; omega) | simp_all
theorem dph (hR : clR C) {f : Int} (e : rcP C f = 0) : phAt (clPut h C) (cAp C f.toNat) (cph C (cAp C f.toNat)) ∧ phR (cph C (cAp C f.toNat)) := by
  obtain ⟨c1, c2, c3⟩ := rcP_0 e
  have r := hR.2.1
  exact ⟨cl_ph (cAp_ph hR.1 (by omega)), hR.2.2.2.2 _ (by omega)⟩
theorem c164 (hR : clR C) {f : Int} (g : -2147483648 ≤ f ∧ f < 2147483648) : ru_ev z 164 [.ref 1000, .int (wI f)] (clPut h C) = oR (rcP C f) (some (.int (wI ((cph C (cAp C f.toNat)).1 7)))) (clPut h C) (clPut (thr h) C) := by
  have e1 := d78 (z := z) (h := h) hR g
  by_cases e : rcP C f = 0
  · obtain ⟨hp, hr⟩ := dph (h := h) hR e
    rw [oR_0 e] at e1 ⊢
    simp (disch := omega) only [en164, e164_0, e164_1, e164_2, e164_5, e164_8, ↓reduceIte, Bool.false_eq_true, not_false_eq_true, not_true_eq_false, Nat.reduceLeDiff, Nat.reduceAdd, Nat.reduceEqDiff, Int.reduceToNat, Int.toNat_natCast, iB0, iB1, ru_klI, ru_klR, ru_klF, ru_klJ, ru_kl0, ru_cs0, ru_csI, ru_csR, ru_csF, ru_csJ, wI_add, wI_sub, wI_mul, wI_lt, wI_le, wI_inj, ru_fdE, ru_fdN, ru_iaN, ru_baN, ru_laN, ru_qaN, ru_pfN, ru_isN, ru_bsN, ru_jsN, ru_qsN, ru_set2, Nat.add_right_cancel_iff, if_true, if_false, ite_self, cl_e0, e1, phF hp]
  · rw [oR_n e] at e1 ⊢
    simp (disch := omega) only [en164, e164_0, e164_1, e164_2, e164_5, e164_8, ↓reduceIte, Bool.false_eq_true, not_false_eq_true, not_true_eq_false, Nat.reduceLeDiff, Nat.reduceAdd, Nat.reduceEqDiff, Int.reduceToNat, Int.toNat_natCast, iB0, iB1, ru_klI, ru_klR, ru_klF, ru_klJ, ru_kl0, ru_cs0, ru_csI, ru_csR, ru_csF, ru_csJ, wI_add, wI_sub, wI_mul, wI_lt, wI_le, wI_inj, ru_fdE, ru_fdN, ru_iaN, ru_baN, ru_laN, ru_qaN, ru_pfN, ru_isN, ru_bsN, ru_jsN, ru_qsN, ru_set2, Nat.add_right_cancel_iff, if_true, if_false, ite_self, cl_e0, e1]
theorem c170 (hR : clR C) {f : Int} (g : -2147483648 ≤ f ∧ f < 2147483648) : ru_ev z 170 [.ref 1000, .int (wI f)] (clPut h C) = oR (rcP C f) (some (.int (wI ((cph C (cAp C f.toNat)).1 6)))) (clPut h C) (clPut (thr h) C) := by
  have e1 := d78 (z := z) (h := h) hR g
  by_cases e : rcP C f = 0
  · obtain ⟨hp, hr⟩ := dph (h := h) hR e
    have s := phR_s hr
    rw [oR_0 e] at e1 ⊢
    simp (disch := omega) only [en170, e170_0, e170_1, e170_2, e170_5, e170_8, ↓reduceIte, Bool.false_eq_true, not_false_eq_true, not_true_eq_false, Nat.reduceLeDiff, Nat.reduceAdd, Nat.reduceEqDiff, Int.reduceToNat, Int.toNat_natCast, iB0, iB1, ru_klI, ru_klR, ru_klF, ru_klJ, ru_kl0, ru_cs0, ru_csI, ru_csR, ru_csF, ru_csJ, wI_add, wI_sub, wI_mul, wI_lt, wI_le, wI_inj, ru_fdE, ru_fdN, ru_iaN, ru_baN, ru_laN, ru_qaN, ru_pfN, ru_isN, ru_bsN, ru_jsN, ru_qsN, ru_set2, Nat.add_right_cancel_iff, if_true, if_false, ite_self, cl_e0, e1, phF hp, wI_and1]
  · rw [oR_n e] at e1 ⊢
    simp (disch := omega) only [en170, e170_0, e170_1, e170_2, e170_5, e170_8, ↓reduceIte, Bool.false_eq_true, not_false_eq_true, not_true_eq_false, Nat.reduceLeDiff, Nat.reduceAdd, Nat.reduceEqDiff, Int.reduceToNat, Int.toNat_natCast, iB0, iB1, ru_klI, ru_klR, ru_klF, ru_klJ, ru_kl0, ru_cs0, ru_csI, ru_csR, ru_csF, ru_csJ, wI_add, wI_sub, wI_mul, wI_lt, wI_le, wI_inj, ru_fdE, ru_fdN, ru_iaN, ru_baN, ru_laN, ru_qaN, ru_pfN, ru_isN, ru_bsN, ru_jsN, ru_qsN, ru_set2, Nat.add_right_cancel_iff, if_true, if_false, ite_self, cl_e0, e1]
theorem c173 (hR : clR C) {f k : Int} (g : -2147483648 ≤ f ∧ f < 2147483648) (g2 : -2147483648 ≤ k ∧ k < 2147483648) : ru_ev z 173 [.ref 1000, .int (wI f), .int (wI k)] (clPut h C) = oR (rcK C f k) (some (.int (wI (if shw (cph C (cAp C f.toNat)) k.toNat = true then 1 else 0)))) (clPut h C) (clPut (thr h) C) := by
  have e1 := d174 (z := z) (h := h) hR g g2
  by_cases e : rcK C f k = 0
  · obtain ⟨e0, c1, c2⟩ := rcK_0 e
    obtain ⟨hp, hr⟩ := dph (h := h) hR e0
    have s := phR_s hr
    rw [oR_0 e] at e1 ⊢
    simp (disch := omega) only [en173, e173_0, e173_1, e173_2, e173_3, e173_6, e173_7, e173_10, ↓reduceIte, Bool.false_eq_true, not_false_eq_true, not_true_eq_false, Nat.reduceLeDiff, Nat.reduceAdd, Nat.reduceEqDiff, Int.reduceToNat, Int.toNat_natCast, iB0, iB1, ru_klI, ru_klR, ru_klF, ru_klJ, ru_kl0, ru_cs0, ru_csI, ru_csR, ru_csF, ru_csJ, wI_add, wI_sub, wI_mul, wI_lt, wI_le, wI_inj, ru_fdE, ru_fdN, ru_iaN, ru_baN, ru_laN, ru_qaN, ru_pfN, ru_isN, ru_bsN, ru_jsN, ru_qsN, ru_set2, Nat.add_right_cancel_iff, if_true, if_false, ite_self, cl_e0, e1, m82 hp hr, wI_bz]
  · rw [oR_n e] at e1 ⊢
    simp (disch := omega) only [en173, e173_0, e173_1, e173_2, e173_3, e173_6, e173_7, e173_10, ↓reduceIte, Bool.false_eq_true, not_false_eq_true, not_true_eq_false, Nat.reduceLeDiff, Nat.reduceAdd, Nat.reduceEqDiff, Int.reduceToNat, Int.toNat_natCast, iB0, iB1, ru_klI, ru_klR, ru_klF, ru_klJ, ru_kl0, ru_cs0, ru_csI, ru_csR, ru_csF, ru_csJ, wI_add, wI_sub, wI_mul, wI_lt, wI_le, wI_inj, ru_fdE, ru_fdN, ru_iaN, ru_baN, ru_laN, ru_qaN, ru_pfN, ru_isN, ru_bsN, ru_jsN, ru_qsN, ru_set2, Nat.add_right_cancel_iff, if_true, if_false, ite_self, cl_e0, e1]
theorem c178 (hR : clR C) {f k : Int} (g : -2147483648 ≤ f ∧ f < 2147483648) (g2 : -2147483648 ≤ k ∧ k < 2147483648) : ru_ev z 178 [.ref 1000, .int (wI f), .int (wI k)] (clPut h C) = oR (rcK C f k) (some (.int (wI (if shw (cph C (cAp C f.toNat)) k.toNat = true then 1000 * shX (cph C (cAp C f.toNat)) k.toNat + shY (cph C (cAp C f.toNat)) k.toNat else -1)))) (clPut h C) (clPut (thr h) C) := by
  have e1 := d174 (z := z) (h := h) hR g g2
  by_cases e : rcK C f k = 0
  · obtain ⟨e0, c1, c2⟩ := rcK_0 e
    obtain ⟨hp, hr⟩ := dph (h := h) hR e0
    have s := phR_s hr
    rw [oR_0 e] at e1 ⊢
    by_cases hs : shw (cph C (cAp C f.toNat)) k.toNat = true
    · simp (disch := omega) only [en178, e178_0, e178_1, e178_2, e178_3, e178_6, e178_7, e178_8, e178_9, e178_12, e178_15, e178_16, e178_17, e178_20, e178_21, e178_22, e178_25, e178_26, e178_27, e178_28, e178_31, e178_32, ↓reduceIte, Bool.false_eq_true, not_false_eq_true, not_true_eq_false, Nat.reduceLeDiff, Nat.reduceAdd, Nat.reduceEqDiff, Int.reduceToNat, Int.toNat_natCast, iB0, iB1, ru_klI, ru_klR, ru_klF, ru_klJ, ru_kl0, ru_cs0, ru_csI, ru_csR, ru_csF, ru_csJ, wI_add, wI_sub, wI_mul, wI_lt, wI_le, wI_inj, ru_fdE, ru_fdN, ru_iaN, ru_baN, ru_laN, ru_qaN, ru_pfN, ru_isN, ru_bsN, ru_jsN, ru_qsN, ru_set2, Nat.add_right_cancel_iff, if_true, if_false, ite_self, cl_e0, e1, m82 hp hr, m83 hp hr, m84 hp, hs, not_true, not_false_iff, Int.reduceEq]
    · simp (disch := omega) only [en178, e178_0, e178_1, e178_2, e178_3, e178_6, e178_7, e178_8, e178_9, e178_12, e178_15, e178_16, e178_17, e178_20, e178_21, e178_22, e178_25, e178_26, e178_27, e178_28, e178_31, e178_32, ↓reduceIte, Bool.false_eq_true, not_false_eq_true, not_true_eq_false, Nat.reduceLeDiff, Nat.reduceAdd, Nat.reduceEqDiff, Int.reduceToNat, Int.toNat_natCast, iB0, iB1, ru_klI, ru_klR, ru_klF, ru_klJ, ru_kl0, ru_cs0, ru_csI, ru_csR, ru_csF, ru_csJ, wI_add, wI_sub, wI_mul, wI_lt, wI_le, wI_inj, ru_fdE, ru_fdN, ru_iaN, ru_baN, ru_laN, ru_qaN, ru_pfN, ru_isN, ru_bsN, ru_jsN, ru_qsN, ru_set2, Nat.add_right_cancel_iff, if_true, if_false, ite_self, cl_e0, e1, m82 hp hr, m83 hp hr, m84 hp, hs, not_true, not_false_iff, Int.reduceEq]
  · rw [oR_n e] at e1 ⊢
    simp (disch := omega) only [en178, e178_0, e178_1, e178_2, e178_3, e178_6, e178_7, e178_8, e178_9, e178_12, e178_15, e178_16, e178_17, e178_20, e178_21, e178_22, e178_25, e178_26, e178_27, e178_28, e178_31, e178_32, ↓reduceIte, Bool.false_eq_true, not_false_eq_true, not_true_eq_false, Nat.reduceLeDiff, Nat.reduceAdd, Nat.reduceEqDiff, Int.reduceToNat, Int.toNat_natCast, iB0, iB1, ru_klI, ru_klR, ru_klF, ru_klJ, ru_kl0, ru_cs0, ru_csI, ru_csR, ru_csF, ru_csJ, wI_add, wI_sub, wI_mul, wI_lt, wI_le, wI_inj, ru_fdE, ru_fdN, ru_iaN, ru_baN, ru_laN, ru_qaN, ru_pfN, ru_isN, ru_bsN, ru_jsN, ru_qsN, ru_set2, Nat.add_right_cancel_iff, if_true, if_false, ite_self, cl_e0, e1]
theorem m182 {a : Nat} {q : tPh} (hp : phAt h a q) (hr : phR q) : ru_ev z 182 [.ref a] h = some (.inl (some (.int (wI (bsN (shw q) (q.1 7).toNat : Nat)))), h) := by
  have e := m183 (z := z) hp hr (x1 := 0) (y1 := 0) (x2 := 999) (y2 := 999) (by omega) (by omega) (by omega) (by omega)
  rw [bsN_all hr] at e
  simp (disch := omega) only [en182, e182_0, e182_1, e182_2, e182_3, e182_6, e182_9, e182_12, ↓reduceIte, Bool.false_eq_true, not_false_eq_true, not_true_eq_false, Nat.reduceLeDiff, Nat.reduceAdd, Nat.reduceEqDiff, Int.reduceToNat, Int.toNat_natCast, iB0, iB1, ru_klI, ru_klR, ru_klF, ru_klJ, ru_kl0, ru_cs0, ru_csI, ru_csR, ru_csF, ru_csJ, wI_add, wI_sub, wI_mul, wI_lt, wI_le, wI_inj, ru_fdE, ru_fdN, ru_iaN, ru_baN, ru_laN, ru_qaN, ru_pfN, ru_isN, ru_bsN, ru_jsN, ru_qsN, ru_set2, Nat.add_right_cancel_iff, if_true, if_false, ite_self, hp.1, e]
theorem c181 (hR : clR C) {f : Int} (g : -2147483648 ≤ f ∧ f < 2147483648) : ru_ev z 181 [.ref 1000, .int (wI f)] (clPut h C) = oR (rcP C f) (some (.int (wI (bsN (shw (cph C (cAp C f.toNat))) ((cph C (cAp C f.toNat)).1 7).toNat : Nat)))) (clPut h C) (clPut (thr h) C) := by
  have e1 := d78 (z := z) (h := h) hR g
  by_cases e : rcP C f = 0
  · obtain ⟨hp, hr⟩ := dph (h := h) hR e
    rw [oR_0 e] at e1 ⊢
    simp (disch := omega) only [en181, e181_0, e181_1, e181_2, e181_5, e181_8, ↓reduceIte, Bool.false_eq_true, not_false_eq_true, not_true_eq_false, Nat.reduceLeDiff, Nat.reduceAdd, Nat.reduceEqDiff, Int.reduceToNat, Int.toNat_natCast, iB0, iB1, ru_klI, ru_klR, ru_klF, ru_klJ, ru_kl0, ru_cs0, ru_csI, ru_csR, ru_csF, ru_csJ, wI_add, wI_sub, wI_mul, wI_lt, wI_le, wI_inj, ru_fdE, ru_fdN, ru_iaN, ru_baN, ru_laN, ru_qaN, ru_pfN, ru_isN, ru_bsN, ru_jsN, ru_qsN, ru_set2, Nat.add_right_cancel_iff, if_true, if_false, ite_self, cl_e0, e1, m182 hp hr]
  · rw [oR_n e] at e1 ⊢
    simp (disch := omega) only [en181, e181_0, e181_1, e181_2, e181_5, e181_8, ↓reduceIte, Bool.false_eq_true, not_false_eq_true, not_true_eq_false, Nat.reduceLeDiff, Nat.reduceAdd, Nat.reduceEqDiff, Int.reduceToNat, Int.toNat_natCast, iB0, iB1, ru_klI, ru_klR, ru_klF, ru_klJ, ru_kl0, ru_cs0, ru_csI, ru_csR, ru_csF, ru_csJ, wI_add, wI_sub, wI_mul, wI_lt, wI_le, wI_inj, ru_fdE, ru_fdN, ru_iaN, ru_baN, ru_laN, ru_qaN, ru_pfN, ru_isN, ru_bsN, ru_jsN, ru_qsN, ru_set2, Nat.add_right_cancel_iff, if_true, if_false, ite_self, cl_e0, e1]
theorem c221 (hR : clR C) {f k : Int} (g : -2147483648 ≤ f ∧ f < 2147483648) (g2 : -2147483648 ≤ k ∧ k < 2147483648) : ru_ev z 221 [.ref 1000, .int (wI f), .int (wI k)] (clPut h C) = oR (rcK C f k) (some (.int (wI ((cph C (cAp C f.toNat)).2 3 k.toNat)))) (clPut h C) (clPut (thr h) C) := by
  have e1 := d174 (z := z) (h := h) hR g g2
  by_cases e : rcK C f k = 0
  · obtain ⟨e0, c1, c2⟩ := rcK_0 e
    obtain ⟨hp, hr⟩ := dph (h := h) hR e0
    have s := phR_s hr
    rw [oR_0 e] at e1 ⊢
    simp (disch := omega) only [en221, e221_0, e221_1, e221_2, e221_3, e221_6, e221_9, e221_10, e221_11, ↓reduceIte, Bool.false_eq_true, not_false_eq_true, not_true_eq_false, Nat.reduceLeDiff, Nat.reduceAdd, Nat.reduceEqDiff, Int.reduceToNat, Int.toNat_natCast, iB0, iB1, ru_klI, ru_klR, ru_klF, ru_klJ, ru_kl0, ru_cs0, ru_csI, ru_csR, ru_csF, ru_csJ, wI_add, wI_sub, wI_mul, wI_lt, wI_le, wI_inj, ru_fdE, ru_fdN, ru_iaN, ru_baN, ru_laN, ru_qaN, ru_pfN, ru_isN, ru_bsN, ru_jsN, ru_qsN, ru_set2, Nat.add_right_cancel_iff, if_true, if_false, ite_self, cl_e0, e1, phF hp, phA3 hp]
  · rw [oR_n e] at e1 ⊢
    simp (disch := omega) only [en221, e221_0, e221_1, e221_2, e221_3, e221_6, e221_9, e221_10, e221_11, ↓reduceIte, Bool.false_eq_true, not_false_eq_true, not_true_eq_false, Nat.reduceLeDiff, Nat.reduceAdd, Nat.reduceEqDiff, Int.reduceToNat, Int.toNat_natCast, iB0, iB1, ru_klI, ru_klR, ru_klF, ru_klJ, ru_kl0, ru_cs0, ru_csI, ru_csR, ru_csF, ru_csJ, wI_add, wI_sub, wI_mul, wI_lt, wI_le, wI_inj, ru_fdE, ru_fdN, ru_iaN, ru_baN, ru_laN, ru_qaN, ru_pfN, ru_isN, ru_bsN, ru_jsN, ru_qsN, ru_set2, Nat.add_right_cancel_iff, if_true, if_false, ite_self, cl_e0, e1]
theorem c214 (hR : clR C) {n : Int} (g : -2147483648 ≤ n ∧ n < 2147483648) : ru_ev z 214 [.ref 1000, .int (wI n)] (clPut h C) = oR (rcN C n) none (clPut h C) (clPut (thr h) C) := by
  have r := hR.2.2.1
  have e1 := c79 (z := z) (h := h) hR
  unfold rcN
  by_cases e : cPm C = 0
  · simp only [e, if_true] at e1 ⊢
    rw [oR_n (by decide)]
    simp (disch := omega) only [en214, e214_0, e214_1, e214_4, e214_5, e214_8, e214_9, e214_10, e214_13, e214_16, e214_19, e214_22, e214_25, e214_26, e214_33, ↓reduceIte, Bool.false_eq_true, not_false_eq_true, not_true_eq_false, Nat.reduceLeDiff, Nat.reduceAdd, Nat.reduceEqDiff, Int.reduceToNat, Int.toNat_natCast, iB0, iB1, ru_klI, ru_klR, ru_klF, ru_klJ, ru_kl0, ru_cs0, ru_csI, ru_csR, ru_csF, ru_csJ, wI_add, wI_sub, wI_mul, wI_lt, wI_le, wI_inj, ru_fdE, ru_fdN, ru_iaN, ru_baN, ru_laN, ru_qaN, ru_pfN, ru_isN, ru_bsN, ru_jsN, ru_qsN, ru_set2, Nat.add_right_cancel_iff, if_true, if_false, ite_self, cl_e0, e1]
  · simp only [e, if_false] at e1 ⊢
    by_cases e2 : 0 ≤ n ∧ n < cNm C
    · have e3 : (n < 0) = False := eq_false (by omega)
      have e4 : (n < cNm C) = True := eq_true (by omega)
      rw [if_pos e2, oR_0 rfl]
      simp (disch := omega) only [en214, e214_0, e214_1, e214_4, e214_5, e214_8, e214_9, e214_10, e214_13, e214_16, e214_19, e214_22, e214_25, e214_26, e214_33, ↓reduceIte, Bool.false_eq_true, not_false_eq_true, not_true_eq_false, Nat.reduceLeDiff, Nat.reduceAdd, Nat.reduceEqDiff, Int.reduceToNat, Int.toNat_natCast, iB0, iB1, ru_klI, ru_klR, ru_klF, ru_klJ, ru_kl0, ru_cs0, ru_csI, ru_csR, ru_csF, ru_csJ, wI_add, wI_sub, wI_mul, wI_lt, wI_le, wI_inj, ru_fdE, ru_fdN, ru_iaN, ru_baN, ru_laN, ru_qaN, ru_pfN, ru_isN, ru_bsN, ru_jsN, ru_qsN, ru_set2, Nat.add_right_cancel_iff, if_true, if_false, ite_self, cl_e0, e1, clF hR.1, e3, e4]
    · rw [if_neg e2, oR_n (by decide)]
      by_cases e3 : n < 0
      · simp (disch := omega) only [en214, e214_0, e214_1, e214_4, e214_5, e214_8, e214_9, e214_10, e214_13, e214_16, e214_19, e214_22, e214_25, e214_26, e214_33, ↓reduceIte, Bool.false_eq_true, not_false_eq_true, not_true_eq_false, Nat.reduceLeDiff, Nat.reduceAdd, Nat.reduceEqDiff, Int.reduceToNat, Int.toNat_natCast, iB0, iB1, ru_klI, ru_klR, ru_klF, ru_klJ, ru_kl0, ru_cs0, ru_csI, ru_csR, ru_csF, ru_csJ, wI_add, wI_sub, wI_mul, wI_lt, wI_le, wI_inj, ru_fdE, ru_fdN, ru_iaN, ru_baN, ru_laN, ru_qaN, ru_pfN, ru_isN, ru_bsN, ru_jsN, ru_qsN, ru_set2, Nat.add_right_cancel_iff, if_true, if_false, ite_self, cl_e0, e1, e3, cl_thr]
      · have e4 : (n < cNm C) = False := eq_false (by omega)
        simp (disch := omega) only [en214, e214_0, e214_1, e214_4, e214_5, e214_8, e214_9, e214_10, e214_13, e214_16, e214_19, e214_22, e214_25, e214_26, e214_33, ↓reduceIte, Bool.false_eq_true, not_false_eq_true, not_true_eq_false, Nat.reduceLeDiff, Nat.reduceAdd, Nat.reduceEqDiff, Int.reduceToNat, Int.toNat_natCast, iB0, iB1, ru_klI, ru_klR, ru_klF, ru_klJ, ru_kl0, ru_cs0, ru_csI, ru_csR, ru_csF, ru_csJ, wI_add, wI_sub, wI_mul, wI_lt, wI_le, wI_inj, ru_fdE, ru_fdN, ru_iaN, ru_baN, ru_laN, ru_qaN, ru_pfN, ru_isN, ru_bsN, ru_jsN, ru_qsN, ru_set2, Nat.add_right_cancel_iff, if_true, if_false, ite_self, cl_e0, e1, e3, e4, clF hR.1, cl_thr]
theorem c208 {v a b : Int} (g1 : -2147483648 ≤ v ∧ v < 2147483648) (g2 : -2147483648 ≤ a ∧ a < 2147483648) (g3 : -2147483648 ≤ b ∧ b < 2147483648) : ru_ev z 208 [.int (wI v), .int (wI a), .int (wI b)] h = oR (if a ≤ v ∧ v ≤ b then 0 else 3) none h (thr h) := by
  by_cases e : a ≤ v ∧ v ≤ b
  · have e3 : (v < a) = False := eq_false (by omega)
    have e4 : (v ≤ b) = True := eq_true (by omega)
    rw [if_pos e, oR_0 rfl]
    simp (disch := omega) only [en208, e208_0, e208_1, e208_2, e208_5, e208_6, e208_7, e208_10, e208_13, e208_14, e208_21, ↓reduceIte, Bool.false_eq_true, not_false_eq_true, not_true_eq_false, Nat.reduceLeDiff, Nat.reduceAdd, Nat.reduceEqDiff, Int.reduceToNat, Int.toNat_natCast, iB0, iB1, ru_klI, ru_klR, ru_klF, ru_klJ, ru_kl0, ru_cs0, ru_csI, ru_csR, ru_csF, ru_csJ, wI_add, wI_sub, wI_mul, wI_lt, wI_le, wI_inj, ru_fdE, ru_fdN, ru_iaN, ru_baN, ru_laN, ru_qaN, ru_pfN, ru_isN, ru_bsN, ru_jsN, ru_qsN, ru_set2, Nat.add_right_cancel_iff, if_true, if_false, ite_self, e3, e4]
  · rw [if_neg e, oR_n (by decide)]
    by_cases e3 : v < a
    · simp (disch := omega) only [en208, e208_0, e208_1, e208_2, e208_5, e208_6, e208_7, e208_10, e208_13, e208_14, e208_21, ↓reduceIte, Bool.false_eq_true, not_false_eq_true, not_true_eq_false, Nat.reduceLeDiff, Nat.reduceAdd, Nat.reduceEqDiff, Int.reduceToNat, Int.toNat_natCast, iB0, iB1, ru_klI, ru_klR, ru_klF, ru_klJ, ru_kl0, ru_cs0, ru_csI, ru_csR, ru_csF, ru_csJ, wI_add, wI_sub, wI_mul, wI_lt, wI_le, wI_inj, ru_fdE, ru_fdN, ru_iaN, ru_baN, ru_laN, ru_qaN, ru_pfN, ru_isN, ru_bsN, ru_jsN, ru_qsN, ru_set2, Nat.add_right_cancel_iff, if_true, if_false, ite_self, e3]
      rfl
    · have e4 : (v ≤ b) = False := eq_false (by omega)
      simp (disch := omega) only [en208, e208_0, e208_1, e208_2, e208_5, e208_6, e208_7, e208_10, e208_13, e208_14, e208_21, ↓reduceIte, Bool.false_eq_true, not_false_eq_true, not_true_eq_false, Nat.reduceLeDiff, Nat.reduceAdd, Nat.reduceEqDiff, Int.reduceToNat, Int.toNat_natCast, iB0, iB1, ru_klI, ru_klR, ru_klF, ru_klJ, ru_kl0, ru_cs0, ru_csI, ru_csR, ru_csF, ru_csJ, wI_add, wI_sub, wI_mul, wI_lt, wI_le, wI_inj, ru_fdE, ru_fdN, ru_iaN, ru_baN, ru_laN, ru_qaN, ru_pfN, ru_isN, ru_bsN, ru_jsN, ru_qsN, ru_set2, Nat.add_right_cancel_iff, if_true, if_false, ite_self, e3, e4]
      rfl
theorem c154 : ru_ev z 154 [.ref 1000] (clPut h C) = some (.inl (some (.int (wI (C.1 1001 2)))), clPut h C) := by
  simp (disch := omega) only [en154, e154_0, e154_1, e154_4, e154_7, ↓reduceIte, Bool.false_eq_true, not_false_eq_true, not_true_eq_false, Nat.reduceLeDiff, Nat.reduceAdd, Nat.reduceEqDiff, Int.reduceToNat, Int.toNat_natCast, iB0, iB1, ru_klI, ru_klR, ru_klF, ru_klJ, ru_kl0, ru_cs0, ru_csI, ru_csR, ru_csF, ru_csJ, wI_add, wI_sub, wI_mul, wI_lt, wI_le, wI_inj, ru_fdE, ru_fdN, ru_iaN, ru_baN, ru_laN, ru_qaN, ru_pfN, ru_isN, ru_bsN, ru_jsN, ru_qsN, ru_set2, Nat.add_right_cancel_iff, if_true, if_false, ite_self, cl_thr, cl_g0_0, cl_g0_1, cl_q0_1, cl_g0_2, cl_q0_2, cl_g0_3, cl_g0_4, cl_g0_5, cl_g0_6, cl_g0_7, cl_g0_8, cl_g0_9, cl_g1_0, cl_g1_1, cl_q1_1, cl_g1_2, cl_q1_2, cl_g1_3, cl_q1_3, cl_g1_4, cl_q1_4, cl_g1_5, cl_q1_5, cl_g1_6, cl_q1_6, cl_g1_7, cl_q1_7, cl_g1_8, cl_q1_8, cl_g1_9, cl_q1_9, cl_g5_0, cl_q5_0, cl_g5_1, cl_g7_0, cl_g11_0, cl_q11_0, cl_g11_1, cl_q11_1, cl_g11_2, cl_q11_2, cl_g11_3, cl_q11_3, cl_e0, cl_e1, cl_e5, cl_e7, cl_e11]
theorem c156 : ru_ev z 156 [.ref 1000] (clPut h C) = some (.inl (some (.int (wI (C.1 1001 3)))), clPut h C) := by
  simp (disch := omega) only [en156, e156_0, e156_1, e156_4, e156_7, ↓reduceIte, Bool.false_eq_true, not_false_eq_true, not_true_eq_false, Nat.reduceLeDiff, Nat.reduceAdd, Nat.reduceEqDiff, Int.reduceToNat, Int.toNat_natCast, iB0, iB1, ru_klI, ru_klR, ru_klF, ru_klJ, ru_kl0, ru_cs0, ru_csI, ru_csR, ru_csF, ru_csJ, wI_add, wI_sub, wI_mul, wI_lt, wI_le, wI_inj, ru_fdE, ru_fdN, ru_iaN, ru_baN, ru_laN, ru_qaN, ru_pfN, ru_isN, ru_bsN, ru_jsN, ru_qsN, ru_set2, Nat.add_right_cancel_iff, if_true, if_false, ite_self, cl_thr, cl_g0_0, cl_g0_1, cl_q0_1, cl_g0_2, cl_q0_2, cl_g0_3, cl_g0_4, cl_g0_5, cl_g0_6, cl_g0_7, cl_g0_8, cl_g0_9, cl_g1_0, cl_g1_1, cl_q1_1, cl_g1_2, cl_q1_2, cl_g1_3, cl_q1_3, cl_g1_4, cl_q1_4, cl_g1_5, cl_q1_5, cl_g1_6, cl_q1_6, cl_g1_7, cl_q1_7, cl_g1_8, cl_q1_8, cl_g1_9, cl_q1_9, cl_g5_0, cl_q5_0, cl_g5_1, cl_g7_0, cl_g11_0, cl_q11_0, cl_g11_1, cl_q11_1, cl_g11_2, cl_q11_2, cl_g11_3, cl_q11_3, cl_e0, cl_e1, cl_e5, cl_e7, cl_e11]
theorem c158 : ru_ev z 158 [.ref 1000] (clPut h C) = some (.inl (some (.int (wI (C.1 1001 1)))), clPut h C) := by
  simp (disch := omega) only [en158, e158_0, e158_1, e158_4, e158_7, ↓reduceIte, Bool.false_eq_true, not_false_eq_true, not_true_eq_false, Nat.reduceLeDiff, Nat.reduceAdd, Nat.reduceEqDiff, Int.reduceToNat, Int.toNat_natCast, iB0, iB1, ru_klI, ru_klR, ru_klF, ru_klJ, ru_kl0, ru_cs0, ru_csI, ru_csR, ru_csF, ru_csJ, wI_add, wI_sub, wI_mul, wI_lt, wI_le, wI_inj, ru_fdE, ru_fdN, ru_iaN, ru_baN, ru_laN, ru_qaN, ru_pfN, ru_isN, ru_bsN, ru_jsN, ru_qsN, ru_set2, Nat.add_right_cancel_iff, if_true, if_false, ite_self, cl_thr, cl_g0_0, cl_g0_1, cl_q0_1, cl_g0_2, cl_q0_2, cl_g0_3, cl_g0_4, cl_g0_5, cl_g0_6, cl_g0_7, cl_g0_8, cl_g0_9, cl_g1_0, cl_g1_1, cl_q1_1, cl_g1_2, cl_q1_2, cl_g1_3, cl_q1_3, cl_g1_4, cl_q1_4, cl_g1_5, cl_q1_5, cl_g1_6, cl_q1_6, cl_g1_7, cl_q1_7, cl_g1_8, cl_q1_8, cl_g1_9, cl_q1_9, cl_g5_0, cl_q5_0, cl_g5_1, cl_g7_0, cl_g11_0, cl_q11_0, cl_g11_1, cl_q11_1, cl_g11_2, cl_q11_2, cl_g11_3, cl_q11_3, cl_e0, cl_e1, cl_e5, cl_e7, cl_e11]
theorem c374 : ru_ev z 374 [.ref 1000] (clPut h C) = some (.inl (some (.int (wI (C.1 1092 0)))), clPut h C) := by
  simp (disch := omega) only [en374, e374_0, e374_1, e374_4, e374_7, ↓reduceIte, Bool.false_eq_true, not_false_eq_true, not_true_eq_false, Nat.reduceLeDiff, Nat.reduceAdd, Nat.reduceEqDiff, Int.reduceToNat, Int.toNat_natCast, iB0, iB1, ru_klI, ru_klR, ru_klF, ru_klJ, ru_kl0, ru_cs0, ru_csI, ru_csR, ru_csF, ru_csJ, wI_add, wI_sub, wI_mul, wI_lt, wI_le, wI_inj, ru_fdE, ru_fdN, ru_iaN, ru_baN, ru_laN, ru_qaN, ru_pfN, ru_isN, ru_bsN, ru_jsN, ru_qsN, ru_set2, Nat.add_right_cancel_iff, if_true, if_false, ite_self, cl_thr, cl_g0_0, cl_g0_1, cl_q0_1, cl_g0_2, cl_q0_2, cl_g0_3, cl_g0_4, cl_g0_5, cl_g0_6, cl_g0_7, cl_g0_8, cl_g0_9, cl_g1_0, cl_g1_1, cl_q1_1, cl_g1_2, cl_q1_2, cl_g1_3, cl_q1_3, cl_g1_4, cl_q1_4, cl_g1_5, cl_q1_5, cl_g1_6, cl_q1_6, cl_g1_7, cl_q1_7, cl_g1_8, cl_q1_8, cl_g1_9, cl_q1_9, cl_g5_0, cl_q5_0, cl_g5_1, cl_g7_0, cl_g11_0, cl_q11_0, cl_g11_1, cl_q11_1, cl_g11_2, cl_q11_2, cl_g11_3, cl_q11_3, cl_e0, cl_e1, cl_e5, cl_e7, cl_e11]
theorem c160 (hA : clA C) : ru_ev z 160 [.ref 1000] (clPut h C) = some (.inl (some (.int (wI (cPm C)))), clPut h C) := by
  simp (disch := omega) only [en160, e160_0, e160_1, e160_4, e160_7, e160_10, ↓reduceIte, Bool.false_eq_true, not_false_eq_true, not_true_eq_false, Nat.reduceLeDiff, Nat.reduceAdd, Nat.reduceEqDiff, Int.reduceToNat, Int.toNat_natCast, iB0, iB1, ru_klI, ru_klR, ru_klF, ru_klJ, ru_kl0, ru_cs0, ru_csI, ru_csR, ru_csF, ru_csJ, wI_add, wI_sub, wI_mul, wI_lt, wI_le, wI_inj, ru_fdE, ru_fdN, ru_iaN, ru_baN, ru_laN, ru_qaN, ru_pfN, ru_isN, ru_bsN, ru_jsN, ru_qsN, ru_set2, Nat.add_right_cancel_iff, if_true, if_false, ite_self, cl_e0, clF hA]
theorem c210 (hA : clA C) : ru_ev z 210 [.ref 1000] (clPut h C) = some (.inl (some (.int (wI (cNm C)))), clPut h C) := by
  simp (disch := omega) only [en210, e210_0, e210_1, e210_4, e210_7, e210_10, ↓reduceIte, Bool.false_eq_true, not_false_eq_true, not_true_eq_false, Nat.reduceLeDiff, Nat.reduceAdd, Nat.reduceEqDiff, Int.reduceToNat, Int.toNat_natCast, iB0, iB1, ru_klI, ru_klR, ru_klF, ru_klJ, ru_kl0, ru_cs0, ru_csI, ru_csR, ru_csF, ru_csJ, wI_add, wI_sub, wI_mul, wI_lt, wI_le, wI_inj, ru_fdE, ru_fdN, ru_iaN, ru_baN, ru_laN, ru_qaN, ru_pfN, ru_isN, ru_bsN, ru_jsN, ru_qsN, ru_set2, Nat.add_right_cancel_iff, if_true, if_false, ite_self, cl_e0, clF hA]
theorem c224 (hR : clR C) {f n : Int} (g : -2147483648 ≤ f ∧ f < 2147483648) (g2 : -2147483648 ≤ n ∧ n < 2147483648) : ru_ev z 224 [.ref 1000, .int (wI f), .int (wI n)] (clPut h C) = oR (if rcP C f = 0 then rcN C n else rcP C f) (some (.int (wI (hofF ((cph C (cAp C f.toNat)).2 3) n ((cph C (cAp C f.toNat)).1 7).toNat 0)))) (clPut h C) (clPut (thr h) C) := by
  have e1 := d78 (z := z) (h := h) hR g
  have e2 := c214 (z := z) (h := h) hR g2
  by_cases e : rcP C f = 0
  · obtain ⟨hp, hr⟩ := dph (h := h) hR e
    rw [oR_0 e] at e1
    rw [if_pos e]
    by_cases e3 : rcN C n = 0
    · rw [oR_0 e3] at e2 ⊢
      simp (disch := omega) only [en224, e224_0, e224_1, e224_2, e224_5, e224_6, e224_7, e224_8, e224_11, e224_12, e224_13, e224_16, ↓reduceIte, Bool.false_eq_true, not_false_eq_true, not_true_eq_false, Nat.reduceLeDiff, Nat.reduceAdd, Nat.reduceEqDiff, Int.reduceToNat, Int.toNat_natCast, iB0, iB1, ru_klI, ru_klR, ru_klF, ru_klJ, ru_kl0, ru_cs0, ru_csI, ru_csR, ru_csF, ru_csJ, wI_add, wI_sub, wI_mul, wI_lt, wI_le, wI_inj, ru_fdE, ru_fdN, ru_iaN, ru_baN, ru_laN, ru_qaN, ru_pfN, ru_isN, ru_bsN, ru_jsN, ru_qsN, ru_set2, Nat.add_right_cancel_iff, if_true, if_false, ite_self, cl_e0, e1, e2, m108 hp hr]
    · rw [oR_n e3] at e2 ⊢
      simp (disch := omega) only [en224, e224_0, e224_1, e224_2, e224_5, e224_6, e224_7, e224_8, e224_11, e224_12, e224_13, e224_16, ↓reduceIte, Bool.false_eq_true, not_false_eq_true, not_true_eq_false, Nat.reduceLeDiff, Nat.reduceAdd, Nat.reduceEqDiff, Int.reduceToNat, Int.toNat_natCast, iB0, iB1, ru_klI, ru_klR, ru_klF, ru_klJ, ru_kl0, ru_cs0, ru_csI, ru_csR, ru_csF, ru_csJ, wI_add, wI_sub, wI_mul, wI_lt, wI_le, wI_inj, ru_fdE, ru_fdN, ru_iaN, ru_baN, ru_laN, ru_qaN, ru_pfN, ru_isN, ru_bsN, ru_jsN, ru_qsN, ru_set2, Nat.add_right_cancel_iff, if_true, if_false, ite_self, cl_e0, e1, e2]
  · rw [oR_n e] at e1
    rw [if_neg e, oR_n e]
    simp (disch := omega) only [en224, e224_0, e224_1, e224_2, e224_5, e224_6, e224_7, e224_8, e224_11, e224_12, e224_13, e224_16, ↓reduceIte, Bool.false_eq_true, not_false_eq_true, not_true_eq_false, Nat.reduceLeDiff, Nat.reduceAdd, Nat.reduceEqDiff, Int.reduceToNat, Int.toNat_natCast, iB0, iB1, ru_klI, ru_klR, ru_klF, ru_klJ, ru_kl0, ru_cs0, ru_csI, ru_csR, ru_csF, ru_csJ, wI_add, wI_sub, wI_mul, wI_lt, wI_le, wI_inj, ru_fdE, ru_fdN, ru_iaN, ru_baN, ru_laN, ru_qaN, ru_pfN, ru_isN, ru_bsN, ru_jsN, ru_qsN, ru_set2, Nat.add_right_cancel_iff, if_true, if_false, ite_self, cl_e0, e1]
theorem c244 (hR : clR C) {f k : Int} (g : -2147483648 ≤ f ∧ f < 2147483648) (g2 : -2147483648 ≤ k ∧ k < 2147483648) : ru_ev z 244 [.ref 1000, .int (wI f), .int (wI k)] (clPut h C) = oR (if rcP C f = 0 then rcP C k else rcP C f) (some (.int (wI ((nmN (cph C (cAp C f.toNat)) ((cph C (cAp C f.toNat)).1 7).toNat &&& nmN (cph C (cAp C k.toNat)) ((cph C (cAp C k.toNat)).1 7).toNat : Nat) : Int)))) (clPut h C) (clPut (thr h) C) := by
  have e1 := d78 (z := z) (h := h) hR g
  have e2 := d78 (z := z) (h := h) hR g2
  by_cases e : rcP C f = 0
  · obtain ⟨hp, hr⟩ := dph (h := h) hR e
    rw [oR_0 e] at e1
    rw [if_pos e]
    by_cases e3 : rcP C k = 0
    · obtain ⟨hp2, hr2⟩ := dph (h := h) hR e3
      have b1 := nmN_lt hr ((cph C (cAp C f.toNat)).1 7).toNat
      have b2 := nmN_lt hr2 ((cph C (cAp C k.toNat)).1 7).toNat
      rw [oR_0 e3] at e2 ⊢
      simp (disch := omega) only [en244, e244_0, e244_1, e244_2, e244_5, e244_8, e244_9, e244_10, e244_13, e244_16, e244_17, ↓reduceIte, Bool.false_eq_true, not_false_eq_true, not_true_eq_false, Nat.reduceLeDiff, Nat.reduceAdd, Nat.reduceEqDiff, Int.reduceToNat, Int.toNat_natCast, iB0, iB1, ru_klI, ru_klR, ru_klF, ru_klJ, ru_kl0, ru_cs0, ru_csI, ru_csR, ru_csF, ru_csJ, wI_add, wI_sub, wI_mul, wI_lt, wI_le, wI_inj, ru_fdE, ru_fdN, ru_iaN, ru_baN, ru_laN, ru_qaN, ru_pfN, ru_isN, ru_bsN, ru_jsN, ru_qsN, ru_set2, Nat.add_right_cancel_iff, if_true, if_false, ite_self, cl_e0, e1, e2, m228 hp hr, m228 hp2 hr2, wI_nat_and]
    · rw [oR_n e3] at e2 ⊢
      simp (disch := omega) only [en244, e244_0, e244_1, e244_2, e244_5, e244_8, e244_9, e244_10, e244_13, e244_16, e244_17, ↓reduceIte, Bool.false_eq_true, not_false_eq_true, not_true_eq_false, Nat.reduceLeDiff, Nat.reduceAdd, Nat.reduceEqDiff, Int.reduceToNat, Int.toNat_natCast, iB0, iB1, ru_klI, ru_klR, ru_klF, ru_klJ, ru_kl0, ru_cs0, ru_csI, ru_csR, ru_csF, ru_csJ, wI_add, wI_sub, wI_mul, wI_lt, wI_le, wI_inj, ru_fdE, ru_fdN, ru_iaN, ru_baN, ru_laN, ru_qaN, ru_pfN, ru_isN, ru_bsN, ru_jsN, ru_qsN, ru_set2, Nat.add_right_cancel_iff, if_true, if_false, ite_self, cl_e0, e1, e2, m228 hp hr]
  · rw [oR_n e] at e1
    rw [if_neg e, oR_n e]
    simp (disch := omega) only [en244, e244_0, e244_1, e244_2, e244_5, e244_8, e244_9, e244_10, e244_13, e244_16, e244_17, ↓reduceIte, Bool.false_eq_true, not_false_eq_true, not_true_eq_false, Nat.reduceLeDiff, Nat.reduceAdd, Nat.reduceEqDiff, Int.reduceToNat, Int.toNat_natCast, iB0, iB1, ru_klI, ru_klR, ru_klF, ru_klJ, ru_kl0, ru_cs0, ru_csI, ru_csR, ru_csF, ru_csJ, wI_add, wI_sub, wI_mul, wI_lt, wI_le, wI_inj, ru_fdE, ru_fdN, ru_iaN, ru_baN, ru_laN, ru_qaN, ru_pfN, ru_isN, ru_bsN, ru_jsN, ru_qsN, ru_set2, Nat.add_right_cancel_iff, if_true, if_false, ite_self, cl_e0, e1]
end CLA2
