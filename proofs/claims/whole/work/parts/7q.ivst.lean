/-! ===== inversions, isMirrored: the calls ===== -/
/-- what a call of two photos says -/
def rpP (C : tCl) (f k : Int) (T : Int → Prop) (t : Nat) (v : Int) (C' : tCl) : Prop := (¬ (if rcP C f = 0 then rcP C k else rcP C f) = 0 ∧ t = (if rcP C f = 0 then rcP C k else rcP C f) ∧ C' = C) ∨ (rcP C f = 0 ∧ rcP C k = 0 ∧ t = 0 ∧ clE C C' ∧ T v)
section IVST
variable {z : Bool} {h : am_H} {C : tCl} {M : tMd}
theorem rcP_5 {C : tCl} (hR : clR C) {f : Int} (e : rcP C f = 0) : f.toNat < 5 := by
  have := hR.2.1
  obtain ⟨-, b2, b3⟩ := rcP_0 e
  omega
theorem c249 (hR : clR C) {f k : Int} (g : -2147483648 ≤ f ∧ f < 2147483648) (g2 : -2147483648 ≤ k ∧ k < 2147483648) : ∃ t v C', ru_ev z 249 [.ref 1000, .int (wI f), .int (wI k)] (clPut h C) = oR t (some (.int (wI v))) (clPut h C') (clPut (thr h) C') ∧ rpP C f k (fun v => ivI (cph C (cAp C f.toNat)) (cph C (cAp C k.toNat)) v) t v C' := by
  have e1 := d78 (z := z) (h := h) hR g
  have e2 := d78 (z := z) (h := h) hR g2
  by_cases c1 : rcP C f = 0
  · rw [oR_0 c1] at e1
    by_cases c2 : rcP C k = 0
    · rw [oR_0 c2] at e2
      obtain ⟨v, C', k1, k2, k3, k4⟩ := c250 (z := z) (h := h) hR (rcP_5 hR c1) (rcP_5 hR c2)
      refine ⟨0, v, C', ?_, Or.inr ⟨c1, c2, rfl, k1, k2⟩⟩
      rw [oR_0 rfl]
      simp (disch := omega) only [en249, e249_0, e249_1, e249_2, e249_3, e249_6, e249_7, e249_8, e249_11, e249_14, ↓reduceIte, Bool.false_eq_true, not_false_eq_true, not_true_eq_false, Nat.reduceLeDiff, Nat.reduceAdd, Nat.reduceEqDiff, Int.reduceToNat, Int.toNat_natCast, iB0, iB1, ru_klI, ru_klR, ru_klF, ru_klJ, ru_kl0, ru_cs0, ru_csI, ru_csR, ru_csF, ru_csJ, wI_add, wI_sub, wI_mul, wI_lt, wI_le, wI_inj, ru_fdE, ru_fdN, ru_iaN, ru_baN, ru_laN, ru_qaN, ru_pfN, ru_isN, ru_bsN, ru_jsN, ru_qsN, ru_set2, Nat.add_right_cancel_iff, if_true, if_false, ite_self, Int.reduceEq, and_self, Int.add_neg_cancel_right, Int.add_zero, Int.zero_add, cl_e0, e1, e2, k4]
    · rw [oR_n c2] at e2
      refine ⟨rcP C k, 0, C, ?_, Or.inl ⟨by rw [if_pos c1]; exact c2, by rw [if_pos c1], rfl⟩⟩
      rw [oR_n c2]
      simp (disch := omega) only [en249, e249_0, e249_1, e249_2, e249_3, e249_6, e249_7, e249_8, e249_11, e249_14, ↓reduceIte, Bool.false_eq_true, not_false_eq_true, not_true_eq_false, Nat.reduceLeDiff, Nat.reduceAdd, Nat.reduceEqDiff, Int.reduceToNat, Int.toNat_natCast, iB0, iB1, ru_klI, ru_klR, ru_klF, ru_klJ, ru_kl0, ru_cs0, ru_csI, ru_csR, ru_csF, ru_csJ, wI_add, wI_sub, wI_mul, wI_lt, wI_le, wI_inj, ru_fdE, ru_fdN, ru_iaN, ru_baN, ru_laN, ru_qaN, ru_pfN, ru_isN, ru_bsN, ru_jsN, ru_qsN, ru_set2, Nat.add_right_cancel_iff, if_true, if_false, ite_self, Int.reduceEq, and_self, Int.add_neg_cancel_right, Int.add_zero, Int.zero_add, cl_e0, e1, e2]
  · rw [oR_n c1] at e1
    refine ⟨rcP C f, 0, C, ?_, Or.inl ⟨by rw [if_neg c1]; exact c1, by rw [if_neg c1], rfl⟩⟩
    rw [oR_n c1]
    simp (disch := omega) only [en249, e249_0, e249_1, e249_2, e249_3, e249_6, e249_7, e249_8, e249_11, e249_14, ↓reduceIte, Bool.false_eq_true, not_false_eq_true, not_true_eq_false, Nat.reduceLeDiff, Nat.reduceAdd, Nat.reduceEqDiff, Int.reduceToNat, Int.toNat_natCast, iB0, iB1, ru_klI, ru_klR, ru_klF, ru_klJ, ru_kl0, ru_cs0, ru_csI, ru_csR, ru_csF, ru_csJ, wI_add, wI_sub, wI_mul, wI_lt, wI_le, wI_inj, ru_fdE, ru_fdN, ru_iaN, ru_baN, ru_laN, ru_qaN, ru_pfN, ru_isN, ru_bsN, ru_jsN, ru_qsN, ru_set2, Nat.add_right_cancel_iff, if_true, if_false, ite_self, Int.reduceEq, and_self, Int.add_neg_cancel_right, Int.add_zero, Int.zero_add, cl_e0, e1]
theorem nm_and {q p : tPh} (hq : phR q) : nmN q (q.1 7).toNat &&& nmN p (p.1 7).toNat < 1048576 := by
  have h1 := nmN_lt hq (q.1 7).toNat
  have := @Nat.and_le_left (nmN q (q.1 7).toNat) (nmN p (p.1 7).toNat)
  omega
theorem sh_rng {s : Nat} (h : s ≤ 20) : 0 ≤ (s : Int) * ((s : Int) - 1) ∧ (s : Int) * ((s : Int) - 1) ≤ 400 := by
  rcases Nat.eq_zero_or_pos s with c | c
  · subst c; decide
  · have h2 : (s : Int) * ((s : Int) - 1) ≤ 20 * 19 := Int.mul_le_mul (by omega) (by omega) (by omega) (by omega)
    exact ⟨Int.mul_nonneg (by omega) (by omega), by omega⟩
theorem c255 (hR : clR C) {f k : Int} (g : -2147483648 ≤ f ∧ f < 2147483648) (g2 : -2147483648 ≤ k ∧ k < 2147483648) : ∃ t v C', ru_ev z 255 [.ref 1000, .int (wI f), .int (wI k)] (clPut h C) = oR t (some (.int (wI v))) (clPut h C') (clPut (thr h) C') ∧ rpP C f k (fun v => ∃ w, ivI (cph C (cAp C f.toNat)) (cph C (cAp C k.toNat)) w ∧ v = if 2 * w > (pcN (nmN (cph C (cAp C f.toNat)) ((cph C (cAp C f.toNat)).1 7).toNat &&& nmN (cph C (cAp C k.toNat)) ((cph C (cAp C k.toNat)).1 7).toNat) 20 : Nat) * ((pcN (nmN (cph C (cAp C f.toNat)) ((cph C (cAp C f.toNat)).1 7).toNat &&& nmN (cph C (cAp C k.toNat)) ((cph C (cAp C k.toNat)).1 7).toNat) 20 : Nat) - 1) / 2 then 1 else 0) t v C' := by
  have e1 := d78 (z := z) (h := h) hR g
  have e2 := d78 (z := z) (h := h) hR g2
  by_cases c1 : rcP C f = 0
  · rw [oR_0 c1] at e1
    by_cases c2 : rcP C k = 0
    · rw [oR_0 c2] at e2
      obtain ⟨w, C', k1, k2, k3, k4⟩ := c250 (z := z) (h := h) hR (rcP_5 hR c1) (rcP_5 hR c2)
      obtain ⟨hp1, hq1⟩ := dph (h := h) hR c1
      obtain ⟨hp2, hq2⟩ := dph (h := h) hR c2
      have b1 := nmN_lt hq1 ((cph C (cAp C f.toNat)).1 7).toNat
      have b2 := nmN_lt hq2 ((cph C (cAp C k.toNat)).1 7).toNat
      have b3 := nm_and (p := cph C (cAp C k.toNat)) hq1
      have hl := pcN_le (nmN (cph C (cAp C f.toNat)) ((cph C (cAp C f.toNat)).1 7).toNat &&& nmN (cph C (cAp C k.toNat)) ((cph C (cAp C k.toNat)).1 7).toNat) 20
      refine ⟨0, _, C', ?_, Or.inr ⟨c1, c2, rfl, k1, w, k2, rfl⟩⟩
      have hb := m233 (z := z) (h := clPut h C) b3
      generalize hs : pcN (nmN (cph C (cAp C f.toNat)) ((cph C (cAp C f.toNat)).1 7).toNat &&& nmN (cph C (cAp C k.toNat)) ((cph C (cAp C k.toNat)).1 7).toNat) 20 = s at *
      have hsr := sh_rng hl
      generalize hpp : (s : Int) * ((s : Int) - 1) = pp at *
      rw [oR_0 rfl]
      have m1 := m228 (z := z) hp1 hq1
      have m2 := m228 (z := z) hp2 hq2
      by_cases cc : 2 * w > pp / 2
      · have d1 : (2 * w ≤ pp / 2) = False := eq_false (by omega)
        rw [if_pos cc]
        simp (disch := omega) only [en255, e255_0, e255_1, e255_2, e255_5, e255_6, e255_7, e255_8, e255_11, e255_13, e255_14, e255_17, e255_19, e255_22, e255_23, e255_26, e255_28, e255_30, e255_32, e255_33, e255_34, e255_35, e255_36, e255_37, e255_39, e255_40, e255_41, e255_42, e255_44, e255_47, e255_48, e255_50, e255_53, e255_54, e255_57, e255_58, ↓reduceIte, Bool.false_eq_true, not_false_eq_true, not_true_eq_false, Nat.reduceLeDiff, Nat.reduceAdd, Nat.reduceEqDiff, Int.reduceToNat, Int.toNat_natCast, iB0, iB1, ru_klI, ru_klR, ru_klF, ru_klJ, ru_kl0, ru_cs0, ru_csI, ru_csR, ru_csF, ru_csJ, wI_add, wI_sub, wI_mul, wI_lt, wI_le, wI_inj, ru_fdE, ru_fdN, ru_iaN, ru_baN, ru_laN, ru_qaN, ru_pfN, ru_isN, ru_bsN, ru_jsN, ru_qsN, ru_set2, Nat.add_right_cancel_iff, if_true, if_false, ite_self, Int.reduceEq, and_self, Int.add_neg_cancel_right, Int.add_zero, Int.zero_add, cl_e0, e1, e2, m1, m2, wI_nat_and, hb, hpp, wI_div, wI_ne0, k4, d1, wI_and1]
      · have d1 : (2 * w ≤ pp / 2) = True := eq_true (by omega)
        rw [if_neg cc]
        simp (disch := omega) only [en255, e255_0, e255_1, e255_2, e255_5, e255_6, e255_7, e255_8, e255_11, e255_13, e255_14, e255_17, e255_19, e255_22, e255_23, e255_26, e255_28, e255_30, e255_32, e255_33, e255_34, e255_35, e255_36, e255_37, e255_39, e255_40, e255_41, e255_42, e255_44, e255_47, e255_48, e255_50, e255_53, e255_54, e255_57, e255_58, ↓reduceIte, Bool.false_eq_true, not_false_eq_true, not_true_eq_false, Nat.reduceLeDiff, Nat.reduceAdd, Nat.reduceEqDiff, Int.reduceToNat, Int.toNat_natCast, iB0, iB1, ru_klI, ru_klR, ru_klF, ru_klJ, ru_kl0, ru_cs0, ru_csI, ru_csR, ru_csF, ru_csJ, wI_add, wI_sub, wI_mul, wI_lt, wI_le, wI_inj, ru_fdE, ru_fdN, ru_iaN, ru_baN, ru_laN, ru_qaN, ru_pfN, ru_isN, ru_bsN, ru_jsN, ru_qsN, ru_set2, Nat.add_right_cancel_iff, if_true, if_false, ite_self, Int.reduceEq, and_self, Int.add_neg_cancel_right, Int.add_zero, Int.zero_add, cl_e0, e1, e2, m1, m2, wI_nat_and, hb, hpp, wI_div, wI_ne0, k4, d1, wI_and1]
    · rw [oR_n c2] at e2
      refine ⟨rcP C k, 0, C, ?_, Or.inl ⟨by rw [if_pos c1]; exact c2, by rw [if_pos c1], rfl⟩⟩
      rw [oR_n c2]
      simp (disch := omega) only [en255, e255_0, e255_1, e255_2, e255_5, e255_6, e255_7, e255_8, e255_11, e255_13, e255_14, e255_17, e255_19, e255_22, e255_23, e255_26, e255_28, e255_30, e255_32, e255_33, e255_34, e255_35, e255_36, e255_37, e255_39, e255_40, e255_41, e255_42, e255_44, e255_47, e255_48, e255_50, e255_53, e255_54, e255_57, e255_58, ↓reduceIte, Bool.false_eq_true, not_false_eq_true, not_true_eq_false, Nat.reduceLeDiff, Nat.reduceAdd, Nat.reduceEqDiff, Int.reduceToNat, Int.toNat_natCast, iB0, iB1, ru_klI, ru_klR, ru_klF, ru_klJ, ru_kl0, ru_cs0, ru_csI, ru_csR, ru_csF, ru_csJ, wI_add, wI_sub, wI_mul, wI_lt, wI_le, wI_inj, ru_fdE, ru_fdN, ru_iaN, ru_baN, ru_laN, ru_qaN, ru_pfN, ru_isN, ru_bsN, ru_jsN, ru_qsN, ru_set2, Nat.add_right_cancel_iff, if_true, if_false, ite_self, Int.reduceEq, and_self, Int.add_neg_cancel_right, Int.add_zero, Int.zero_add, cl_e0, e1, e2]
  · rw [oR_n c1] at e1
    refine ⟨rcP C f, 0, C, ?_, Or.inl ⟨by rw [if_neg c1]; exact c1, by rw [if_neg c1], rfl⟩⟩
    rw [oR_n c1]
    simp (disch := omega) only [en255, e255_0, e255_1, e255_2, e255_5, e255_6, e255_7, e255_8, e255_11, e255_13, e255_14, e255_17, e255_19, e255_22, e255_23, e255_26, e255_28, e255_30, e255_32, e255_33, e255_34, e255_35, e255_36, e255_37, e255_39, e255_40, e255_41, e255_42, e255_44, e255_47, e255_48, e255_50, e255_53, e255_54, e255_57, e255_58, ↓reduceIte, Bool.false_eq_true, not_false_eq_true, not_true_eq_false, Nat.reduceLeDiff, Nat.reduceAdd, Nat.reduceEqDiff, Int.reduceToNat, Int.toNat_natCast, iB0, iB1, ru_klI, ru_klR, ru_klF, ru_klJ, ru_kl0, ru_cs0, ru_csI, ru_csR, ru_csF, ru_csJ, wI_add, wI_sub, wI_mul, wI_lt, wI_le, wI_inj, ru_fdE, ru_fdN, ru_iaN, ru_baN, ru_laN, ru_qaN, ru_pfN, ru_isN, ru_bsN, ru_jsN, ru_qsN, ru_set2, Nat.add_right_cancel_iff, if_true, if_false, ite_self, Int.reduceEq, and_self, Int.add_neg_cancel_right, Int.add_zero, Int.zero_add, cl_e0, e1]
theorem rfPP_0 {M : tMd} (hM : mdR M) {f k : Int} (e : rfPP M f k = 0) : rfP M f = 0 ∧ rfP M k = 0 ∧ f.toNat < 5 ∧ k.toNat < 5 ∧ ((f.toNat : Nat) : Int) = f ∧ ((k.toNat : Nat) : Int) = k := by
  unfold rfPP at e
  by_cases c : rfP M f = 0
  · rw [if_pos c] at e
    obtain ⟨n, hn, rfl, -⟩ := mph_at hM c
    obtain ⟨m, hm, rfl, -⟩ := mph_at hM e
    exact ⟨c, e, by omega, by omega, rfl, rfl⟩
  · rw [if_neg c] at e; exact absurd e c
def tnV (M : tMd) (f k : Int) : Nat := tnT (mph M f.toNat) (mph M k.toNat) (bsN (nmB (mph M f.toNat)) (M.1 20).toNat &&& bsN (nmB (mph M k.toNat)) (M.1 20).toNat) (M.1 20).toNat
theorem rel_lt {M : tMd} {f : Int} (e : rfP M f = 0) : ((f.toNat : Nat) : Int) < M.1 25 := by
  obtain ⟨-, b, c⟩ := rfP_0 e
  omega
theorem p252 (hM : mdR M) (hn : relN M) {f k : Int} (g : -2147483648 ≤ f ∧ f < 2147483648) (g2 : -2147483648 ≤ k ∧ k < 2147483648) : ru_ev z 252 [.ref 1315, .int (wI f), .int (wI k)] (mdPut h M) = some (.inl (some (.int (wI (if rfPP M f k = 0 then (tnV M f k : Nat) else 0)))), mdPut h (mdT M (rfPP M f k))) := by
  have e := p246 (z := z) (h := h) hM g g2
  by_cases e1 : rfPP M f k = 0
  · obtain ⟨a1, a2, a3, a4, a5, a6⟩ := rfPP_0 hM e1
    simp only [e1, if_true] at e ⊢
    have e2 := p253 (z := z) (h := h) (M := mdT M 0) (f := f.toNat) (k := k.toNat) (mdR_T hM (by omega)) a3 a4 (by rw [mph_T, mdT_n (by decide)]; exact hn _ (rel_lt a1)) (by rw [mph_T, mdT_n (by decide)]; exact hn _ (rel_lt a2))
    rw [a5, a6] at e2
    simp (disch := omega) only [en252, e252_0, e252_1, e252_2, e252_3, e252_6, e252_9, e252_10, e252_13, e252_14, e252_15, e252_16, e252_19, ↓reduceIte, Bool.false_eq_true, not_false_eq_true, not_true_eq_false, Nat.reduceLeDiff, Nat.reduceAdd, Nat.reduceEqDiff, Int.reduceToNat, Int.toNat_natCast, iB0, iB1, ru_klI, ru_klR, ru_klF, ru_klJ, ru_kl0, ru_cs0, ru_csI, ru_csR, ru_csF, ru_csJ, wI_add, wI_sub, wI_mul, wI_lt, wI_le, wI_inj, ru_fdE, ru_fdN, ru_iaN, ru_baN, ru_laN, ru_qaN, ru_pfN, ru_isN, ru_bsN, ru_jsN, ru_qsN, ru_set2, Nat.add_right_cancel_iff, if_true, if_false, ite_self, Int.reduceEq, and_self, Int.add_neg_cancel_right, Int.add_zero, Int.zero_add, md_e, e, e2]
    rfl
  · simp only [e1, if_false] at e ⊢
    simp (disch := omega) only [en252, e252_0, e252_1, e252_2, e252_3, e252_6, e252_9, e252_10, e252_13, e252_14, e252_15, e252_16, e252_19, ↓reduceIte, Bool.false_eq_true, not_false_eq_true, not_true_eq_false, Nat.reduceLeDiff, Nat.reduceAdd, Nat.reduceEqDiff, Int.reduceToNat, Int.toNat_natCast, iB0, iB1, ru_klI, ru_klR, ru_klF, ru_klJ, ru_kl0, ru_cs0, ru_csI, ru_csR, ru_csF, ru_csJ, wI_add, wI_sub, wI_mul, wI_lt, wI_le, wI_inj, ru_fdE, ru_fdN, ru_iaN, ru_baN, ru_laN, ru_qaN, ru_pfN, ru_isN, ru_bsN, ru_jsN, ru_qsN, ru_set2, Nat.add_right_cancel_iff, if_true, if_false, ite_self, Int.reduceEq, and_self, Int.add_neg_cancel_right, Int.add_zero, Int.zero_add, md_e, e]
theorem p256 (hM : mdR M) (hn : relN M) {f k : Int} (g : -2147483648 ≤ f ∧ f < 2147483648) (g2 : -2147483648 ≤ k ∧ k < 2147483648) : ru_ev z 256 [.ref 1315, .int (wI f), .int (wI k)] (mdPut h M) = some (.inl (some (.int (wI (if rfPP M f k = 0 then (if 2 * ((tnV M f k : Nat) : Int) > (pcN (bsN (nmB (mph M f.toNat)) (M.1 20).toNat &&& bsN (nmB (mph M k.toNat)) (M.1 20).toNat) 20 : Nat) * ((pcN (bsN (nmB (mph M f.toNat)) (M.1 20).toNat &&& bsN (nmB (mph M k.toNat)) (M.1 20).toNat) 20 : Nat) - 1) / 2 then 1 else 0) else 0)))), mdPut h (mdT M (rfPP M f k))) := by
  have e := p246 (z := z) (h := h) hM g g2
  by_cases e1 : rfPP M f k = 0
  · obtain ⟨a1, a2, a3, a4, a5, a6⟩ := rfPP_0 hM e1
    simp only [e1, if_true] at e ⊢
    have e2 := p253 (z := z) (h := h) (M := mdT M 0) (f := f.toNat) (k := k.toNat) (mdR_T hM (by omega)) a3 a4 (by rw [mph_T, mdT_n (by decide)]; exact hn _ (rel_lt a1)) (by rw [mph_T, mdT_n (by decide)]; exact hn _ (rel_lt a2))
    have q1 := p247 (z := z) (h := h) (M := mdT M 0) (f := f.toNat) (mdR_T hM (by omega)) a3
    have q2 := p247 (z := z) (h := h) (M := mdT M 0) (f := k.toNat) (mdR_T hM (by omega)) a4
    rw [a5, mph_T, mdT_n (by decide)] at q1
    rw [a6, mph_T, mdT_n (by decide)] at q2
    rw [a5, a6, mph_T, mph_T, mdT_n (by decide)] at e2
    have hN := hM.2.2.2.1
    have r1 : bsN (nmB (mph M f.toNat)) (M.1 20).toNat < 1048576 := by
      have h1 := bsN_lt (nmB (mph M f.toNat)) (M.1 20).toNat
      have h2 : 2 ^ (M.1 20).toNat ≤ 2 ^ 20 := Nat.pow_le_pow_right (by decide) (by omega)
      omega
    have r2 : bsN (nmB (mph M k.toNat)) (M.1 20).toNat < 1048576 := by
      have h1 := bsN_lt (nmB (mph M k.toNat)) (M.1 20).toNat
      have h2 : 2 ^ (M.1 20).toNat ≤ 2 ^ 20 := Nat.pow_le_pow_right (by decide) (by omega)
      omega
    have hs : bsN (nmB (mph M f.toNat)) (M.1 20).toNat &&& bsN (nmB (mph M k.toNat)) (M.1 20).toNat < 1048576 := by
      have := @Nat.and_le_left (bsN (nmB (mph M f.toNat)) (M.1 20).toNat) (bsN (nmB (mph M k.toNat)) (M.1 20).toNat)
      omega
    have hb := p257 (z := z) (h := h) (M := mdT M 0) (s := bsN (nmB (mph M f.toNat)) (M.1 20).toNat &&& bsN (nmB (mph M k.toNat)) (M.1 20).toNat) (by omega)
    have hl := pcN_le (bsN (nmB (mph M f.toNat)) (M.1 20).toNat &&& bsN (nmB (mph M k.toNat)) (M.1 20).toNat) 20
    have hT := tnT_le (mph M f.toNat) (mph M k.toNat) (bsN (nmB (mph M f.toNat)) (M.1 20).toNat &&& bsN (nmB (mph M k.toNat)) (M.1 20).toNat) (M.1 20).toNat (by omega)
    have eV : tnT (mph M f.toNat) (mph M k.toNat) (bsN (nmB (mph M f.toNat)) (M.1 20).toNat &&& bsN (nmB (mph M k.toNat)) (M.1 20).toNat) (M.1 20).toNat = tnV M f k := rfl
    rw [eV] at e2 hT
    generalize hs2 : pcN (bsN (nmB (mph M f.toNat)) (M.1 20).toNat &&& bsN (nmB (mph M k.toNat)) (M.1 20).toNat) 20 = s at *
    have hsr := sh_rng hl
    generalize hpp : (s : Int) * ((s : Int) - 1) = pp at *
    generalize hw : tnV M f k = w at *
    by_cases cc : 2 * (w : Int) > pp / 2
    · have d1 : (2 * (w : Int) ≤ pp / 2) = False := eq_false (by omega)
      rw [if_pos cc]
      simp (disch := omega) only [en256, e256_0, e256_1, e256_2, e256_3, e256_6, e256_9, e256_10, e256_11, e256_12, e256_13, e256_14, e256_17, e256_18, e256_19, e256_22, e256_23, e256_26, e256_27, e256_28, e256_29, e256_30, e256_31, e256_34, e256_35, e256_36, e256_37, e256_38, e256_39, e256_40, e256_41, e256_42, e256_45, e256_46, e256_49, e256_50, ↓reduceIte, Bool.false_eq_true, not_false_eq_true, not_true_eq_false, Nat.reduceLeDiff, Nat.reduceAdd, Nat.reduceEqDiff, Int.reduceToNat, Int.toNat_natCast, iB0, iB1, ru_klI, ru_klR, ru_klF, ru_klJ, ru_kl0, ru_cs0, ru_csI, ru_csR, ru_csF, ru_csJ, wI_add, wI_sub, wI_mul, wI_lt, wI_le, wI_inj, ru_fdE, ru_fdN, ru_iaN, ru_baN, ru_laN, ru_qaN, ru_pfN, ru_isN, ru_bsN, ru_jsN, ru_qsN, ru_set2, Nat.add_right_cancel_iff, if_true, if_false, ite_self, Int.reduceEq, and_self, Int.add_neg_cancel_right, Int.add_zero, Int.zero_add, md_e, e, q1, q2, wI_nat_and, hb, hpp, wI_div, wI_ne0, e2, d1, wI_and1]
    · have d1 : (2 * (w : Int) ≤ pp / 2) = True := eq_true (by omega)
      rw [if_neg cc]
      simp (disch := omega) only [en256, e256_0, e256_1, e256_2, e256_3, e256_6, e256_9, e256_10, e256_11, e256_12, e256_13, e256_14, e256_17, e256_18, e256_19, e256_22, e256_23, e256_26, e256_27, e256_28, e256_29, e256_30, e256_31, e256_34, e256_35, e256_36, e256_37, e256_38, e256_39, e256_40, e256_41, e256_42, e256_45, e256_46, e256_49, e256_50, ↓reduceIte, Bool.false_eq_true, not_false_eq_true, not_true_eq_false, Nat.reduceLeDiff, Nat.reduceAdd, Nat.reduceEqDiff, Int.reduceToNat, Int.toNat_natCast, iB0, iB1, ru_klI, ru_klR, ru_klF, ru_klJ, ru_kl0, ru_cs0, ru_csI, ru_csR, ru_csF, ru_csJ, wI_add, wI_sub, wI_mul, wI_lt, wI_le, wI_inj, ru_fdE, ru_fdN, ru_iaN, ru_baN, ru_laN, ru_qaN, ru_pfN, ru_isN, ru_bsN, ru_jsN, ru_qsN, ru_set2, Nat.add_right_cancel_iff, if_true, if_false, ite_self, Int.reduceEq, and_self, Int.add_neg_cancel_right, Int.add_zero, Int.zero_add, md_e, e, q1, q2, wI_nat_and, hb, hpp, wI_div, wI_ne0, e2, d1, wI_and1]
  · simp only [e1, if_false] at e ⊢
    simp (disch := omega) only [en256, e256_0, e256_1, e256_2, e256_3, e256_6, e256_9, e256_10, e256_11, e256_12, e256_13, e256_14, e256_17, e256_18, e256_19, e256_22, e256_23, e256_26, e256_27, e256_28, e256_29, e256_30, e256_31, e256_34, e256_35, e256_36, e256_37, e256_38, e256_39, e256_40, e256_41, e256_42, e256_45, e256_46, e256_49, e256_50, ↓reduceIte, Bool.false_eq_true, not_false_eq_true, not_true_eq_false, Nat.reduceLeDiff, Nat.reduceAdd, Nat.reduceEqDiff, Int.reduceToNat, Int.toNat_natCast, iB0, iB1, ru_klI, ru_klR, ru_klF, ru_klJ, ru_kl0, ru_cs0, ru_csI, ru_csR, ru_csF, ru_csJ, wI_add, wI_sub, wI_mul, wI_lt, wI_le, wI_inj, ru_fdE, ru_fdN, ru_iaN, ru_baN, ru_laN, ru_qaN, ru_pfN, ru_isN, ru_bsN, ru_jsN, ru_qsN, ru_set2, Nat.add_right_cancel_iff, if_true, if_false, ite_self, Int.reduceEq, and_self, Int.add_neg_cancel_right, Int.add_zero, Int.zero_add, md_e, e, wI_and1]
end IVST
