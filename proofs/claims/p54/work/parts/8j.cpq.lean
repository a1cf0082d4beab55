/-! ===== copyNames: the class ===== -/
section CPQ
variable {z : Bool} {h : am_H} {C : tCl}
def rcQ (C : tCl) (f k : Int) : Nat := if rcP C f = 0 then (if rcP C k = 0 then (if f = k then 3 else 0) else rcP C k) else rcP C f
def cpR (C : tCl) (f k : Int) (t : Nat) (v : Int) (C' : tCl) : Prop := (¬ rcQ C f k = 0 ∧ t = rcQ C f k ∧ C' = C) ∨ (rcQ C f k = 0 ∧ t = 0 ∧ ∃ C1 p1 p2, hsOK C C1 (alb C + 4) ∧ piOK p1 (cph C (cAp C f.toNat)) (C.1 (alb C) 0) ∧ piOK p2 (cph C (cAp C k.toNat)) (C.1 (alb C) 0) ∧ C' = stQ C1 (cAp C f.toNat) p1 p2 (cpG p1 p2 (cph C (cAp C k.toNat)) (mnI (p1.1 1) (p2.1 1)).toNat (cph C (cAp C f.toNat), 0)).1 ∧ v = ((cpG p1 p2 (cph C (cAp C k.toNat)) (mnI (p1.1 1) (p2.1 1)).toNat (cph C (cAp C f.toNat), 0)).2 : Nat))
theorem rcQ_0 {C : tCl} {f k : Int} (e : rcQ C f k = 0) : rcP C f = 0 ∧ rcP C k = 0 ∧ f ≠ k := by
  unfold rcQ at e
  split at e
  · split at e
    · split at e
      · omega
      · exact ⟨by assumption, by assumption, by assumption⟩
    · exact absurd e (by assumption)
  · exact absurd e (by assumption)
theorem c367 (hR : clR C) (hH : hiC C) (hA : phA C) {f k : Int} (g : -2147483648 ≤ f ∧ f < 2147483648) (g2 : -2147483648 ≤ k ∧ k < 2147483648) : ∃ t v C', ru_ev z 367 [.ref 1000, .int (wI f), .int (wI k)] (clPut h C) = oR t (some (.int (wI v))) (clPut h C') (clPut (thr h) C') ∧ cpR C f k t v C' := by
  have e1 := d78 (z := z) (h := h) hR g
  have e2 := d78 (z := z) (h := h) hR g2
  by_cases e : rcP C f = 0
  · rw [oR_0 e] at e1
    by_cases ek : rcP C k = 0
    · rw [oR_0 ek] at e2
      by_cases c : f = k
      · have hq : rcQ C f k = 3 := by unfold rcQ; rw [if_pos e, if_pos ek, if_pos c]
        refine ⟨3, 0, C, ?_, Or.inl ⟨by omega, by rw [hq], rfl⟩⟩
        rw [oR_n (by decide)]
        have d1 : (f = k) = True := eq_true c
        simp (disch := omega) only [en367, e367_0, e367_1, e367_2, e367_5, e367_6, e367_7, e367_8, e367_11, e367_13, e367_14, e367_15, e367_18, e367_21, e367_22, e367_29, e367_30, e367_33, e367_34, e367_37, e367_40, e367_43, e367_44, e367_47, e367_48, e367_49, e367_52, e367_55, e367_58, e367_59, e367_62, e367_64, e367_65, e367_68, e367_71, e367_74, e367_75, e367_77, e367_78, e367_80, e367_82, e367_83, e367_86, e367_89, e367_90, e367_93, e367_96, e367_99, e367_102, e367_104, e367_105, e367_106, e367_108, e367_110, e367_113, e367_114, e367_116, e367_119, e367_122, e367_124, ↓reduceIte, Bool.false_eq_true, not_false_eq_true, not_true_eq_false, Nat.reduceLeDiff, Nat.reduceAdd, Nat.reduceEqDiff, Int.reduceToNat, Int.toNat_natCast, iB0, iB1, ru_klI, ru_klR, ru_klF, ru_klJ, ru_kl0, ru_cs0, ru_csI, ru_csR, ru_csF, ru_csJ, wI_add, wI_sub, wI_mul, wI_lt, wI_le, wI_inj, ru_fdE, ru_fdN, ru_iaN, ru_baN, ru_laN, ru_qaN, ru_pfN, ru_isN, ru_bsN, ru_jsN, ru_qsN, ru_set2, Nat.add_right_cancel_iff, if_true, if_false, ite_self, Int.reduceEq, and_self, Int.add_neg_cancel_right, Int.add_zero, Int.zero_add, cl_e0, e1, e2, d1, cl_thr, not_true]
      · have hq : rcQ C f k = 0 := by unfold rcQ; rw [if_pos e, if_pos ek, if_neg c]
        have d1 : (f = k) = False := eq_false c
        have hf := rcP_5 hR e
        have hk := rcP_5 hR ek
        obtain ⟨x0, x1, x2⟩ : 0 ≤ f ∧ 0 ≤ k ∧ f.toNat ≠ k.toNat := by
          unfold rcP at e ek
          split at e
          · omega
          · split at e
            · split at ek
              · omega
              · split at ek
                · omega
                · omega
            · omega
        have ha := cAp_ph hR.1 hf
        have hb := cAp_ph hR.1 hk
        have hqf := (dph (h := h) hR e).2
        have hqk := (dph (h := h) hR ek).2
        obtain ⟨-, -, -, -, -, -, -, b1, b2⟩ := clA_k hR.1
        obtain ⟨C1, k1, k2⟩ := c113p (z := z) (h := h) hR hH hA hf
        obtain ⟨w1, w2⟩ := hs_ph hR k1 hf
        obtain ⟨w3, w4⟩ := hs_ph hR k1 hk
        have hal : alb C1 = alb C := by
          obtain ⟨s1, s2, s3, -⟩ := k1
          unfold alb; rw [s2]; split
          · rw [rotR_o (by decide)]
          · rfl
        have hgap : C1.1 (alb C) 0 = C.1 (alb C) 0 := by
          obtain ⟨s1, s2, s3, s', t1, t2, t3, t4, t5, t6, t7⟩ := k1
          rw [(t7 (alb C) (by omega)).1 (by omega)]
        have hg9 := hR.2.2.2.1
        have hA1 : clA C1 := by
          have h9 := hR.1
          have h8 : C1.2.2.2 1000 = C.2.2.2 1000 := by
            obtain ⟨s1, s2, s3, -⟩ := k1
            rw [s2]; split
            · rw [rotR_o (by decide)]
            · rfl
          unfold clA at h9 ⊢
          rw [h8]; exact h9
        rw [w1] at k2
        obtain ⟨p1, o1, y1⟩ := k81 (z := z) (h := h) (C := C1) (P := 1070) (Or.inl rfl) ha (by unfold cAp; omega) w2 hqf hg9 (piGet C1 1070)
        rw [piPut_get] at y1
        obtain ⟨p2, o2, y2⟩ := k81 (z := z) (h := h) (C := piPut C1 1070 p1) (P := 1081) (Or.inr rfl) hb (by unfold cAp; omega) (by rw [piPut_ph (by unfold cAp; omega), w4]) hqk hg9 (piGet (piPut C1 1070 p1) 1081)
        rw [piPut_get] at y2
        have hF1 := clF (C := C1) hA1 (h := h)
        rw [hal, hgap] at hF1
        have hF2 := clF (C := piPut C1 1070 p1) hA1 (h := h)
        rw [show alb (piPut C1 1070 p1) = alb C from hal, piPut_1 (by omega), hgap] at hF2
        have r1 := pi_rc o1
        have r2 := pi_rc o2
        have hmn : mnI (p1.1 1) (p2.1 1) = ((mnI (p1.1 1) (p2.1 1)).toNat : Nat) := by
          have : 0 ≤ mnI (p1.1 1) (p2.1 1) := by unfold mnI; split <;> omega
          omega
        have kl := c367l (z := z) (h := h) (C := C1) (p1 := p1) (p2 := p2) (l1 := wI f) (l2 := wI k) ha hb (by unfold cAp; omega) (by unfold cAp; omega) (by unfold cAp; omega) hqf (fun c hc => cph_hi _ _ c hc) w4 hqk o1 o2 hmn (mnI (p1.1 1) (p2.1 1)).toNat 0 (by omega)
        have e0 : stQ C1 (cAp C f.toNat) p1 p2 (cph C (cAp C f.toNat)) = piPut (piPut C1 1070 p1) 1081 p2 := by unfold stQ; rw [w1]
        rw [show (cpG p1 p2 (cph C (cAp C k.toNat)) 0 (cph C (cAp C f.toNat), 0)).1 = cph C (cAp C f.toNat) from rfl, e0, show (((cpG p1 p2 (cph C (cAp C k.toNat)) 0 (cph C (cAp C f.toNat), 0)).2 : Nat) : Int) = 0 from rfl, show ((0 : Nat) : Int) = 0 from rfl] at kl
        refine ⟨0, _, _, ?_, Or.inr ⟨hq, rfl, C1, p1, p2, k1, o1, o2, rfl, rfl⟩⟩
        rw [oR_0 rfl]
        simp (disch := omega) only [e367_0, e367_1, e367_2, e367_5, e367_6, e367_7, e367_8, e367_11, e367_13, e367_14, e367_15, e367_18, e367_21, e367_22, e367_29, e367_30, e367_33, e367_34, e367_37, e367_40, e367_43, e367_44, e367_47, e367_48, e367_49, e367_52, e367_55, e367_58, e367_59, e367_62, e367_64, e367_65, e367_68, e367_71, e367_74, e367_75, e367_77, e367_78, en367, ↓reduceIte, Bool.false_eq_true, not_false_eq_true, not_true_eq_false, Nat.reduceLeDiff, Nat.reduceAdd, Nat.reduceEqDiff, Int.reduceToNat, Int.toNat_natCast, iB0, iB1, ru_klI, ru_klR, ru_klF, ru_klJ, ru_kl0, ru_cs0, ru_csI, ru_csR, ru_csF, ru_csJ, wI_add, wI_sub, wI_mul, wI_lt, wI_le, wI_inj, ru_fdE, ru_fdN, ru_iaN, ru_baN, ru_laN, ru_qaN, ru_pfN, ru_isN, ru_bsN, ru_jsN, ru_qsN, ru_set2, Nat.add_right_cancel_iff, if_true, if_false, ite_self, Int.reduceEq, and_self, Int.add_neg_cancel_right, Int.add_zero, Int.zero_add, cl_e0, cl_g0_6, cl_g0_4, cl_g0_5, clF hR.1, e1, e2, d1, k2, hF1, hF2, y1, y2, not_false_iff]
        exact kl
    · have hq : rcQ C f k = rcP C k := by unfold rcQ; rw [if_pos e, if_neg ek]
      rw [oR_n ek] at e2
      refine ⟨rcP C k, 0, C, ?_, Or.inl ⟨by omega, by rw [hq], rfl⟩⟩
      rw [oR_n ek]
      simp (disch := omega) only [en367, e367_0, e367_1, e367_2, e367_5, e367_6, e367_7, e367_8, e367_11, e367_13, e367_14, e367_15, e367_18, e367_21, e367_22, e367_29, e367_30, e367_33, e367_34, e367_37, e367_40, e367_43, e367_44, e367_47, e367_48, e367_49, e367_52, e367_55, e367_58, e367_59, e367_62, e367_64, e367_65, e367_68, e367_71, e367_74, e367_75, e367_77, e367_78, e367_80, e367_82, e367_83, e367_86, e367_89, e367_90, e367_93, e367_96, e367_99, e367_102, e367_104, e367_105, e367_106, e367_108, e367_110, e367_113, e367_114, e367_116, e367_119, e367_122, e367_124, ↓reduceIte, Bool.false_eq_true, not_false_eq_true, not_true_eq_false, Nat.reduceLeDiff, Nat.reduceAdd, Nat.reduceEqDiff, Int.reduceToNat, Int.toNat_natCast, iB0, iB1, ru_klI, ru_klR, ru_klF, ru_klJ, ru_kl0, ru_cs0, ru_csI, ru_csR, ru_csF, ru_csJ, wI_add, wI_sub, wI_mul, wI_lt, wI_le, wI_inj, ru_fdE, ru_fdN, ru_iaN, ru_baN, ru_laN, ru_qaN, ru_pfN, ru_isN, ru_bsN, ru_jsN, ru_qsN, ru_set2, Nat.add_right_cancel_iff, if_true, if_false, ite_self, Int.reduceEq, and_self, Int.add_neg_cancel_right, Int.add_zero, Int.zero_add, cl_e0, e1, e2]
  · have hq : rcQ C f k = rcP C f := by unfold rcQ; rw [if_neg e]
    rw [oR_n e] at e1
    refine ⟨rcP C f, 0, C, ?_, Or.inl ⟨by omega, by rw [hq], rfl⟩⟩
    rw [oR_n e]
    simp (disch := omega) only [en367, e367_0, e367_1, e367_2, e367_5, e367_6, e367_7, e367_8, e367_11, e367_13, e367_14, e367_15, e367_18, e367_21, e367_22, e367_29, e367_30, e367_33, e367_34, e367_37, e367_40, e367_43, e367_44, e367_47, e367_48, e367_49, e367_52, e367_55, e367_58, e367_59, e367_62, e367_64, e367_65, e367_68, e367_71, e367_74, e367_75, e367_77, e367_78, e367_80, e367_82, e367_83, e367_86, e367_89, e367_90, e367_93, e367_96, e367_99, e367_102, e367_104, e367_105, e367_106, e367_108, e367_110, e367_113, e367_114, e367_116, e367_119, e367_122, e367_124, ↓reduceIte, Bool.false_eq_true, not_false_eq_true, not_true_eq_false, Nat.reduceLeDiff, Nat.reduceAdd, Nat.reduceEqDiff, Int.reduceToNat, Int.toNat_natCast, iB0, iB1, ru_klI, ru_klR, ru_klF, ru_klJ, ru_kl0, ru_cs0, ru_csI, ru_csR, ru_csF, ru_csJ, wI_add, wI_sub, wI_mul, wI_lt, wI_le, wI_inj, ru_fdE, ru_fdN, ru_iaN, ru_baN, ru_laN, ru_qaN, ru_pfN, ru_isN, ru_bsN, ru_jsN, ru_qsN, ru_set2, Nat.add_right_cancel_iff, if_true, if_false, ite_self, Int.reduceEq, and_self, Int.add_neg_cancel_right, Int.add_zero, Int.zero_add, cl_e0, e1]
end CPQ
