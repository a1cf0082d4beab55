/-! ===== a state kept: the relation stays; restore: both sides ===== -/
theorem ch_sv {C D : tCl} {M : tMd} {s : Nat} (h : coI C M) (ha : M.1 1 = 1) (hs : s < 2) (k : cpS C D (1261 + 27 * s) (alb C + 4)) : coI D (M.1, upC (upC M.2 1 (lyF (M.2 1) (M.2 0) (7 + s) 270)) 2 (up1 (M.2 2) s 1)) ∧ chC C D ∧ chM M (M.1, upC (upC M.2 1 (lyF (M.2 1) (M.2 0) (7 + s) 270)) 2 (up1 (M.2 2) s 1)) := by
  obtain ⟨i1, i2⟩ := coI_st h ha
  obtain ⟨hR, hA, hM, hr, hnn, hG, hH, hSv, hg⟩ := h
  obtain ⟨-, -, -, -, hst, -, -, a1, a2⟩ := clA_k hR.1
  obtain ⟨b1, b2, b3⟩ := slot_k hs
  have h5 := hM.2.2.2.2.1
  have h4 := hM.2.2.1
  obtain ⟨k1, k2, k3, k4⟩ := k
  have hr2 : D.2.2.2 = C.2.2.2 := by rw [k4]
  have hal : alb D = alb C := by unfold alb; rw [hr2]
  have hcA : ∀ f, cAp D f = cAp C f := fun f => by unfold cAp; rw [hal]
  have hcP : cPm D = cPm C := by unfold cPm; rw [hal, (k3 _ (by omega)).1]
  have hcN : cNm D = cNm C := by unfold cNm; rw [hal, (k3 _ (by omega)).1]
  have hgap : D.1 (alb D) 0 = C.1 (alb C) 0 := by rw [hal, (k3 _ (by omega)).1]
  have hrel := hr.1
  rw [if_neg (by omega)] at hrel
  have hst0 : ∀ t, isSt t → t ≠ 1261 + 27 * s → t + 26 < 1261 + 27 * s ∨ 1261 + 27 * s + 26 < t := fun t ht hne => isSt_sep ht b1 hne
  have hphs : ∀ t, isSt t → t ≠ 1261 + 27 * s → ∀ f, f < 5 → cph D (t + 2 + 5 * f) = cph C (t + 2 + 5 * f) := fun t ht hne f hf => by
    have := hst0 t ht hne
    exact cph_eq (k3 _ (by omega)).1 (fun c hc => (k3 _ (by omega)).2)
  have happ : ∀ f, f < 5 → cph D (cAp C f) = cph C (cAp C f) := fun f hf => hphs (alb C + 4) hst (by omega) f hf
  generalize hN : (M.1, upC (upC M.2 1 (lyF (M.2 1) (M.2 0) (7 + s) 270)) 2 (up1 (M.2 2) s 1)) = N
  have n1 : N.1 = M.1 := by rw [← hN]
  have n0 : N.2 0 = M.2 0 := by rw [← hN]; rfl
  have n8 : N.2 8 = M.2 8 := by rw [← hN]; rfl
  have n9 : N.2 9 = M.2 9 := by rw [← hN]; rfl
  have nn1 : N.2 1 = lyF (M.2 1) (M.2 0) (7 + s) 270 := by rw [← hN]; rfl
  have n2 : N.2 2 = up1 (M.2 2) s 1 := by rw [← hN]; rfl
  have hmp : ∀ f, mph N f = mph M f := fun f => by rw [mph_f, mph_f, n0, n8, n9]
  have hg1 : rgI N := by
    refine ⟨fun j => by rw [n0]; exact hg.1 j, fun j => ?_, fun f => by rw [n8]; exact hg.2.2.1 f, fun f => by rw [n9]; exact hg.2.2.2.1 f, fun f hf => ?_⟩
    · rw [nn1]
      unfold lyF
      split
      · exact hg.1 _
      · exact hg.2.1 _
    · rw [n1] at hf; rw [n8, n9]; exact hg.2.2.2.2 f hf
  have hM1 : mdR N := by
    refine ⟨by rw [n1]; exact hM.1, by rw [n1]; exact hM.2.1, by rw [n1]; exact hM.2.2.1, by rw [n1]; exact hM.2.2.2.1, by rw [n1]; exact hM.2.2.2.2.1, by rw [n1]; exact hM.2.2.2.2.2.1, fun f hf => by rw [hmp]; exact hM.2.2.2.2.2.2 f hf⟩
  have hlay : ∀ st, st < 7 + s ∨ 7 + s < st → ∀ j, j < 270 → stM M st j = stM N st j := fun st hst j hj => by
    unfold stM
    rw [nn1]
    unfold lyF
    rw [if_neg (by omega)]
  have hnew : ∀ j, j < 270 → M.2 0 j = stM N (7 + s) j := fun j hj => by
    unfold stM
    rw [nn1]
    unfold lyF
    rw [if_pos (by omega)]
    exact congrArg (M.2 0) (by omega)
  have n25 : N.1 25 = M.1 25 := by rw [n1]
  have n20 : N.1 20 = M.1 20 := by rw [n1]
  have n11 : N.1 1 = M.1 1 := by rw [n1]
  have n14 : N.1 4 = M.1 4 := by rw [n1]
  refine ⟨⟨⟨?_, by rw [hcP]; exact hR.2.1, by rw [hcN]; exact hR.2.2.1, by rw [hgap]; exact hR.2.2.2.1, fun i hi => by rw [hcA, happ i hi]; exact hR.2.2.2.2 i hi⟩, ⟨fun t ht i hi => ?_, ?_⟩, hM1, ?_, fun f hf => by rw [hmp, n20]; exact hnn f (by rw [← n25]; exact hf), by rw [hgap, hG, n1], ⟨⟨fun i hi => by rw [hr2]; exact hH.1.1 i hi, fun i j hi hj he => by rw [hr2] at he; exact hH.1.2.1 i j hi hj he, by rw [(k3 1092 (by omega)).1]; exact hH.1.2.2⟩, fun c => by omega, by rw [(k3 1092 (by omega)).1, n14]; exact hH.2.2.1, fun i hi => ?_⟩, fun s0 hs0 => ?_, hg1⟩, ⟨by rw [k4], by rw [hr2], by rw [hr2], by rw [hr2], (k3 _ (by omega)).1, (k3 _ (by omega)).1, (k3 _ (by omega)).2, (k3 _ (by omega)).1⟩, ⟨fun k _ _ _ _ => by rw [n1], fun c hc0 hc1 hc2 _ _ _ _ => by rw [← hN]; show upC (upC M.2 1 _) 2 _ c = M.2 c; rw [upC_n hc2, upC_n hc1]⟩⟩
  · have := hR.1
    unfold clA at this ⊢
    rw [hr2]; exact this
  · by_cases e : t = 1261 + 27 * s
    · subst e; exact (k2 i hi).2
    · rw [hphs t ht e i hi]; exact hA.1 t ht i hi
  · rw [cph_eq (C := C) (k3 1065 (by omega)).1 (fun c hc => (k3 _ (by omega)).2)]; exact hA.2
  · refine ⟨by rw [hcP, n11, n25]; exact hr.1, by rw [hcN, n11, n20]; exact hr.2.1, by rw [n11, n25]; exact hr.2.2.1, fun f hf => ?_, ?_, ?_, ?_, ?_⟩
    · rw [hcP] at hf
      have hf5 : f < 5 := by have := hR.2.1; omega
      rw [hcA, happ f hf5, hmp]
      exact hr.2.2.2.1 f hf
    · rw [(k3 1001 (by omega)).1, n1]; exact hr.2.2.2.2.1
    · rw [(k3 1001 (by omega)).1, n1]; exact hr.2.2.2.2.2.1
    · rw [(k3 1001 (by omega)).1, n1]; exact hr.2.2.2.2.2.2.1
    · rw [(k3 1092 (by omega)).1, n1]; exact hr.2.2.2.2.2.2.2
  · rw [n14] at hi
    obtain ⟨w1, w2⟩ := hH.2.2.2 i hi
    have hs1 := hH.1.1 i (by omega)
    rw [hr2]
    have g1 : stEq D N (C.2.2.2 1093 i) (stM M (1 + i)) := stEq_of w1 n25 n8 n9 (by rw [(k3 _ (by omega)).1]) h5.2 (fun f hf => hphs _ hs1.1 (by omega) f hf)
    have hl := hlay (1 + i) (by omega)
    exact ⟨stEq_congr hl (by omega) w2.1 g1, gdS_congr hl (by omega) (gdS_of w2 n25 n20 n8 n9)⟩
  · obtain ⟨v1, v2, v3, v4, v5⟩ := hSv s0 hs0
    obtain ⟨c1, -, -⟩ := slot_k hs0
    by_cases e : s0 = s
    · subst e
      have e2 : N.2 2 s0 = 1 := by rw [n2, up1_e]
      refine ⟨by rw [hr2]; exact v1, Or.inr e2, fun c => by omega, fun c => by omega, fun _ => ?_⟩
      have g1 : stEq D N (1261 + 27 * s0) (M.2 0) := by
        refine ⟨by rw [k1, i1.1, n25], fun f hf => ?_⟩
        rw [n25] at hf
        rw [n8, n9]
        exact phS_tr (k2 f (by omega)).1 (i1.2 f hf) (k2 f (by omega)).2
      exact ⟨stEq_congr hnew (by omega) i2.1 g1, gdS_congr hnew (by omega) (gdS_of i2 n25 n20 n8 n9)⟩
    · have e2 : N.2 2 s0 = M.2 2 s0 := by rw [n2, up1_n e]
      have hsep := hst0 _ c1 (by omega)
      refine ⟨by rw [hr2]; exact v1, by rw [e2]; exact v2, fun c => by omega, fun c => ?_, fun c => ?_⟩
      · rw [(k3 _ (by omega)).1]; rw [e2] at c; exact v4 c
      · rw [e2] at c
        obtain ⟨w1, w2⟩ := v5 c
        have g1 : stEq D N (1261 + 27 * s0) (stM M (7 + s0)) := stEq_of w1 n25 n8 n9 (by rw [(k3 _ (by omega)).1]) h5.2 (fun f hf => hphs _ c1 (by omega) f hf)
        have hl := hlay (7 + s0) (by omega)
        exact ⟨stEq_congr hl (by omega) w2.1 g1, gdS_congr hl (by omega) (gdS_of w2 n25 n20 n8 n9)⟩
section SVC
variable {z : Bool} {h : am_H} {C : tCl} {M : tMd}
def rsR (C : tCl) (s : Int) (t : Nat) (v : Int) (C' : tCl) : Prop := (¬ (0 ≤ s ∧ s < 2) ∧ t = 2 ∧ C' = C) ∨ ((0 ≤ s ∧ s < 2) ∧ C.1 (1261 + 27 * s.toNat) 0 = 0 ∧ t = 1 ∧ C' = C) ∨ ((0 ≤ s ∧ s < 2) ∧ ¬ C.1 (1261 + 27 * s.toNat) 0 = 0 ∧ t = 0 ∧ (∃ D, cpS C D (alb C + 4) (1261 + 27 * s.toNat) ∧ C' = upI D 1092 0 0 ∧ v = (smF (snC D (alb C + 4)) (C.1 (1261 + 27 * s.toNat) 0).toNat : Nat)))
theorem c383 (hR : clR C) (hA : phA C) (hq : ∀ s, s < 2 → C.2.2.2 1256 s = 1261 + 27 * s) (hb : ∀ s, s < 2 → 0 ≤ C.1 (1261 + 27 * s) 0 ∧ C.1 (1261 + 27 * s) 0 ≤ 5) {s : Int} (g : -2147483648 ≤ s ∧ s < 2147483648) : ∃ t v C', ru_ev z 383 [.ref 1000, .int (wI s)] (clPut h C) = oR t (some (.int (wI v))) (clPut h C') (clPut (thr h) C') ∧ rsR C s t v C' := by
  obtain ⟨-, -, -, -, hst, -, -, a1, a2⟩ := clA_k hR.1
  have e2 := k378 (z := z) (h := clPut h C) g
  by_cases c : 0 ≤ s ∧ s < 2
  · rw [if_pos c, oR_0 rfl] at e2
    obtain ⟨n, rfl⟩ := Int.eq_ofNat_of_zero_le c.1
    have hn : n < 2 := by omega
    obtain ⟨b1, b2, b3⟩ := slot_k hn
    obtain ⟨s1, s2, s3, s4⟩ := isSt_k b1
    have hq2 := hq n hn
    have hb2 := hb n hn
    have q6 := fun (D : tCl) (hD : D.2.2 = C.2.2) => cl_q6 (h := h) (C := D) b2 (by decide) (i := (n : Int)) (by omega) (by rw [b3]; omega) (by omega)
    have q6 := q6 C rfl
    rw [Int.toNat_natCast, hq2] at q6
    have f9 := cl_f9_0 (h := h) (C := C) s1 (by omega)
    by_cases e : C.1 (1261 + 27 * n) 0 = 0
    · refine ⟨1, 0, C, ?_, Or.inr (Or.inl ⟨c, by rw [Int.toNat_natCast]; exact e, rfl, rfl⟩)⟩
      rw [oR_n (by decide)]
      have d1 : (C.1 (1261 + 27 * n) 0 = 0) = True := eq_true e
      simp (disch := omega) only [en383, e383_0, e383_1, e383_4, e383_5, e383_8, e383_9, e383_10, e383_13, e383_16, e383_19, e383_20, e383_27, e383_28, e383_31, e383_34, e383_35, e383_38, e383_39, e383_40, e383_43, e383_44, e383_47, e383_50, e383_51, e383_54, e383_57, e383_60, ↓reduceIte, Bool.false_eq_true, not_false_eq_true, not_true_eq_false, Nat.reduceLeDiff, Nat.reduceAdd, Nat.reduceEqDiff, Int.reduceToNat, Int.toNat_natCast, iB0, iB1, ru_klI, ru_klR, ru_klF, ru_klJ, ru_kl0, ru_cs0, ru_csI, ru_csR, ru_csF, ru_csJ, wI_add, wI_sub, wI_mul, wI_lt, wI_le, wI_inj, ru_fdE, ru_fdN, ru_iaN, ru_baN, ru_laN, ru_qaN, ru_pfN, ru_isN, ru_bsN, ru_jsN, ru_qsN, ru_set2, Nat.add_right_cancel_iff, if_true, if_false, ite_self, Int.reduceEq, and_self, Int.add_neg_cancel_right, Int.add_zero, Int.zero_add, cl_e0, cl_g0_7, e2, q6, f9, d1, not_true, cl_thr]
    · have d1 : (C.1 (1261 + 27 * n) 0 = 0) = False := eq_false e
      obtain ⟨D, k1, k2⟩ := k115 (z := z) (h := h) (C := C) hst b1 (by omega) (fun i hi => hR.2.2.2.2 i hi) (fun i hi => hA.1 _ b1 i hi)
      have hal : alb (upI D 1092 0 0) = alb C := by unfold alb; show D.2.2.2 1000 1 = _; rw [k1.2.2.2]
      have hF0 := clF (C := D) (by have := hR.1; unfold clA at this ⊢; rw [k1.2.2.2]; exact this) (h := h)
      have hal0 : alb D = alb C := by unfold alb; rw [k1.2.2.2]
      rw [hal0] at hF0
      have hF := clF (C := upI D 1092 0 0) (by have := hR.1; unfold clA at this ⊢; show (D.2.2.2 1000 1 = 1003 ∧ D.2.2.2 1000 2 = 1034) ∨ (D.2.2.2 1000 1 = 1034 ∧ D.2.2.2 1000 2 = 1003); rw [k1.2.2.2]; exact this) (h := h)
      rw [hal] at hF
      have k4 : ru_ev z 51 [.ref 1092] (clPut h D) = some (.inl none, clPut h (upI D 1092 0 0)) := by
        simp (disch := omega) only [en51, e51_0, e51_1, e51_2, e51_5, ↓reduceIte, Bool.false_eq_true, not_false_eq_true, not_true_eq_false, Nat.reduceLeDiff, Nat.reduceAdd, Nat.reduceEqDiff, Int.reduceToNat, Int.toNat_natCast, iB0, iB1, ru_klI, ru_klR, ru_klF, ru_klJ, ru_kl0, ru_cs0, ru_csI, ru_csR, ru_csF, ru_csJ, wI_add, wI_sub, wI_mul, wI_lt, wI_le, wI_inj, ru_fdE, ru_fdN, ru_iaN, ru_baN, ru_laN, ru_qaN, ru_pfN, ru_isN, ru_bsN, ru_jsN, ru_qsN, ru_set2, Nat.add_right_cancel_iff, if_true, if_false, ite_self, Int.reduceEq, and_self, Int.add_neg_cancel_right, Int.add_zero, Int.zero_add, cl_e5, cl_q5_0]
      have hph : ∀ i, i < 5 → cph (upI D 1092 0 0) (alb C + 4 + 2 + 5 * i) = cph D (alb C + 4 + 2 + 5 * i) := fun i hi => upI_ph (by omega)
      have hcn : (upI D 1092 0 0).1 (alb C + 4) 0 = ((C.1 (1261 + 27 * n) 0).toNat : Nat) := by
        rw [upI_n (by omega), k1.1]; omega
      have k3 := k379 (z := z) (h := h) (C := upI D 1092 0 0) hst hcn (by omega) (fun i hi => by rw [hph i hi]; exact (k1.2.1 i hi).2)
      rw [smF_congr (g := snC D (alb C + 4)) _ (fun i hi => by unfold snC; rw [hph i (by omega)])] at k3
      refine ⟨0, _, upI D 1092 0 0, ?_, Or.inr (Or.inr ⟨c, by rw [Int.toNat_natCast]; exact e, rfl, D, by rw [Int.toNat_natCast]; exact k1, rfl, rfl⟩)⟩
      rw [oR_0 rfl, Int.toNat_natCast]
      simp (disch := omega) only [en383, e383_0, e383_1, e383_4, e383_5, e383_8, e383_9, e383_10, e383_13, e383_16, e383_19, e383_20, e383_27, e383_28, e383_31, e383_34, e383_35, e383_38, e383_39, e383_40, e383_43, e383_44, e383_47, e383_50, e383_51, e383_54, e383_57, e383_60, ↓reduceIte, Bool.false_eq_true, not_false_eq_true, not_true_eq_false, Nat.reduceLeDiff, Nat.reduceAdd, Nat.reduceEqDiff, Int.reduceToNat, Int.toNat_natCast, iB0, iB1, ru_klI, ru_klR, ru_klF, ru_klJ, ru_kl0, ru_cs0, ru_csI, ru_csR, ru_csF, ru_csJ, wI_add, wI_sub, wI_mul, wI_lt, wI_le, wI_inj, ru_fdE, ru_fdN, ru_iaN, ru_baN, ru_laN, ru_qaN, ru_pfN, ru_isN, ru_bsN, ru_jsN, ru_qsN, ru_set2, Nat.add_right_cancel_iff, if_true, if_false, ite_self, Int.reduceEq, and_self, Int.add_neg_cancel_right, Int.add_zero, Int.zero_add, cl_e0, cl_g0_7, cl_g0_6, clF hR.1, e2, q6, f9, d1, not_false_iff, k2, k4, hF0, hF, k3]
  · rw [if_neg c, oR_n (by decide)] at e2
    refine ⟨2, 0, C, ?_, Or.inl ⟨c, rfl, rfl⟩⟩
    rw [oR_n (by decide)]
    simp (disch := omega) only [en383, e383_0, e383_1, e383_4, e383_5, e383_8, e383_9, e383_10, e383_13, e383_16, e383_19, e383_20, e383_27, e383_28, e383_31, e383_34, e383_35, e383_38, e383_39, e383_40, e383_43, e383_44, e383_47, e383_50, e383_51, e383_54, e383_57, e383_60, ↓reduceIte, Bool.false_eq_true, not_false_eq_true, not_true_eq_false, Nat.reduceLeDiff, Nat.reduceAdd, Nat.reduceEqDiff, Int.reduceToNat, Int.toNat_natCast, iB0, iB1, ru_klI, ru_klR, ru_klF, ru_klJ, ru_kl0, ru_cs0, ru_csI, ru_csR, ru_csF, ru_csJ, wI_add, wI_sub, wI_mul, wI_lt, wI_le, wI_inj, ru_fdE, ru_fdN, ru_iaN, ru_baN, ru_laN, ru_qaN, ru_pfN, ru_isN, ru_bsN, ru_jsN, ru_qsN, ru_set2, Nat.add_right_cancel_iff, if_true, if_false, ite_self, Int.reduceEq, and_self, Int.add_neg_cancel_right, Int.add_zero, Int.zero_add, cl_e0, e2]
    rfl
def rsM (M : tMd) (s : Int) (b : Int) (M' : tMd) : Prop := (¬ (0 ≤ s ∧ s < 2) ∧ M' = mdT M 1) ∨ ((0 ≤ s ∧ s < 2) ∧ M.2 2 s.toNat = 0 ∧ M' = mdT M 2) ∨ ((0 ≤ s ∧ s < 2) ∧ M.2 2 s.toNat = 1 ∧ b = (smF (inM (M.1, upC M.2 0 (feF (M.2 0) (M.2 1) (7 + s.toNat) 270))) (M.1 25).toNat : Nat) ∧ M' = (up1 (mdT M 0).1 4 0, upC (mdT M 0).2 0 (feF (M.2 0) (M.2 1) (7 + s.toNat) 270)))
theorem p384 (hM : mdR M) (hb : ∀ s, s < 2 → M.2 2 s = 0 ∨ M.2 2 s = 1) (hrr : ∀ s, s < 2 → M.2 2 s = 1 → ∀ f, f < 5 → phR (msf (feF (M.2 0) (M.2 1) (7 + s) 270) (M.2 8) (M.2 9) f)) {s : Int} (g : -2147483648 ≤ s ∧ s < 2147483648) : ∃ b M', ru_ev z 384 [.ref 1315, .int (wI s)] (mdPut h M) = some (.inl (some (.int (wI b))), mdPut h M') ∧ rsM M s b M' := by
  have h5 := hM.2.2.2.2.1
  by_cases c : 0 ≤ s ∧ s < 2
  · obtain ⟨n, rfl⟩ := Int.eq_ofNat_of_zero_le c.1
    have hn : n < 2 := by omega
    have ein : (0 ≤ (n : Int) ∧ (n : Int) ≤ 1) = True := eq_true (by omega)
    have a2 : ∀ t, am_ba (mdPut h (mdT M t)) 1318 (wI (n : Int)) = some (wI (M.2 2 n)) := fun t => by rw [md_a2 (by omega) (by omega), Int.toNat_natCast]; rfl
    rcases hb n hn with e | e
    · refine ⟨0, mdT M 2, ?_, Or.inr (Or.inl ⟨c, by rw [Int.toNat_natCast]; exact e, rfl⟩)⟩
      rw [e] at a2
      simp (disch := omega) only [en384, e384_0, e384_1, e384_2, e384_5, e384_6, e384_7, e384_8, e384_9, e384_12, e384_15, e384_16, e384_19, e384_20, e384_21, e384_24, e384_27, e384_28, e384_29, e384_32, e384_33, e384_34, e384_37, e384_38, e384_41, e384_42, e384_43, e384_46, e384_49, e384_50, e384_51, e384_52, e384_54, e384_55, e384_56, e384_59, e384_60, e384_61, e384_64, e384_65, e384_68, ↓reduceIte, Bool.false_eq_true, not_false_eq_true, not_true_eq_false, Nat.reduceLeDiff, Nat.reduceAdd, Nat.reduceEqDiff, Int.reduceToNat, Int.toNat_natCast, iB0, iB1, ru_klI, ru_klR, ru_klF, ru_klJ, ru_kl0, ru_cs0, ru_csI, ru_csR, ru_csF, ru_csJ, wI_add, wI_sub, wI_mul, wI_lt, wI_le, wI_inj, ru_fdE, ru_fdN, ru_iaN, ru_baN, ru_laN, ru_qaN, ru_pfN, ru_isN, ru_bsN, ru_jsN, ru_qsN, ru_set2, Nat.add_right_cancel_iff, if_true, if_false, ite_self, Int.reduceEq, and_self, Int.add_neg_cancel_right, Int.add_zero, Int.zero_add, md_e, md_s0, m53, ein, p54, not_true, if_true, md_f5, a2, if_false, mdT_T]
    · have e3 := p152 (z := z) (h := h) (M := mdT M 0) (st := 7 + n) (by omega)
      rw [show (((7 + n : Nat)) : Int) = 7 + (n : Int) by omega] at e3
      have e4 := p381 (z := z) (h := h) (M := (up1 (mdT M 0).1 4 0, upC (mdT M 0).2 0 (feF (M.2 0) (M.2 1) (7 + n) 270))) (n := (M.1 25).toNat) (by show M.1 25 = _; omega) (by omega) (fun i hi => hrr n hn e i (by omega))
      have e5 : smF (inM (up1 (mdT M 0).1 4 0, upC (mdT M 0).2 0 (feF (M.2 0) (M.2 1) (7 + n) 270))) (M.1 25).toNat = smF (inM (M.1, upC M.2 0 (feF (M.2 0) (M.2 1) (7 + n) 270))) (M.1 25).toNat := smF_congr _ (fun i hi => rfl)
      rw [e5] at e4
      refine ⟨_, _, ?_, Or.inr (Or.inr ⟨c, by rw [Int.toNat_natCast]; exact e, rfl, rfl⟩)⟩
      rw [Int.toNat_natCast]
      rw [e] at a2
      have e3' : ru_ev z 152 [.ref 1315, .int (wI (7 + (n : Int)))] (mdPut h (mdT M 0)) = some (.inl none, mdPut h ((mdT M 0).1, upC (mdT M 0).2 0 (feF (M.2 0) (M.2 1) (7 + n) 270))) := e3
      simp (disch := omega) only [en384, e384_0, e384_1, e384_2, e384_5, e384_6, e384_7, e384_8, e384_9, e384_12, e384_15, e384_16, e384_19, e384_20, e384_21, e384_24, e384_27, e384_28, e384_29, e384_32, e384_33, e384_34, e384_37, e384_38, e384_41, e384_42, e384_43, e384_46, e384_49, e384_50, e384_51, e384_52, e384_54, e384_55, e384_56, e384_59, e384_60, e384_61, e384_64, e384_65, e384_68, ↓reduceIte, Bool.false_eq_true, not_false_eq_true, not_true_eq_false, Nat.reduceLeDiff, Nat.reduceAdd, Nat.reduceEqDiff, Int.reduceToNat, Int.toNat_natCast, iB0, iB1, ru_klI, ru_klR, ru_klF, ru_klJ, ru_kl0, ru_cs0, ru_csI, ru_csR, ru_csF, ru_csJ, wI_add, wI_sub, wI_mul, wI_lt, wI_le, wI_inj, ru_fdE, ru_fdN, ru_iaN, ru_baN, ru_laN, ru_qaN, ru_pfN, ru_isN, ru_bsN, ru_jsN, ru_qsN, ru_set2, Nat.add_right_cancel_iff, if_true, if_false, ite_self, Int.reduceEq, and_self, Int.add_neg_cancel_right, Int.add_zero, Int.zero_add, md_e, md_s0, md_s4, m53, ein, p54, not_true, not_false_iff, if_true, if_false, md_f5, a2, mdT_T, e3', e4]
  · have ein : (0 ≤ s ∧ s ≤ 1) = False := eq_false (by omega)
    refine ⟨0, mdT M 1, ?_, Or.inl ⟨c, rfl⟩⟩
    simp (disch := omega) only [en384, e384_0, e384_1, e384_2, e384_5, e384_6, e384_7, e384_8, e384_9, e384_12, e384_15, e384_16, e384_19, e384_20, e384_21, e384_24, e384_27, e384_28, e384_29, e384_32, e384_33, e384_34, e384_37, e384_38, e384_41, e384_42, e384_43, e384_46, e384_49, e384_50, e384_51, e384_52, e384_54, e384_55, e384_56, e384_59, e384_60, e384_61, e384_64, e384_65, e384_68, ↓reduceIte, Bool.false_eq_true, not_false_eq_true, not_true_eq_false, Nat.reduceLeDiff, Nat.reduceAdd, Nat.reduceEqDiff, Int.reduceToNat, Int.toNat_natCast, iB0, iB1, ru_klI, ru_klR, ru_klF, ru_klJ, ru_kl0, ru_cs0, ru_csI, ru_csR, ru_csF, ru_csJ, wI_add, wI_sub, wI_mul, wI_lt, wI_le, wI_inj, ru_fdE, ru_fdN, ru_iaN, ru_baN, ru_laN, ru_qaN, ru_pfN, ru_isN, ru_bsN, ru_jsN, ru_qsN, ru_set2, Nat.add_right_cancel_iff, if_true, if_false, ite_self, Int.reduceEq, and_self, Int.add_neg_cancel_right, Int.add_zero, Int.zero_add, md_e, md_s0, m53, ein, p54, not_false_iff, if_false, if_true]
end SVC
