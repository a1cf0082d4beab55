/-! ===== the current state taken back: both sides; undo ===== -/
theorem ch_st {C D : tCl} {M : tMd} {n' : Int} {S' : Nat → Int} (h : coI C M) (ha : M.1 1 = 1) (hn : 0 ≤ n' ∧ n' ≤ M.1 4) (d1 : D.1 1092 0 = n') (d2 : D.2.2 = C.2.2) (d3 : D.1 (alb C + 4) 0 = C.1 (alb C + 4) 0) (d4 : ∀ f, f < 5 → phR (cph D (cAp C f))) (d5 : ∀ x, x < alb C + 4 ∨ alb C + 4 + 26 < x → (x ≠ 1092 → D.1 x = C.1 x) ∧ D.2.1 x = C.2.1 x) (hS : ∀ j, 0 ≤ S' j ∧ S' j ≤ 999) (hgd : gdS M S') (hE : ∀ f : Nat, (f : Int) < M.1 25 → pheq (cph D (cAp C f)) (msf S' (M.2 8) (M.2 9) f)) : coI D (up1 M.1 4 n', upC M.2 0 S') ∧ chC C D ∧ chM M (up1 M.1 4 n', upC M.2 0 S') := by
  obtain ⟨hR, hA, hM, hr, hnn, hG, hH, hSv, hg⟩ := h
  obtain ⟨-, -, -, -, hst, -, -, a1, a2⟩ := clA_k hR.1
  have h5 := hM.2.2.2.2.1
  have h4 := hM.2.2.1
  have hr2 : D.2.2.2 = C.2.2.2 := by rw [d2]
  have hal : alb D = alb C := by unfold alb; rw [hr2]
  have hcA : ∀ f, cAp D f = cAp C f := fun f => by unfold cAp; rw [hal]
  have hcP : cPm D = cPm C := by unfold cPm; rw [hal, d3]
  have hcN : cNm D = cNm C := by unfold cNm; rw [hal, (d5 _ (by omega)).1 (by omega)]
  have hgap : D.1 (alb D) 0 = C.1 (alb C) 0 := by rw [hal, (d5 _ (by omega)).1 (by omega)]
  have hrel := hr.1
  rw [if_neg (by omega)] at hrel
  have hst0 : ∀ t, isSt t → t ≠ alb C + 4 → t + 26 < alb C + 4 ∨ alb C + 4 + 26 < t := fun t ht hne => isSt_sep ht hst hne
  have hphs : ∀ t, isSt t → t ≠ alb C + 4 → ∀ f, f < 5 → cph D (t + 2 + 5 * f) = cph C (t + 2 + 5 * f) := fun t ht hne f hf => by
    have := hst0 t ht hne
    have h9 := isSt_ne ht hf
    exact cph_eq ((d5 _ (by omega)).1 h9.1) (fun c hc => (d5 _ (by omega)).2)
  have hg1 : rgI (up1 M.1 4 n', upC M.2 0 S') := ⟨fun j => by show 0 ≤ upC M.2 0 S' 0 j ∧ upC M.2 0 S' 0 j ≤ 999; rw [upC_e]; exact hS j, hg.2.1, hg.2.2.1, hg.2.2.2⟩
  have hM1 : mdR (up1 M.1 4 n', upC M.2 0 S') := mdR_of ⟨hM.1, hM.2.1, by show 0 ≤ up1 M.1 4 n' 4 ∧ up1 M.1 4 n' 4 ≤ 6; rw [up1_e]; omega, hM.2.2.2.1, hM.2.2.2.2.1, hM.2.2.2.2.2.1⟩ hg1 hgd.1
  refine ⟨⟨⟨?_, by rw [hcP]; exact hR.2.1, by rw [hcN]; exact hR.2.2.1, by rw [hgap]; exact hR.2.2.2.1, fun i hi => by rw [hcA]; exact d4 i hi⟩, ⟨fun t ht i hi => ?_, ?_⟩, hM1, ?_, fun f hf => hgd.2 f hf, by rw [hgap]; exact hG, ⟨⟨fun i hi => by rw [hr2]; exact hH.1.1 i hi, fun i j hi hj he => by rw [hr2] at he; exact hH.1.2.1 i j hi hj he, by rw [d1]; omega⟩, fun c => by have c9 : M.1 1 = 0 := c; omega, by rw [d1]; show n' = up1 M.1 4 n' 4; rw [up1_e], fun i hi => ?_⟩, fun s hs => ?_, hg1⟩, ⟨by rw [d2], by rw [hr2], by rw [hr2], by rw [hr2], (d5 _ (by omega)).1 (by omega), (d5 _ (by omega)).1 (by omega), (d5 _ (by omega)).2, (d5 _ (by omega)).1 (by omega)⟩, ⟨fun k _ hk4 _ _ => up1_n hk4, fun c hc _ _ _ _ _ _ => upC_n hc⟩⟩
  · have := hR.1
    unfold clA at this ⊢
    rw [hr2]; exact this
  · by_cases e : t = alb C + 4
    · subst e; exact d4 i hi
    · rw [hphs t ht e i hi]; exact hA.1 t ht i hi
  · rw [cph_eq (C := C) ((d5 1065 (by omega)).1 (by omega)) (fun c hc => (d5 _ (by omega)).2)]; exact hA.2
  · refine ⟨by rw [hcP]; exact hr.1, by rw [hcN]; exact hr.2.1, hr.2.2.1, fun f hf => ?_, ?_, ?_, ?_, ?_⟩
    · rw [hcP, hrel] at hf
      rw [hcA]
      exact hE f hf
    · rw [(d5 1001 (by omega)).1 (by omega)]; exact hr.2.2.2.2.1
    · rw [(d5 1001 (by omega)).1 (by omega)]; exact hr.2.2.2.2.2.1
    · rw [(d5 1001 (by omega)).1 (by omega)]; exact hr.2.2.2.2.2.2.1
    · rw [d1]
      show n' = if M.1 1 = 0 then 0 else up1 M.1 4 n' 4
      rw [if_neg (by omega), up1_e]
  · have hi9 : (i : Int) < up1 M.1 4 n' 4 := hi
    rw [up1_e] at hi9
    obtain ⟨w1, w2⟩ := hH.2.2.2 i (by omega)
    have hs1 := hH.1.1 i (by omega)
    rw [hr2]
    have hs2 := isSt_ne2 hs1.1
    exact ⟨stEq_of w1 rfl rfl rfl (by rw [(d5 _ (by omega)).1 hs2]) h5.2 (fun f hf => hphs _ hs1.1 (by omega) f hf), gdS_of w2 rfl rfl rfl rfl⟩
  · obtain ⟨v1, v2, v3, v4, v5⟩ := hSv s hs
    have hs1 : isSt (1261 + 27 * s) := by
      have : s = 0 ∨ s = 1 := by omega
      rcases this with rfl | rfl <;> (unfold isSt; decide)
    refine ⟨by rw [hr2]; exact v1, v2, v3, fun c => ?_, fun c => ?_⟩
    · rw [(d5 _ (by omega)).1 (by omega)]; exact v4 c
    · obtain ⟨w1, w2⟩ := v5 c
      exact ⟨stEq_of w1 rfl rfl rfl (by rw [(d5 _ (by omega)).1 (by omega)]) h5.2 (fun f hf => hphs _ hs1 (by omega) f hf), gdS_of w2 rfl rfl rfl rfl⟩
/-- a kept state taken -/
theorem st_take {C D : tCl} {M : tMd} {o st : Nat} (h : coI C M) (k : stEq C M o (stM M st) ∧ gdS M (stM M st)) (kc : ∀ i, i < 5 → phS (cph D (alb C + 4 + 2 + 5 * i)) (cph C (o + 2 + 5 * i)) ∧ phR (cph D (alb C + 4 + 2 + 5 * i))) : (∀ j, 0 ≤ feF (M.2 0) (M.2 1) st 270 j ∧ feF (M.2 0) (M.2 1) st 270 j ≤ 999) ∧ gdS M (feF (M.2 0) (M.2 1) st 270) ∧ ∀ f : Nat, (f : Int) < M.1 25 → pheq (cph D (cAp C f)) (msf (feF (M.2 0) (M.2 1) st 270) (M.2 8) (M.2 9) f) := by
  obtain ⟨hR, hA, hM, hr, hnn, hG, hH, hSv, hg⟩ := h
  obtain ⟨k1, k2⟩ := k
  have h5 := hM.2.2.2.2.1
  have hj : ∀ j, j < 270 → stM M st j = feF (M.2 0) (M.2 1) st 270 j := fun j hj => by unfold feF; rw [if_pos hj]; rfl
  refine ⟨fun j => ?_, gdS_congr hj h5.2 k2, fun f hf => ?_⟩
  · unfold feF
    split
    · exact hg.2.1 _
    · exact hg.1 _
  · obtain ⟨a1, a2⟩ := kc f (by omega)
    have a3 := phS_tr a1 (k1.2 f hf) a2
    have a4 := (phR_s a2).2.2.2.2.2.2.2
    exact pheq_S a3 (msf_congr hj (by omega)) (by show (cph D (cAp C f)).1 7 ≤ 12; unfold cAp; omega)
section UND
variable {z : Bool} {h : am_H} {C : tCl} {M : tMd}
def udR (C : tCl) (t : Nat) (v : Int) (C' : tCl) : Prop := (C.1 1092 0 = 0 ∧ t = 1 ∧ C' = C) ∨ (0 < C.1 1092 0 ∧ t = 0 ∧ v = C.1 1092 0 - 1 ∧ C'.1 1092 0 = C.1 1092 0 - 1 ∧ C'.2.2 = C.2.2 ∧ C'.1 (alb C + 4) 0 = C.1 (C.2.2.2 1093 (C.1 1092 0 - 1).toNat) 0 ∧ (∀ i, i < 5 → phS (cph C' (alb C + 4 + 2 + 5 * i)) (cph C (C.2.2.2 1093 (C.1 1092 0 - 1).toNat + 2 + 5 * i)) ∧ phR (cph C' (alb C + 4 + 2 + 5 * i))) ∧ (∀ x, x < alb C + 4 ∨ alb C + 4 + 26 < x → (x ≠ 1092 → C'.1 x = C.1 x) ∧ C'.2.1 x = C.2.1 x))
theorem c371 (hR : clR C) (hH : hiC C) (hA : phA C) : ∃ t v C', ru_ev z 371 [.ref 1000] (clPut h C) = oR t (some (.int (wI v))) (clPut h C') (clPut (thr h) C') ∧ udR C t v C' := by
  obtain ⟨-, -, -, -, hst, -, -, a1, a2⟩ := clA_k hR.1
  have hb := hH.2.2
  by_cases e : C.1 1092 0 = 0
  · refine ⟨1, 0, C, ?_, Or.inl ⟨e, rfl, rfl⟩⟩
    rw [oR_n (by decide)]
    have d1 : (C.1 1092 0 = 0) = True := eq_true e
    simp (disch := omega) only [en371, e371_0, e371_1, e371_4, e371_7, e371_10, e371_13, e371_14, e371_21, e371_22, e371_25, e371_26, e371_29, e371_32, e371_35, e371_36, e371_39, e371_42, ↓reduceIte, Bool.false_eq_true, not_false_eq_true, not_true_eq_false, Nat.reduceLeDiff, Nat.reduceAdd, Nat.reduceEqDiff, Int.reduceToNat, Int.toNat_natCast, iB0, iB1, ru_klI, ru_klR, ru_klF, ru_klJ, ru_kl0, ru_cs0, ru_csI, ru_csR, ru_csF, ru_csJ, wI_add, wI_sub, wI_mul, wI_lt, wI_le, wI_inj, ru_fdE, ru_fdN, ru_iaN, ru_baN, ru_laN, ru_qaN, ru_pfN, ru_isN, ru_bsN, ru_jsN, ru_qsN, ru_set2, Nat.add_right_cancel_iff, if_true, if_false, ite_self, Int.reduceEq, and_self, Int.add_neg_cancel_right, Int.add_zero, Int.zero_add, cl_e0, cl_g0_6, cl_g5_0, d1, cl_thr, not_true]
  · obtain ⟨C', k1, k2, k3, k4, k5, k6⟩ := c372 (z := z) (h := h) hH hA hst (by omega) (by omega)
    refine ⟨0, C.1 1092 0 - 1, C', ?_, Or.inr ⟨by omega, rfl, rfl, k1, k2, k3, k4, k5⟩⟩
    rw [oR_0 rfl]
    have d1 : (C.1 1092 0 = 0) = False := eq_false e
    simp (disch := omega) only [en371, e371_0, e371_1, e371_4, e371_7, e371_10, e371_13, e371_14, e371_21, e371_22, e371_25, e371_26, e371_29, e371_32, e371_35, e371_36, e371_39, e371_42, ↓reduceIte, Bool.false_eq_true, not_false_eq_true, not_true_eq_false, Nat.reduceLeDiff, Nat.reduceAdd, Nat.reduceEqDiff, Int.reduceToNat, Int.toNat_natCast, iB0, iB1, ru_klI, ru_klR, ru_klF, ru_klJ, ru_kl0, ru_cs0, ru_csI, ru_csR, ru_csF, ru_csJ, wI_add, wI_sub, wI_mul, wI_lt, wI_le, wI_inj, ru_fdE, ru_fdN, ru_iaN, ru_baN, ru_laN, ru_qaN, ru_pfN, ru_isN, ru_bsN, ru_jsN, ru_qsN, ru_set2, Nat.add_right_cancel_iff, if_true, if_false, ite_self, Int.reduceEq, and_self, Int.add_neg_cancel_right, Int.add_zero, Int.zero_add, cl_e0, cl_g0_6, cl_g5_0, clF hR.1, d1, k6, k1, not_false_iff]
def udM (M : tMd) (b : Int) (M' : tMd) : Prop := (M.1 4 = 0 ∧ M' = mdT M 1) ∨ (0 < M.1 4 ∧ b = M.1 4 - 1 ∧ M' = (up1 (mdT M 0).1 4 (M.1 4 - 1), upC (mdT M 0).2 0 (feF (M.2 0) (M.2 1) (1 + (M.1 4 - 1).toNat) 270)))
theorem p373 (hM : mdR M) : ∃ b M', ru_ev z 373 [.ref 1315] (mdPut h M) = some (.inl (some (.int (wI b))), mdPut h M') ∧ udM M b M' := by
  have h4 := hM.2.2.1
  have hs : mdT M 0 = (up1 M.1 0 0, M.2) := rfl
  have x4 : (mdT M 0).1 4 = M.1 4 := rfl
  by_cases e : M.1 4 = 0
  · refine ⟨0, mdT M 1, ?_, Or.inl ⟨e, rfl⟩⟩
    have d1 : (M.1 4 = 0) = True := eq_true e
    simp (disch := omega) only [en373, e373_0, e373_1, e373_2, e373_5, e373_6, e373_7, e373_10, e373_13, e373_14, e373_17, e373_18, e373_19, e373_22, e373_25, e373_26, e373_27, e373_28, e373_29, e373_32, e373_33, e373_34, e373_37, e373_38, e373_39, e373_40, e373_43, e373_44, e373_47, e373_48, e373_51, ↓reduceIte, Bool.false_eq_true, not_false_eq_true, not_true_eq_false, Nat.reduceLeDiff, Nat.reduceAdd, Nat.reduceEqDiff, Int.reduceToNat, Int.toNat_natCast, iB0, iB1, ru_klI, ru_klR, ru_klF, ru_klJ, ru_kl0, ru_cs0, ru_csI, ru_csR, ru_csF, ru_csJ, wI_add, wI_sub, wI_mul, wI_lt, wI_le, wI_inj, ru_fdE, ru_fdN, ru_iaN, ru_baN, ru_laN, ru_qaN, ru_pfN, ru_isN, ru_bsN, ru_jsN, ru_qsN, ru_set2, Nat.add_right_cancel_iff, if_true, if_false, ite_self, Int.reduceEq, and_self, Int.add_neg_cancel_right, Int.add_zero, Int.zero_add, md_e, md_s0, md_f4, ← hs, x4, d1, p54, not_true, if_true]
  · obtain ⟨n, hn⟩ := Int.eq_ofNat_of_zero_le (show 0 ≤ M.1 4 - 1 by omega)
    have d1 : (M.1 4 = 0) = False := eq_false e
    have e1 := p152 (z := z) (h := h) (M := (up1 (mdT M 0).1 4 n, (mdT M 0).2)) (st := 1 + n) (by omega)
    refine ⟨M.1 4 - 1, _, ?_, Or.inr ⟨by omega, rfl, rfl⟩⟩
    rw [hn, Int.toNat_natCast]
    have x5 : up1 (mdT M 0).1 4 (n : Int) 4 = n := up1_e _ _ _
    rw [show (((1 + n : Nat)) : Int) = 1 + (n : Int) by omega] at e1
    simp (disch := omega) only [en373, e373_0, e373_1, e373_2, e373_5, e373_6, e373_7, e373_10, e373_13, e373_14, e373_17, e373_18, e373_19, e373_22, e373_25, e373_26, e373_27, e373_28, e373_29, e373_32, e373_33, e373_34, e373_37, e373_38, e373_39, e373_40, e373_43, e373_44, e373_47, e373_48, e373_51, ↓reduceIte, Bool.false_eq_true, not_false_eq_true, not_true_eq_false, Nat.reduceLeDiff, Nat.reduceAdd, Nat.reduceEqDiff, Int.reduceToNat, Int.toNat_natCast, iB0, iB1, ru_klI, ru_klR, ru_klF, ru_klJ, ru_kl0, ru_cs0, ru_csI, ru_csR, ru_csF, ru_csJ, wI_add, wI_sub, wI_mul, wI_lt, wI_le, wI_inj, ru_fdE, ru_fdN, ru_iaN, ru_baN, ru_laN, ru_qaN, ru_pfN, ru_isN, ru_bsN, ru_jsN, ru_qsN, ru_set2, Nat.add_right_cancel_iff, if_true, if_false, ite_self, Int.reduceEq, and_self, Int.add_neg_cancel_right, Int.add_zero, Int.zero_add, md_e, md_s0, md_s4, md_f4, ← hs, x4, d1, p54, not_false_iff, if_false, hn, x5, e1]
    rfl
end UND
