/-! ===== the law's step of writtenByte ===== -/
section ST39
variable {z : Bool} {g : am_H} {C : tCl} {M : tMd} {xs : Nat → Int32} {L i cap : Nat}
theorem k342 {H : am_H} {l : List Nat} (hs : sbS H C l cap) (h5 : l.length ≤ 500) (hb : ∀ i, i < l.length → l.getD i 0 ≤ 127) {i : Int} (g : -2147483648 ≤ i ∧ i < 2147483648) : ru_ev z 342 [.ref 1000, .int (wI i)] (clPut H C) = oR (if 0 ≤ i ∧ i < (l.length : Int) then 0 else 2) (some (.int (wI ((l.getD i.toNat 0 : Nat) : Int)))) (clPut H C) (clPut (thr H) C) := by
  have kl := k324 (z := z) hs
  by_cases c : 0 ≤ i ∧ i < (l.length : Int)
  · rw [if_pos c, oR_0 rfl]
    obtain ⟨k, rfl⟩ := Int.eq_ofNat_of_zero_le c.1
    have k3 := k343 (z := z) hs (i := k) (by omega) hb
    have d1 : ((k : Int) < 0) = False := eq_false (by omega)
    have d2 : ((k : Int) < (l.length : Int)) = True := eq_true (by omega)
    simp (disch := omega) only [en342, e342_0, e342_1, e342_4, e342_5, e342_6, e342_9, e342_12, e342_15, e342_18, e342_21, e342_22, e342_29, e342_30, e342_33, e342_36, e342_37, e342_40, ↓reduceIte, Bool.false_eq_true, not_false_eq_true, not_true_eq_false, Nat.reduceLeDiff, Nat.reduceAdd, Nat.reduceEqDiff, Int.reduceToNat, Int.toNat_natCast, iB0, iB1, ru_klI, ru_klR, ru_klF, ru_klJ, ru_kl0, ru_cs0, ru_csI, ru_csR, ru_csF, ru_csJ, wI_add, wI_sub, wI_mul, wI_lt, wI_le, wI_inj, ru_fdE, ru_fdN, ru_iaN, ru_baN, ru_laN, ru_qaN, ru_pfN, ru_isN, ru_bsN, ru_jsN, ru_qsN, ru_set2, Nat.add_right_cancel_iff, if_true, if_false, ite_self, Int.reduceEq, and_self, Int.add_neg_cancel_right, Int.add_zero, Int.zero_add, cl_e0, cl_g0_8, cl_g7, kl, k3, d1, d2]
  · rw [if_neg c, oR_n (by decide)]
    by_cases c1 : i < 0
    · have d1 : (i < 0) = True := eq_true c1
      simp (disch := omega) only [en342, e342_0, e342_1, e342_4, e342_5, e342_6, e342_9, e342_12, e342_15, e342_18, e342_21, e342_22, e342_29, e342_30, e342_33, e342_36, e342_37, e342_40, ↓reduceIte, Bool.false_eq_true, not_false_eq_true, not_true_eq_false, Nat.reduceLeDiff, Nat.reduceAdd, Nat.reduceEqDiff, Int.reduceToNat, Int.toNat_natCast, iB0, iB1, ru_klI, ru_klR, ru_klF, ru_klJ, ru_kl0, ru_cs0, ru_csI, ru_csR, ru_csF, ru_csJ, wI_add, wI_sub, wI_mul, wI_lt, wI_le, wI_inj, ru_fdE, ru_fdN, ru_iaN, ru_baN, ru_laN, ru_qaN, ru_pfN, ru_isN, ru_bsN, ru_jsN, ru_qsN, ru_set2, Nat.add_right_cancel_iff, if_true, if_false, ite_self, Int.reduceEq, and_self, Int.add_neg_cancel_right, Int.add_zero, Int.zero_add, cl_e0, cl_g0_8, cl_g7, kl, d1, cl_thr]
    · have d1 : (i < 0) = False := eq_false c1
      have d2 : (i < (l.length : Int)) = False := eq_false (by omega)
      simp (disch := omega) only [en342, e342_0, e342_1, e342_4, e342_5, e342_6, e342_9, e342_12, e342_15, e342_18, e342_21, e342_22, e342_29, e342_30, e342_33, e342_36, e342_37, e342_40, ↓reduceIte, Bool.false_eq_true, not_false_eq_true, not_true_eq_false, Nat.reduceLeDiff, Nat.reduceAdd, Nat.reduceEqDiff, Int.reduceToNat, Int.toNat_natCast, iB0, iB1, ru_klI, ru_klR, ru_klF, ru_klJ, ru_kl0, ru_cs0, ru_csI, ru_csR, ru_csF, ru_csJ, wI_add, wI_sub, wI_mul, wI_lt, wI_le, wI_inj, ru_fdE, ru_fdN, ru_iaN, ru_baN, ru_laN, ru_qaN, ru_pfN, ru_isN, ru_bsN, ru_jsN, ru_qsN, ru_set2, Nat.add_right_cancel_iff, if_true, if_false, ite_self, Int.reduceEq, and_self, Int.add_neg_cancel_right, Int.add_zero, Int.zero_add, cl_e0, cl_g0_8, cl_g7, kl, d1, d2, cl_thr]
theorem p345 {h : am_H} {n : Nat} (h38 : M.1 38 = (n : Int)) (hn : n ≤ 500) {i : Int} (g : -2147483648 ≤ i ∧ i < 2147483648) : ru_ev z 345 [.ref 1315, .int (wI i)] (mdPut h M) = some (.inl (some (.int (wI (if 0 ≤ i ∧ i < (n : Int) then M.2 15 i.toNat else 0)))), mdPut h (mdT M (if 0 ≤ i ∧ i < (n : Int) then 0 else 1))) := by
  have s0 : am_pf (mdPut h M) 1315 10 0 0 (.int (wI 0)) = some (mdPut h (mdT M 0)) := md_s0
  have g38 := md_f38 (h := h) (M := mdT M 0)
  rw [mdT_n (by decide), h38] at g38
  have m := m53 (z := z) (h := mdPut h (mdT M 0)) (v := i) (a := 0) (b := (n : Int) - 1) (by omega) (by omega) (by omega)
  by_cases c : 0 ≤ i ∧ i < (n : Int)
  · rw [if_pos c, if_pos c]
    rw [if_pos (by omega)] at m
    have p := p54 (z := z) (h := h) (M := M) (b := 0) (code := 1) (by omega) (by omega)
    rw [if_pos rfl] at p
    have a15 := md_a15 (h := h) (M := mdT M 0) (i := i) (by omega) (by omega)
    rw [mdT_2] at a15
    simp (disch := omega) only [en345, e345_0, e345_1, e345_2, e345_5, e345_6, e345_7, e345_8, e345_9, e345_12, e345_13, e345_14, e345_17, e345_20, e345_21, e345_24, e345_25, e345_26, e345_29, e345_32, e345_33, e345_36, e345_37, e345_40, e345_41, e345_42, ↓reduceIte, Bool.false_eq_true, not_false_eq_true, not_true_eq_false, Nat.reduceLeDiff, Nat.reduceAdd, Nat.reduceEqDiff, Int.reduceToNat, Int.toNat_natCast, iB0, iB1, ru_klI, ru_klR, ru_klF, ru_klJ, ru_kl0, ru_cs0, ru_csI, ru_csR, ru_csF, ru_csJ, wI_add, wI_sub, wI_mul, wI_lt, wI_le, wI_inj, ru_fdE, ru_fdN, ru_iaN, ru_baN, ru_laN, ru_qaN, ru_pfN, ru_isN, ru_bsN, ru_jsN, ru_qsN, ru_set2, Nat.add_right_cancel_iff, if_true, if_false, ite_self, Int.reduceEq, and_self, Int.add_neg_cancel_right, Int.add_zero, Int.zero_add, md_e, s0, g38, m, p, md_f37, a15, not_true, not_false_iff]
  · rw [if_neg c, if_neg c]
    rw [if_neg (by omega)] at m
    have p := p54 (z := z) (h := h) (M := M) (b := 1) (code := 1) (by omega) (by omega)
    rw [if_neg (by decide)] at p
    simp (disch := omega) only [en345, e345_0, e345_1, e345_2, e345_5, e345_6, e345_7, e345_8, e345_9, e345_12, e345_13, e345_14, e345_17, e345_20, e345_21, e345_24, e345_25, e345_26, e345_29, e345_32, e345_33, e345_36, e345_37, e345_40, e345_41, e345_42, ↓reduceIte, Bool.false_eq_true, not_false_eq_true, not_true_eq_false, Nat.reduceLeDiff, Nat.reduceAdd, Nat.reduceEqDiff, Int.reduceToNat, Int.toNat_natCast, iB0, iB1, ru_klI, ru_klR, ru_klF, ru_klJ, ru_kl0, ru_cs0, ru_csI, ru_csR, ru_csF, ru_csJ, wI_add, wI_sub, wI_mul, wI_lt, wI_le, wI_inj, ru_fdE, ru_fdN, ru_iaN, ru_baN, ru_laN, ru_qaN, ru_pfN, ru_isN, ru_bsN, ru_jsN, ru_qsN, ru_set2, Nat.add_right_cancel_iff, if_true, if_false, ite_self, Int.reduceEq, and_self, Int.add_neg_cancel_right, Int.add_zero, Int.zero_add, md_e, s0, g38, m, p, md_f37, not_true, not_false_iff]
theorem st_39 (h : fuI g C M cap) (hg : gI g L xs) (hi : i + 6 ≤ L) (hL : L ≤ 3072) : stF z 2639 g C M i cap L xs := by
  intro l6 l7
  obtain ⟨k, ek, gk⟩ := wI_ex (xs (i + 1))
  have hs := fu_sb h hg.2.2.1
  obtain ⟨n, h38, hn, -, hbb⟩ := id h.2.2.2.1
  have el : ((List.range (M.1 38).toNat).map fun i => (M.2 15 i).toNat).length = n := by rw [List.length_map, List.length_range]; omega
  have eg : ∀ i, i < n → ((List.range (M.1 38).toNat).map fun i => (M.2 15 i).toNat).getD i 0 = (M.2 15 i).toNat := fun i hi => by
    rw [List.getD_eq_getElem?_getD, List.getElem?_map, List.getElem?_range (by omega)]; rfl
  have q1 := k342 (z := z) hs (by omega) (fun i hi => by have := hbb i (by omega); rw [eg i (by omega)]; omega) gk
  rw [el] at q1
  have q2 : ∀ h, ru_ev z 345 [.ref 1315, .int (wI k)] (mdPut h M) = _ := fun h => p345 (z := z) (h := h) h38 hn gk
  obtain ⟨o, ho⟩ := hg.2.1
  have ho1 : (clPut (mdPut g M) C).1 1332 = some (ouC o) := by rw [clPut_o (by omega), mdPut_o (by omega)]; exact ho
  by_cases c : 0 ≤ k ∧ k < (n : Int)
  · rw [if_pos c, oR_0 rfl] at q1
    simp only [if_pos c] at q2
    have hh := hp341 q1 ho1
    rw [cl_seto (by omega), md_seto (by omega)] at hh
    have hb := hbb k.toNat (by omega)
    rw [eg k.toNat (by omega), show (((M.2 15 k.toNat).toNat : Nat) : Int) = M.2 15 k.toNat by omega] at hh
    have hon : gOn g (am_set g 1332 (ouC (am_up o 0 (wI (M.2 15 k.toNat)).toInt64))) 0 0 := ⟨fun q _ hq _ => ru_setN hq, ⟨_, ru_setE _ _ _⟩, fun h => by rw [ru_setN (by decide)]; exact h, Nat.le_refl _, Nat.le_refl _, Nat.le_refl _⟩
    have hx1 : (clPut (mdPut (am_set g 1332 (ouC (am_up o 0 (wI (M.2 15 k.toNat)).toInt64))) M) C).1 1 = some (.inl (10, L, .inl xs)) := gI_x (gI_on hg hon)
    rw [← ek] at hh q2
    refine ⟨_, C, mdT M 0, _, _, cap, lw_39 (t := 0) (gI_x hg) hx1 hi hL (by omega) hh (by rw [clPM, q2, ← clPM]) (by rw [clPM, p75, mdT_1]) (fun _ => ?_), gI_on hg hon, fu_lift h hg.2.2.1 hon (coI_T h.1 (by omega)) (chC_refl _) (chM_T _ _), by show g.2.1 + cap ≤ _; omega, by show g.2.2 + 2 * cap ≤ _; omega⟩
    · have e9 : (clPut (mdPut (am_set g 1332 (ouC (am_up o 0 (wI (M.2 15 k.toNat)).toInt64))) (mdT M 0)) C).1 1332 = some (ouC (am_up o 0 (wI (M.2 15 k.toNat)).toInt64)) := by
        rw [clPut_o (by omega), mdPut_o (by omega)]; exact ru_setE _ _ _
      rw [ru_la e9 (by omega) (by omega) (by omega)]
      rfl
  · rw [if_neg c, oR_n (by decide)] at q1
    simp only [if_neg c] at q2
    have hh := hx341_1 q1
    obtain ⟨cap2, y1, y2, y3, y4⟩ := wrX_thr (t := 1) h hg (by omega)
    have hmd : mdPut (thr (mdPut g M)) M = thr (mdPut g M) := by rw [md_thr, mdPut_put]
    rw [← hmd] at hh
    have hx1 : (clPut (mdPut (thr (mdPut g M)) M) C).1 1 = some (.inl (10, L, .inl xs)) := gI_x y2
    rw [← ek] at hh q2
    exact ⟨_, C, mdT M 1, _, _, cap2, lw_39 (t := 1) (gI_x hg) hx1 hi hL (by omega) hh (by rw [clPM, q2, ← clPM]) (by rw [clPM, p75, mdT_1]) (fun e => absurd e (by decide)), y2, y1, y3, y4⟩
end ST39
