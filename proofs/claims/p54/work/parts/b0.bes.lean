/-! ===== phrases: sides; beside ===== -/
section BES
variable {z : Bool} {M M0 : tMd} {C C0 : tCl} {n l s A N R nm : Nat} {gv rc : Int}
theorem isW_ne {T U : List Nat} (h : isW M T = true) (hl : T.length ≠ U.length) : isW M U = false := by
  unfold isW at h ⊢
  rw [Bool.and_eq_true, decide_eq_true_eq] at h
  rw [decide_eq_false (fun h2 => hl (by have := h.1.2; have := h2.2; omega)), Bool.false_and]
theorem sd_j (hR : 1315 ≤ R) (hr : prI n C0 M0 C M gv) (ht : tkR C M l s) (hb0 : byI C0 M0 l) :
    (∃ d : Int, (d = -1 ∨ d = 1) ∧ (∀ h S, strs h → ru_ev z 96 [.ref R] (clPut (rdH h R nm S) C) = some (.inl (some (.int (wI d))), clPut (rdH h R nm S) C)) ∧ (∀ h, strs h → ru_ev z 132 [.ref 1315] (mdPut h M) = some (.inl (some (.int (wI (if d = -1 then 1 else 0)))), mdPut h M)) ∧ M.1 13 = 1) ∨
    ((∀ h S, strs h → ru_ev z 96 [.ref R] (clPut (rdH h R nm S) C) = some (.inr 2, clPut (rdH (thr h) R nm S) (erC C 1))) ∧ ∀ h, strs h → ru_ev z 132 [.ref 1315] (mdPut h M) = some (.inl (some (.int (wI 0))), mdPut h (erM M 1))) := by
  have hb := pr_byI hb0 hr
  have h17 := hr.2.2.2.1
  have d0 : ((0 : Int) = 0) = True := eq_true rfl
  have d1 : ((1 : Int) = 0) = False := eq_false (by decide)
  have xr : ∀ h, strs h → ru_ev z 28 [.ref 1001, .ref 319] (clPut h C) = _ := w28 (z := z) (j := 19) (by decide) ht hb (by decide)
  have xl : ∀ h, strs h → ru_ev z 28 [.ref 1001, .ref 320] (clPut h C) = _ := w28 (z := z) (j := 20) (by decide) ht hb (by decide)
  have yl : ∀ h, strs h → ru_ev z 62 [.ref 1315, .ref 366] (mdPut h M) = _ := w62 (z := z) (i := 20) (j := 66) (by decide) (by decide) h17 ht (by decide)
  have yr : ∀ h, strs h → ru_ev z 62 [.ref 1315, .ref 367] (mdPut h M) = _ := w62 (z := z) (i := 19) (j := 67) (by decide) (by decide) h17 ht (by decide)
  have g1 : ∀ h, ru_ev z 36 [.ref 1001, .int (wI 1), .int (wI 1)] (clPut h C) = some (.inl none, clPut h C) := fun h => by rw [c36 (Or.inr rfl), if_pos rfl]
  by_cases cl : isW M (sbT 20) = true
  · left
    have nr : isW M (sbT 19) = false := isW_ne cl (by decide)
    refine ⟨-1, Or.inl rfl, fun h S hS => ?_, fun h hS => ?_, isW_13 cl⟩
    · have s1 := strs_rd (nm := nm) (S := S) hR hS
      simp (disch := omega) only [en96, e96_0, e96_1, e96_4, e96_6, e96_9, e96_10, e96_11, e96_14, e96_15, e96_18, e96_19, e96_22, e96_24, e96_27, e96_30, e96_31, e96_34, e96_35, e96_36, e96_39, e96_40, e96_43, e96_44, e96_47, e96_48, ↓reduceIte, Bool.false_eq_true, not_false_eq_true, not_true_eq_false, Nat.reduceLeDiff, Nat.reduceAdd, Nat.reduceEqDiff, Int.reduceToNat, Int.toNat_natCast, iB0, iB1, ru_klI, ru_klR, ru_klF, ru_klJ, ru_kl0, ru_cs0, ru_csI, ru_csR, ru_csF, ru_csJ, wI_add, wI_sub, wI_mul, wI_lt, wI_le, wI_inj, ru_fdE, ru_fdN, ru_iaN, ru_baN, ru_laN, ru_qaN, ru_pfN, ru_isN, ru_bsN, ru_jsN, ru_qsN, ru_set2, Nat.add_right_cancel_iff, if_true, if_false, ite_self, Int.reduceEq, and_self, Int.add_neg_cancel_right, Int.add_zero, Int.zero_add, rd_e hR, rd_f0 hR, cl_e1, xr _ s1, xl _ s1, nr, cl, g1, d0, d1, not_true, not_false_iff]
    · rw [if_pos rfl]
      simp (disch := omega) only [en132, e132_0, e132_1, e132_3, e132_6, e132_7, e132_8, e132_11, e132_12, e132_14, e132_17, e132_20, e132_21, e132_22, e132_25, e132_26, ↓reduceIte, Bool.false_eq_true, not_false_eq_true, not_true_eq_false, Nat.reduceLeDiff, Nat.reduceAdd, Nat.reduceEqDiff, Int.reduceToNat, Int.toNat_natCast, iB0, iB1, ru_klI, ru_klR, ru_klF, ru_klJ, ru_kl0, ru_cs0, ru_csI, ru_csR, ru_csF, ru_csJ, wI_add, wI_sub, wI_mul, wI_lt, wI_le, wI_inj, ru_fdE, ru_fdN, ru_iaN, ru_baN, ru_laN, ru_qaN, ru_pfN, ru_isN, ru_bsN, ru_jsN, ru_qsN, ru_set2, Nat.add_right_cancel_iff, if_true, if_false, ite_self, Int.reduceEq, and_self, Int.add_neg_cancel_right, Int.add_zero, Int.zero_add, md_e, yl h hS, cl, d1, not_true, not_false_iff, wI_and1]
  have nl : isW M (sbT 20) = false := Bool.eq_false_iff.mpr cl
  by_cases cr : isW M (sbT 19) = true
  · left
    refine ⟨1, Or.inr rfl, fun h S hS => ?_, fun h hS => ?_, isW_13 cr⟩
    · have s1 := strs_rd (nm := nm) (S := S) hR hS
      simp (disch := omega) only [en96, e96_0, e96_1, e96_4, e96_6, e96_9, e96_10, e96_11, e96_14, e96_15, e96_18, e96_19, e96_22, e96_24, e96_27, e96_30, e96_31, e96_34, e96_35, e96_36, e96_39, e96_40, e96_43, e96_44, e96_47, e96_48, ↓reduceIte, Bool.false_eq_true, not_false_eq_true, not_true_eq_false, Nat.reduceLeDiff, Nat.reduceAdd, Nat.reduceEqDiff, Int.reduceToNat, Int.toNat_natCast, iB0, iB1, ru_klI, ru_klR, ru_klF, ru_klJ, ru_kl0, ru_cs0, ru_csI, ru_csR, ru_csF, ru_csJ, wI_add, wI_sub, wI_mul, wI_lt, wI_le, wI_inj, ru_fdE, ru_fdN, ru_iaN, ru_baN, ru_laN, ru_qaN, ru_pfN, ru_isN, ru_bsN, ru_jsN, ru_qsN, ru_set2, Nat.add_right_cancel_iff, if_true, if_false, ite_self, Int.reduceEq, and_self, Int.add_neg_cancel_right, Int.add_zero, Int.zero_add, rd_e hR, rd_f0 hR, cl_e1, xr _ s1, cr, g1, d0, d1, not_true, not_false_iff]
    · rw [if_neg (by decide)]
      simp (disch := omega) only [en132, e132_0, e132_1, e132_3, e132_6, e132_7, e132_8, e132_11, e132_12, e132_14, e132_17, e132_20, e132_21, e132_22, e132_25, e132_26, ↓reduceIte, Bool.false_eq_true, not_false_eq_true, not_true_eq_false, Nat.reduceLeDiff, Nat.reduceAdd, Nat.reduceEqDiff, Int.reduceToNat, Int.toNat_natCast, iB0, iB1, ru_klI, ru_klR, ru_klF, ru_klJ, ru_kl0, ru_cs0, ru_csI, ru_csR, ru_csF, ru_csJ, wI_add, wI_sub, wI_mul, wI_lt, wI_le, wI_inj, ru_fdE, ru_fdN, ru_iaN, ru_baN, ru_laN, ru_qaN, ru_pfN, ru_isN, ru_bsN, ru_jsN, ru_qsN, ru_set2, Nat.add_right_cancel_iff, if_true, if_false, ite_self, Int.reduceEq, and_self, Int.add_neg_cancel_right, Int.add_zero, Int.zero_add, md_e, yl h hS, yr h hS, nl, cr, d0, d1, not_true, not_false_iff, wI_and1]
  · right
    have nr : isW M (sbT 19) = false := Bool.eq_false_iff.mpr cr
    refine ⟨fun h S hS => ?_, fun h hS => ?_⟩
    · have s1 := strs_rd (nm := nm) (S := S) hR hS
      have y := c36 (z := z) (h := rdH h R nm S) (C := C) (b := 0) (Or.inl rfl) (c := 1)
      rw [if_neg (by decide)] at y
      simp (disch := omega) only [en96, e96_0, e96_1, e96_4, e96_6, e96_9, e96_10, e96_11, e96_14, e96_15, e96_18, e96_19, e96_22, e96_24, e96_27, e96_30, e96_31, e96_34, e96_35, e96_36, e96_39, e96_40, e96_43, e96_44, e96_47, e96_48, ↓reduceIte, Bool.false_eq_true, not_false_eq_true, not_true_eq_false, Nat.reduceLeDiff, Nat.reduceAdd, Nat.reduceEqDiff, Int.reduceToNat, Int.toNat_natCast, iB0, iB1, ru_klI, ru_klR, ru_klF, ru_klJ, ru_kl0, ru_cs0, ru_csI, ru_csR, ru_csF, ru_csJ, wI_add, wI_sub, wI_mul, wI_lt, wI_le, wI_inj, ru_fdE, ru_fdN, ru_iaN, ru_baN, ru_laN, ru_qaN, ru_pfN, ru_isN, ru_bsN, ru_jsN, ru_qsN, ru_set2, Nat.add_right_cancel_iff, if_true, if_false, ite_self, Int.reduceEq, and_self, Int.add_neg_cancel_right, Int.add_zero, Int.zero_add, rd_e hR, rd_f0 hR, cl_e1, xr _ s1, xl _ s1, nr, nl, y, d0, d1, not_true, not_false_iff]
      rfl
    · simp (disch := omega) only [en132, e132_0, e132_1, e132_3, e132_6, e132_7, e132_8, e132_11, e132_12, e132_14, e132_17, e132_20, e132_21, e132_22, e132_25, e132_26, ↓reduceIte, Bool.false_eq_true, not_false_eq_true, not_true_eq_false, Nat.reduceLeDiff, Nat.reduceAdd, Nat.reduceEqDiff, Int.reduceToNat, Int.toNat_natCast, iB0, iB1, ru_klI, ru_klR, ru_klF, ru_klJ, ru_kl0, ru_cs0, ru_csI, ru_csR, ru_csF, ru_csJ, wI_add, wI_sub, wI_mul, wI_lt, wI_le, wI_inj, ru_fdE, ru_fdN, ru_iaN, ru_baN, ru_laN, ru_qaN, ru_pfN, ru_isN, ru_bsN, ru_jsN, ru_qsN, ru_set2, Nat.add_right_cancel_iff, if_true, if_false, ite_self, Int.reduceEq, and_self, Int.add_neg_cancel_right, Int.add_zero, Int.zero_add, md_e, yl h hS, yr h hS, nl, nr, f63 h17, d0, d1, not_true, not_false_iff, wI_and1]
theorem nb_sh (hR : prR n C0 M0 rc) {r j : Int} (h : ¬ nbV M0 n r j = -1) : ∃ k : Nat, nbV M0 n r j = (k : Int) ∧ shS (mph M0 n) k = true := by
  unfold nbV at h ⊢
  rcases fnF_sp (stP (M0.2 11) (M0.2 12) r j) ((mph M0 n).1 7).toNat 0 with ⟨c1, c2⟩ | ⟨k, c1, -, c2, c3⟩
  · exact absurd c1 h
  · refine ⟨k, c1, ?_⟩
    have sm := phR_s hR.2.2.2.2.1
    unfold stP at c3
    obtain ⟨b1, b2, b3⟩ := of_decide_eq_true c3
    by_cases c : shS (mph M0 n) k = true
    · exact c
    · obtain ⟨n', e', -, -, g4, -⟩ := hR.2.1.1
      have := g4 k (by omega) c
      omega
theorem pr_11 (hr : prI n C0 M0 C M gv) {k : Nat} (hk : k < 12) {h : am_H} : am_ia (mdPut h M) 1327 (wI k) = some (wI (M0.2 11 k)) ∧ am_ia (mdPut h M) 1328 (wI k) = some (wI (M0.2 12 k)) := by
  have a3 := hr.2.2.1
  have x := md_a11 (h := h) (M := M) (i := (k : Int)) (by omega) (by omega)
  have y := md_a12 (h := h) (M := M) (i := (k : Int)) (by omega) (by omega)
  rw [Int.toNat_natCast, a3.2 11 (by decide) (by decide) (by decide)] at x
  rw [Int.toNat_natCast, a3.2 12 (by decide) (by decide) (by decide)] at y
  exact ⟨x, y⟩
theorem bs_j (hR : 1315 ≤ R) {H : am_H} (hH : strs H) (hs : prS A N n C0 M0) (hp : prR n C0 M0 rc) (hb0 : byI C0 M0 l) {C1 : tCl} {S : tRd} (hk1 : ∀ h, ru_ev z 20 [.ref 1001] (clPut h C) = some (.inl none, clPut h C1)) (ht : tkR C1 M l s) (hr : prI n C0 M0 C1 M gv) (hS : S.1 = gv) : pOK z H 106 R A n l C0 M0 C S (rfV z 147 n M) s ∨ pER z H 106 R A n C0 M0 C S (rfV z 147 n M) := by
  have hn5 := hs.2.2.2.2.1
  have hn := hb0.1
  have hq0 := hp.2.2.2.2.1
  have d0 : ((0 : Int) = 0) = True := eq_true rfl
  have d1 : ((1 : Int) = 0) = False := eq_false (by decide)
  have dm : ((-1 : Int) = -1) = True := eq_true rfl
  -- the reference, mute from the holder on
  have um : ∀ M', mutM M' → (∀ h, strs h → ru_ev z 148 [.ref 1315, .int (wI n)] (mdPut h M) = some (.inl (some (.int (wI (-1)))), mdPut h M')) → rfV z 147 n M M' := fun M' hm k h hh => by
    have u1 := u66 (z := z) (h := h) hm
    have u2 := u132 (z := z) (h := h) hm
    have u5 := u63 (z := z) (h := h) (c := 7) hm
    have u7 := u145 (z := z) (h := h) (f := wI n) (k := wI (-1)) hm
    have r17 := hm.1
    have d9 : (M'.1 17 = 0) = False := eq_false (by omega)
    simp (disch := omega) only [en147, e147_0, e147_1, e147_2, e147_5, e147_6, e147_7, e147_10, e147_11, e147_14, e147_15, e147_16, e147_19, e147_22, e147_23, e147_24, e147_25, e147_28, e147_29, e147_30, e147_31, e147_34, e147_35, e147_36, e147_37, e147_40, e147_41, e147_44, e147_45, e147_46, e147_49, e147_52, e147_53, e147_55, e147_57, e147_58, e147_61, e147_62, e147_64, e147_67, e147_68, e147_71, e147_72, e147_73, e147_75, e147_78, ↓reduceIte, Bool.false_eq_true, not_false_eq_true, not_true_eq_false, Nat.reduceLeDiff, Nat.reduceAdd, Nat.reduceEqDiff, Int.reduceToNat, Int.toNat_natCast, iB0, iB1, ru_klI, ru_klR, ru_klF, ru_klJ, ru_kl0, ru_cs0, ru_csI, ru_csR, ru_csF, ru_csJ, wI_add, wI_sub, wI_mul, wI_lt, wI_le, wI_inj, ru_fdE, ru_fdN, ru_iaN, ru_baN, ru_laN, ru_qaN, ru_pfN, ru_isN, ru_bsN, ru_jsN, ru_qsN, ru_set2, Nat.add_right_cancel_iff, if_true, if_false, ite_self, Int.reduceEq, and_self, Int.add_neg_cancel_right, Int.add_zero, Int.zero_add, md_e, md_f17, k h hh, u1, u2, u5, u7, d9, dm, not_true, not_false_iff]
  rcases fh_j (z := z) hR hs hr ht hb0 with ⟨C2, M2, s2, w, k, k1, k2, k3, k4, k5, k6, k7, k8⟩ | ⟨C2, C2', M2, w, k1, k2, k3, k4⟩ | ⟨C2, M2, k1, k3, k4⟩
  rotate_left
  · right
    refine ⟨C2, S, M2, ?_, um M2 k4.2.2.2.2.2.2.2.2 k3, k4⟩
    have x := k1 H S hH
    have y := k2 H S
    simp (disch := omega) only [en106, e106_0, e106_1, e106_4, e106_7, e106_8, e106_9, e106_12, e106_15, e106_16, e106_17, e106_20, e106_23, e106_24, e106_27, e106_28, e106_29, e106_32, e106_35, e106_36, e106_37, e106_40, e106_41, e106_42, e106_45, e106_46, e106_49, e106_50, e106_52, e106_55, e106_56, e106_59, e106_62, e106_63, e106_64, e106_65, e106_68, e106_71, e106_72, e106_75, e106_78, ↓reduceIte, Bool.false_eq_true, not_false_eq_true, not_true_eq_false, Nat.reduceLeDiff, Nat.reduceAdd, Nat.reduceEqDiff, Int.reduceToNat, Int.toNat_natCast, iB0, iB1, ru_klI, ru_klR, ru_klF, ru_klJ, ru_kl0, ru_cs0, ru_csI, ru_csR, ru_csF, ru_csJ, wI_add, wI_sub, wI_mul, wI_lt, wI_le, wI_inj, ru_fdE, ru_fdN, ru_iaN, ru_baN, ru_laN, ru_qaN, ru_pfN, ru_isN, ru_bsN, ru_jsN, ru_qsN, ru_set2, Nat.add_right_cancel_iff, if_true, if_false, ite_self, Int.reduceEq, and_self, Int.add_neg_cancel_right, Int.add_zero, Int.zero_add, rd_e hR, rd_f0 hR, cl_e1, hk1, x, y]
  · right
    refine ⟨C2, S, M2, ?_, um M2 k4.2.2.2.2.2.2.2.2 k3, k4⟩
    have x := k1 H S hH
    simp (disch := omega) only [en106, e106_0, e106_1, e106_4, e106_7, e106_8, e106_9, e106_12, e106_15, e106_16, e106_17, e106_20, e106_23, e106_24, e106_27, e106_28, e106_29, e106_32, e106_35, e106_36, e106_37, e106_40, e106_41, e106_42, e106_45, e106_46, e106_49, e106_50, e106_52, e106_55, e106_56, e106_59, e106_62, e106_63, e106_64, e106_65, e106_68, e106_71, e106_72, e106_75, e106_78, ↓reduceIte, Bool.false_eq_true, not_false_eq_true, not_true_eq_false, Nat.reduceLeDiff, Nat.reduceAdd, Nat.reduceEqDiff, Int.reduceToNat, Int.toNat_natCast, iB0, iB1, ru_klI, ru_klR, ru_klF, ru_klJ, ru_kl0, ru_cs0, ru_csI, ru_csR, ru_csF, ru_csJ, wI_add, wI_sub, wI_mul, wI_lt, wI_le, wI_inj, ru_fdE, ru_fdN, ru_iaN, ru_baN, ru_laN, ru_qaN, ru_pfN, ru_isN, ru_bsN, ru_jsN, ru_qsN, ru_set2, Nat.add_right_cancel_iff, if_true, if_false, ite_self, Int.reduceEq, and_self, Int.add_neg_cancel_right, Int.add_zero, Int.zero_add, rd_e hR, rd_f0 hR, cl_e1, hk1, x]
  have x1 := k1 H S hH
  have x2 := k2 H S
  have hb2 := pr_byI hb0 k5
  have h172 := k5.2.2.2.1
  obtain ⟨C3, M3, s3, q1, q2, q3, q4, q5, q6⟩ := tk_adv (z := z) k4 (by omega) hb2
  have r3 := prI_tok k5 q4 q5
  have h173 := r3.2.2.2.1
  have b3 := pr_byI hb0 r3
  have y2 : ∀ h, ru_ev z 66 [.ref 1315] (mdPut h M2) = some (.inl none, mdPut h M3) := fun h => p66 (z := z) h172 (q2 h)
  rcases sd_j (z := z) (nm := A + 1) hR r3 q3 hb0 with ⟨d, hd, e1, e2, e13⟩ | ⟨e1, e2⟩
  rotate_left
  · right
    have hm := mut_er q3 (t := 1) (by decide)
    refine ⟨_, S, _, ?_, fun h hh => ?_, ep_of r3 q3 hn (t := 1) (by decide)⟩
    · have y := e1 H S hH
      simp (disch := omega) only [en106, e106_0, e106_1, e106_4, e106_7, e106_8, e106_9, e106_12, e106_15, e106_16, e106_17, e106_20, e106_23, e106_24, e106_27, e106_28, e106_29, e106_32, e106_35, e106_36, e106_37, e106_40, e106_41, e106_42, e106_45, e106_46, e106_49, e106_50, e106_52, e106_55, e106_56, e106_59, e106_62, e106_63, e106_64, e106_65, e106_68, e106_71, e106_72, e106_75, e106_78, ↓reduceIte, Bool.false_eq_true, not_false_eq_true, not_true_eq_false, Nat.reduceLeDiff, Nat.reduceAdd, Nat.reduceEqDiff, Int.reduceToNat, Int.toNat_natCast, iB0, iB1, ru_klI, ru_klR, ru_klF, ru_klJ, ru_kl0, ru_cs0, ru_csI, ru_csR, ru_csF, ru_csJ, wI_add, wI_sub, wI_mul, wI_lt, wI_le, wI_inj, ru_fdE, ru_fdN, ru_iaN, ru_baN, ru_laN, ru_qaN, ru_pfN, ru_isN, ru_bsN, ru_jsN, ru_qsN, ru_set2, Nat.add_right_cancel_iff, if_true, if_false, ite_self, Int.reduceEq, and_self, Int.add_neg_cancel_right, Int.add_zero, Int.zero_add, rd_e hR, rd_f0 hR, rd_f3 hR, cl_e1, hk1, x1, x2, q1, y]
    · have y := e2 h hh
      have u1 := u66 (z := z) (h := h) hm
      have u5 := u63 (z := z) (h := h) (c := 7) hm
      have u7 := u145 (z := z) (h := h) (f := wI n) (k := wI (-1)) hm
      have g17 : am_fd (mdPut h (erM M3 1)) 1315 10 17 = some (.int (wI 1)) := by rw [md_f17]; rfl
      simp (disch := omega) only [en147, e147_0, e147_1, e147_2, e147_5, e147_6, e147_7, e147_10, e147_11, e147_14, e147_15, e147_16, e147_19, e147_22, e147_23, e147_24, e147_25, e147_28, e147_29, e147_30, e147_31, e147_34, e147_35, e147_36, e147_37, e147_40, e147_41, e147_44, e147_45, e147_46, e147_49, e147_52, e147_53, e147_55, e147_57, e147_58, e147_61, e147_62, e147_64, e147_67, e147_68, e147_71, e147_72, e147_73, e147_75, e147_78, ↓reduceIte, Bool.false_eq_true, not_false_eq_true, not_true_eq_false, Nat.reduceLeDiff, Nat.reduceAdd, Nat.reduceEqDiff, Int.reduceToNat, Int.toNat_natCast, iB0, iB1, ru_klI, ru_klR, ru_klF, ru_klJ, ru_kl0, ru_cs0, ru_csI, ru_csR, ru_csF, ru_csJ, wI_add, wI_sub, wI_mul, wI_lt, wI_le, wI_inj, ru_fdE, ru_fdN, ru_iaN, ru_baN, ru_laN, ru_qaN, ru_pfN, ru_isN, ru_bsN, ru_jsN, ru_qsN, ru_set2, Nat.add_right_cancel_iff, if_true, if_false, ite_self, Int.reduceEq, and_self, Int.add_neg_cancel_right, Int.add_zero, Int.zero_add, md_e, k3 h hh, y2, y, g17, u1, u5, u7, d1, dm, not_true, not_false_iff]
  have k12 := (shS_rng hq0 k7).2.2.2.1
  have lr := lr_at hp k7
  have hd3 : -1 ≤ d ∧ d ≤ 1 := by omega
  have c109 : ru_ev z 109 [.ref 1070, .int (wI k), .int (wI d)] (clPut (rdH H R (A + 1) S) C3) = some (.inl (some (.int (wI (nbV M0 n (M0.2 11 k) (M0.2 12 k + d))))), clPut (rdH H R (A + 1) S) C3) := nb_109 r3 hp k7 hd3
  have p137' : ∀ h, ru_ev z 137 [.ref 1315, .int (wI n), .int (wI (M0.2 11 k)), .int (wI (M0.2 12 k + d))] (mdPut h M3) = some (.inl (some (.int (wI (nbV M0 n (M0.2 11 k) (M0.2 12 k + d))))), mdPut h M3) := fun h => nb_137 hn5 r3 hp (by omega) (by omega)
  have ra := fun h => (pr_11 r3 k12 (h := h)).1
  have rb := fun h => (pr_11 r3 k12 (h := h)).2
  have g17 : ∀ h, am_fd (mdPut h M3) 1315 10 17 = some (.int (wI 0)) := fun h => by rw [md_f17, h173]
  -- the reference up to the neighbour
  have rf : ∀ h, strs h → ∀ V, nbV M0 n (M0.2 11 k) (M0.2 12 k + d) = V → ru_ev z 147 [.ref 1315, .int (wI n)] (mdPut h M) = ru_n z 147 55 [some (.ref 1315), some (.int (wI n)), some (.int (wI k)), some (.int (wI (if d = -1 then 1 else 0))), some (.int (wI V))] [] (mdPut h M3) := fun h hh V hV => by
    have y := e2 h hh
    have pp := p137' h
    rw [hV] at pp
    rcases hd with rfl | rfl
    · rw [if_pos rfl] at y ⊢
      simp (disch := omega) only [e147_0, e147_1, e147_2, e147_5, e147_6, e147_7, e147_10, e147_11, e147_14, e147_15, e147_16, e147_19, e147_22, e147_23, e147_24, e147_25, e147_28, e147_29, e147_30, e147_31, e147_34, e147_35, e147_36, e147_37, e147_40, e147_41, e147_44, e147_45, e147_46, e147_49, e147_52, e147_53, en147, ↓reduceIte, Bool.false_eq_true, not_false_eq_true, not_true_eq_false, Nat.reduceLeDiff, Nat.reduceAdd, Nat.reduceEqDiff, Int.reduceToNat, Int.toNat_natCast, iB0, iB1, ru_klI, ru_klR, ru_klF, ru_klJ, ru_kl0, ru_cs0, ru_csI, ru_csR, ru_csF, ru_csJ, wI_add, wI_sub, wI_mul, wI_lt, wI_le, wI_inj, ru_fdE, ru_fdN, ru_iaN, ru_baN, ru_laN, ru_qaN, ru_pfN, ru_isN, ru_bsN, ru_jsN, ru_qsN, ru_set2, Nat.add_right_cancel_iff, if_true, if_false, ite_self, Int.reduceEq, and_self, Int.add_neg_cancel_right, Int.add_zero, Int.zero_add, md_e, md_f31, md_f32, k3 h hh, y2, y, g17, ra, rb, pp, d0, d1, not_true, not_false_iff]
    · rw [if_neg (by decide)] at y ⊢
      simp (disch := omega) only [e147_0, e147_1, e147_2, e147_5, e147_6, e147_7, e147_10, e147_11, e147_14, e147_15, e147_16, e147_19, e147_22, e147_23, e147_24, e147_25, e147_28, e147_29, e147_30, e147_31, e147_34, e147_35, e147_36, e147_37, e147_40, e147_41, e147_44, e147_45, e147_46, e147_49, e147_52, e147_53, en147, ↓reduceIte, Bool.false_eq_true, not_false_eq_true, not_true_eq_false, Nat.reduceLeDiff, Nat.reduceAdd, Nat.reduceEqDiff, Int.reduceToNat, Int.toNat_natCast, iB0, iB1, ru_klI, ru_klR, ru_klF, ru_klJ, ru_kl0, ru_cs0, ru_csI, ru_csR, ru_csF, ru_csJ, wI_add, wI_sub, wI_mul, wI_lt, wI_le, wI_inj, ru_fdE, ru_fdN, ru_iaN, ru_baN, ru_laN, ru_qaN, ru_pfN, ru_isN, ru_bsN, ru_jsN, ru_qsN, ru_set2, Nat.add_right_cancel_iff, if_true, if_false, ite_self, Int.reduceEq, and_self, Int.add_neg_cancel_right, Int.add_zero, Int.zero_add, md_e, md_f31, md_f32, k3 h hh, y2, y, g17, ra, rb, pp, d0, d1, not_true, not_false_iff]
  have y := e1 H S hH
  have fP3 : (clPut (rdH H R (A + 1) S) C3).1 1070 = some (.inr (4, clL4 C3 1070)) := clP4 (by decide +kernel) (by decide)
  by_cases cv : nbV M0 n (M0.2 11 k) (M0.2 12 k + d) = -1
  · right
    have hm := mut_er q3 (t := 7) (by decide)
    refine ⟨_, S, _, ?_, fun h hh => ?_, ep_of r3 q3 hn (t := 7) (by decide)⟩
    · have w := c36 (z := z) (h := rdH H R (A + 1) S) (C := C3) (b := 0) (Or.inl rfl) (c := 7)
      rw [if_neg (by decide)] at w
      rw [cv] at c109
      simp (disch := omega) only [en106, e106_0, e106_1, e106_4, e106_7, e106_8, e106_9, e106_12, e106_15, e106_16, e106_17, e106_20, e106_23, e106_24, e106_27, e106_28, e106_29, e106_32, e106_35, e106_36, e106_37, e106_40, e106_41, e106_42, e106_45, e106_46, e106_49, e106_50, e106_52, e106_55, e106_56, e106_59, e106_62, e106_63, e106_64, e106_65, e106_68, e106_71, e106_72, e106_75, e106_78, ↓reduceIte, Bool.false_eq_true, not_false_eq_true, not_true_eq_false, Nat.reduceLeDiff, Nat.reduceAdd, Nat.reduceEqDiff, Int.reduceToNat, Int.toNat_natCast, iB0, iB1, ru_klI, ru_klR, ru_klF, ru_klJ, ru_kl0, ru_cs0, ru_csI, ru_csR, ru_csF, ru_csJ, wI_add, wI_sub, wI_mul, wI_lt, wI_le, wI_inj, ru_fdE, ru_fdN, ru_iaN, ru_baN, ru_laN, ru_qaN, ru_pfN, ru_isN, ru_bsN, ru_jsN, ru_qsN, ru_set2, Nat.add_right_cancel_iff, if_true, if_false, ite_self, Int.reduceEq, and_self, Int.add_neg_cancel_right, Int.add_zero, Int.zero_add, rd_e hR, rd_f0 hR, rd_f3 hR, cl_e1, fP3, hk1, x1, x2, q1, y, c109, w, dm, not_true, not_false_iff]
      rfl
    · rw [rf h hh _ cv]
      have u1 := u66 (z := z) (h := h) hm
      have u7 := u145 (z := z) (h := h) (f := wI n) (k := wI (-1)) hm
      simp (disch := omega) only [e147_55, e147_57, e147_58, e147_61, e147_62, e147_64, e147_67, e147_68, e147_71, e147_72, e147_73, e147_75, e147_78, ↓reduceIte, Bool.false_eq_true, not_false_eq_true, not_true_eq_false, Nat.reduceLeDiff, Nat.reduceAdd, Nat.reduceEqDiff, Int.reduceToNat, Int.toNat_natCast, iB0, iB1, ru_klI, ru_klR, ru_klF, ru_klJ, ru_kl0, ru_cs0, ru_csI, ru_csR, ru_csF, ru_csJ, wI_add, wI_sub, wI_mul, wI_lt, wI_le, wI_inj, ru_fdE, ru_fdN, ru_iaN, ru_baN, ru_laN, ru_qaN, ru_pfN, ru_isN, ru_bsN, ru_jsN, ru_qsN, ru_set2, Nat.add_right_cancel_iff, if_true, if_false, ite_self, Int.reduceEq, and_self, Int.add_neg_cancel_right, Int.add_zero, Int.zero_add, md_e, f63 h173, u1, u7, dm, not_true, not_false_iff]
  obtain ⟨k', hk', hs'⟩ := nb_sh hp cv
  rw [hk'] at c109
  have dv : (((k' : Nat) : Int) = -1) = False := eq_false (by omega)
  have k12' := (shS_rng hq0 hs').2.2.2.1
  have w := c36 (z := z) (h := rdH H R (A + 1) S) (C := C3) (b := 1) (Or.inr rfl) (c := 7)
  rw [if_pos rfl] at w
  obtain ⟨C4, M4, s4, v1, v2, v3, v4, v5, v6⟩ := tk_adv (z := z) q3 (by omega) b3
  have r4 := prI_tok r3 v4 v5
  have y4 : ∀ h, ru_ev z 66 [.ref 1315] (mdPut h M3) = some (.inl none, mdPut h M4) := fun h => p66 (z := z) h173 (v2 h)
  rcases gf_j (z := z) hR hs r4 v3 hb0 hs' hq0 with ⟨C5, nm', C6, C7, M7, s7, o1, o2, o3, o4, o5, o6, o7⟩ | ⟨C5, M5, o1, o2, o3⟩
  · left
    refine ⟨C7, (S.1 + 1, S.2), M7, s7, gv + 1, ?_, fun h hh => ?_, o5, o6, by rw [← hS], by omega⟩
    · have o1h := o1 H S hH
      have o2h := o2 H S
      have o3h := o3 (rdH H R (A + 1) (S.1 + 1, S.2))
      simp (disch := omega) only [en106, e106_0, e106_1, e106_4, e106_7, e106_8, e106_9, e106_12, e106_15, e106_16, e106_17, e106_20, e106_23, e106_24, e106_27, e106_28, e106_29, e106_32, e106_35, e106_36, e106_37, e106_40, e106_41, e106_42, e106_45, e106_46, e106_49, e106_50, e106_52, e106_55, e106_56, e106_59, e106_62, e106_63, e106_64, e106_65, e106_68, e106_71, e106_72, e106_75, e106_78, ↓reduceIte, Bool.false_eq_true, not_false_eq_true, not_true_eq_false, Nat.reduceLeDiff, Nat.reduceAdd, Nat.reduceEqDiff, Int.reduceToNat, Int.toNat_natCast, iB0, iB1, ru_klI, ru_klR, ru_klF, ru_klJ, ru_kl0, ru_cs0, ru_csI, ru_csR, ru_csF, ru_csJ, wI_add, wI_sub, wI_mul, wI_lt, wI_le, wI_inj, ru_fdE, ru_fdN, ru_iaN, ru_baN, ru_laN, ru_qaN, ru_pfN, ru_isN, ru_bsN, ru_jsN, ru_qsN, ru_set2, Nat.add_right_cancel_iff, if_true, if_false, ite_self, Int.reduceEq, and_self, Int.add_neg_cancel_right, Int.add_zero, Int.zero_add, rd_e hR, rd_f0 hR, rd_f3 hR, cl_e1, fP3, hk1, x1, x2, q1, y, c109, w, dv, v1, o1h, o2h, o3h, not_true, not_false_iff]
    · rw [rf h hh _ hk']
      simp (disch := omega) only [e147_55, e147_57, e147_58, e147_61, e147_62, e147_64, e147_67, e147_68, e147_71, e147_72, e147_73, e147_75, e147_78, ↓reduceIte, Bool.false_eq_true, not_false_eq_true, not_true_eq_false, Nat.reduceLeDiff, Nat.reduceAdd, Nat.reduceEqDiff, Int.reduceToNat, Int.toNat_natCast, iB0, iB1, ru_klI, ru_klR, ru_klF, ru_klJ, ru_kl0, ru_cs0, ru_csI, ru_csR, ru_csF, ru_csJ, wI_add, wI_sub, wI_mul, wI_lt, wI_le, wI_inj, ru_fdE, ru_fdN, ru_iaN, ru_baN, ru_laN, ru_qaN, ru_pfN, ru_isN, ru_bsN, ru_jsN, ru_qsN, ru_set2, Nat.add_right_cancel_iff, if_true, if_false, ite_self, Int.reduceEq, and_self, Int.add_neg_cancel_right, Int.add_zero, Int.zero_add, md_e, y4, o4 h hh, dv, not_true, not_false_iff]
  · right
    refine ⟨C5, S, M5, ?_, fun h hh => ?_, o3⟩
    · have o1h := o1 H S hH
      simp (disch := omega) only [en106, e106_0, e106_1, e106_4, e106_7, e106_8, e106_9, e106_12, e106_15, e106_16, e106_17, e106_20, e106_23, e106_24, e106_27, e106_28, e106_29, e106_32, e106_35, e106_36, e106_37, e106_40, e106_41, e106_42, e106_45, e106_46, e106_49, e106_50, e106_52, e106_55, e106_56, e106_59, e106_62, e106_63, e106_64, e106_65, e106_68, e106_71, e106_72, e106_75, e106_78, ↓reduceIte, Bool.false_eq_true, not_false_eq_true, not_true_eq_false, Nat.reduceLeDiff, Nat.reduceAdd, Nat.reduceEqDiff, Int.reduceToNat, Int.toNat_natCast, iB0, iB1, ru_klI, ru_klR, ru_klF, ru_klJ, ru_kl0, ru_cs0, ru_csI, ru_csR, ru_csF, ru_csJ, wI_add, wI_sub, wI_mul, wI_lt, wI_le, wI_inj, ru_fdE, ru_fdN, ru_iaN, ru_baN, ru_laN, ru_qaN, ru_pfN, ru_isN, ru_bsN, ru_jsN, ru_qsN, ru_set2, Nat.add_right_cancel_iff, if_true, if_false, ite_self, Int.reduceEq, and_self, Int.add_neg_cancel_right, Int.add_zero, Int.zero_add, rd_e hR, rd_f0 hR, rd_f3 hR, cl_e1, fP3, hk1, x1, x2, q1, y, c109, w, dv, v1, o1h, not_true, not_false_iff]
    · rw [rf h hh _ hk']
      simp (disch := omega) only [e147_55, e147_57, e147_58, e147_61, e147_62, e147_64, e147_67, e147_68, e147_71, e147_72, e147_73, e147_75, e147_78, ↓reduceIte, Bool.false_eq_true, not_false_eq_true, not_true_eq_false, Nat.reduceLeDiff, Nat.reduceAdd, Nat.reduceEqDiff, Int.reduceToNat, Int.toNat_natCast, iB0, iB1, ru_klI, ru_klR, ru_klF, ru_klJ, ru_kl0, ru_cs0, ru_csI, ru_csR, ru_csF, ru_csJ, wI_add, wI_sub, wI_mul, wI_lt, wI_le, wI_inj, ru_fdE, ru_fdN, ru_iaN, ru_baN, ru_laN, ru_qaN, ru_pfN, ru_isN, ru_bsN, ru_jsN, ru_qsN, ru_set2, Nat.add_right_cancel_iff, if_true, if_false, ite_self, Int.reduceEq, and_self, Int.add_neg_cancel_right, Int.add_zero, Int.zero_add, md_e, y4, o2 h hh, dv, not_true, not_false_iff]
end BES
