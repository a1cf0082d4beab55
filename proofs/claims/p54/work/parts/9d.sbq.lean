/-! ===== the StringBuilder's operations: a letter, a number, its end, its length, a byte ===== -/
/-- a small number's digits -/
def numT (v : Nat) : List Nat := if v < 10 then [48 + v] else [48 + v / 10, 48 + v % 10]
/-- the rows of digits -/
def dgI (H : am_H) : Prop := (∃ f, H.1 10 = some (.inl (11, 100, .inl f)) ∧ ∀ j, j < 100 → f j = wI ((48 + j % 10 : Nat) : Int)) ∧ ∃ f, H.1 11 = some (.inl (11, 100, .inl f)) ∧ ∀ j, j < 100 → f j = wI ((48 + j / 10 : Nat) : Int)
theorem dgI_on {H H' : am_H} {C C' : tCl} {l : List Nat} {cap cap' : Nat} (h : dgI H) (hb : sbS H C l cap) (k : sbOn H H' C C' cap cap') : dgI H' := by
  obtain ⟨⟨f, a1, a2⟩, g, b1, b2⟩ := h
  have hA := hb.2.2.2.2.1
  have hH := hb.2.2.2.2.2.2.1
  exact ⟨⟨f, by rw [k.1 10 (by omega) (by omega)]; exact a1, a2⟩, g, by rw [k.1 11 (by omega) (by omega)]; exact b1, b2⟩
section SBQ
variable {z : Bool} {H : am_H} {C : tCl} {l : List Nat} {cap : Nat}
theorem am_nb_s {v : Int} (h1 : 0 ≤ v) (h2 : v ≤ 127) : am_nb (wI v) = wI v := by
  apply Int32.toInt_inj.mp
  rw [am_nb_toInt, wI_toInt (by omega) (by omega), Int.bmod_eq_of_le (by omega) (by omega)]
theorem k315 (h : sbS H C l cap) : ru_ev z 315 [.ref 1258] (clPut H C) = some (.inl (some (.int (wI 1))), clPut H C) := by
  have g1 := cl_g11_1 (h := H) (C := C)
  rw [h.1] at g1
  have a1 : wI 1 &&& 1 = wI 1 := by decide +kernel
  have d1 : ((1 : Int) = 0) = False := eq_false (by decide)
  have d2 : ((0 : Int) = 0) = True := eq_true rfl
  simp (disch := omega) only [en315, e315_0, e315_3, e315_6, e315_7, e315_10, e315_13, e315_14, e315_18, ↓reduceIte, Bool.false_eq_true, not_false_eq_true, not_true_eq_false, Nat.reduceLeDiff, Nat.reduceAdd, Nat.reduceEqDiff, Int.reduceToNat, Int.toNat_natCast, iB0, iB1, ru_klI, ru_klR, ru_klF, ru_klJ, ru_kl0, ru_cs0, ru_csI, ru_csR, ru_csF, ru_csJ, wI_add, wI_sub, wI_mul, wI_lt, wI_le, wI_inj, ru_fdE, ru_fdN, ru_iaN, ru_baN, ru_laN, ru_qaN, ru_pfN, ru_isN, ru_bsN, ru_jsN, ru_qsN, ru_set2, Nat.add_right_cancel_iff, if_true, if_false, ite_self, Int.reduceEq, and_self, Int.add_neg_cancel_right, Int.add_zero, Int.zero_add, sb_e, g1, a1, d1]
theorem k319 (h : sbS H C l cap) {c : Nat} (hc : c ≤ 127) (hl : l.length + 1 ≤ 500) : ∃ H' C' cap', ru_ev z 319 [.ref 1258, .int (wI c)] (clPut H C) = some (.inl (some (.ref 1258)), clPut H' C') ∧ sbS H' C' (l ++ [c]) cap' ∧ sbOn H H' C C' cap cap' := by
  obtain ⟨a1, a2, a3, a4, a5, a6, a7, f, a8, a9⟩ := id h
  obtain ⟨H1, C1, cap1, r1, b1, b2, b3, b4⟩ := k303 (z := z) h (m := l.length + 1) hl
  obtain ⟨e1, e2, e3, e4, e5, e6, e7, f1, e8, e9⟩ := id b1
  have hlen : (l ++ [c]).length = l.length + 1 := by rw [List.length_append]; rfl
  obtain ⟨v1, v2⟩ := sbS_put (f' := up1 f1 l.length (c : Int)) (m := C1.1 1258 2) b1 (l' := l ++ [c]) (by omega) (fun i hi => by
    rw [getD_app]
    unfold up1
    by_cases ei : i = l.length
    · rw [if_pos ei, if_neg (by omega), ei, Nat.sub_self]; rfl
    · rw [if_neg ei, if_pos (by omega), e9 i (by omega)])
  rw [upI_self] at v1 v2
  have g3 := cl_g11_3 (h := H) (C := C)
  rw [a2] at g3
  have g3' := cl_g11_3 (h := H1) (C := C1)
  rw [e2] at g3'
  have g0' := cl_g11_0 (h := H1) (C := C1)
  have w := cl_q11_3 (h := H1) (C := C1) (v := (l.length : Int) + 1)
  rw [show ((l.length + 1 : Nat) : Int) = (l.length : Int) + 1 by omega] at r1
  have hlat := k315 (z := z) b1
  have en : ru_ev z 321 [.int (wI c)] (clPut H1 C1) = some (.inl (some (.int (wI 1))), clPut H1 C1) := by
    have a1 : wI 1 &&& 1 = wI 1 := by decide +kernel
    have d1 : ((255 : Int) < (c : Int)) = False := eq_false (by omega)
    simp (disch := omega) only [en321, e321_0, e321_1, e321_4, e321_7, e321_8, e321_12, ↓reduceIte, Bool.false_eq_true, not_false_eq_true, not_true_eq_false, Nat.reduceLeDiff, Nat.reduceAdd, Nat.reduceEqDiff, Int.reduceToNat, Int.toNat_natCast, iB0, iB1, ru_klI, ru_klR, ru_klF, ru_klJ, ru_kl0, ru_cs0, ru_csI, ru_csR, ru_csF, ru_csJ, wI_add, wI_sub, wI_mul, wI_lt, wI_le, wI_inj, ru_fdE, ru_fdN, ru_iaN, ru_baN, ru_laN, ru_qaN, ru_pfN, ru_isN, ru_bsN, ru_jsN, ru_qsN, ru_set2, Nat.add_right_cancel_iff, if_true, if_false, ite_self, Int.reduceEq, and_self, Int.add_neg_cancel_right, Int.add_zero, Int.zero_add, d1, a1]
  have n1 := am_nb_s (v := (c : Int)) (by omega) (by omega)
  have ew : am_bs (clPut H1 (upI C1 1258 3 ((l.length : Int) + 1))) (C1.2.2.2 1258 0) (wI (l.length : Nat)) (wI (c : Nat)) = some (clPut (am_set H1 (C1.2.2.2 1258 0) (.inl (1, cap1, .inl (fun i => wI (up1 f1 l.length (c : Int) i))))) (upI C1 1258 3 ((l.length : Int) + 1))) := by
    have e8' : (clPut H1 (upI C1 1258 3 ((l.length : Int) + 1))).1 (C1.2.2.2 1258 0) = some (.inl (1, cap1, .inl (fun i => wI (f1 i)))) := by rw [clPut_o (by omega)]; exact e8
    rw [ru_bs e8' (by omega) (by omega) (by omega), n1, cl_seto (by omega), Int.toNat_natCast]
    have e0 : am_up (fun i => wI (f1 i)) l.length (wI (c : Nat)) = fun i => wI (up1 f1 l.length (c : Int) i) := by
      funext j; unfold am_up up1; split <;> rfl
    rw [e0]
  have d0 : ((1 : Int) = 0) = False := eq_false (by decide)
  have e320 : ru_ev z 320 [.ref 1258, .int (wI c)] (clPut H C) = some (.inl (some (.ref 1258)), clPut (am_set H1 (C1.2.2.2 1258 0) (.inl (1, cap1, .inl (fun i => wI (up1 f1 l.length (c : Int) i))))) (upI C1 1258 3 ((l.length : Int) + 1))) := by
    simp (disch := omega) only [en320, e320_0, e320_1, e320_2, e320_5, e320_6, e320_7, e320_10, e320_11, e320_14, e320_17, e320_18, e320_21, e320_24, e320_25, e320_28, e320_29, e320_30, e320_33, e320_34, e320_35, e320_36, e320_39, e320_40, e320_41, e320_42, e320_75, e320_76, ↓reduceIte, Bool.false_eq_true, not_false_eq_true, not_true_eq_false, Nat.reduceLeDiff, Nat.reduceAdd, Nat.reduceEqDiff, Int.reduceToNat, Int.toNat_natCast, iB0, iB1, ru_klI, ru_klR, ru_klF, ru_klJ, ru_kl0, ru_cs0, ru_csI, ru_csR, ru_csF, ru_csJ, wI_add, wI_sub, wI_mul, wI_lt, wI_le, wI_inj, ru_fdE, ru_fdN, ru_iaN, ru_baN, ru_laN, ru_qaN, ru_pfN, ru_isN, ru_bsN, ru_jsN, ru_qsN, ru_set2, Nat.add_right_cancel_iff, if_true, if_false, ite_self, Int.reduceEq, and_self, Int.add_neg_cancel_right, Int.add_zero, Int.zero_add, sb_e, g3, r1, hlat, en, d0, g0', g3', ru_ctR, ru_ctI, w, n1, ew, and_self]
  rw [show ((l ++ [c]).length : Int) = (l.length : Int) + 1 by omega] at v1 v2
  refine ⟨_, _, cap1, ?_, v1, sbOn_tr b3 v2⟩
  simp (disch := omega) only [en319, e319_0, e319_1, e319_2, e319_5, e319_6, e319_7, ↓reduceIte, Bool.false_eq_true, not_false_eq_true, not_true_eq_false, Nat.reduceLeDiff, Nat.reduceAdd, Nat.reduceEqDiff, Int.reduceToNat, Int.toNat_natCast, iB0, iB1, ru_klI, ru_klR, ru_klF, ru_klJ, ru_kl0, ru_cs0, ru_csI, ru_csR, ru_csF, ru_csJ, wI_add, wI_sub, wI_mul, wI_lt, wI_le, wI_inj, ru_fdE, ru_fdN, ru_iaN, ru_baN, ru_laN, ru_qaN, ru_pfN, ru_isN, ru_bsN, ru_jsN, ru_qsN, ru_set2, Nat.add_right_cancel_iff, if_true, if_false, ite_self, Int.reduceEq, and_self, Int.add_neg_cancel_right, Int.add_zero, Int.zero_add, sb_e, e320, ru_ctR]
theorem k301 (h : sbS H C l cap) : ∃ C', ru_ev z 301 [.ref 1258, .int (wI 0)] (clPut H C) = some (.inl none, clPut H C') ∧ sbS H C' [] cap ∧ sbOn H H C C' cap cap := by
  obtain ⟨a1, a2, a3, a4, a5, a6, a7, f, a8, a9⟩ := id h
  have al := sb_al h
  have g1 := cl_g11_1 (h := H) (C := C)
  rw [a1] at g1
  have g3 := cl_g11_3 (h := H) (C := C)
  rw [a2] at g3
  have s := wI_sh0 (a := cap) (by omega)
  have d1 : ((0 : Int) - (cap : Int) ≤ 0) = True := eq_true (by omega)
  have e303 : ru_ev z 303 [.ref 1258, .int (wI 0)] (clPut H C) = some (.inl none, clPut H C) := by
    simp (disch := omega) only [en303, e303_0, e303_1, e303_4, e303_5, e303_6, e303_9, e303_10, e303_11, e303_12, e303_13, e303_14, e303_17, e303_18, e303_19, e303_22, e303_23, e303_24, e303_27, e303_28, e303_31, e303_32, e303_35, e303_38, ↓reduceIte, Bool.false_eq_true, not_false_eq_true, not_true_eq_false, Nat.reduceLeDiff, Nat.reduceAdd, Nat.reduceEqDiff, Int.reduceToNat, Int.toNat_natCast, iB0, iB1, ru_klI, ru_klR, ru_klF, ru_klJ, ru_kl0, ru_cs0, ru_csI, ru_csR, ru_csF, ru_csJ, wI_add, wI_sub, wI_mul, wI_lt, wI_le, wI_inj, ru_fdE, ru_fdN, ru_iaN, ru_baN, ru_laN, ru_qaN, ru_pfN, ru_isN, ru_bsN, ru_jsN, ru_qsN, ru_set2, Nat.add_right_cancel_iff, if_true, if_false, ite_self, Int.reduceEq, and_self, Int.add_neg_cancel_right, Int.add_zero, Int.zero_add, sb_e, cl_g11_0, g1, al, s.1, d1]
  have d2 : ((0 : Int) ≤ 0) = True := eq_true (by omega)
  have key : ∀ m : Int, sbS H (upI (upI C 1258 2 m) 1258 3 0) [] cap ∧ sbOn H H C (upI (upI C 1258 2 m) 1258 3 0) cap cap := fun m => by
    refine ⟨⟨?_, ?_, Nat.zero_le _, a4, a5, a6, a7, f, a8, fun i hi => absurd hi (Nat.not_lt_zero _)⟩, fun q h1 h2 => rfl, Nat.le_refl _, Nat.le_refl _, Nat.le_refl _, Or.inl rfl, fun q hq => ?_, rfl, rfl, fun _ _ => rfl⟩
    · rw [upI_e, if_neg (by decide), upI_e, if_neg (by decide)]; exact a1
    · rw [upI_e, if_pos rfl]; rfl
    · rw [upI_o hq, upI_o hq]
  by_cases c : l.length = 0
  · have d3 : ((l.length : Int) ≤ 0) = True := eq_true (by omega)
    have d4 : ((0 : Int) ≤ (l.length : Int)) = True := eq_true (by omega)
    have w := cl_q11_3 (h := H) (C := C) (v := 0)
    have k := key (C.1 1258 2)
    rw [upI_self] at k
    have d5 : ((l.length : Int) < 0) = False := eq_false (by omega)
    have e302 : ru_ev z 302 [.ref 1258, .int (wI 0)] (clPut H C) = some (.inl none, clPut H (upI C 1258 3 0)) := by
      simp (disch := omega) only [en302, e302_0, e302_1, e302_13, e302_14, e302_15, e302_18, e302_19, e302_22, e302_23, e302_63, e302_64, e302_67, e302_68, e302_71, e302_72, e302_73, e302_76, e302_77, e302_78, e302_81, ↓reduceIte, Bool.false_eq_true, not_false_eq_true, not_true_eq_false, Nat.reduceLeDiff, Nat.reduceAdd, Nat.reduceEqDiff, Int.reduceToNat, Int.toNat_natCast, iB0, iB1, ru_klI, ru_klR, ru_klF, ru_klJ, ru_kl0, ru_cs0, ru_csI, ru_csR, ru_csF, ru_csJ, wI_add, wI_sub, wI_mul, wI_lt, wI_le, wI_inj, ru_fdE, ru_fdN, ru_iaN, ru_baN, ru_laN, ru_qaN, ru_pfN, ru_isN, ru_bsN, ru_jsN, ru_qsN, ru_set2, Nat.add_right_cancel_iff, if_true, if_false, ite_self, Int.reduceEq, and_self, Int.add_neg_cancel_right, Int.add_zero, Int.zero_add, sb_e, e303, g3, d2, d3, d4, d5, w]
    refine ⟨_, ?_, k⟩
    simp (disch := omega) only [en301, e301_0, e301_1, e301_2, e301_5, ↓reduceIte, Bool.false_eq_true, not_false_eq_true, not_true_eq_false, Nat.reduceLeDiff, Nat.reduceAdd, Nat.reduceEqDiff, Int.reduceToNat, Int.toNat_natCast, iB0, iB1, ru_klI, ru_klR, ru_klF, ru_klJ, ru_kl0, ru_cs0, ru_csI, ru_csR, ru_csF, ru_csJ, wI_add, wI_sub, wI_mul, wI_lt, wI_le, wI_inj, ru_fdE, ru_fdN, ru_iaN, ru_baN, ru_laN, ru_qaN, ru_pfN, ru_isN, ru_bsN, ru_jsN, ru_qsN, ru_set2, Nat.add_right_cancel_iff, if_true, if_false, ite_self, Int.reduceEq, and_self, Int.add_neg_cancel_right, Int.add_zero, Int.zero_add, sb_e, e302]
  · have d3 : ((l.length : Int) ≤ 0) = False := eq_false (by omega)
    have d4 : ((0 : Int) ≤ (l.length : Int)) = True := eq_true (by omega)
    have d5 : ((l.length : Int) < 0) = False := eq_false (by omega)
    have w2 := cl_q11_2 (h := H) (C := C) (v := 1) (by omega) (by omega)
    have w := cl_q11_3 (h := H) (C := upI C 1258 2 1) (v := 0)
    have e302 : ru_ev z 302 [.ref 1258, .int (wI 0)] (clPut H C) = some (.inl none, clPut H (upI (upI C 1258 2 1) 1258 3 0)) := by
      simp (disch := omega) only [en302, e302_0, e302_1, e302_13, e302_14, e302_15, e302_18, e302_19, e302_22, e302_23, e302_63, e302_64, e302_67, e302_68, e302_71, e302_72, e302_73, e302_76, e302_77, e302_78, e302_81, ↓reduceIte, Bool.false_eq_true, not_false_eq_true, not_true_eq_false, Nat.reduceLeDiff, Nat.reduceAdd, Nat.reduceEqDiff, Int.reduceToNat, Int.toNat_natCast, iB0, iB1, ru_klI, ru_klR, ru_klF, ru_klJ, ru_kl0, ru_cs0, ru_csI, ru_csR, ru_csF, ru_csJ, wI_add, wI_sub, wI_mul, wI_lt, wI_le, wI_inj, ru_fdE, ru_fdN, ru_iaN, ru_baN, ru_laN, ru_qaN, ru_pfN, ru_isN, ru_bsN, ru_jsN, ru_qsN, ru_set2, Nat.add_right_cancel_iff, if_true, if_false, ite_self, Int.reduceEq, and_self, Int.add_neg_cancel_right, Int.add_zero, Int.zero_add, sb_e, e303, g3, d2, d3, d4, d5, w, w2]
    refine ⟨_, ?_, key 1⟩
    simp (disch := omega) only [en301, e301_0, e301_1, e301_2, e301_5, ↓reduceIte, Bool.false_eq_true, not_false_eq_true, not_true_eq_false, Nat.reduceLeDiff, Nat.reduceAdd, Nat.reduceEqDiff, Int.reduceToNat, Int.toNat_natCast, iB0, iB1, ru_klI, ru_klR, ru_klF, ru_klJ, ru_kl0, ru_cs0, ru_csI, ru_csR, ru_csF, ru_csJ, wI_add, wI_sub, wI_mul, wI_lt, wI_le, wI_inj, ru_fdE, ru_fdN, ru_iaN, ru_baN, ru_laN, ru_qaN, ru_pfN, ru_isN, ru_bsN, ru_jsN, ru_qsN, ru_set2, Nat.add_right_cancel_iff, if_true, if_false, ite_self, Int.reduceEq, and_self, Int.add_neg_cancel_right, Int.add_zero, Int.zero_add, sb_e, e302]
theorem k324 (h : sbS H C l cap) : ru_ev z 324 [.ref 1258] (clPut H C) = some (.inl (some (.int (wI (l.length : Nat)))), clPut H C) := by
  have g3 := cl_g11_3 (h := H) (C := C)
  rw [h.2.1] at g3
  have e325 : ru_ev z 325 [.ref 1258] (clPut H C) = some (.inl (some (.int (wI (l.length : Nat)))), clPut H C) := by
    simp (disch := omega) only [en325, e325_0, e325_1, e325_4, ↓reduceIte, Bool.false_eq_true, not_false_eq_true, not_true_eq_false, Nat.reduceLeDiff, Nat.reduceAdd, Nat.reduceEqDiff, Int.reduceToNat, Int.toNat_natCast, iB0, iB1, ru_klI, ru_klR, ru_klF, ru_klJ, ru_kl0, ru_cs0, ru_csI, ru_csR, ru_csF, ru_csJ, wI_add, wI_sub, wI_mul, wI_lt, wI_le, wI_inj, ru_fdE, ru_fdN, ru_iaN, ru_baN, ru_laN, ru_qaN, ru_pfN, ru_isN, ru_bsN, ru_jsN, ru_qsN, ru_set2, Nat.add_right_cancel_iff, if_true, if_false, ite_self, Int.reduceEq, and_self, Int.add_neg_cancel_right, Int.add_zero, Int.zero_add, sb_e, g3]
  simp (disch := omega) only [en324, e324_0, e324_1, e324_4, ↓reduceIte, Bool.false_eq_true, not_false_eq_true, not_true_eq_false, Nat.reduceLeDiff, Nat.reduceAdd, Nat.reduceEqDiff, Int.reduceToNat, Int.toNat_natCast, iB0, iB1, ru_klI, ru_klR, ru_klF, ru_klJ, ru_kl0, ru_cs0, ru_csI, ru_csR, ru_csF, ru_csJ, wI_add, wI_sub, wI_mul, wI_lt, wI_le, wI_inj, ru_fdE, ru_fdN, ru_iaN, ru_baN, ru_laN, ru_qaN, ru_pfN, ru_isN, ru_bsN, ru_jsN, ru_qsN, ru_set2, Nat.add_right_cancel_iff, if_true, if_false, ite_self, Int.reduceEq, and_self, Int.add_neg_cancel_right, Int.add_zero, Int.zero_add, sb_e, e325]
theorem en35n {h : am_H} {x0 x1 : Int32} : ru_ev z 35 [.int x0, .int x1, .null] h = ru_n z 35 0 [some (.int x0), some (.int x1), some .null] [] h := ru_enS (by decide +kernel) (n := 3) (by decide +kernel) rfl (Nat.le_of_ble_eq_true rfl)
theorem k34 {X : am_H} {i n : Int} (h1 : 0 ≤ i) (h2 : i < n) (h3 : n ≤ 5000) : ru_ev z 34 [.int (wI i), .int (wI n)] X = some (.inl none, X) := by
  have d1 : (i < 0) = False := eq_false (by omega)
  have d2 : (i < n) = True := eq_true h2
  cases z <;> simp (disch := omega) only [en34, e34_0, e34_1, e34_2, e34_5, e34_8, e34_9, en35, e35_0, e35_1, e35_4, e35_5, e35_6, e35_16, e35_17, en35n, ↓reduceIte, Bool.false_eq_true, not_false_eq_true, not_true_eq_false, Nat.reduceLeDiff, Nat.reduceAdd, Nat.reduceEqDiff, Int.reduceToNat, Int.toNat_natCast, iB0, iB1, ru_klI, ru_klR, ru_klF, ru_klJ, ru_kl0, ru_cs0, ru_csI, ru_csR, ru_csF, ru_csJ, wI_add, wI_sub, wI_mul, wI_lt, wI_le, wI_inj, ru_fdE, ru_fdN, ru_iaN, ru_baN, ru_laN, ru_qaN, ru_pfN, ru_isN, ru_bsN, ru_jsN, ru_qsN, ru_set2, Nat.add_right_cancel_iff, if_true, if_false, ite_self, Int.reduceEq, and_self, Int.add_neg_cancel_right, Int.add_zero, Int.zero_add, d1, d2, ru_ctI]
theorem am_ch {v : Int} (h1 : 0 ≤ v) (h2 : v ≤ 127) : ((wI v &&& wI 255).toUInt32 % 65536).toInt32 = wI v ∧ (wI v).toUInt32.toUInt16.toUInt32.toInt32 = wI v := by
  have key : ∀ v : Fin 128, ((wI ((v.val : Nat) : Int) &&& wI 255).toUInt32 % 65536).toInt32 = wI ((v.val : Nat) : Int) ∧ (wI ((v.val : Nat) : Int)).toUInt32.toUInt16.toUInt32.toInt32 = wI ((v.val : Nat) : Int) := by decide +kernel
  obtain ⟨n, rfl⟩ := Int.eq_ofNat_of_zero_le h1
  exact key ⟨n, by omega⟩
theorem k343 (h : sbS H C l cap) {i : Nat} (hi : i < l.length) (hl : ∀ i, i < l.length → l.getD i 0 ≤ 127) : ru_ev z 343 [.ref 1258, .int (wI i)] (clPut H C) = some (.inl (some (.int (wI ((l.getD i 0 : Nat) : Int)))), clPut H C) := by
  have al := sb_al h
  obtain ⟨a1, a2, a3, a4, a5, a6, a7, f, a8, a9⟩ := id h
  have g0 := cl_g11_0 (h := H) (C := C)
  have g1 := cl_g11_1 (h := H) (C := C)
  rw [a1] at g1
  have g3 := cl_g11_3 (h := H) (C := C)
  rw [a2] at g3
  have s := wI_sh0 (a := cap) (by omega)
  have mn := m264 (z := z) (h := clPut H C) (a := (l.length : Int)) (b := (cap : Int)) (by omega) (by omega)
  rw [if_pos (by omega)] at mn
  have kc := k34 (z := z) (X := clPut H C) (i := (i : Int)) (n := (l.length : Int)) (by omega) (by omega) (by omega)
  have e8 : (clPut H C).1 (C.2.2.2 1258 0) = some (.inl (1, cap, .inl (fun i => wI (f i)))) := by rw [clPut_o (by omega)]; exact a8
  have rd := ru_ba (z := (i : Int)) e8 (Or.inl rfl) (by omega) (by omega) (by omega)
  rw [Int.toNat_natCast, a9 i hi] at rd
  have hb := hl i hi
  obtain ⟨c1, c2⟩ := am_ch (v := ((l.getD i 0 : Nat) : Int)) (by omega) (by omega)
  have n0 : am_nb (wI 0) = wI 0 := by decide +kernel
  have e344 : ru_ev z 344 [.ref 1258, .int (wI i)] (clPut H C) = some (.inl (some (.int (wI ((l.getD i 0 : Nat) : Int)))), clPut H C) := by
    simp (disch := omega) only [en344, e344_0, e344_1, e344_4, e344_5, e344_6, e344_9, e344_10, e344_11, e344_14, e344_15, e344_16, e344_17, e344_18, e344_21, e344_23, e344_24, e344_26, e344_29, e344_30, e344_33, e344_34, e344_35, e344_36, e344_39, e344_40, e344_41, ↓reduceIte, Bool.false_eq_true, not_false_eq_true, not_true_eq_false, Nat.reduceLeDiff, Nat.reduceAdd, Nat.reduceEqDiff, Int.reduceToNat, Int.toNat_natCast, iB0, iB1, ru_klI, ru_klR, ru_klF, ru_klJ, ru_kl0, ru_cs0, ru_csI, ru_csR, ru_csF, ru_csJ, wI_add, wI_sub, wI_mul, wI_lt, wI_le, wI_inj, ru_fdE, ru_fdN, ru_iaN, ru_baN, ru_laN, ru_qaN, ru_pfN, ru_isN, ru_bsN, ru_jsN, ru_qsN, ru_set2, Nat.add_right_cancel_iff, if_true, if_false, ite_self, Int.reduceEq, and_self, Int.add_neg_cancel_right, Int.add_zero, Int.zero_add, sb_e, g0, g1, g3, al, s.1, mn, kc, rd, c1, c2]
  simp (disch := omega) only [en343, e343_0, e343_1, e343_2, e343_5, ↓reduceIte, Bool.false_eq_true, not_false_eq_true, not_true_eq_false, Nat.reduceLeDiff, Nat.reduceAdd, Nat.reduceEqDiff, Int.reduceToNat, Int.toNat_natCast, iB0, iB1, ru_klI, ru_klR, ru_klF, ru_klJ, ru_kl0, ru_cs0, ru_csI, ru_csR, ru_csF, ru_csJ, wI_add, wI_sub, wI_mul, wI_lt, wI_le, wI_inj, ru_fdE, ru_fdN, ru_iaN, ru_baN, ru_laN, ru_qaN, ru_pfN, ru_isN, ru_bsN, ru_jsN, ru_qsN, ru_set2, Nat.add_right_cancel_iff, if_true, if_false, ite_self, Int.reduceEq, and_self, Int.add_neg_cancel_right, Int.add_zero, Int.zero_add, sb_e, e344, c2]
theorem k314 {X : am_H} {v : Int} (h1 : 0 ≤ v) (h2 : v ≤ 99) : ru_ev z 314 [.int (wI v)] X = some (.inl (some (.int (wI (if v < 10 then 1 else 2)))), X) := by
  have d0 : (v < 0) = False := eq_false (by omega)
  by_cases c : v < 10
  · have d1 : (-v ≤ -10) = False := eq_false (by omega)
    rw [if_pos c]
    simp (disch := omega) only [en314, e314_0, e314_1, e314_2, e314_3, e314_6, e314_7, e314_8, e314_9, e314_10, e314_11, e314_13, e314_14, e314_15, e314_16, e314_17, e314_19, e314_22, e314_23, e314_24, e314_27, e314_28, e314_29, e314_30, e314_31, e314_33, e314_34, e314_35, e314_36, e314_39, e314_42, e314_44, e314_45, e314_46, ↓reduceIte, Bool.false_eq_true, not_false_eq_true, not_true_eq_false, Nat.reduceLeDiff, Nat.reduceAdd, Nat.reduceEqDiff, Int.reduceToNat, Int.toNat_natCast, iB0, iB1, ru_klI, ru_klR, ru_klF, ru_klJ, ru_kl0, ru_cs0, ru_csI, ru_csR, ru_csF, ru_csJ, wI_add, wI_sub, wI_mul, wI_lt, wI_le, wI_inj, ru_fdE, ru_fdN, ru_iaN, ru_baN, ru_laN, ru_qaN, ru_pfN, ru_isN, ru_bsN, ru_jsN, ru_qsN, ru_set2, Nat.add_right_cancel_iff, if_true, if_false, ite_self, Int.reduceEq, and_self, Int.add_neg_cancel_right, Int.add_zero, Int.zero_add, d0, d1, wI_neg, Int.reduceNeg, Int.reduceLE, Int.reduceAdd]
  · have d1 : (-v ≤ -10) = True := eq_true (by omega)
    have d2 : (-v ≤ -100) = False := eq_false (by omega)
    rw [if_neg c]
    simp (disch := omega) only [en314, e314_0, e314_1, e314_2, e314_3, e314_6, e314_7, e314_8, e314_9, e314_10, e314_11, e314_13, e314_14, e314_15, e314_16, e314_17, e314_19, e314_22, e314_23, e314_24, e314_27, e314_28, e314_29, e314_30, e314_31, e314_33, e314_34, e314_35, e314_36, e314_39, e314_42, e314_44, e314_45, e314_46, ↓reduceIte, Bool.false_eq_true, not_false_eq_true, not_true_eq_false, Nat.reduceLeDiff, Nat.reduceAdd, Nat.reduceEqDiff, Int.reduceToNat, Int.toNat_natCast, iB0, iB1, ru_klI, ru_klR, ru_klF, ru_klJ, ru_kl0, ru_cs0, ru_csI, ru_csR, ru_csF, ru_csJ, wI_add, wI_sub, wI_mul, wI_lt, wI_le, wI_inj, ru_fdE, ru_fdN, ru_iaN, ru_baN, ru_laN, ru_qaN, ru_pfN, ru_isN, ru_bsN, ru_jsN, ru_qsN, ru_set2, Nat.add_right_cancel_iff, if_true, if_false, ite_self, Int.reduceEq, and_self, Int.add_neg_cancel_right, Int.add_zero, Int.zero_add, d0, d1, d2, wI_neg, Int.reduceNeg, Int.reduceLE, Int.reduceAdd, Int.reduceMul]
end SBQ
