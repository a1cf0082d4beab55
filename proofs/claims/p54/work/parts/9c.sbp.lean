/-! ===== the StringBuilder's operations: texts, letters, numbers ===== -/
theorem upI_self (C : tCl) (a k : Nat) : upI C a k (C.1 a k) = C := by
  refine Prod.ext (funext fun q => funext fun j => ?_) rfl
  show (if q = a then (if j = k then C.1 a k else C.1 q j) else C.1 q j) = C.1 q j
  split
  · rename_i e; split
    · rename_i e2; rw [e, e2]
    · rfl
  · rfl
theorem getD_app (l t : List Nat) {i : Nat} : (l ++ t).getD i 0 = if i < l.length then l.getD i 0 else t.getD (i - l.length) 0 := by
  simp only [List.getD_eq_getElem?_getD]
  by_cases c : i < l.length
  · rw [if_pos c, List.getElem?_append_left c]
  · rw [if_neg c, List.getElem?_append_right (by omega)]
section SBP
variable {z : Bool} {H : am_H} {C : tCl} {l : List Nat} {cap : Nat}
theorem k311 (h : sbS H C l cap) {S V : Nat} {t : List Nat} (hs : stAt H S V t) (hc : l.length + t.length ≤ cap) (ht : t.length ≤ 100) : ∃ f' : Nat → Int, (∀ i, i < l.length + t.length → f' i = (((l ++ t).getD i 0 : Nat) : Int)) ∧ ru_ev z 311 [.ref S, .ref (C.2.2.2 1258 0), .int (wI (l.length : Nat)), .int (wI 0)] (clPut H C) = some (.inl none, clPut (am_set H (C.2.2.2 1258 0) (.inl (1, cap, .inl (fun i => wI (f' i))))) C) := by
  obtain ⟨a1, a2, a3, a4, a5, a6, a7, f, a8, a9⟩ := id h
  obtain ⟨s1, sf, s2, s3⟩ := stAt_cl (C := C) hs
  have f0 : am_fd (clPut H C) S 50 0 = some (.ref V) := ru_fd s1 rfl
  have al : am_al (clPut H C) V = some (wI (t.length : Nat)) := ru_al s2 (by decide)
  have sh := wI_sh0 (a := l.length) (by omega)
  have e8 : (clPut H C).1 (C.2.2.2 1258 0) = some (.inl (1, cap, .inl (fun i => wI (f i)))) := by rw [clPut_o (by omega)]; exact a8
  have hV : V ≠ C.2.2.2 1258 0 := by have := hs.2.2.2; omega
  have e4 : am_ac (clPut H C) V (wI 0) (C.2.2.2 1258 0) (wI (l.length : Nat)) (wI (t.length : Nat)) = some (clPut (am_set H (C.2.2.2 1258 0) (.inl (1, cap, .inl (va_cpy sf (fun i => wI (f i)) 0 l.length t.length)))) C) := by
    unfold am_ac
    rw [s2, e8]
    dsimp only
    have t0 : (wI 0).toNatClampNeg = 0 := by decide +kernel
    have t1 : (wI (l.length : Nat)).toNatClampNeg = l.length := by rw [wI_clamp (by omega) (by omega)]; exact Int.toNat_natCast _
    have t2 : (wI (t.length : Nat)).toNatClampNeg = t.length := by rw [wI_clamp (by omega) (by omega)]; exact Int.toNat_natCast _
    have l0 : ¬ wI 0 < 0 := by decide +kernel
    have l1 : ¬ wI (l.length : Nat) < 0 := by rw [wI_0, wI_lt (by omega) (by omega) (by omega) (by omega)]; omega
    have l2 : ¬ wI (t.length : Nat) < 0 := by rw [wI_0, wI_lt (by omega) (by omega) (by omega) (by omega)]; omega
    rw [t0, t1, t2, if_pos ⟨Or.inr rfl, rfl, l0, l1, l2, by omega, by omega, hV⟩, cl_seto (by omega)]
  have e6 : va_cpy sf (fun i => wI (f i)) 0 l.length t.length = fun i => wI (if l.length ≤ i ∧ i < l.length + t.length then ((t.getD (i - l.length) 0 : Nat) : Int) else f i) := by
    funext i
    unfold va_cpy
    by_cases c : l.length ≤ i ∧ i < l.length + t.length
    · rw [if_pos c, if_pos c, Nat.zero_add, s3 _ (by omega)]
    · rw [if_neg c, if_neg c]
  rw [e6] at e4
  refine ⟨fun i => if l.length ≤ i ∧ i < l.length + t.length then ((t.getD (i - l.length) 0 : Nat) : Int) else f i, fun i hi => ?_, ?_⟩
  · dsimp only
    rw [getD_app]
    by_cases c : i < l.length
    · rw [if_neg (by omega), if_pos c, a9 i c]
    · rw [if_pos (by omega), if_neg c]
  · simp (disch := omega) only [en311, e311_0, e311_1, e311_4, e311_5, e311_8, e311_9, e311_12, e311_13, e311_14, e311_15, e311_16, e311_17, e311_18, e311_21, e311_22, e311_25, e311_43, ↓reduceIte, Bool.false_eq_true, not_false_eq_true, not_true_eq_false, Nat.reduceLeDiff, Nat.reduceAdd, Nat.reduceEqDiff, Int.reduceToNat, Int.toNat_natCast, iB0, iB1, ru_klI, ru_klR, ru_klF, ru_klJ, ru_kl0, ru_cs0, ru_csI, ru_csR, ru_csF, ru_csJ, wI_add, wI_sub, wI_mul, wI_lt, wI_le, wI_inj, ru_fdE, ru_fdN, ru_iaN, ru_baN, ru_laN, ru_qaN, ru_pfN, ru_isN, ru_bsN, ru_jsN, ru_qsN, ru_set2, Nat.add_right_cancel_iff, if_true, if_false, ite_self, Int.reduceEq, and_self, Int.add_neg_cancel_right, Int.add_zero, Int.zero_add, s1, f0, al, k30 s1, sh.2.1, e4, not_true]
theorem k307 (h : sbS H C l cap) {S V : Nat} {t : List Nat} (hs : stAt H S V t) (hc : l.length + t.length ≤ 500) (ht : t.length ≤ 100) : ∃ H' C' cap', ru_ev z 307 [.ref 1258, .ref S] (clPut H C) = some (.inl (some (.ref 1258)), clPut H' C') ∧ sbS H' C' (l ++ t) cap' ∧ sbOn H H' C C' cap cap' := by
  obtain ⟨a1, a2, a3, a4, a5, a6, a7, f, a8, a9⟩ := id h
  obtain ⟨s1, sf, s2, s3⟩ := stAt_cl (C := C) hs
  have kl := k29 (z := z) s1 s2 ht
  obtain ⟨H1, C1, cap1, r1, b1, b2, b3, b4⟩ := k303 (z := z) h (m := l.length + t.length) hc
  have hs1 := stAt_on hs h b3
  obtain ⟨s1', sf', s2', s3'⟩ := stAt_cl (C := C1) hs1
  obtain ⟨f', u1, u2⟩ := k311 (z := z) b1 hs1 b2 ht
  have hlen : (l ++ t).length = l.length + t.length := List.length_append
  obtain ⟨v1, v2⟩ := sbS_put (f' := f') (m := C1.1 1258 2) b1 (l' := l ++ t) (by omega) (fun i hi => u1 i (by omega))
  rw [upI_self] at v1 v2
  have g3 := cl_g11_3 (h := H) (C := C)
  rw [a2] at g3
  have g3' := cl_g11_3 (h := H1) (C := C1)
  rw [b1.2.1] at g3'
  have g1' := cl_g11_1 (h := H1) (C := C1)
  rw [b1.1] at g1'
  have g0' := cl_g11_0 (h := H1) (C := C1)
  have g3'' := cl_g11_3 (h := am_set H1 (C1.2.2.2 1258 0) (.inl (1, cap1, .inl (fun i => wI (f' i))))) (C := C1)
  rw [b1.2.1] at g3''
  have w := cl_q11_3 (h := am_set H1 (C1.2.2.2 1258 0) (.inl (1, cap1, .inl (fun i => wI (f' i))))) (C := C1) (v := (l.length : Int) + (t.length : Int))
  rw [show (l.length : Int) + (t.length : Int) = ((l ++ t).length : Int) by omega] at w
  rw [show ((l.length + t.length : Nat) : Int) = (l.length : Int) + (t.length : Int) by omega] at r1
  have k30' := k30 (z := z) s1'
  have e310 : ru_ev z 310 [.ref 1258, .ref S] (clPut H1 C1) = some (.inl none, clPut H1 C1) := by
    simp (disch := omega) only [en310, e310_0, e310_3, e310_6, e310_7, e310_10, e310_11, e310_14, e310_21, ↓reduceIte, Bool.false_eq_true, not_false_eq_true, not_true_eq_false, Nat.reduceLeDiff, Nat.reduceAdd, Nat.reduceEqDiff, Int.reduceToNat, Int.toNat_natCast, iB0, iB1, ru_klI, ru_klR, ru_klF, ru_klJ, ru_kl0, ru_cs0, ru_csI, ru_csR, ru_csF, ru_csJ, wI_add, wI_sub, wI_mul, wI_lt, wI_le, wI_inj, ru_fdE, ru_fdN, ru_iaN, ru_baN, ru_laN, ru_qaN, ru_pfN, ru_isN, ru_bsN, ru_jsN, ru_qsN, ru_set2, Nat.add_right_cancel_iff, if_true, if_false, ite_self, Int.reduceEq, and_self, Int.add_neg_cancel_right, Int.add_zero, Int.zero_add, sb_e, g1', k30', Int.reduceEq]
  have e309 : ru_ev z 309 [.ref 1258, .int (wI (l.length : Nat)), .ref S] (clPut H1 C1) = some (.inl none, clPut (am_set H1 (C1.2.2.2 1258 0) (.inl (1, cap1, .inl (fun i => wI (f' i))))) C1) := by
    simp (disch := omega) only [en309, e309_0, e309_1, e309_2, e309_5, e309_6, e309_7, e309_10, e309_11, e309_12, e309_15, e309_18, ↓reduceIte, Bool.false_eq_true, not_false_eq_true, not_true_eq_false, Nat.reduceLeDiff, Nat.reduceAdd, Nat.reduceEqDiff, Int.reduceToNat, Int.toNat_natCast, iB0, iB1, ru_klI, ru_klR, ru_klF, ru_klJ, ru_kl0, ru_cs0, ru_csI, ru_csR, ru_csF, ru_csJ, wI_add, wI_sub, wI_mul, wI_lt, wI_le, wI_inj, ru_fdE, ru_fdN, ru_iaN, ru_baN, ru_laN, ru_qaN, ru_pfN, ru_isN, ru_bsN, ru_jsN, ru_qsN, ru_set2, Nat.add_right_cancel_iff, if_true, if_false, ite_self, Int.reduceEq, and_self, Int.add_neg_cancel_right, Int.add_zero, Int.zero_add, sb_e, g0', g1', e310, u2]
  have e308 : ru_ev z 308 [.ref 1258, .ref S] (clPut H C) = some (.inl (some (.ref 1258)), clPut (am_set H1 (C1.2.2.2 1258 0) (.inl (1, cap1, .inl (fun i => wI (f' i))))) (upI C1 1258 3 ((l ++ t).length : Int))) := by
    simp (disch := omega) only [en308, e308_0, e308_1, e308_9, e308_10, e308_13, e308_14, e308_15, e308_16, e308_19, e308_20, e308_21, e308_24, e308_25, e308_26, e308_29, e308_30, e308_33, e308_34, e308_35, e308_38, e308_39, e308_40, e308_43, e308_44, ↓reduceIte, Bool.false_eq_true, not_false_eq_true, not_true_eq_false, Nat.reduceLeDiff, Nat.reduceAdd, Nat.reduceEqDiff, Int.reduceToNat, Int.toNat_natCast, iB0, iB1, ru_klI, ru_klR, ru_klF, ru_klJ, ru_kl0, ru_cs0, ru_csI, ru_csR, ru_csF, ru_csJ, wI_add, wI_sub, wI_mul, wI_lt, wI_le, wI_inj, ru_fdE, ru_fdN, ru_iaN, ru_baN, ru_laN, ru_qaN, ru_pfN, ru_isN, ru_bsN, ru_jsN, ru_qsN, ru_set2, Nat.add_right_cancel_iff, if_true, if_false, ite_self, Int.reduceEq, and_self, Int.add_neg_cancel_right, Int.add_zero, Int.zero_add, sb_e, kl, g3, r1, g3', e309, g3'', ru_ctR, ← show (l.length : Int) + (t.length : Int) = ((l ++ t).length : Int) by omega]
    rw [show (l.length : Int) + (t.length : Int) = ((l ++ t).length : Int) by omega]
    simp (disch := omega) only [w, e308_33, e308_34, e308_35, e308_38, e308_39, e308_40, e308_43, e308_44, ↓reduceIte, Bool.false_eq_true, not_false_eq_true, not_true_eq_false, Nat.reduceLeDiff, Nat.reduceAdd, Nat.reduceEqDiff, Int.reduceToNat, Int.toNat_natCast, iB0, iB1, ru_klI, ru_klR, ru_klF, ru_klJ, ru_kl0, ru_cs0, ru_csI, ru_csR, ru_csF, ru_csJ, wI_add, wI_sub, wI_mul, wI_lt, wI_le, wI_inj, ru_fdE, ru_fdN, ru_iaN, ru_baN, ru_laN, ru_qaN, ru_pfN, ru_isN, ru_bsN, ru_jsN, ru_qsN, ru_set2, Nat.add_right_cancel_iff, if_true, if_false, ite_self, Int.reduceEq, and_self, Int.add_neg_cancel_right, Int.add_zero, Int.zero_add]
  refine ⟨_, _, cap1, ?_, v1, sbOn_tr b3 v2⟩
  simp (disch := omega) only [en307, e307_0, e307_1, e307_2, e307_5, e307_6, e307_7, ↓reduceIte, Bool.false_eq_true, not_false_eq_true, not_true_eq_false, Nat.reduceLeDiff, Nat.reduceAdd, Nat.reduceEqDiff, Int.reduceToNat, Int.toNat_natCast, iB0, iB1, ru_klI, ru_klR, ru_klF, ru_klJ, ru_kl0, ru_cs0, ru_csI, ru_csR, ru_csF, ru_csJ, wI_add, wI_sub, wI_mul, wI_lt, wI_le, wI_inj, ru_fdE, ru_fdN, ru_iaN, ru_baN, ru_laN, ru_qaN, ru_pfN, ru_isN, ru_bsN, ru_jsN, ru_qsN, ru_set2, Nat.add_right_cancel_iff, if_true, if_false, ite_self, Int.reduceEq, and_self, Int.add_neg_cancel_right, Int.add_zero, Int.zero_add, sb_e, e308, ru_ctR]
end SBP
