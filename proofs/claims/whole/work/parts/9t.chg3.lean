/-! ===== writeChange: what both call ===== -/
def rcW (C : tCl) (f : Int) : Nat := if rcP C f = 0 then (if f = 0 then 2 else 0) else rcP C f
def rfW (M : tMd) (f : Int) : Int := if rfP M f = 0 then (if f = 0 then 2 else 0) else rfP M f
theorem rcW_0 {C : tCl} {f : Int} (e : rcW C f = 0) : rcP C f = 0 ∧ 1 ≤ f ∧ rcP C (f - 1) = 0 := by
  unfold rcW at e
  by_cases c : rcP C f = 0
  · rw [if_pos c] at e
    by_cases c2 : f = 0
    · rw [if_pos c2] at e; exact absurd e (by decide)
    · refine ⟨c, ?_⟩
      unfold rcP at c ⊢
      split at c
      · exact absurd c (by decide)
      · rename_i h1
        split at c
        · rename_i h2
          refine ⟨by omega, ?_⟩
          rw [if_neg h1, if_pos (by omega)]
        · exact absurd c (by decide)
  · rw [if_neg c] at e; exact absurd e c
section CHG3
variable {z : Bool} {M : tMd} {N : Nat}
theorem k336 {H : am_H} {C : tCl} {l : List Nat} {cap : Nat} (hR : clR C) (hs : sbS H C l cap) (hst : strs H) {f : Int} (g : -2147483648 ≤ f ∧ f < 2147483648) (hm : rcW C f = 0 → wcM C M N) {n o : Nat} (hn : rcW C f = 0 → n = nmN (cph C (cAp C f.toNat)) ((cph C (cAp C f.toNat)).1 7).toNat ∧ o = nmN (cph C (cAp C (f - 1).toNat)) ((cph C (cAp C (f - 1).toNat)).1 7).toNat) : ∃ t v C' H', ru_ev z 336 [.ref 1000, .int (wI f)] (clPut H C) = oR t (some (.int (wI v))) (clPut H' C') (clPut H' C') ∧ ((¬ rcW C f = 0 ∧ t = rcW C f ∧ C' = C ∧ H' = thr H) ∨ (rcW C f = 0 ∧ t = 0 ∧ (∃ cap', sbS H' C' (chT M N (difN n o) (difN o n)) cap' ∧ sbOn H H' C C' cap cap') ∧ v = ((chT M N (difN n o) (difN o n)).length : Int))) := by
  have e2 := d78 (z := z) (h := H) hR g
  have hF := clF hR.1 (h := H)
  by_cases e : rcW C f = 0
  · obtain ⟨a1, a2, a3⟩ := rcW_0 e
    have e3 := d78 (z := z) (h := H) hR (f := f - 1) (by omega)
    rw [a1, oR_0 rfl] at e2
    rw [a3, oR_0 rfl] at e3
    obtain ⟨b1, b2⟩ := dph (h := H) hR a1
    obtain ⟨b3, b4⟩ := dph (h := H) hR a3
    have m1 := m228 (z := z) b1 b2
    have m2 := m228 (z := z) b3 b4
    obtain ⟨n1, n2⟩ := hn e
    rw [← n1] at m1
    rw [← n2] at m2
    have l1 := nmN_lt b2 ((cph C (cAp C f.toNat)).1 7).toNat
    have l2 := nmN_lt b4 ((cph C (cAp C (f - 1).toNat)).1 7).toNat
    rw [← n1] at l1
    rw [← n2] at l2
    obtain ⟨H', C', cap', r1, s1, s2⟩ := k337 (z := z) (M := M) (N := N) l2 l1 (hm e) hst hs
    have kl := k324 (z := z) s1
    have d1 : (f = 0) = False := eq_false (by omega)
    refine ⟨0, _, C', H', ?_, Or.inr ⟨e, rfl, ⟨cap', s1, s2⟩, rfl⟩⟩
    rw [oR_0 rfl]
    simp (disch := omega) only [en336, e336_0, e336_1, e336_2, e336_5, e336_6, e336_7, e336_10, e336_13, e336_14, e336_21, e336_22, e336_25, e336_26, e336_27, e336_28, e336_29, e336_32, e336_35, e336_36, e336_39, e336_40, e336_43, e336_46, e336_49, e336_50, e336_53, e336_56, e336_59, ↓reduceIte, Bool.false_eq_true, not_false_eq_true, not_true_eq_false, Nat.reduceLeDiff, Nat.reduceAdd, Nat.reduceEqDiff, Int.reduceToNat, Int.toNat_natCast, iB0, iB1, ru_klI, ru_klR, ru_klF, ru_klJ, ru_kl0, ru_cs0, ru_csI, ru_csR, ru_csF, ru_csJ, wI_add, wI_sub, wI_mul, wI_lt, wI_le, wI_inj, ru_fdE, ru_fdN, ru_iaN, ru_baN, ru_laN, ru_qaN, ru_pfN, ru_isN, ru_bsN, ru_jsN, ru_qsN, ru_set2, Nat.add_right_cancel_iff, if_true, if_false, ite_self, Int.reduceEq, and_self, Int.add_neg_cancel_right, Int.add_zero, Int.zero_add, cl_e0, cl_g0_8, e2, e3, m1, m2, hF, r1, cl_g7, kl, d1, not_false_iff]
  · refine ⟨rcW C f, 0, C, thr H, ?_, Or.inl ⟨e, rfl, rfl, rfl⟩⟩
    rw [oR_n e]
    unfold rcW at e ⊢
    by_cases c : rcP C f = 0
    · rw [if_pos c] at e ⊢
      by_cases c2 : f = 0
      · rw [if_pos c2] at e ⊢
        have d1 : (f = 0) = True := eq_true c2
        rw [c, oR_0 rfl] at e2
        simp (disch := omega) only [en336, e336_0, e336_1, e336_2, e336_5, e336_6, e336_7, e336_10, e336_13, e336_14, e336_21, e336_22, e336_25, e336_26, e336_27, e336_28, e336_29, e336_32, e336_35, e336_36, e336_39, e336_40, e336_43, e336_46, e336_49, e336_50, e336_53, e336_56, e336_59, ↓reduceIte, Bool.false_eq_true, not_false_eq_true, not_true_eq_false, Nat.reduceLeDiff, Nat.reduceAdd, Nat.reduceEqDiff, Int.reduceToNat, Int.toNat_natCast, iB0, iB1, ru_klI, ru_klR, ru_klF, ru_klJ, ru_kl0, ru_cs0, ru_csI, ru_csR, ru_csF, ru_csJ, wI_add, wI_sub, wI_mul, wI_lt, wI_le, wI_inj, ru_fdE, ru_fdN, ru_iaN, ru_baN, ru_laN, ru_qaN, ru_pfN, ru_isN, ru_bsN, ru_jsN, ru_qsN, ru_set2, Nat.add_right_cancel_iff, if_true, if_false, ite_self, Int.reduceEq, and_self, Int.add_neg_cancel_right, Int.add_zero, Int.zero_add, cl_e0, e2, d1, cl_thr, not_true]
      · rw [if_neg c2] at e; exact absurd rfl e
    · rw [if_neg c] at e ⊢
      rw [oR_n c] at e2
      simp (disch := omega) only [en336, e336_0, e336_1, e336_2, e336_5, e336_6, e336_7, e336_10, e336_13, e336_14, e336_21, e336_22, e336_25, e336_26, e336_27, e336_28, e336_29, e336_32, e336_35, e336_36, e336_39, e336_40, e336_43, e336_46, e336_49, e336_50, e336_53, e336_56, e336_59, ↓reduceIte, Bool.false_eq_true, not_false_eq_true, not_true_eq_false, Nat.reduceLeDiff, Nat.reduceAdd, Nat.reduceEqDiff, Int.reduceToNat, Int.toNat_natCast, iB0, iB1, ru_klI, ru_klR, ru_klF, ru_klJ, ru_kl0, ru_cs0, ru_csI, ru_csR, ru_csF, ru_csJ, wI_add, wI_sub, wI_mul, wI_lt, wI_le, wI_inj, ru_fdE, ru_fdN, ru_iaN, ru_baN, ru_laN, ru_qaN, ru_pfN, ru_isN, ru_bsN, ru_jsN, ru_qsN, ru_set2, Nat.add_right_cancel_iff, if_true, if_false, ite_self, Int.reduceEq, and_self, Int.add_neg_cancel_right, Int.add_zero, Int.zero_add, cl_e0, e2]
variable {h : am_H} {M0 : tMd}
theorem p340l {w : Nat} (hw : w < 1048576) (h20 : M0.1 20 = (N : Int)) (hN : N ≤ 20) (h4 : nmW M0 N) (hst : strs h) {S : Nat} : ∀ d i : Nat, i + d = N → ∀ (b : Bool) (l : List Nat) (T : tMd), l.length + (nmT M0 w d i b).length ≤ 492 → wrS M0 T l → ∃ T', ru_n z 340 29 [some (.ref 1315), some (.ref S), some (.int (wI w)), some (.int (wI (if b = true then 0 else 1))), some (.int (wI i))] [] (mdPut h T) = some (.inl none, mdPut h T') ∧ wrS M0 T' (l ++ nmT M0 w d i b) := by
  have l49 : sbT 79 = sbT 49 := by decide
  have l79 : (sbT 79).length = 2 := by decide
  intro d
  induction d with
  | zero =>
    intro i hi b l T hl hs
    obtain rfl : i = N := by omega
    have g20 := md_f20 (h := h) (M := T)
    rw [hs.1 20 (by decide), h20] at g20
    refine ⟨T, ?_, by rw [show nmT M0 w 0 i b = [] from rfl, List.append_nil]; exact hs⟩
    simp (disch := omega) only [e340_29, e340_31, e340_32, e340_35, e340_96, ↓reduceIte, Bool.false_eq_true, not_false_eq_true, not_true_eq_false, Nat.reduceLeDiff, Nat.reduceAdd, Nat.reduceEqDiff, Int.reduceToNat, Int.toNat_natCast, iB0, iB1, ru_klI, ru_klR, ru_klF, ru_klJ, ru_kl0, ru_cs0, ru_csI, ru_csR, ru_csF, ru_csJ, wI_add, wI_sub, wI_mul, wI_lt, wI_le, wI_inj, ru_fdE, ru_fdN, ru_iaN, ru_baN, ru_laN, ru_qaN, ru_pfN, ru_isN, ru_bsN, ru_jsN, ru_qsN, ru_set2, Nat.add_right_cancel_iff, if_true, if_false, ite_self, Int.reduceEq, and_self, Int.add_neg_cancel_right, Int.add_zero, Int.zero_add, md_e, g20, Int.le_refl]
  | succ d ih =>
    intro i hi b l T hl hs
    have g20 := md_f20 (h := h) (M := T)
    rw [hs.1 20 (by decide), h20] at g20
    have c : ((N : Int) ≤ (i : Int)) = False := eq_false (by omega)
    have hb := wI_bit (s := w) (k := (i : Int)) (by omega) (by omega) (by omega)
    rw [Int.toNat_natCast] at hb
    have es : nmT M0 w (d + 1) i b = if w.testBit i = true then (if b = true then sbT 49 else []) ++ (wdT (wf M0 i) ++ ([32] ++ (wdT (wl M0 i) ++ nmT M0 w d (i + 1) true))) else nmT M0 w d (i + 1) b := rfl
    rw [es] at hl ⊢
    by_cases e : w.testBit i = true
    · rw [if_pos e] at hl ⊢
      have d1 : (w.testBit i = true) = True := eq_true e
      have w1 := wdT_len (wf M0 i)
      have w2 := wdT_len (wl M0 i)
      have fin : ∀ T1 t, (if b = true then sbT 49 else []) = t → wrS M0 T1 (l ++ t) → ∃ T2, ru_ev z 334 [.ref 1315, .int (wI (16 * (i : Int)))] (mdPut h T1) = some (.inl none, mdPut h T2) ∧ ∃ T3, ru_ev z 328 [.ref 1315, .int (wI 32)] (mdPut h T2) = some (.inl none, mdPut h T3) ∧ ∃ T4, ru_ev z 334 [.ref 1315, .int (wI (16 * (i : Int) + 8))] (mdPut h T3) = some (.inl none, mdPut h T4) ∧ ∃ T', ru_n z 340 29 [some (.ref 1315), some (.ref S), some (.int (wI w)), some (.int (wI 0)), some (.int (wI ((i : Int) + 1)))] [] (mdPut h T4) = some (.inl none, mdPut h T') ∧ wrS M0 T' (l ++ (t ++ (wdT (wf M0 i) ++ ([32] ++ (wdT (wl M0 i) ++ nmT M0 w d (i + 1) true))))) := fun T1 t et hs1 => by
        rw [et] at hl
        simp only [List.length_append, List.length_singleton] at hl
        obtain ⟨T2, q2, s2⟩ := p334 (z := z) (h := h) (a := 16 * i) (by omega) (h4 i (by omega)).1 (by rw [List.length_append]; omega) hs1
        obtain ⟨T3, q3, s3⟩ := p328 (z := z) (h := h) s2 (by rw [List.length_append, List.length_append]; show l.length + t.length + (wdT (wf M0 i)).length < 1000; omega) (c := 32) (by decide)
        obtain ⟨T4, q4, s4⟩ := p334 (z := z) (h := h) (a := 16 * i + 8) (by omega) (h4 i (by omega)).2.1 (by rw [List.length_append, List.length_append, List.length_append]; show l.length + t.length + (wdT (wf M0 i)).length + 1 + 8 ≤ 1000; omega) s3
        obtain ⟨T', q5, s5⟩ := ih (i + 1) (by omega) true _ T4 (by
          rw [List.length_append, List.length_append, List.length_append, List.length_append]
          show l.length + t.length + (wdT (wf M0 i)).length + 1 + (wdT (wl M0 i)).length + _ ≤ 492
          omega) s4
        simp only [List.append_assoc] at s5
        rw [show ((16 * i : Nat) : Int) = 16 * (i : Int) by omega] at q2
        rw [show ((16 * i + 8 : Nat) : Int) = 16 * (i : Int) + 8 by omega] at q4
        exact ⟨T2, q2, T3, q3, T4, q4, T', q5, s5⟩
      have d3 : ((1 : Int) = 0) = False := eq_false (by decide)
      cases b with
      | true =>
        obtain ⟨T1, q1, s1⟩ := p327 (z := z) (h := h) (hst 79 (by decide)) (by decide) (sbT_ok 79 (by decide)).2 (by omega) hs
        rw [l49] at s1
        obtain ⟨T2, q2, T3, q3, T4, q4, T', q5, s5⟩ := fin T1 (sbT 49) rfl s1
        refine ⟨T', ?_, s5⟩
        have q1 : ru_ev z 327 [.ref 1315, .ref 379] (mdPut h T) = some (.inl none, mdPut h T1) := q1
        rw [← q5, e340_29]
        simp (disch := omega) only [e340_31, e340_32, e340_35, e340_38, e340_39, e340_41, e340_42, e340_43, e340_44, e340_47, e340_50, e340_51, e340_54, e340_55, e340_58, e340_61, e340_62, e340_63, e340_64, e340_66, e340_68, e340_69, e340_72, e340_73, e340_75, e340_78, e340_79, e340_81, e340_83, e340_84, e340_86, e340_87, e340_90, e340_93, ↓reduceIte, Bool.false_eq_true, not_false_eq_true, not_true_eq_false, Nat.reduceLeDiff, Nat.reduceAdd, Nat.reduceEqDiff, Int.reduceToNat, Int.toNat_natCast, iB0, iB1, ru_klI, ru_klR, ru_klF, ru_klJ, ru_kl0, ru_cs0, ru_csI, ru_csR, ru_csF, ru_csJ, wI_add, wI_sub, wI_mul, wI_lt, wI_le, wI_inj, ru_fdE, ru_fdN, ru_iaN, ru_baN, ru_laN, ru_qaN, ru_pfN, ru_isN, ru_bsN, ru_jsN, ru_qsN, ru_set2, Nat.add_right_cancel_iff, if_true, if_false, ite_self, Int.reduceEq, and_self, Int.add_neg_cancel_right, Int.add_zero, Int.zero_add, md_e, g20, c, hb, d1, d3, q1, q2, q3, q4, not_true, not_false_iff]
      | false =>
        obtain ⟨T2, q2, T3, q3, T4, q4, T', q5, s5⟩ := fin T [] rfl (by rw [List.append_nil]; exact hs)
        refine ⟨T', ?_, s5⟩
        rw [← q5, e340_29]
        simp (disch := omega) only [e340_31, e340_32, e340_35, e340_38, e340_39, e340_41, e340_42, e340_43, e340_44, e340_47, e340_50, e340_51, e340_54, e340_55, e340_58, e340_61, e340_62, e340_63, e340_64, e340_66, e340_68, e340_69, e340_72, e340_73, e340_75, e340_78, e340_79, e340_81, e340_83, e340_84, e340_86, e340_87, e340_90, e340_93, ↓reduceIte, Bool.false_eq_true, not_false_eq_true, not_true_eq_false, Nat.reduceLeDiff, Nat.reduceAdd, Nat.reduceEqDiff, Int.reduceToNat, Int.toNat_natCast, iB0, iB1, ru_klI, ru_klR, ru_klF, ru_klJ, ru_kl0, ru_cs0, ru_csI, ru_csR, ru_csF, ru_csJ, wI_add, wI_sub, wI_mul, wI_lt, wI_le, wI_inj, ru_fdE, ru_fdN, ru_iaN, ru_baN, ru_laN, ru_qaN, ru_pfN, ru_isN, ru_bsN, ru_jsN, ru_qsN, ru_set2, Nat.add_right_cancel_iff, if_true, if_false, ite_self, Int.reduceEq, and_self, Int.add_neg_cancel_right, Int.add_zero, Int.zero_add, md_e, g20, c, hb, d1, d3, q2, q3, q4, not_true, not_false_iff]
    · rw [if_neg e] at hl ⊢
      have d1 : (w.testBit i = true) = False := eq_false e
      obtain ⟨T', q5, s5⟩ := ih (i + 1) (by omega) b l T hl hs
      refine ⟨T', ?_, s5⟩
      rw [← q5, e340_29]
      simp (disch := omega) only [e340_31, e340_32, e340_35, e340_38, e340_39, e340_41, e340_42, e340_43, e340_44, e340_47, e340_50, e340_51, e340_54, e340_55, e340_58, e340_61, e340_62, e340_63, e340_64, e340_66, e340_68, e340_69, e340_72, e340_73, e340_75, e340_78, e340_79, e340_81, e340_83, e340_84, e340_86, e340_87, e340_90, e340_93, ↓reduceIte, Bool.false_eq_true, not_false_eq_true, not_true_eq_false, Nat.reduceLeDiff, Nat.reduceAdd, Nat.reduceEqDiff, Int.reduceToNat, Int.toNat_natCast, iB0, iB1, ru_klI, ru_klR, ru_klF, ru_klJ, ru_kl0, ru_cs0, ru_csI, ru_csR, ru_csF, ru_csJ, wI_add, wI_sub, wI_mul, wI_lt, wI_le, wI_inj, ru_fdE, ru_fdN, ru_iaN, ru_baN, ru_laN, ru_qaN, ru_pfN, ru_isN, ru_bsN, ru_jsN, ru_qsN, ru_set2, Nat.add_right_cancel_iff, if_true, if_false, ite_self, Int.reduceEq, and_self, Int.add_neg_cancel_right, Int.add_zero, Int.zero_add, md_e, g20, c, hb, d1, Int.natCast_add, Int.natCast_one, not_true, not_false_iff]
theorem p340 {w : Nat} (hw : w < 1048576) (h20 : M0.1 20 = (N : Int)) (hN : N ≤ 20) (h4 : nmW M0 N) (hst : strs h) {S : Nat} (hS : S < 85) {l : List Nat} {T : tMd} (hl : l.length + (sbT S).length + 2 + (nmT M0 w N 0 false).length ≤ 492) (hs : wrS M0 T l) : ∃ T', ru_ev z 340 [.ref 1315, .ref (300 + S), .int (wI w)] (mdPut h T) = some (.inl none, mdPut h T') ∧ wrS M0 T' (l ++ (if w = 0 then [] else (if l.length = 0 then [] else sbT 76) ++ (sbT S ++ nmT M0 w N 0 false))) := by
  have l76 : (sbT 76).length = 2 := by decide
  by_cases c : w = 0
  · have d1 : (w = 0) = True := eq_true c
    refine ⟨T, ?_, by rw [if_pos c, List.append_nil]; exact hs⟩
    simp (disch := omega) only [e340_0, e340_1, e340_4, en340, ↓reduceIte, Bool.false_eq_true, not_false_eq_true, not_true_eq_false, Nat.reduceLeDiff, Nat.reduceAdd, Nat.reduceEqDiff, Int.reduceToNat, Int.toNat_natCast, iB0, iB1, ru_klI, ru_klR, ru_klF, ru_klJ, ru_kl0, ru_cs0, ru_csI, ru_csR, ru_csF, ru_csJ, wI_add, wI_sub, wI_mul, wI_lt, wI_le, wI_inj, ru_fdE, ru_fdN, ru_iaN, ru_baN, ru_laN, ru_qaN, ru_pfN, ru_isN, ru_bsN, ru_jsN, ru_qsN, ru_set2, Nat.add_right_cancel_iff, if_true, if_false, ite_self, Int.reduceEq, and_self, Int.add_neg_cancel_right, Int.add_zero, Int.zero_add, md_e, nat_i0, d1, not_true]
  · have d1 : (w = 0) = False := eq_false c
    have g38 := md_f38 (h := h) (M := T)
    rw [hs.2.2.1] at g38
    rw [if_neg c]
    have fin : ∀ T1 t, t.length ≤ 2 → wrS M0 T1 (l ++ t) → ∃ T2, ru_ev z 327 [.ref 1315, .ref (300 + S)] (mdPut h T1) = some (.inl none, mdPut h T2) ∧ ∃ T', ru_n z 340 29 [some (.ref 1315), some (.ref (300 + S)), some (.int (wI w)), some (.int (wI 1)), some (.int (wI 0))] [] (mdPut h T2) = some (.inl none, mdPut h T') ∧ wrS M0 T' (l ++ (t ++ (sbT S ++ nmT M0 w N 0 false))) := fun T1 t ht s1 => by
      obtain ⟨T2, q2, s2⟩ := p327 (z := z) (h := h) (hst S hS) (by have := (sbT_ok S hS).1; omega) (sbT_ok S hS).2 (by rw [List.length_append]; omega) s1
      obtain ⟨T', q3, s3⟩ := p340l (z := z) (h := h) hw h20 hN h4 hst (S := 300 + S) N 0 (by omega) false _ T2 (by rw [List.length_append, List.length_append]; omega) s2
      rw [show ((0 : Nat) : Int) = 0 from rfl] at q3
      simp only [Bool.false_eq_true, if_false] at q3
      simp only [List.append_assoc] at s3
      exact ⟨T2, q2, T', q3, s3⟩
    by_cases c2 : l.length = 0
    · rw [if_pos c2]
      have d2 : ((l.length : Int) ≤ 0) = True := eq_true (by omega)
      obtain ⟨T2, q2, T', q3, s3⟩ := fin T [] (by decide) (by rw [List.append_nil]; exact hs)
      refine ⟨T', ?_, s3⟩
      rw [← q3]
      simp (disch := omega) only [e340_0, e340_1, e340_4, e340_5, e340_6, e340_9, e340_12, e340_13, e340_16, e340_19, e340_20, e340_21, e340_24, e340_25, e340_26, e340_27, en340, ↓reduceIte, Bool.false_eq_true, not_false_eq_true, not_true_eq_false, Nat.reduceLeDiff, Nat.reduceAdd, Nat.reduceEqDiff, Int.reduceToNat, Int.toNat_natCast, iB0, iB1, ru_klI, ru_klR, ru_klF, ru_klJ, ru_kl0, ru_cs0, ru_csI, ru_csR, ru_csF, ru_csJ, wI_add, wI_sub, wI_mul, wI_lt, wI_le, wI_inj, ru_fdE, ru_fdN, ru_iaN, ru_baN, ru_laN, ru_qaN, ru_pfN, ru_isN, ru_bsN, ru_jsN, ru_qsN, ru_set2, Nat.add_right_cancel_iff, if_true, if_false, ite_self, Int.reduceEq, and_self, Int.add_neg_cancel_right, Int.add_zero, Int.zero_add, md_e, nat_i0, d1, g38, d2, q2, not_false_iff]
    · rw [if_neg c2]
      have d2 : ((l.length : Int) ≤ 0) = False := eq_false (by omega)
      obtain ⟨T1, q1, s1⟩ := p327 (z := z) (h := h) (hst 76 (by decide)) (by decide) (sbT_ok 76 (by decide)).2 (by omega) hs
      have q1 : ru_ev z 327 [.ref 1315, .ref 376] (mdPut h T) = some (.inl none, mdPut h T1) := q1
      obtain ⟨T2, q2, T', q3, s3⟩ := fin T1 (sbT 76) (by omega) s1
      refine ⟨T', ?_, s3⟩
      rw [← q3]
      simp (disch := omega) only [e340_0, e340_1, e340_4, e340_5, e340_6, e340_9, e340_12, e340_13, e340_16, e340_19, e340_20, e340_21, e340_24, e340_25, e340_26, e340_27, en340, ↓reduceIte, Bool.false_eq_true, not_false_eq_true, not_true_eq_false, Nat.reduceLeDiff, Nat.reduceAdd, Nat.reduceEqDiff, Int.reduceToNat, Int.toNat_natCast, iB0, iB1, ru_klI, ru_klR, ru_klF, ru_klJ, ru_kl0, ru_cs0, ru_csI, ru_csR, ru_csF, ru_csJ, wI_add, wI_sub, wI_mul, wI_lt, wI_le, wI_inj, ru_fdE, ru_fdN, ru_iaN, ru_baN, ru_laN, ru_qaN, ru_pfN, ru_isN, ru_bsN, ru_jsN, ru_qsN, ru_set2, Nat.add_right_cancel_iff, if_true, if_false, ite_self, Int.reduceEq, and_self, Int.add_neg_cancel_right, Int.add_zero, Int.zero_add, md_e, nat_i0, d1, g38, d2, q1, q2, not_false_iff]
end CHG3
