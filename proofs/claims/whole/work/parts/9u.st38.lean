/-! ===== the law's step of writeChange ===== -/
theorem rel_rcWc {C : tCl} {M : tMd} (hM : mdR M) (hr : relA C M) (f : Int) : ((rcW C f : Nat) : Int) = rfW M f := by
  have e := rel_rcP hM hr f
  unfold rcW rfW
  by_cases c : rcP C f = 0
  · have e0 : rfP M f = 0 := by omega
    rw [if_pos c, if_pos e0]
    by_cases c2 : f = 0
    · rw [if_pos c2, if_pos c2]; rfl
    · rw [if_neg c2, if_neg c2]; rfl
  · have e0 : ¬ rfP M f = 0 := by omega
    rw [if_neg c, if_neg e0]; exact e
theorem len_ite {c : Prop} [Decidable c] {l : List Nat} : (if c then [] else l).length ≤ l.length := by
  split
  · exact Nat.zero_le _
  · exact Nat.le_refl _
section ST38
variable {z : Bool}
theorem p339 {h : am_H} {M : tMd} {N : Nat} (hM : mdR M) (hst : strs h) {f : Int} (g : -2147483648 ≤ f ∧ f < 2147483648) (hN : M.1 20 = (N : Int)) (h4 : rfW M f = 0 → nmW M N) {n o : Nat} (hn : rfW M f = 0 → n = bsN (nmB (mph M f.toNat)) N ∧ o = bsN (nmB (mph M (f - 1).toNat)) N) : ∃ b M', ru_ev z 339 [.ref 1315, .int (wI f)] (mdPut h M) = some (.inl (some (.int (wI b))), mdPut h M') ∧ ((¬ rfW M f = 0 ∧ M' = mdT M (rfW M f)) ∨ (rfW M f = 0 ∧ wrS (mdT M 0) M' (chT M N (difN n o) (difN o n)) ∧ b = ((chT M N (difN n o) (difN o n)).length : Int))) := by
  have e := p117 (z := z) (h := h) hM g
  have r20 := hM.2.2.2.1
  have r25 := hM.2.2.2.2.1
  by_cases e1 : rfP M f = 0
  · simp only [e1, if_true] at e
    by_cases c2 : f = 0
    · have hW : rfW M f = 2 := by unfold rfW; rw [if_pos e1, if_pos c2]
      refine ⟨0, mdT M (rfW M f), ?_, Or.inl ⟨by rw [hW]; decide, rfl⟩⟩
      have d1 : (f = 0) = True := eq_true c2
      have p := p54 (z := z) (h := h) (M := M) (b := 1) (code := 2) (by omega) (by omega)
      rw [if_neg (by decide)] at p
      rw [hW]
      simp (disch := omega) only [en339, e339_0, e339_1, e339_2, e339_5, e339_8, e339_9, e339_10, e339_13, e339_14, e339_17, e339_18, e339_19, e339_22, e339_25, e339_26, e339_27, e339_28, e339_29, e339_32, e339_33, e339_34, e339_35, e339_36, e339_37, e339_40, e339_41, e339_42, e339_43, e339_46, e339_47, e339_50, e339_51, e339_52, e339_53, e339_54, e339_55, e339_58, e339_59, e339_62, e339_63, e339_64, e339_65, e339_66, e339_67, e339_70, e339_71, e339_74, e339_77, e339_78, e339_81, e339_84, e339_85, e339_88, ↓reduceIte, Bool.false_eq_true, not_false_eq_true, not_true_eq_false, Nat.reduceLeDiff, Nat.reduceAdd, Nat.reduceEqDiff, Int.reduceToNat, Int.toNat_natCast, iB0, iB1, ru_klI, ru_klR, ru_klF, ru_klJ, ru_kl0, ru_cs0, ru_csI, ru_csR, ru_csF, ru_csJ, wI_add, wI_sub, wI_mul, wI_lt, wI_le, wI_inj, ru_fdE, ru_fdN, ru_iaN, ru_baN, ru_laN, ru_qaN, ru_pfN, ru_isN, ru_bsN, ru_jsN, ru_qsN, ru_set2, Nat.add_right_cancel_iff, if_true, if_false, ite_self, Int.reduceEq, and_self, Int.add_neg_cancel_right, Int.add_zero, Int.zero_add, md_e, e, d1, p, not_true, not_false_iff]
    · have hW : rfW M f = 0 := by unfold rfW; rw [if_pos e1, if_neg c2]
      have h4 := h4 hW
      obtain ⟨hn1, ho1⟩ := hn hW
      have d1 : (f = 0) = False := eq_false c2
      have p := p54 (z := z) (h := h) (M := M) (b := 0) (code := 2) (by omega) (by omega)
      rw [if_pos rfl] at p
      obtain ⟨c1, c3, c4⟩ := rfP_0 e1
      have hMT : mdR (mdT M 0) := mdR_T hM (by omega)
      have n1 := p247 (z := z) (h := h) (M := mdT M 0) (f := f.toNat) hMT (by omega)
      have n2 := p247 (z := z) (h := h) (M := mdT M 0) (f := (f - 1).toNat) hMT (by omega)
      rw [show (mdT M 0).1 20 = (N : Int) from hN, mph_T, Int.toNat_natCast] at n1 n2
      rw [← hn1, show ((f.toNat : Nat) : Int) = f by omega] at n1
      rw [← ho1, show (((f - 1).toNat : Nat) : Int) = f - 1 by omega] at n2
      have b1 := bsN_lt (nmB (mph M f.toNat)) N
      have b2 := bsN_lt (nmB (mph M (f - 1).toNat)) N
      rw [← hn1] at b1
      rw [← ho1] at b2
      have b3 : 2 ^ N ≤ 2 ^ 20 := Nat.pow_le_pow_right (by decide) (by omega)
      have lo : o < 1048576 := by omega
      have ln : n < 1048576 := by omega
      have hA := difN_lt (b := o) ln
      have hB := difN_lt (b := n) lo
      have eA := wI_dif ln lo
      have eB := wI_dif lo ln
      have hdj := difN_dj n o
      generalize difN n o = A at *
      generalize difN o n = B at *
      have s38 : am_pf (mdPut h (mdT M 0)) 1315 10 38 0 (.int (wI 0)) = some (mdPut h (up1 (mdT M 0).1 38 0, (mdT M 0).2)) := md_s38
      have hw0 : wrS (mdT M 0) (up1 (mdT M 0).1 38 0, (mdT M 0).2) [] := ⟨fun k hk => up1_n hk, fun _ _ => rfl, by show up1 (mdT M 0).1 38 0 38 = 0; rw [up1_e], fun i hi => absurd hi (Nat.not_lt_zero _)⟩
      have h4' : nmW (mdT M 0) N := h4
      have h20' : (mdT M 0).1 20 = (N : Int) := hN
      have lAB := nmT_len (M := mdT M 0) hdj N 0 false false
      have l76 : (sbT 76).length = 2 := by decide
      have l82 : (sbT 82).length = 5 := by decide
      have l83 : (sbT 83).length = 8 := by decide
      have l84 : (sbT 84).length = 9 := by decide
      have nn : ∀ w d i b, nmT (mdT M 0) w d i b = nmT M w d i b := fun w d => by
        induction d with
        | zero => exact fun _ _ => rfl
        | succ d ih =>
          intro i b
          show (if w.testBit i = true then (if b = true then sbT 49 else []) ++ (wdT (wf M i) ++ ([32] ++ (wdT (wl M i) ++ nmT (mdT M 0) w d (i + 1) true))) else nmT (mdT M 0) w d (i + 1) b) = (if w.testBit i = true then (if b = true then sbT 49 else []) ++ (wdT (wf M i) ++ ([32] ++ (wdT (wl M i) ++ nmT M w d (i + 1) true))) else nmT M w d (i + 1) b)
          rw [ih, ih]
      obtain ⟨T1, q1, s1⟩ := p340 (z := z) (h := h) (M0 := mdT M 0) hA h20' (by omega) h4' hst (S := 82) (by decide) (by rw [List.length_nil]; omega) hw0
      have q1 : ru_ev z 340 [.ref 1315, .ref 382, .int (wI A)] (mdPut h (up1 (mdT M 0).1 38 0, (mdT M 0).2)) = some (.inl none, mdPut h T1) := q1
      rw [List.length_nil, if_pos rfl, List.nil_append, List.nil_append] at s1
      have hl1 : (if A = 0 then [] else sbT 82 ++ nmT (mdT M 0) A N 0 false).length ≤ 5 + (nmT (mdT M 0) A N 0 false).length := by
        split
        · exact Nat.zero_le _
        · rw [List.length_append]; omega
      obtain ⟨T2, q2, s2⟩ := p340 (z := z) (h := h) (M0 := mdT M 0) hB h20' (by omega) h4' hst (S := 83) (by decide) (by omega) s1
      have q2 : ru_ev z 340 [.ref 1315, .ref 383, .int (wI B)] (mdPut h T1) = some (.inl none, mdPut h T2) := q2
      have g2 := md_f38 (h := h) (M := T2)
      rw [s2.2.2.1] at g2
      have x1 : sbT 51 = sbT 84 := by decide
      have x2 : sbT 52 = sbT 82 := by decide
      have x3 : sbT 53 = sbT 76 ++ sbT 83 := by decide
      have x4 : sbT 54 = sbT 83 := by decide
      have eT : chT M N A B = ((if A = 0 then [] else sbT 82 ++ nmT (mdT M 0) A N 0 false) ++ (if B = 0 then [] else (if (if A = 0 then [] else sbT 82 ++ nmT (mdT M 0) A N 0 false).length = 0 then [] else sbT 76) ++ (sbT 83 ++ nmT (mdT M 0) B N 0 false))) ++ (if A = 0 ∧ B = 0 then sbT 84 else []) := by
        unfold chT
        rw [x1, x2, x3, x4]
        simp only [nn]
        have ll : ((sbT 82 ++ nmT M A N 0 false).length = 0) = False := eq_false (by rw [List.length_append]; omega)
        by_cases a : A = 0
        · have dA : (A = 0) = True := eq_true a
          by_cases b : B = 0
          · have dB : (B = 0) = True := eq_true b
            simp only [dA, dB, and_self, if_true, List.append_nil, List.nil_append]
          · have dB : (B = 0) = False := eq_false b
            simp only [dA, dB, and_false, if_true, if_false, List.append_nil, List.nil_append, List.length_nil]
        · have dA : (A = 0) = False := eq_false a
          by_cases b : B = 0
          · have dB : (B = 0) = True := eq_true b
            simp only [dA, dB, false_and, if_true, if_false, List.append_nil, List.nil_append]
          · have dB : (B = 0) = False := eq_false b
            simp only [dA, dB, ll, false_and, if_false, List.append_nil, List.nil_append, List.append_assoc]
      have el : (((if A = 0 then [] else sbT 82 ++ nmT (mdT M 0) A N 0 false) ++ (if B = 0 then [] else (if (if A = 0 then [] else sbT 82 ++ nmT (mdT M 0) A N 0 false).length = 0 then [] else sbT 76) ++ (sbT 83 ++ nmT (mdT M 0) B N 0 false))).length = 0) ↔ (A = 0 ∧ B = 0) := by
        rw [List.length_append]
        by_cases a : A = 0
        · by_cases b : B = 0
          · rw [if_pos a, if_pos b]; exact ⟨fun _ => ⟨a, b⟩, fun _ => rfl⟩
          · rw [if_neg b, List.length_append, List.length_append]; exact ⟨fun h => by omega, fun h => absurd h.2 b⟩
        · rw [if_neg a, List.length_append]; exact ⟨fun h => by omega, fun h => absurd h.1 a⟩
      have hl2 : (if B = 0 then [] else (if (if A = 0 then [] else sbT 82 ++ nmT (mdT M 0) A N 0 false).length = 0 then [] else sbT 76) ++ (sbT 83 ++ nmT (mdT M 0) B N 0 false)).length ≤ 10 + (nmT (mdT M 0) B N 0 false).length := by
        split
        · exact Nat.zero_le _
        · rw [List.length_append, List.length_append]
          have := len_ite (c := (if A = 0 then [] else sbT 82 ++ nmT (mdT M 0) A N 0 false).length = 0) (l := sbT 76)
          omega
      have hl3 : ((if A = 0 then [] else sbT 82 ++ nmT (mdT M 0) A N 0 false) ++ (if B = 0 then [] else (if (if A = 0 then [] else sbT 82 ++ nmT (mdT M 0) A N 0 false).length = 0 then [] else sbT 76) ++ (sbT 83 ++ nmT (mdT M 0) B N 0 false))).length ≤ 492 := by
        rw [List.length_append]; omega
      generalize hP : ((if A = 0 then [] else sbT 82 ++ nmT (mdT M 0) A N 0 false) ++ (if B = 0 then [] else (if (if A = 0 then [] else sbT 82 ++ nmT (mdT M 0) A N 0 false).length = 0 then [] else sbT 76) ++ (sbT 83 ++ nmT (mdT M 0) B N 0 false))) = P at *
      rw [eT]
      by_cases ab : A = 0 ∧ B = 0
      · rw [if_pos ab]
        have l0 := el.mpr ab
        obtain ⟨T3, q3, s3⟩ := p327 (z := z) (h := h) (hst 84 (by decide)) (by decide) (sbT_ok 84 (by decide)).2 (by omega) s2
        have q3 : ru_ev z 327 [.ref 1315, .ref 384] (mdPut h T2) = some (.inl none, mdPut h T3) := q3
        have g3 := md_f38 (h := h) (M := T3)
        rw [s3.2.2.1] at g3
        refine ⟨_, T3, ?_, Or.inr ⟨hW, s3, rfl⟩⟩
        have d2 : ((P.length : Int) = 0) = True := eq_true (by omega)
        simp (disch := omega) only [en339, e339_0, e339_1, e339_2, e339_5, e339_8, e339_9, e339_10, e339_13, e339_14, e339_17, e339_18, e339_19, e339_22, e339_25, e339_26, e339_27, e339_28, e339_29, e339_32, e339_33, e339_34, e339_35, e339_36, e339_37, e339_40, e339_41, e339_42, e339_43, e339_46, e339_47, e339_50, e339_51, e339_52, e339_53, e339_54, e339_55, e339_58, e339_59, e339_62, e339_63, e339_64, e339_65, e339_66, e339_67, e339_70, e339_71, e339_74, e339_77, e339_78, e339_81, e339_84, e339_85, e339_88, ↓reduceIte, Bool.false_eq_true, not_false_eq_true, not_true_eq_false, Nat.reduceLeDiff, Nat.reduceAdd, Nat.reduceEqDiff, Int.reduceToNat, Int.toNat_natCast, iB0, iB1, ru_klI, ru_klR, ru_klF, ru_klJ, ru_kl0, ru_cs0, ru_csI, ru_csR, ru_csF, ru_csJ, wI_add, wI_sub, wI_mul, wI_lt, wI_le, wI_inj, ru_fdE, ru_fdN, ru_iaN, ru_baN, ru_laN, ru_qaN, ru_pfN, ru_isN, ru_bsN, ru_jsN, ru_qsN, ru_set2, Nat.add_right_cancel_iff, if_true, if_false, ite_self, Int.reduceEq, and_self, Int.add_neg_cancel_right, Int.add_zero, Int.zero_add, md_e, e, d1, d2, p, n1, n2, s38, eA, eB, q1, q2, g2, q3, g3, not_true, not_false_iff]
      · rw [if_neg ab, List.append_nil]
        have l0 : ¬ P.length = 0 := fun h => ab (el.mp h)
        refine ⟨_, T2, ?_, Or.inr ⟨hW, s2, rfl⟩⟩
        have d2 : ((P.length : Int) = 0) = False := eq_false (by omega)
        simp (disch := omega) only [en339, e339_0, e339_1, e339_2, e339_5, e339_8, e339_9, e339_10, e339_13, e339_14, e339_17, e339_18, e339_19, e339_22, e339_25, e339_26, e339_27, e339_28, e339_29, e339_32, e339_33, e339_34, e339_35, e339_36, e339_37, e339_40, e339_41, e339_42, e339_43, e339_46, e339_47, e339_50, e339_51, e339_52, e339_53, e339_54, e339_55, e339_58, e339_59, e339_62, e339_63, e339_64, e339_65, e339_66, e339_67, e339_70, e339_71, e339_74, e339_77, e339_78, e339_81, e339_84, e339_85, e339_88, ↓reduceIte, Bool.false_eq_true, not_false_eq_true, not_true_eq_false, Nat.reduceLeDiff, Nat.reduceAdd, Nat.reduceEqDiff, Int.reduceToNat, Int.toNat_natCast, iB0, iB1, ru_klI, ru_klR, ru_klF, ru_klJ, ru_kl0, ru_cs0, ru_csI, ru_csR, ru_csF, ru_csJ, wI_add, wI_sub, wI_mul, wI_lt, wI_le, wI_inj, ru_fdE, ru_fdN, ru_iaN, ru_baN, ru_laN, ru_qaN, ru_pfN, ru_isN, ru_bsN, ru_jsN, ru_qsN, ru_set2, Nat.add_right_cancel_iff, if_true, if_false, ite_self, Int.reduceEq, and_self, Int.add_neg_cancel_right, Int.add_zero, Int.zero_add, md_e, e, d1, d2, p, n1, n2, s38, eA, eB, q1, q2, g2, not_true, not_false_iff]
  · have hW : rfW M f = rfP M f := by unfold rfW; rw [if_neg e1]
    refine ⟨0, mdT M (rfW M f), ?_, Or.inl ⟨by rw [hW]; exact e1, rfl⟩⟩
    rw [hW]
    simp only [e1, if_false] at e
    simp (disch := omega) only [en339, e339_0, e339_1, e339_2, e339_5, e339_8, e339_9, e339_10, e339_13, e339_14, e339_17, e339_18, e339_19, e339_22, e339_25, e339_26, e339_27, e339_28, e339_29, e339_32, e339_33, e339_34, e339_35, e339_36, e339_37, e339_40, e339_41, e339_42, e339_43, e339_46, e339_47, e339_50, e339_51, e339_52, e339_53, e339_54, e339_55, e339_58, e339_59, e339_62, e339_63, e339_64, e339_65, e339_66, e339_67, e339_70, e339_71, e339_74, e339_77, e339_78, e339_81, e339_84, e339_85, e339_88, ↓reduceIte, Bool.false_eq_true, not_false_eq_true, not_true_eq_false, Nat.reduceLeDiff, Nat.reduceAdd, Nat.reduceEqDiff, Int.reduceToNat, Int.toNat_natCast, iB0, iB1, ru_klI, ru_klR, ru_klF, ru_klJ, ru_kl0, ru_cs0, ru_csI, ru_csR, ru_csF, ru_csJ, wI_add, wI_sub, wI_mul, wI_lt, wI_le, wI_inj, ru_fdE, ru_fdN, ru_iaN, ru_baN, ru_laN, ru_qaN, ru_pfN, ru_isN, ru_bsN, ru_jsN, ru_qsN, ru_set2, Nat.add_right_cancel_iff, if_true, if_false, ite_self, Int.reduceEq, and_self, Int.add_neg_cancel_right, Int.add_zero, Int.zero_add, md_e, e, Int.reduceEq, not_false_iff]
end ST38
