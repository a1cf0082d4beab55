/-! ===== the class writes a caption ===== -/
def cCap (M : tMd) (NM : Nat → Nat → Int) (LN : Nat → Nat) : Nat → Nat → List Nat
  | 0, _ => []
  | d + 1, r => (if 0 < r then sbT 42 else sbT 43) ++ (numT r ++ (sbT 44 ++ (cRw M (NM r) (LN r) 0 0 ++ cCap M NM LN d (r + 1))))
/-- all rows of the picture are ready to be written -/
def wcA (C : tCl) (M : tMd) (N A b rc : Nat) (NM : Nat → Nat → Int) (LN : Nat → Nat) : Prop := (piGet C 1070).1 1 = (rc : Int) ∧ rc ≤ 12 ∧ (∀ r, r < rc → wcP C M N A b r (LN r) (NM r)) ∧ (∀ r, r ≤ rc → 0 < rc → 0 ≤ (piGet C 1070).2 6 r) ∧ (0 < rc → (piGet C 1070).2 6 rc ≤ 12)
theorem wcA_on {H H' : am_H} {C C' : tCl} {M : tMd} {cap cap' N A b rc : Nat} {NM : Nat → Nat → Int} {LN : Nat → Nat} (h : wcA C M N A b rc NM LN) (k : sbOn H H' C C' cap cap') : wcA C' M N A b rc NM LN := by
  obtain ⟨a1, a2, a3, a4, a5⟩ := h
  have e := sbOn_pi k
  exact ⟨by rw [e]; exact a1, a2, fun r hr => wcP_on (a3 r hr) k, by rw [e]; exact a4, by rw [e]; exact a5⟩
section CAPT
variable {z : Bool} {M : tMd} {N A b rc : Nat} {NM : Nat → Nat → Int} {LN : Nat → Nat}
theorem cRw_len {nm : Nat → Int} {len : Nat} (h4 : nmW M N) (hn : ∀ j, j < len → nmOK N (nm j)) (h12 : len ≤ 12) : ∀ d j k, j + d = len → k ≤ j → (cRw M nm d j k).length ≤ 24 * d
  | 0, _, _, _, _ => Nat.zero_le _
  | d + 1, j, k, hj, hk => by
    have h1 := nTx_len (M := M) (n := nm j) (k := k)
    have h2 := zTx_len (n := 0) (M := M) (nm := nm) (d := d) (j := j) (k := k) h4 (hn j (by omega)) (by omega)
    have h3 := cRw_len h4 hn h12 d (j + 1) (if lsB M nm d j = true then 0 else k + 1) (by omega) (by split <;> omega)
    show (nTx M (nm j) k ++ (zTx M nm d j k ++ cRw M nm d (j + 1) (if lsB M nm d j = true then 0 else k + 1))).length ≤ 24 * (d + 1)
    rw [List.length_append, List.length_append]
    omega
theorem k300l : ∀ d r : Nat, r + d = rc → ∀ (l : List Nat) (H : am_H) (C : tCl) (cap : Nat), wcA C M N A b rc NM LN → strs H → dgI H → (l.length : Int) + 10 * (d : Int) + 24 * ((piGet C 1070).2 6 rc - (piGet C 1070).2 6 r) ≤ 500 → sbS H C l cap → ∃ H' C' cap', ru_n z 300 28 [some (.ref 1257), some (.ref 1070), some (.ref b), some (.ref (A + 1)), some (.int (wI r))] [] (clPut H C) = some (.inl none, clPut H' C') ∧ sbS H' C' (l ++ cCap M NM LN d r) cap' ∧ sbOn H H' C C' cap cap' := by
  intro d
  induction d with
  | zero =>
    intro r hr l H C cap hw hst hd hl hs
    obtain rfl : r = rc := by omega
    have f1 := pi_f1 (h := H) (C := C) (P := 1070) (Or.inl rfl) (p := piGet C 1070)
    rw [piPut_get, hw.1] at f1
    have h12 := hw.2.1
    refine ⟨H, C, cap, ?_, by rw [show cCap M NM LN 0 r = [] from rfl, List.append_nil]; exact hs, sbOn_refl _ _ _⟩
    simp (disch := omega) only [e300_28, e300_30, e300_31, e300_34, e300_82, ↓reduceIte, Bool.false_eq_true, not_false_eq_true, not_true_eq_false, Nat.reduceLeDiff, Nat.reduceAdd, Nat.reduceEqDiff, Int.reduceToNat, Int.toNat_natCast, iB0, iB1, ru_klI, ru_klR, ru_klF, ru_klJ, ru_kl0, ru_cs0, ru_csI, ru_csR, ru_csF, ru_csJ, wI_add, wI_sub, wI_mul, wI_lt, wI_le, wI_inj, ru_fdE, ru_fdN, ru_iaN, ru_baN, ru_laN, ru_qaN, ru_pfN, ru_isN, ru_bsN, ru_jsN, ru_qsN, ru_set2, Nat.add_right_cancel_iff, if_true, if_false, ite_self, Int.reduceEq, and_self, Int.add_neg_cancel_right, Int.add_zero, Int.zero_add, f1, Int.le_refl]
  | succ d ih =>
    intro r hr l H C cap hw hst hd hl hs
    have f1 := pi_f1 (h := H) (C := C) (P := 1070) (Or.inl rfl) (p := piGet C 1070)
    rw [piPut_get, hw.1] at f1
    have h12 := hw.2.1
    have c : ((rc : Int) ≤ (r : Int)) = False := eq_false (by omega)
    have wr := hw.2.2.1 r (by omega)
    have p0 := hw.2.2.2.1 r (by omega) (by omega)
    have p1 := hw.2.2.2.1 (r + 1) (by omega) (by omega)
    have p2 := hw.2.2.2.2 (by omega)
    have hlen : (piGet C 1070).2 6 (r + 1) - (piGet C 1070).2 6 r = ((LN r : Nat) : Int) := wr.2.2.2.2.2.1
    -- what is behind this row isn't less than nothing
    have hrest : (piGet C 1070).2 6 (r + 1) ≤ (piGet C 1070).2 6 rc := by
      have key : ∀ e, r + 1 + e ≤ rc → (piGet C 1070).2 6 (r + 1) ≤ (piGet C 1070).2 6 (r + 1 + e) := by
        intro e
        induction e with
        | zero => intro _; exact Int.le_refl _
        | succ e ihe =>
          intro he
          have := ihe (by omega)
          have h9 : (piGet C 1070).2 6 (r + 1 + e + 1) - (piGet C 1070).2 6 (r + 1 + e) = ((LN (r + 1 + e) : Nat) : Int) := (hw.2.2.1 (r + 1 + e) (by omega)).2.2.2.2.2.1
          show _ ≤ (piGet C 1070).2 6 (r + 1 + e + 1)
          omega
      have := key (rc - (r + 1)) (by omega)
      rw [show r + 1 + (rc - (r + 1)) = rc by omega] at this
      exact this
    have hnum := numT_len r
    have l42 : (sbT 42).length = 6 := by decide
    have l43 : (sbT 43).length = 4 := by decide
    have l44 : (sbT 44).length = 2 := by decide
    have hrow := cRw_len (M := M) (N := N) (nm := NM r) (len := LN r) wr.1.2.2.2 (fun j hj => (wr.2.2.2.2.2.2 j hj).2.2.2) wr.2.2.2.2.1 (LN r) 0 0 (by omega) (Nat.le_refl _)
    have fin : ∀ S t, stAt H S (S + 100) t → t.length ≤ 6 → ∃ H1 C1 cap1, ru_ev z 307 [.ref 1258, .ref S] (clPut H C) = some (.inl (some (.ref 1258)), clPut H1 C1) ∧ ∃ H2 C2 cap2, ru_ev z 312 [.ref 1258, .int (wI r)] (clPut H1 C1) = some (.inl (some (.ref 1258)), clPut H2 C2) ∧ ∃ H3 C3 cap3, ru_ev z 307 [.ref 1258, .ref 344] (clPut H2 C2) = some (.inl (some (.ref 1258)), clPut H3 C3) ∧ ∃ H4 C4 cap4, ru_ev z 317 [.ref 1257, .ref 1070, .int (wI r), .ref b, .ref (A + 1)] (clPut H3 C3) = some (.inl none, clPut H4 C4) ∧ sbS H4 C4 (l ++ (t ++ (numT r ++ (sbT 44 ++ cRw M (NM r) (LN r) 0 0)))) cap4 ∧ sbOn H H4 C C4 cap cap4 := fun S t hS ht => by
      obtain ⟨H1, C1, cap1, q1, s1, s1'⟩ := k307 (z := z) hs hS (by omega) (by omega)
      obtain ⟨H2, C2, cap2, q2, s2, s2'⟩ := k312 (z := z) s1 (dgI_on hd hs s1') (v := r) (by omega) (by rw [List.length_append]; split at hnum <;> omega)
      have o2 := sbOn_tr s1' s2'
      obtain ⟨H3, C3, cap3, q3, s3, s3'⟩ := k307 (z := z) s2 (stAt_on (hst 44 (by decide)) hs o2) (by rw [List.length_append, List.length_append]; split at hnum <;> omega) (by omega)
      have o3 := sbOn_tr o2 s3'
      obtain ⟨H4, C4, cap4, q4, s4, s4'⟩ := k317 (z := z) (wcP_on wr o3) (strs_on hst hs o3) (dgI_on hd hs o3) (by rw [List.length_append, List.length_append, List.length_append]; split at hnum <;> omega) s3
      rw [List.append_assoc, List.append_assoc, List.append_assoc] at s4
      exact ⟨H1, C1, cap1, q1, H2, C2, cap2, q2, H3, C3, cap3, q3, H4, C4, cap4, q4, s4, sbOn_tr o3 s4'⟩
    have fin2 : ∀ t H4 C4 cap4, t.length ≤ 6 → sbS H4 C4 (l ++ (t ++ (numT r ++ (sbT 44 ++ cRw M (NM r) (LN r) 0 0)))) cap4 → sbOn H H4 C C4 cap cap4 → ∃ H' C' cap', ru_n z 300 28 [some (.ref 1257), some (.ref 1070), some (.ref b), some (.ref (A + 1)), some (.int (wI ((r : Int) + 1)))] [] (clPut H4 C4) = some (.inl none, clPut H' C') ∧ sbS H' C' (l ++ (t ++ (numT r ++ (sbT 44 ++ (cRw M (NM r) (LN r) 0 0 ++ cCap M NM LN d (r + 1)))))) cap' ∧ sbOn H H' C C' cap cap' := fun t H4 C4 cap4 ht s4 o4 => by
      obtain ⟨H', C', cap', q, u1, u2⟩ := ih (r + 1) (by omega) _ H4 C4 cap4 (wcA_on hw o4) (strs_on hst hs o4) (dgI_on hd hs o4) (by
        rw [sbOn_pi o4]
        simp only [List.length_append]
        split at hnum <;> omega) s4
      refine ⟨H', C', cap', q, ?_, sbOn_tr o4 u2⟩
      simp only [List.append_assoc] at u1
      exact u1
    show ∃ H' C' cap', _ ∧ sbS H' C' (l ++ ((if 0 < r then sbT 42 else sbT 43) ++ (numT r ++ (sbT 44 ++ (cRw M (NM r) (LN r) 0 0 ++ cCap M NM LN d (r + 1)))))) cap' ∧ _
    by_cases c2 : 0 < r
    · rw [if_pos c2]
      have d2 : ((r : Int) ≤ 0) = False := eq_false (by omega)
      obtain ⟨H1, C1, cap1, q1, H2, C2, cap2, q2, H3, C3, cap3, q3, H4, C4, cap4, q4, s4, o4⟩ := fin 342 (sbT 42) (hst 42 (by decide)) (by omega)
      obtain ⟨H', C', cap', q, u1, u2⟩ := fin2 (sbT 42) H4 C4 cap4 (by omega) s4 o4
      refine ⟨H', C', cap', ?_, u1, u2⟩
      rw [← q, e300_28]
      simp (disch := omega) only [e300_30, e300_31, e300_34, e300_37, e300_38, e300_41, e300_43, e300_46, e300_48, e300_51, e300_53, e300_56, e300_58, e300_61, e300_63, e300_66, e300_67, e300_68, e300_69, e300_71, e300_72, e300_73, e300_76, e300_79, ↓reduceIte, Bool.false_eq_true, not_false_eq_true, not_true_eq_false, Nat.reduceLeDiff, Nat.reduceAdd, Nat.reduceEqDiff, Int.reduceToNat, Int.toNat_natCast, iB0, iB1, ru_klI, ru_klR, ru_klF, ru_klJ, ru_kl0, ru_cs0, ru_csI, ru_csR, ru_csF, ru_csJ, wI_add, wI_sub, wI_mul, wI_lt, wI_le, wI_inj, ru_fdE, ru_fdN, ru_iaN, ru_baN, ru_laN, ru_qaN, ru_pfN, ru_isN, ru_bsN, ru_jsN, ru_qsN, ru_set2, Nat.add_right_cancel_iff, if_true, if_false, ite_self, Int.reduceEq, and_self, Int.add_neg_cancel_right, Int.add_zero, Int.zero_add, cl_g7, f1, c, d2, q1, q2, q3, q4, ru_ctR]
    · rw [if_neg c2]
      have d2 : ((r : Int) ≤ 0) = True := eq_true (by omega)
      obtain ⟨H1, C1, cap1, q1, H2, C2, cap2, q2, H3, C3, cap3, q3, H4, C4, cap4, q4, s4, o4⟩ := fin 343 (sbT 43) (hst 43 (by decide)) (by omega)
      obtain ⟨H', C', cap', q, u1, u2⟩ := fin2 (sbT 43) H4 C4 cap4 (by omega) s4 o4
      refine ⟨H', C', cap', ?_, u1, u2⟩
      rw [← q, e300_28]
      simp (disch := omega) only [e300_30, e300_31, e300_34, e300_37, e300_38, e300_41, e300_43, e300_46, e300_48, e300_51, e300_53, e300_56, e300_58, e300_61, e300_63, e300_66, e300_67, e300_68, e300_69, e300_71, e300_72, e300_73, e300_76, e300_79, ↓reduceIte, Bool.false_eq_true, not_false_eq_true, not_true_eq_false, Nat.reduceLeDiff, Nat.reduceAdd, Nat.reduceEqDiff, Int.reduceToNat, Int.toNat_natCast, iB0, iB1, ru_klI, ru_klR, ru_klF, ru_klJ, ru_kl0, ru_cs0, ru_csI, ru_csR, ru_csF, ru_csJ, wI_add, wI_sub, wI_mul, wI_lt, wI_le, wI_inj, ru_fdE, ru_fdN, ru_iaN, ru_baN, ru_laN, ru_qaN, ru_pfN, ru_isN, ru_bsN, ru_jsN, ru_qsN, ru_set2, Nat.add_right_cancel_iff, if_true, if_false, ite_self, Int.reduceEq, and_self, Int.add_neg_cancel_right, Int.add_zero, Int.zero_add, cl_g7, f1, c, d2, q1, q2, q3, q4, ru_ctR]
def capT (M : tMd) (NM : Nat → Nat → Int) (LN : Nat → Nat) (rc : Nat) : List Nat := (if rc = 0 then sbT 41 else []) ++ cCap M NM LN rc 0
theorem k300 {H : am_H} {C : tCl} {l : List Nat} {cap : Nat} (hw : wcA C M N A b rc NM LN) (hb : isPh b) (hA : wcN C M N ∧ alb C = A) (hst : strs H) (hd : dgI H) (hs : sbS H C l cap) : ∃ H' C' cap', ru_ev z 300 [.ref 1257, .ref 1070, .ref b, .ref (A + 1)] (clPut H C) = some (.inl none, clPut H' C') ∧ sbS H' C' (capT M NM LN rc) cap' ∧ sbOn H H' C C' cap cap' := by
  obtain ⟨C1, q1, s1, o1⟩ := k301 (z := z) hs
  have f1 := pi_f1 (h := H) (C := C1) (P := 1070) (Or.inl rfl) (p := piGet C1 1070)
  rw [piPut_get, sbOn_pi o1, hw.1] at f1
  have h12 := hw.2.1
  have hw1 := wcA_on hw o1
  have e0 : (clPut H C1).1 1070 = some (.inr (4, clL4 C1 1070)) := clP4 (by decide +kernel) (by decide)
  unfold capT
  by_cases c : rc = 0
  · subst c
    obtain ⟨H2, C2, cap2, q2, s2, o2⟩ := k307 (z := z) s1 (strs_on hst hs o1 41 (by decide)) (by decide) (by decide)
    have o12 := sbOn_tr o1 o2
    obtain ⟨H', C', cap', q3, s3, o3⟩ := k300l (z := z) (M := M) (N := N) (A := A) (b := b) (rc := 0) (NM := NM) (LN := LN) 0 0 rfl _ H2 C2 cap2 (wcA_on hw o12) (strs_on hst hs o12) (dgI_on hd hs o12) (by
      have : (sbT 41).length = 6 := by decide
      simp only [List.nil_append]
      omega) s2
    refine ⟨H', C', cap', ?_, by rw [if_pos rfl]; exact s3, sbOn_tr o12 o3⟩
    have d1 : ((((0 : Nat) : Int)) = 0) = True := eq_true rfl
    have q2 : ru_ev z 307 [.ref 1258, .ref 341] (clPut H C1) = some (.inl (some (.ref 1258)), clPut H2 C2) := q2
    rw [show ((0 : Nat) : Int) = 0 from rfl] at q3
    simp (disch := omega) only [e300_0, e300_1, e300_4, e300_5, e300_8, e300_9, e300_12, e300_15, e300_16, e300_19, e300_21, e300_24, e300_25, e300_26, en300, ↓reduceIte, Bool.false_eq_true, not_false_eq_true, not_true_eq_false, Nat.reduceLeDiff, Nat.reduceAdd, Nat.reduceEqDiff, Int.reduceToNat, Int.toNat_natCast, iB0, iB1, ru_klI, ru_klR, ru_klF, ru_klJ, ru_kl0, ru_cs0, ru_csI, ru_csR, ru_csF, ru_csJ, wI_add, wI_sub, wI_mul, wI_lt, wI_le, wI_inj, ru_fdE, ru_fdN, ru_iaN, ru_baN, ru_laN, ru_qaN, ru_pfN, ru_isN, ru_bsN, ru_jsN, ru_qsN, ru_set2, Nat.add_right_cancel_iff, if_true, if_false, ite_self, Int.reduceEq, and_self, Int.add_neg_cancel_right, Int.add_zero, Int.zero_add, cl_g7, q1, f1, d1, q2, ru_ctR, not_true]
    exact q3
  · obtain ⟨H', C', cap', q3, s3, o3⟩ := k300l (z := z) (M := M) (N := N) (A := A) (b := b) (rc := rc) (NM := NM) (LN := LN) rc 0 (by omega) [] H C1 cap hw1 (strs_on hst hs o1) (dgI_on hd hs o1) (by
      have a1 := hw.2.2.2.1 0 (by omega) (by omega)
      have a2 := hw.2.2.2.2 (by omega)
      rw [sbOn_pi o1]
      show (0 : Int) + 10 * (rc : Int) + _ ≤ 500
      omega) s1
    refine ⟨H', C', cap', ?_, by rw [if_neg c]; exact s3, sbOn_tr o1 o3⟩
    have d1 : ((rc : Int) = 0) = False := eq_false (by omega)
    rw [show ((0 : Nat) : Int) = 0 from rfl] at q3
    simp (disch := omega) only [e300_0, e300_1, e300_4, e300_5, e300_8, e300_9, e300_12, e300_15, e300_16, e300_19, e300_21, e300_24, e300_25, e300_26, en300, ↓reduceIte, Bool.false_eq_true, not_false_eq_true, not_true_eq_false, Nat.reduceLeDiff, Nat.reduceAdd, Nat.reduceEqDiff, Int.reduceToNat, Int.toNat_natCast, iB0, iB1, ru_klI, ru_klR, ru_klF, ru_klJ, ru_kl0, ru_cs0, ru_csI, ru_csR, ru_csF, ru_csJ, wI_add, wI_sub, wI_mul, wI_lt, wI_le, wI_inj, ru_fdE, ru_fdN, ru_iaN, ru_baN, ru_laN, ru_qaN, ru_pfN, ru_isN, ru_bsN, ru_jsN, ru_qsN, ru_set2, Nat.add_right_cancel_iff, if_true, if_false, ite_self, Int.reduceEq, and_self, Int.add_neg_cancel_right, Int.add_zero, Int.zero_add, cl_g7, q1, f1, d1, ru_ctR, not_false_iff]
    exact q3
end CAPT
