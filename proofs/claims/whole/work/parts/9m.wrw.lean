/-! ===== write: class and reference ===== -/
def sLN (LN : Nat → Nat) : Nat → Nat → Nat
  | 0, _ => 0
  | d + 1, r => LN r + sLN LN d (r + 1)
def rcT (M : tMd) (NM : Nat → Nat → Int) (LN : Nat → Nat) (rc : Nat) : List Nat := (if rc = 0 then sbT 75 else []) ++ rCap M NM LN rc 0
theorem fTx_len (M : tMd) (nm : Nat → Int) : ∀ d q k, (fTx M nm d q k).length ≤ 13 * d
  | 0, _, _ => Nat.zero_le _
  | d + 1, q, k => by
    have h1 := nTx_len (M := M) (n := nm q) (k := k)
    have h2 := fTx_len M nm d (q + 1) (k + 1)
    show (nTx M (nm q) k ++ fTx M nm d (q + 1) (k + 1)).length ≤ 13 * (d + 1)
    rw [List.length_append]; omega
section WRW
variable {z : Bool} {h : am_H} {M S : tMd} {l : List Nat} {N f rc : Nat} {NM : Nat → Nat → Int} {LN : Nat → Nat}
theorem p326p {r : Nat} {len : Nat} {nm : Nat → Int} (hp : wmP M N f r len nm) (hst : strs h) : ∀ d j : Nat, len - j ≤ d → j ≤ len → ∀ (l : List Nat) (S : tMd), wrS M S l → l.length + 24 * (len - j) ≤ 500 → ∃ S' j', ru_n z 326 76 [some (.ref 1315), some (.int (wI f)), some (.int (wI r)), some (.int (wI j))] [] (mdPut h S) = ru_n z 326 108 [some (.ref 1315), some (.int (wI f)), some (.int (wI r)), some (.int j')] [] (mdPut h S') ∧ wrS M S' (l ++ rRw M nm len d j) := by
  have a5 := hp.2.2.2.2.1
  have hf5 := hp.1
  have hr12 := hp.2.2.1
  have hok : ∀ i, i < len → nmOK N (nm i) := fun i hi => by obtain ⟨k, -, -, -, k4⟩ := hp.2.2.2.2.2.2.2.2.2 i hi; exact k4
  have hN := hp.2.2.2.2.2.2.2.2.1
  have e13 : ∀ S l, wrS M S l → am_ia (mdPut h S) 1329 (wI (r : Nat)) = some (wI (len : Nat)) := fun S l hw => by
    rw [md_a13 (by omega) (by omega), Int.toNat_natCast, hw.2.1 13 (by decide), hp.2.2.2.1]
  have l79 : (sbT 79).length = 2 := by decide
  intro d
  induction d with
  | zero =>
    intro j hd hj l S hw hl
    obtain rfl : j = len := by omega
    have e := e13 S l hw
    refine ⟨S, wI (j : Nat), ?_, by rw [show rRw M nm j 0 j = [] from rfl, List.append_nil]; exact hw⟩
    simp (disch := omega) only [e326_76, e326_77, e326_78, e326_81, e326_82, e326_83, ↓reduceIte, Bool.false_eq_true, not_false_eq_true, not_true_eq_false, Nat.reduceLeDiff, Nat.reduceAdd, Nat.reduceEqDiff, Int.reduceToNat, Int.toNat_natCast, iB0, iB1, ru_klI, ru_klR, ru_klF, ru_klJ, ru_kl0, ru_cs0, ru_csI, ru_csR, ru_csF, ru_csJ, wI_add, wI_sub, wI_mul, wI_lt, wI_le, wI_inj, ru_fdE, ru_fdN, ru_iaN, ru_baN, ru_laN, ru_qaN, ru_pfN, ru_isN, ru_bsN, ru_jsN, ru_qsN, ru_set2, Nat.add_right_cancel_iff, if_true, if_false, ite_self, Int.reduceEq, and_self, Int.add_neg_cancel_right, Int.add_zero, Int.zero_add, md_e, md_f33, e, Int.le_refl]
  | succ d ih =>
    intro j hd hj l S hw hl
    have e := e13 S l hw
    by_cases c : j < len
    · have d1 : ((len : Int) ≤ (j : Int)) = False := eq_false (by omega)
      have eb := eE_b M nm (len - (j + 1)) (j + 1) (nm j)
      have es : rRw M nm len (d + 1) j = (if 0 < j then sbT 79 else []) ++ (iTx M nm j (eE M nm (len - (j + 1)) (j + 1) (nm j)) ++ rRw M nm len d (eE M nm (len - (j + 1)) (j + 1) (nm j))) := if_pos c
      rw [es]
      have fin : ∀ S1 t, t.length ≤ 2 → wrS M S1 (l ++ t) → ∃ S2, ru_ev z 331 [.ref 1315, .int (wI f), .int (wI r), .int (wI j)] (mdPut h S1) = some (.inl (some (.int (wI ((eE M nm (len - (j + 1)) (j + 1) (nm j) : Nat) : Int)))), mdPut h S2) ∧ ∃ S' j', ru_n z 326 76 [some (.ref 1315), some (.int (wI f)), some (.int (wI r)), some (.int (wI ((eE M nm (len - (j + 1)) (j + 1) (nm j) : Nat) : Int)))] [] (mdPut h S2) = ru_n z 326 108 [some (.ref 1315), some (.int (wI f)), some (.int (wI r)), some (.int j')] [] (mdPut h S') ∧ wrS M S' (l ++ (t ++ (iTx M nm j (eE M nm (len - (j + 1)) (j + 1) (nm j)) ++ rRw M nm len d (eE M nm (len - (j + 1)) (j + 1) (nm j))))) := fun S1 t ht hw1 => by
        obtain ⟨S2, q1, w1⟩ := p331 (z := z) (h := h) hp hst hw1 c (by rw [List.length_append]; omega)
        have hil : (iTx M nm j (eE M nm (len - (j + 1)) (j + 1) (nm j))).length ≤ 13 * (eE M nm (len - (j + 1)) (j + 1) (nm j) - j) + 9 := by
          unfold iTx
          have h1 := fTx_len M nm (eE M nm (len - (j + 1)) (j + 1) (nm j) - j) j 0
          have h2 := eTx_len (M := M) (k := eE M nm (len - (j + 1)) (j + 1) (nm j) - j) hN.2 (hok j c) (by omega)
          rw [List.length_append]; omega
        obtain ⟨S', j', q2, w2⟩ := ih (eE M nm (len - (j + 1)) (j + 1) (nm j)) (by omega) (by omega) _ S2 w1 (by
          rw [List.length_append, List.length_append]; omega)
        simp only [List.append_assoc] at w2
        exact ⟨S2, q1, S', j', q2, w2⟩
      by_cases c2 : 0 < j
      · rw [if_pos c2]
        have d2 : ((j : Int) ≤ 0) = False := eq_false (by omega)
        obtain ⟨S1, q1, w1⟩ := p327 (z := z) (h := h) (hst 79 (by decide)) (by decide) (sbT_ok 79 (by decide)).2 (by omega) hw
        obtain ⟨S2, q2, S', j', q3, w3⟩ := fin S1 (sbT 79) (by omega) w1
        refine ⟨S', j', ?_, w3⟩
        have q1 : ru_ev z 327 [.ref 1315, .ref 379] (mdPut h S) = some (.inl none, mdPut h S1) := q1
        rw [← q3, e326_76]
        simp (disch := omega) only [e326_77, e326_78, e326_81, e326_82, e326_83, e326_86, e326_87, e326_90, e326_91, e326_94, e326_97, e326_98, e326_99, e326_100, e326_101, e326_104, e326_105, ↓reduceIte, Bool.false_eq_true, not_false_eq_true, not_true_eq_false, Nat.reduceLeDiff, Nat.reduceAdd, Nat.reduceEqDiff, Int.reduceToNat, Int.toNat_natCast, iB0, iB1, ru_klI, ru_klR, ru_klF, ru_klJ, ru_kl0, ru_cs0, ru_csI, ru_csR, ru_csF, ru_csJ, wI_add, wI_sub, wI_mul, wI_lt, wI_le, wI_inj, ru_fdE, ru_fdN, ru_iaN, ru_baN, ru_laN, ru_qaN, ru_pfN, ru_isN, ru_bsN, ru_jsN, ru_qsN, ru_set2, Nat.add_right_cancel_iff, if_true, if_false, ite_self, Int.reduceEq, and_self, Int.add_neg_cancel_right, Int.add_zero, Int.zero_add, md_e, md_f33, e, d1, d2, q1, q2]
      · rw [if_neg c2]
        have d2 : ((j : Int) ≤ 0) = True := eq_true (by omega)
        obtain ⟨S2, q2, S', j', q3, w3⟩ := fin S [] (by decide) (by rw [List.append_nil]; exact hw)
        refine ⟨S', j', ?_, w3⟩
        rw [← q3, e326_76]
        simp (disch := omega) only [e326_77, e326_78, e326_81, e326_82, e326_83, e326_86, e326_87, e326_90, e326_91, e326_94, e326_97, e326_98, e326_99, e326_100, e326_101, e326_104, e326_105, ↓reduceIte, Bool.false_eq_true, not_false_eq_true, not_true_eq_false, Nat.reduceLeDiff, Nat.reduceAdd, Nat.reduceEqDiff, Int.reduceToNat, Int.toNat_natCast, iB0, iB1, ru_klI, ru_klR, ru_klF, ru_klJ, ru_kl0, ru_cs0, ru_csI, ru_csR, ru_csF, ru_csJ, wI_add, wI_sub, wI_mul, wI_lt, wI_le, wI_inj, ru_fdE, ru_fdN, ru_iaN, ru_baN, ru_laN, ru_qaN, ru_pfN, ru_isN, ru_bsN, ru_jsN, ru_qsN, ru_set2, Nat.add_right_cancel_iff, if_true, if_false, ite_self, Int.reduceEq, and_self, Int.add_neg_cancel_right, Int.add_zero, Int.zero_add, md_e, md_f33, e, d1, d2, q2]
    · have d1 : ((len : Int) ≤ (j : Int)) = True := eq_true (by omega)
      have es : rRw M nm len (d + 1) j = [] := if_neg c
      rw [es, List.append_nil]
      refine ⟨S, wI (j : Nat), ?_, hw⟩
      simp (disch := omega) only [e326_76, e326_77, e326_78, e326_81, e326_82, e326_83, ↓reduceIte, Bool.false_eq_true, not_false_eq_true, not_true_eq_false, Nat.reduceLeDiff, Nat.reduceAdd, Nat.reduceEqDiff, Int.reduceToNat, Int.toNat_natCast, iB0, iB1, ru_klI, ru_klR, ru_klF, ru_klJ, ru_kl0, ru_cs0, ru_csI, ru_csR, ru_csF, ru_csJ, wI_add, wI_sub, wI_mul, wI_lt, wI_le, wI_inj, ru_fdE, ru_fdN, ru_iaN, ru_baN, ru_laN, ru_qaN, ru_pfN, ru_isN, ru_bsN, ru_jsN, ru_qsN, ru_set2, Nat.add_right_cancel_iff, if_true, if_false, ite_self, Int.reduceEq, and_self, Int.add_neg_cancel_right, Int.add_zero, Int.zero_add, md_e, md_f33, e, d1]
theorem rRw_len {len : Nat} {nm : Nat → Int} (h4 : nmW M N) (hn : ∀ j, j < len → nmOK N (nm j)) (h12 : len ≤ 12) : (rRw M nm len len 0).length ≤ 24 * len := by
  rw [rRw_eq h4 hn len 0 (by omega)]
  by_cases c : 0 < len
  · rw [if_pos c, if_neg (Nat.lt_irrefl _), List.nil_append]
    exact cRw_len h4 hn h12 (len - 0) 0 0 (by omega) (Nat.le_refl _)
  · rw [if_neg c]; exact Nat.zero_le _
theorem p326l (h34 : M.1 34 = (rc : Int)) (hrc : rc ≤ 12) (hp : ∀ r, r < rc → wmP M N f r (LN r) (NM r)) (hst : strs h) : ∀ d r : Nat, r + d = rc → ∀ (l : List Nat) (S : tMd) (l3 : Option Value), wrS M S l → l.length + 10 * d + 24 * sLN LN d r ≤ 500 → ∃ S' l3' r', ru_n z 326 36 [some (.ref 1315), some (.int (wI f)), some (.int (wI r)), l3] [] (mdPut h S) = ru_n z 326 114 [some (.ref 1315), some (.int (wI f)), r', l3'] [] (mdPut h S') ∧ wrS M S' (l ++ rCap M NM LN d r) := by
  have l76 : (sbT 76).length = 2 := by decide
  have l77 : (sbT 77).length = 4 := by decide
  have l78 : (sbT 78).length = 2 := by decide
  intro d
  induction d with
  | zero =>
    intro r hr l S l3 hw hl
    obtain rfl : r = rc := by omega
    have g := md_f34 (h := h) (M := S)
    rw [hw.1 34 (by decide), h34] at g
    refine ⟨S, l3, some (.int (wI (r : Nat))), ?_, by rw [show rCap M NM LN 0 r = [] from rfl, List.append_nil]; exact hw⟩
    simp (disch := omega) only [e326_36, e326_37, e326_38, e326_41, ↓reduceIte, Bool.false_eq_true, not_false_eq_true, not_true_eq_false, Nat.reduceLeDiff, Nat.reduceAdd, Nat.reduceEqDiff, Int.reduceToNat, Int.toNat_natCast, iB0, iB1, ru_klI, ru_klR, ru_klF, ru_klJ, ru_kl0, ru_cs0, ru_csI, ru_csR, ru_csF, ru_csJ, wI_add, wI_sub, wI_mul, wI_lt, wI_le, wI_inj, ru_fdE, ru_fdN, ru_iaN, ru_baN, ru_laN, ru_qaN, ru_pfN, ru_isN, ru_bsN, ru_jsN, ru_qsN, ru_set2, Nat.add_right_cancel_iff, if_true, if_false, ite_self, Int.reduceEq, and_self, Int.add_neg_cancel_right, Int.add_zero, Int.zero_add, md_e, g, Int.le_refl]
  | succ d ih =>
    intro r hr l S l3 hw hl
    have g := md_f34 (h := h) (M := S)
    rw [hw.1 34 (by decide), h34] at g
    have c : ((rc : Int) ≤ (r : Int)) = False := eq_false (by omega)
    have hpr := hp r (by omega)
    have hnum := numT_len r
    have esl : sLN LN (d + 1) r = LN r + sLN LN d (r + 1) := rfl
    have hok : ∀ i, i < LN r → nmOK N (NM r i) := fun i hi => by obtain ⟨k, -, -, -, k4⟩ := hpr.2.2.2.2.2.2.2.2.2 i hi; exact k4
    have hrl := rRw_len (M := M) (nm := NM r) hpr.2.2.2.2.2.2.2.2.1.2 hok hpr.2.2.2.2.1
    show ∃ S' l3' r', _ ∧ wrS M S' (l ++ ((if 0 < r then sbT 76 else []) ++ (sbT 77 ++ (numT r ++ (sbT 78 ++ (rRw M (NM r) (LN r) (LN r) 0 ++ rCap M NM LN d (r + 1)))))))
    have fin : ∀ S1 t, t.length ≤ 2 → wrS M S1 (l ++ t) → ∃ S2, ru_ev z 327 [.ref 1315, .ref 377] (mdPut h S1) = some (.inl none, mdPut h S2) ∧ ∃ S3, ru_ev z 329 [.ref 1315, .int (wI r)] (mdPut h S2) = some (.inl none, mdPut h S3) ∧ ∃ S4, ru_ev z 327 [.ref 1315, .ref 378] (mdPut h S3) = some (.inl none, mdPut h S4) ∧ ∃ S5 j', ru_n z 326 76 [some (.ref 1315), some (.int (wI f)), some (.int (wI r)), some (.int (wI 0))] [] (mdPut h S4) = ru_n z 326 108 [some (.ref 1315), some (.int (wI f)), some (.int (wI r)), some (.int j')] [] (mdPut h S5) ∧ ∃ S' l3' r', ru_n z 326 36 [some (.ref 1315), some (.int (wI f)), some (.int (wI ((r : Int) + 1))), some (.int j')] [] (mdPut h S5) = ru_n z 326 114 [some (.ref 1315), some (.int (wI f)), r', l3'] [] (mdPut h S') ∧ wrS M S' (l ++ (t ++ (sbT 77 ++ (numT r ++ (sbT 78 ++ (rRw M (NM r) (LN r) (LN r) 0 ++ rCap M NM LN d (r + 1))))))) := fun S1 t ht hw1 => by
      obtain ⟨S2, q2, w2⟩ := p327 (z := z) (h := h) (hst 77 (by decide)) (by decide) (sbT_ok 77 (by decide)).2 (by rw [List.length_append]; omega) hw1
      obtain ⟨S3, q3, w3⟩ := p329 (z := z) (h := h) w2 (v := r) (by omega) (by rw [List.length_append, List.length_append]; omega)
      obtain ⟨S4, q4, w4⟩ := p327 (z := z) (h := h) (hst 78 (by decide)) (by decide) (sbT_ok 78 (by decide)).2 (by simp only [List.length_append]; split at hnum <;> omega) w3
      obtain ⟨S5, j', q5, w5⟩ := p326p (z := z) (h := h) hpr hst (LN r) 0 (by omega) (Nat.zero_le _) _ S4 w4 (by simp only [List.length_append]; split at hnum <;> omega)
      obtain ⟨S', l3', r', q6, w6⟩ := ih (r + 1) (by omega) _ S5 (some (.int j')) w5 (by simp only [List.length_append]; split at hnum <;> omega)
      simp only [List.append_assoc] at w6
      exact ⟨S2, q2, S3, q3, S4, q4, S5, j', q5, S', l3', r', q6, w6⟩
    by_cases c2 : 0 < r
    · rw [if_pos c2]
      have d2 : ((r : Int) ≤ 0) = False := eq_false (by omega)
      obtain ⟨S1, q1, w1⟩ := p327 (z := z) (h := h) (hst 76 (by decide)) (by decide) (sbT_ok 76 (by decide)).2 (by omega) hw
      obtain ⟨S2, q2, S3, q3, S4, q4, S5, j', q5, S', l3', r', q6, w6⟩ := fin S1 (sbT 76) (by omega) w1
      refine ⟨S', l3', r', ?_, w6⟩
      have q1 : ru_ev z 327 [.ref 1315, .ref 376] (mdPut h S) = some (.inl none, mdPut h S1) := q1
      rw [← q6, e326_36]
      simp (disch := omega) only [e326_37, e326_38, e326_41, e326_44, e326_45, e326_48, e326_49, e326_52, e326_55, e326_56, e326_59, e326_62, e326_63, e326_64, e326_67, e326_68, e326_71, e326_74, e326_75, ↓reduceIte, Bool.false_eq_true, not_false_eq_true, not_true_eq_false, Nat.reduceLeDiff, Nat.reduceAdd, Nat.reduceEqDiff, Int.reduceToNat, Int.toNat_natCast, iB0, iB1, ru_klI, ru_klR, ru_klF, ru_klJ, ru_kl0, ru_cs0, ru_csI, ru_csR, ru_csF, ru_csJ, wI_add, wI_sub, wI_mul, wI_lt, wI_le, wI_inj, ru_fdE, ru_fdN, ru_iaN, ru_baN, ru_laN, ru_qaN, ru_pfN, ru_isN, ru_bsN, ru_jsN, ru_qsN, ru_set2, Nat.add_right_cancel_iff, if_true, if_false, ite_self, Int.reduceEq, and_self, Int.add_neg_cancel_right, Int.add_zero, Int.zero_add, md_e, g, c, d2, q1, q2, q3, q4]
      rw [q5]
      simp (disch := omega) only [e326_108, e326_111, ↓reduceIte, Bool.false_eq_true, not_false_eq_true, not_true_eq_false, Nat.reduceLeDiff, Nat.reduceAdd, Nat.reduceEqDiff, Int.reduceToNat, Int.toNat_natCast, iB0, iB1, ru_klI, ru_klR, ru_klF, ru_klJ, ru_kl0, ru_cs0, ru_csI, ru_csR, ru_csF, ru_csJ, wI_add, wI_sub, wI_mul, wI_lt, wI_le, wI_inj, ru_fdE, ru_fdN, ru_iaN, ru_baN, ru_laN, ru_qaN, ru_pfN, ru_isN, ru_bsN, ru_jsN, ru_qsN, ru_set2, Nat.add_right_cancel_iff, if_true, if_false, ite_self, Int.reduceEq, and_self, Int.add_neg_cancel_right, Int.add_zero, Int.zero_add]
    · rw [if_neg c2]
      have d2 : ((r : Int) ≤ 0) = True := eq_true (by omega)
      obtain ⟨S2, q2, S3, q3, S4, q4, S5, j', q5, S', l3', r', q6, w6⟩ := fin S [] (by decide) (by rw [List.append_nil]; exact hw)
      refine ⟨S', l3', r', ?_, w6⟩
      rw [← q6, e326_36]
      simp (disch := omega) only [e326_37, e326_38, e326_41, e326_44, e326_45, e326_48, e326_49, e326_52, e326_55, e326_56, e326_59, e326_62, e326_63, e326_64, e326_67, e326_68, e326_71, e326_74, e326_75, ↓reduceIte, Bool.false_eq_true, not_false_eq_true, not_true_eq_false, Nat.reduceLeDiff, Nat.reduceAdd, Nat.reduceEqDiff, Int.reduceToNat, Int.toNat_natCast, iB0, iB1, ru_klI, ru_klR, ru_klF, ru_klJ, ru_kl0, ru_cs0, ru_csI, ru_csR, ru_csF, ru_csJ, wI_add, wI_sub, wI_mul, wI_lt, wI_le, wI_inj, ru_fdE, ru_fdN, ru_iaN, ru_baN, ru_laN, ru_qaN, ru_pfN, ru_isN, ru_bsN, ru_jsN, ru_qsN, ru_set2, Nat.add_right_cancel_iff, if_true, if_false, ite_self, Int.reduceEq, and_self, Int.add_neg_cancel_right, Int.add_zero, Int.zero_add, md_e, g, c, d2, q2, q3, q4]
      rw [q5]
      simp (disch := omega) only [e326_108, e326_111, ↓reduceIte, Bool.false_eq_true, not_false_eq_true, not_true_eq_false, Nat.reduceLeDiff, Nat.reduceAdd, Nat.reduceEqDiff, Int.reduceToNat, Int.toNat_natCast, iB0, iB1, ru_klI, ru_klR, ru_klF, ru_klJ, ru_kl0, ru_cs0, ru_csI, ru_csR, ru_csF, ru_csJ, wI_add, wI_sub, wI_mul, wI_lt, wI_le, wI_inj, ru_fdE, ru_fdN, ru_iaN, ru_baN, ru_laN, ru_qaN, ru_pfN, ru_isN, ru_bsN, ru_jsN, ru_qsN, ru_set2, Nat.add_right_cancel_iff, if_true, if_false, ite_self, Int.reduceEq, and_self, Int.add_neg_cancel_right, Int.add_zero, Int.zero_add]
end WRW
