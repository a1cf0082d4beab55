/-! ===== the reference writes items, rows, a caption ===== -/
section RIS
variable {z : Bool} {h : am_H} {M S : tMd} {l : List Nat} {N f r len : Nat} {nm : Nat → Int}
theorem p331e (hp : wmP M N f r len nm) (hw : wrS M S l) {j : Nat} (hj : j < len) : ∀ d e : Nat, e + d = len → j + 1 ≤ e → ru_n z 331 14 [some (.ref 1315), some (.int (wI f)), some (.int (wI r)), some (.int (wI j)), some (.int (wI (nm j))), some (.int (wI e)), none] [] (mdPut h S) = ru_n z 331 37 [some (.ref 1315), some (.int (wI f)), some (.int (wI r)), some (.int (wI j)), some (.int (wI (nm j))), some (.int (wI ((eE M nm d e (nm j) : Nat) : Int))), none] [] (mdPut h S) := by
  have a5 := hp.2.2.2.2.1
  have hN := hp.2.2.2.2.2.2.2.2.1.1
  have hn : ∀ i, i < len → nmOK N (nm i) := fun i hi => by obtain ⟨k, -, -, -, k4⟩ := hp.2.2.2.2.2.2.2.2.2 i hi; exact k4
  have hj2 : -1 ≤ nm j ∧ nm j < 20 := by rcases hn j hj with h | h <;> omega
  intro d
  induction d with
  | zero =>
    intro e he hje
    obtain rfl : e = len := by omega
    have k1 := p332 (z := z) (h := h) hp hw (j := e) (Nat.le_refl _)
    rw [if_neg (Nat.lt_irrefl _)] at k1
    have k2 := p333 (z := z) (h := h) hp hw (hn j hj) (m := 1000000000) (Or.inr rfl)
    rw [if_pos rfl] at k2
    simp (disch := omega) only [e331_14, e331_15, e331_17, e331_18, e331_19, e331_20, e331_22, e331_25, e331_28, ↓reduceIte, Bool.false_eq_true, not_false_eq_true, not_true_eq_false, Nat.reduceLeDiff, Nat.reduceAdd, Nat.reduceEqDiff, Int.reduceToNat, Int.toNat_natCast, iB0, iB1, ru_klI, ru_klR, ru_klF, ru_klJ, ru_kl0, ru_cs0, ru_csI, ru_csR, ru_csF, ru_csJ, wI_add, wI_sub, wI_mul, wI_lt, wI_le, wI_inj, ru_fdE, ru_fdN, ru_iaN, ru_baN, ru_laN, ru_qaN, ru_pfN, ru_isN, ru_bsN, ru_jsN, ru_qsN, ru_set2, Nat.add_right_cancel_iff, if_true, if_false, ite_self, Int.reduceEq, and_self, Int.add_neg_cancel_right, Int.add_zero, Int.zero_add, md_e, k1, k2]
    rfl
  | succ d ih =>
    intro e he hje
    have k1 := p332 (z := z) (h := h) hp hw (j := e) (by omega)
    rw [if_pos (by omega)] at k1
    have he2 : -1 ≤ nm e ∧ nm e < 20 := by rcases hn e (by omega) with h | h <;> omega
    have k2 := p333 (z := z) (h := h) hp hw (hn j hj) (m := nm e) (Or.inl (hn e (by omega)))
    rw [if_neg (by omega)] at k2
    have es : eE M nm (d + 1) e (nm j) = if oneB M (nm j) (nm e) = true then eE M nm d (e + 1) (nm j) else e := rfl
    rw [es, e331_14]
    by_cases c : oneB M (nm j) (nm e) = true
    · rw [if_pos c] at k2 ⊢
      have ih1 := ih (e + 1) (by omega) (by omega)
      have d1 : ((1 : Int) = 0) = False := eq_false (by decide)
      rw [← ih1]
      simp (disch := omega) only [e331_15, e331_17, e331_18, e331_19, e331_20, e331_22, e331_25, e331_28, e331_31, e331_34, ↓reduceIte, Bool.false_eq_true, not_false_eq_true, not_true_eq_false, Nat.reduceLeDiff, Nat.reduceAdd, Nat.reduceEqDiff, Int.reduceToNat, Int.toNat_natCast, iB0, iB1, ru_klI, ru_klR, ru_klF, ru_klJ, ru_kl0, ru_cs0, ru_csI, ru_csR, ru_csF, ru_csJ, wI_add, wI_sub, wI_mul, wI_lt, wI_le, wI_inj, ru_fdE, ru_fdN, ru_iaN, ru_baN, ru_laN, ru_qaN, ru_pfN, ru_isN, ru_bsN, ru_jsN, ru_qsN, ru_set2, Nat.add_right_cancel_iff, if_true, if_false, ite_self, Int.reduceEq, and_self, Int.add_neg_cancel_right, Int.add_zero, Int.zero_add, md_e, k1, k2, d1, Int.natCast_add, Int.natCast_one]
    · rw [if_neg c] at k2 ⊢
      simp (disch := omega) only [e331_15, e331_17, e331_18, e331_19, e331_20, e331_22, e331_25, e331_28, e331_31, e331_34, ↓reduceIte, Bool.false_eq_true, not_false_eq_true, not_true_eq_false, Nat.reduceLeDiff, Nat.reduceAdd, Nat.reduceEqDiff, Int.reduceToNat, Int.toNat_natCast, iB0, iB1, ru_klI, ru_klR, ru_klF, ru_klJ, ru_kl0, ru_cs0, ru_csI, ru_csR, ru_csF, ru_csJ, wI_add, wI_sub, wI_mul, wI_lt, wI_le, wI_inj, ru_fdE, ru_fdN, ru_iaN, ru_baN, ru_laN, ru_qaN, ru_pfN, ru_isN, ru_bsN, ru_jsN, ru_qsN, ru_set2, Nat.add_right_cancel_iff, if_true, if_false, ite_self, Int.reduceEq, and_self, Int.add_neg_cancel_right, Int.add_zero, Int.zero_add, md_e, k1, k2]
theorem p331n (hp : wmP M N f r len nm) (hst : strs h) {j e : Nat} (hje : j < e) (he : e ≤ len) {n0 : Option Value} (hnm : ∀ i, j ≤ i → i < e → ¬ nm i = -1) : ∀ d q : Nat, q + d = e → j ≤ q → ∀ (l : List Nat) (S : tMd), wrS M S l → l.length + 13 * d ≤ 900 → ∃ S', ru_n z 331 81 [some (.ref 1315), some (.int (wI f)), some (.int (wI r)), some (.int (wI j)), n0, some (.int (wI e)), some (.int (wI q))] [] (mdPut h S) = ru_n z 331 122 [some (.ref 1315), some (.int (wI f)), some (.int (wI r)), some (.int (wI j)), n0, some (.int (wI e)), some (.int (wI e))] [] (mdPut h S') ∧ wrS M S' (l ++ fTx M nm d q (q - j)) := by
  have a5 := hp.2.2.2.2.1
  have hN := hp.2.2.2.2.2.2.2.2.1
  have h81 : sbT 81 = sbT 45 := by decide
  have l81 : (sbT 81).length = 5 := by decide
  have h46 : sbT 46 = [] := by decide
  intro d
  induction d with
  | zero =>
    intro q hq hjq l S hw hl
    obtain rfl : q = e := by omega
    refine ⟨S, ?_, by rw [show fTx M nm 0 q (q - j) = [] from rfl, List.append_nil]; exact hw⟩
    simp (disch := omega) only [e331_81, e331_83, e331_85, ↓reduceIte, Bool.false_eq_true, not_false_eq_true, not_true_eq_false, Nat.reduceLeDiff, Nat.reduceAdd, Nat.reduceEqDiff, Int.reduceToNat, Int.toNat_natCast, iB0, iB1, ru_klI, ru_klR, ru_klF, ru_klJ, ru_kl0, ru_cs0, ru_csI, ru_csR, ru_csF, ru_csJ, wI_add, wI_sub, wI_mul, wI_lt, wI_le, wI_inj, ru_fdE, ru_fdN, ru_iaN, ru_baN, ru_laN, ru_qaN, ru_pfN, ru_isN, ru_bsN, ru_jsN, ru_qsN, ru_set2, Nat.add_right_cancel_iff, if_true, if_false, ite_self, Int.reduceEq, and_self, Int.add_neg_cancel_right, Int.add_zero, Int.zero_add, Int.le_refl]
  | succ d ih =>
    intro q hq hjq l S hw hl
    obtain ⟨k, -, -, -, hok⟩ := hp.2.2.2.2.2.2.2.2.2 q (by omega)
    have hne := hnm q hjq (by omega)
    obtain ⟨a, ha⟩ := Int.eq_ofNat_of_zero_le (show 0 ≤ nm q by rcases hok with h | h <;> omega)
    have haN : a < N := by rcases hok with h | h <;> omega
    have c : ((e : Int) ≤ (q : Int)) = False := eq_false (by omega)
    have w8 := wln_8 (wf M a)
    have wt := wdT_len (wf M a)
    have eN : nTx M (nm q) (q - j) = (if 0 < q - j then sbT 81 else []) ++ wdT (wf M a) := by
      unfold nTx
      rw [if_neg hne, ha, Int.toNat_natCast, h81, h46]
    show ∃ S', _ ∧ wrS M S' (l ++ (nTx M (nm q) (q - j) ++ fTx M nm d (q + 1) (q - j + 1)))
    rw [eN]
    have fin : ∀ S1 l1, wrS M S1 l1 → l1.length + 8 ≤ 900 → ∃ S2, ru_ev z 332 [.ref 1315, .int (wI f), .int (wI r), .int (wI q)] (mdPut h S1) = some (.inl (some (.int (wI (a : Nat)))), mdPut h S1) ∧ ru_ev z 334 [.ref 1315, .int (wI (16 * (a : Int)))] (mdPut h S1) = some (.inl none, mdPut h S2) ∧ wrS M S2 (l1 ++ wdT (wf M a)) := fun S1 l1 hw1 hl1 => by
      have k1 := p332 (z := z) (h := h) hp hw1 (j := q) (by omega)
      rw [if_pos (by omega), ha] at k1
      obtain ⟨S2, q2, w2⟩ := p334 (z := z) (h := h) (M := M) (N := S1) (l := l1) (a := 16 * a) (by omega) (hN.2 a haN).1 (by omega) hw1
      rw [show ((16 * a : Nat) : Int) = 16 * (a : Int) by omega] at q2
      exact ⟨S2, k1, q2, w2⟩
    by_cases c2 : 0 < q - j
    · rw [if_pos c2]
      have d2 : ((q : Int) ≤ (j : Int)) = False := eq_false (by omega)
      obtain ⟨S1, q1, w1⟩ := p327 (z := z) (h := h) (hst 81 (by decide)) (by decide) (sbT_ok 81 (by decide)).2 (by omega) hw
      obtain ⟨S2, q2, q3, w2⟩ := fin S1 _ w1 (by rw [List.length_append]; omega)
      obtain ⟨S', q4, w4⟩ := ih (q + 1) (by omega) (by omega) _ S2 w2 (by rw [List.length_append, List.length_append]; omega)
      rw [show q + 1 - j = q - j + 1 by omega] at w4
      refine ⟨S', ?_, by simp only [List.append_assoc] at w4 ⊢; exact w4⟩
      rw [← q4, e331_81]
      have q1 : ru_ev z 327 [.ref 1315, .ref 381] (mdPut h S) = some (.inl none, mdPut h S1) := q1
      simp (disch := omega) only [e331_83, e331_85, e331_88, e331_90, e331_91, e331_94, e331_95, e331_98, e331_101, e331_102, e331_104, e331_105, e331_106, e331_107, e331_109, e331_112, e331_113, e331_116, e331_119, ↓reduceIte, Bool.false_eq_true, not_false_eq_true, not_true_eq_false, Nat.reduceLeDiff, Nat.reduceAdd, Nat.reduceEqDiff, Int.reduceToNat, Int.toNat_natCast, iB0, iB1, ru_klI, ru_klR, ru_klF, ru_klJ, ru_kl0, ru_cs0, ru_csI, ru_csR, ru_csF, ru_csJ, wI_add, wI_sub, wI_mul, wI_lt, wI_le, wI_inj, ru_fdE, ru_fdN, ru_iaN, ru_baN, ru_laN, ru_qaN, ru_pfN, ru_isN, ru_bsN, ru_jsN, ru_qsN, ru_set2, Nat.add_right_cancel_iff, if_true, if_false, ite_self, Int.reduceEq, and_self, Int.add_neg_cancel_right, Int.add_zero, Int.zero_add, md_e, c, d2, q1, q2, q3, Int.natCast_add, Int.natCast_one]
    · rw [if_neg c2]
      have d2 : ((q : Int) ≤ (j : Int)) = True := eq_true (by omega)
      obtain ⟨S2, q2, q3, w2⟩ := fin S _ hw (by omega)
      obtain ⟨S', q4, w4⟩ := ih (q + 1) (by omega) (by omega) _ S2 w2 (by rw [List.length_append]; omega)
      rw [show q + 1 - j = q - j + 1 by omega] at w4
      refine ⟨S', ?_, by simp only [List.append_assoc, List.nil_append] at w4 ⊢; exact w4⟩
      rw [← q4, e331_81]
      simp (disch := omega) only [e331_83, e331_85, e331_88, e331_90, e331_91, e331_94, e331_95, e331_98, e331_101, e331_102, e331_104, e331_105, e331_106, e331_107, e331_109, e331_112, e331_113, e331_116, e331_119, ↓reduceIte, Bool.false_eq_true, not_false_eq_true, not_true_eq_false, Nat.reduceLeDiff, Nat.reduceAdd, Nat.reduceEqDiff, Int.reduceToNat, Int.toNat_natCast, iB0, iB1, ru_klI, ru_klR, ru_klF, ru_klJ, ru_kl0, ru_cs0, ru_csI, ru_csR, ru_csF, ru_csJ, wI_add, wI_sub, wI_mul, wI_lt, wI_le, wI_inj, ru_fdE, ru_fdN, ru_iaN, ru_baN, ru_laN, ru_qaN, ru_pfN, ru_isN, ru_bsN, ru_jsN, ru_qsN, ru_set2, Nat.add_right_cancel_iff, if_true, if_false, ite_self, Int.reduceEq, and_self, Int.add_neg_cancel_right, Int.add_zero, Int.zero_add, md_e, c, d2, q2, q3, Int.natCast_add, Int.natCast_one]
theorem fTx_0 {nm : Nat → Int} : ∀ d q k, (∀ i, q ≤ i → i < q + d → nm i = -1) → fTx M nm d q k = []
  | 0, _, _, _ => rfl
  | d + 1, q, k, h => by
    show nTx M (nm q) k ++ fTx M nm d (q + 1) (k + 1) = []
    rw [fTx_0 d (q + 1) (k + 1) (fun i h1 h2 => h i (by omega) (by omega))]
    unfold nTx
    rw [if_pos (h q (Nat.le_refl _) (by omega))]; rfl
/-- within an item names are told, or none is -/
theorem eE_in {nm : Nat → Int} {f : Int} : ∀ d e i, e ≤ i → i < eE M nm d e f → oneB M f (nm i) = true
  | 0, e, i, h1, h2 => by have h2 : i < e := h2; omega
  | d + 1, e, i, h1, h2 => by
    have h2 : i < (if oneB M f (nm e) = true then eE M nm d (e + 1) f else e) := h2
    by_cases c : oneB M f (nm e) = true
    · rw [if_pos c] at h2
      by_cases ei : i = e
      · rw [ei]; exact c
      · exact eE_in d (e + 1) i (by omega) h2
    · rw [if_neg c] at h2; omega
theorem oneB_none {n m : Int} (h : oneB M n m = true) : n = -1 ↔ m = -1 := by
  unfold oneB at h
  by_cases c1 : n = -1
  · rw [if_pos (Or.inl c1)] at h
    have := of_decide_eq_true h; omega
  · by_cases c2 : m = -1
    · rw [if_pos (Or.inr c2)] at h
      have := of_decide_eq_true h; omega
    · omega
theorem p331 (hp : wmP M N f r len nm) (hst : strs h) (hw : wrS M S l) {j : Nat} (hj : j < len) (hl : l.length + 13 * 12 + 9 ≤ 900) : ∃ S', ru_ev z 331 [.ref 1315, .int (wI f), .int (wI r), .int (wI j)] (mdPut h S) = some (.inl (some (.int (wI ((eE M nm (len - (j + 1)) (j + 1) (nm j) : Nat) : Int)))), mdPut h S') ∧ wrS M S' (l ++ iTx M nm j (eE M nm (len - (j + 1)) (j + 1) (nm j))) := by
  have a5 := hp.2.2.2.2.1
  have hN := hp.2.2.2.2.2.2.2.2.1
  have hn : ∀ i, i < len → nmOK N (nm i) := fun i hi => by obtain ⟨k, -, -, -, k4⟩ := hp.2.2.2.2.2.2.2.2.2 i hi; exact k4
  have hj2 : -1 ≤ nm j ∧ nm j < 20 := by rcases hn j hj with h | h <;> omega
  have eb := eE_b M nm (len - (j + 1)) (j + 1) (nm j)
  have hin := eE_in (M := M) (nm := nm) (f := nm j) (len - (j + 1)) (j + 1)
  have k1 := p332 (z := z) (h := h) hp hw (j := j) (by omega)
  rw [if_pos hj] at k1
  have k2 := p331e (z := z) (h := h) hp hw hj (len - (j + 1)) (j + 1) (by omega) (Nat.le_refl _)
  rw [show ((j + 1 : Nat) : Int) = (j : Int) + 1 by omega] at k2
  generalize eE M nm (len - (j + 1)) (j + 1) (nm j) = e at *
  have h65 : sbT 65 = sbT 47 := by decide
  have h80 : sbT 80 = sbT 48 := by decide
  have l65 : (sbT 65).length = 7 := by decide
  have l80 : (sbT 80).length = 7 := by decide
  unfold iTx
  by_cases c : nm j = -1
  · have hf : fTx M nm (e - j) j 0 = [] := fTx_0 _ _ _ (fun i h1 h2 => by
      by_cases ei : i = j
      · rw [ei]; exact c
      · exact (oneB_none (hin i (by omega) (by omega))).mp c)
    rw [hf, List.nil_append]
    unfold eTx
    rw [if_pos c]
    have d1 : (nm j = -1) = True := eq_true c
    by_cases c2 : e - j = 1
    · rw [if_pos c2, ← h65]
      have d2 : ((e : Int) = (j : Int) + 1) = True := eq_true (by omega)
      obtain ⟨S1, q1, w1⟩ := p327 (z := z) (h := h) (hst 65 (by decide)) (by decide) (sbT_ok 65 (by decide)).2 (by omega) hw
      refine ⟨S1, ?_, w1⟩
      have q1 : ru_ev z 327 [.ref 1315, .ref 365] (mdPut h S) = some (.inl none, mdPut h S1) := q1
      simp (disch := omega) only [e331_0, e331_1, e331_2, e331_3, e331_4, e331_7, e331_9, e331_10, e331_11, e331_12, en331, ↓reduceIte, Bool.false_eq_true, not_false_eq_true, not_true_eq_false, Nat.reduceLeDiff, Nat.reduceAdd, Nat.reduceEqDiff, Int.reduceToNat, Int.toNat_natCast, iB0, iB1, ru_klI, ru_klR, ru_klF, ru_klJ, ru_kl0, ru_cs0, ru_csI, ru_csR, ru_csF, ru_csJ, wI_add, wI_sub, wI_mul, wI_lt, wI_le, wI_inj, ru_fdE, ru_fdN, ru_iaN, ru_baN, ru_laN, ru_qaN, ru_pfN, ru_isN, ru_bsN, ru_jsN, ru_qsN, ru_set2, Nat.add_right_cancel_iff, if_true, if_false, ite_self, Int.reduceEq, and_self, Int.add_neg_cancel_right, Int.add_zero, Int.zero_add, md_e, k1]
      rw [k2]
      simp (disch := omega) only [e331_37, e331_39, e331_40, e331_43, e331_45, e331_46, e331_47, e331_48, e331_51, e331_52, e331_54, e331_57, e331_60, e331_61, e331_63, e331_64, e331_65, e331_68, e331_69, e331_72, e331_75, e331_77, ↓reduceIte, Bool.false_eq_true, not_false_eq_true, not_true_eq_false, Nat.reduceLeDiff, Nat.reduceAdd, Nat.reduceEqDiff, Int.reduceToNat, Int.toNat_natCast, iB0, iB1, ru_klI, ru_klR, ru_klF, ru_klJ, ru_kl0, ru_cs0, ru_csI, ru_csR, ru_csF, ru_csJ, wI_add, wI_sub, wI_mul, wI_lt, wI_le, wI_inj, ru_fdE, ru_fdN, ru_iaN, ru_baN, ru_laN, ru_qaN, ru_pfN, ru_isN, ru_bsN, ru_jsN, ru_qsN, ru_set2, Nat.add_right_cancel_iff, if_true, if_false, ite_self, Int.reduceEq, and_self, Int.add_neg_cancel_right, Int.add_zero, Int.zero_add, md_e, d1, d2, q1, not_true]
    · rw [if_neg c2, ← h80]
      have d2 : ((e : Int) = (j : Int) + 1) = False := eq_false (by omega)
      obtain ⟨S1, q1, w1⟩ := p329 (z := z) (h := h) hw (v := e - j) (by omega) (by omega)
      have hnl := numT_len (e - j)
      obtain ⟨S2, q2, w2⟩ := p327 (z := z) (h := h) (hst 80 (by decide)) (by decide) (sbT_ok 80 (by decide)).2 (by rw [List.length_append]; split at hnl <;> omega) w1
      rw [List.append_assoc] at w2
      refine ⟨S2, ?_, w2⟩
      rw [show ((e - j : Nat) : Int) = (e : Int) - (j : Int) by omega] at q1
      have q2 : ru_ev z 327 [.ref 1315, .ref 380] (mdPut h S1) = some (.inl none, mdPut h S2) := q2
      simp (disch := omega) only [e331_0, e331_1, e331_2, e331_3, e331_4, e331_7, e331_9, e331_10, e331_11, e331_12, en331, ↓reduceIte, Bool.false_eq_true, not_false_eq_true, not_true_eq_false, Nat.reduceLeDiff, Nat.reduceAdd, Nat.reduceEqDiff, Int.reduceToNat, Int.toNat_natCast, iB0, iB1, ru_klI, ru_klR, ru_klF, ru_klJ, ru_kl0, ru_cs0, ru_csI, ru_csR, ru_csF, ru_csJ, wI_add, wI_sub, wI_mul, wI_lt, wI_le, wI_inj, ru_fdE, ru_fdN, ru_iaN, ru_baN, ru_laN, ru_qaN, ru_pfN, ru_isN, ru_bsN, ru_jsN, ru_qsN, ru_set2, Nat.add_right_cancel_iff, if_true, if_false, ite_self, Int.reduceEq, and_self, Int.add_neg_cancel_right, Int.add_zero, Int.zero_add, md_e, k1]
      rw [k2]
      simp (disch := omega) only [e331_37, e331_39, e331_40, e331_43, e331_45, e331_46, e331_47, e331_48, e331_51, e331_52, e331_54, e331_57, e331_60, e331_61, e331_63, e331_64, e331_65, e331_68, e331_69, e331_72, e331_75, e331_77, ↓reduceIte, Bool.false_eq_true, not_false_eq_true, not_true_eq_false, Nat.reduceLeDiff, Nat.reduceAdd, Nat.reduceEqDiff, Int.reduceToNat, Int.toNat_natCast, iB0, iB1, ru_klI, ru_klR, ru_klF, ru_klJ, ru_kl0, ru_cs0, ru_csI, ru_csR, ru_csF, ru_csJ, wI_add, wI_sub, wI_mul, wI_lt, wI_le, wI_inj, ru_fdE, ru_fdN, ru_iaN, ru_baN, ru_laN, ru_qaN, ru_pfN, ru_isN, ru_bsN, ru_jsN, ru_qsN, ru_set2, Nat.add_right_cancel_iff, if_true, if_false, ite_self, Int.reduceEq, and_self, Int.add_neg_cancel_right, Int.add_zero, Int.zero_add, md_e, d1, d2, q1, q2, not_true, not_false_iff]
  · unfold eTx
    rw [if_neg c]
    have d1 : (nm j = -1) = False := eq_false c
    obtain ⟨S1, q1, w1⟩ := p331n (z := z) (h := h) hp hst (j := j) (e := e) (by omega) (by omega) (n0 := some (.int (wI (nm j)))) (fun i h1 h2 => by
      by_cases ei : i = j
      · rw [ei]; exact c
      · intro h9
        exact c ((oneB_none (hin i (by omega) (by omega))).mpr h9)) (e - j) j (by omega) (Nat.le_refl _) l S hw (by omega)
    rw [Nat.sub_self] at w1
    obtain ⟨a, ha⟩ := Int.eq_ofNat_of_zero_le (show 0 ≤ nm j by omega)
    have haN : a < N := by rcases hn j hj with h | h <;> omega
    have hfl : (fTx M nm (e - j) j 0).length ≤ 13 * (e - j) := by
      have key : ∀ d q k, (fTx M nm d q k).length ≤ 13 * d := by
        intro d
        induction d with
        | zero => intro q k; exact Nat.zero_le _
        | succ d ih =>
          intro q k
          have h1 := nTx_len (M := M) (n := nm q) (k := k)
          have h2 := ih (q + 1) (k + 1)
          show (nTx M (nm q) k ++ fTx M nm d (q + 1) (k + 1)).length ≤ 13 * (d + 1)
          rw [List.length_append]; omega
      exact key _ _ _
    obtain ⟨S2, q2, w2⟩ := p328 (z := z) (h := h) w1 (by rw [List.length_append]; omega) (c := 32) (by omega)
    obtain ⟨S3, q3, w3⟩ := p334 (z := z) (h := h) (M := M) (N := S2) (a := 16 * a + 8) (by omega) (hN.2 a haN).2.1 (by rw [List.length_append, List.length_append]; show l.length + _ + 1 + 8 ≤ 1000; omega) w2
    simp only [List.append_assoc] at w3
    rw [show ((16 * a + 8 : Nat) : Int) = 16 * (a : Int) + 8 by omega] at q3
    rw [show ((32 : Nat) : Int) = 32 from rfl] at q2
    rw [ha] at k1 k2 q1 d1 ⊢
    rw [Int.toNat_natCast]
    refine ⟨S3, ?_, w3⟩
    simp (disch := omega) only [e331_0, e331_1, e331_2, e331_3, e331_4, e331_7, e331_9, e331_10, e331_11, e331_12, en331, ↓reduceIte, Bool.false_eq_true, not_false_eq_true, not_true_eq_false, Nat.reduceLeDiff, Nat.reduceAdd, Nat.reduceEqDiff, Int.reduceToNat, Int.toNat_natCast, iB0, iB1, ru_klI, ru_klR, ru_klF, ru_klJ, ru_kl0, ru_cs0, ru_csI, ru_csR, ru_csF, ru_csJ, wI_add, wI_sub, wI_mul, wI_lt, wI_le, wI_inj, ru_fdE, ru_fdN, ru_iaN, ru_baN, ru_laN, ru_qaN, ru_pfN, ru_isN, ru_bsN, ru_jsN, ru_qsN, ru_set2, Nat.add_right_cancel_iff, if_true, if_false, ite_self, Int.reduceEq, and_self, Int.add_neg_cancel_right, Int.add_zero, Int.zero_add, md_e, k1]
    rw [k2]
    simp (disch := omega) only [e331_37, e331_39, e331_40, e331_43, e331_45, e331_46, e331_47, e331_48, e331_51, e331_52, e331_54, e331_57, e331_60, e331_61, e331_63, e331_64, e331_65, e331_68, e331_69, e331_72, e331_75, e331_77, e331_78, e331_79, ↓reduceIte, Bool.false_eq_true, not_false_eq_true, not_true_eq_false, Nat.reduceLeDiff, Nat.reduceAdd, Nat.reduceEqDiff, Int.reduceToNat, Int.toNat_natCast, iB0, iB1, ru_klI, ru_klR, ru_klF, ru_klJ, ru_kl0, ru_cs0, ru_csI, ru_csR, ru_csF, ru_csJ, wI_add, wI_sub, wI_mul, wI_lt, wI_le, wI_inj, ru_fdE, ru_fdN, ru_iaN, ru_baN, ru_laN, ru_qaN, ru_pfN, ru_isN, ru_bsN, ru_jsN, ru_qsN, ru_set2, Nat.add_right_cancel_iff, if_true, if_false, ite_self, Int.reduceEq, and_self, Int.add_neg_cancel_right, Int.add_zero, Int.zero_add, md_e, d1, not_false_iff]
    rw [q1]
    simp (disch := omega) only [e331_122, e331_123, e331_125, e331_128, e331_129, e331_131, e331_133, e331_134, e331_136, e331_137, e331_140, e331_142, ↓reduceIte, Bool.false_eq_true, not_false_eq_true, not_true_eq_false, Nat.reduceLeDiff, Nat.reduceAdd, Nat.reduceEqDiff, Int.reduceToNat, Int.toNat_natCast, iB0, iB1, ru_klI, ru_klR, ru_klF, ru_klJ, ru_kl0, ru_cs0, ru_csI, ru_csR, ru_csF, ru_csJ, wI_add, wI_sub, wI_mul, wI_lt, wI_le, wI_inj, ru_fdE, ru_fdN, ru_iaN, ru_baN, ru_laN, ru_qaN, ru_pfN, ru_isN, ru_bsN, ru_jsN, ru_qsN, ru_set2, Nat.add_right_cancel_iff, if_true, if_false, ite_self, Int.reduceEq, and_self, Int.add_neg_cancel_right, Int.add_zero, Int.zero_add, md_e, q2, q3]
end RIS
