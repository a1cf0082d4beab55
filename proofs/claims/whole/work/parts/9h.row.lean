/-! ===== the class's writer: a row ===== -/
def nTx (M : tMd) (n : Int) (k : Nat) : List Nat := if n = -1 then [] else (if 0 < k then sbT 45 else sbT 46) ++ wdT (wf M n.toNat)
/-- an item ends at place j, d places behind it -/
def lsB (M : tMd) (nm : Nat → Int) (d j : Nat) : Bool := decide (d = 0) || !oneB M (nm j) (nm (j + 1))
def zTx (M : tMd) (nm : Nat → Int) (d j k : Nat) : List Nat := if lsB M nm d j = true then eTx M (nm j) (k + 1) ++ (if d = 0 then sbT 46 else sbT 49) else []
def cRw (M : tMd) (nm : Nat → Int) : Nat → Nat → Nat → List Nat
  | 0, _, _ => []
  | d + 1, j, k => nTx M (nm j) k ++ (zTx M nm d j k ++ cRw M nm d (j + 1) (if lsB M nm d j = true then 0 else k + 1))
/-- picture, photo and words, where the class writes row r of len places with the names nm -/
def wcP (C : tCl) (M : tMd) (N A b r len : Nat) (nm : Nat → Int) : Prop := wcN C M N ∧ alb C = A ∧ isPh b ∧ r < 12 ∧ len ≤ 12 ∧ lenC (piGet C 1070) r = (len : Int) ∧ ∀ j, j < len → (0 ≤ (piGet C 1070).2 6 r + (j : Int) ∧ (piGet C 1070).2 6 r + (j : Int) < 12) ∧ (0 ≤ plC (piGet C 1070) r j ∧ plC (piGet C 1070) r j < 12) ∧ nm j = (cph C b).2 3 (plC (piGet C 1070) r j).toNat ∧ nmOK N (nm j)
theorem isPh_ne {b : Nat} (h : isPh b) : b ≠ 1258 ∧ b ≠ 1257 := by
  constructor
  · intro e; have h0 := h.1; rw [e] at h0; exact absurd h0 (by decide +kernel)
  · intro e; have h0 := h.1; rw [e] at h0; exact absurd h0 (by decide +kernel)
theorem sbOn_pi {H H' : am_H} {C C' : tCl} {cap cap' : Nat} (k : sbOn H H' C C' cap cap') : piGet C' 1070 = piGet C 1070 := by
  unfold piGet
  rw [k.2.2.2.2.2.1 1070 (by decide), k.2.2.2.2.2.2.1]
theorem sbOn_ph {H H' : am_H} {C C' : tCl} {cap cap' b : Nat} (k : sbOn H H' C C' cap cap') (hb : isPh b) : cph C' b = cph C b := cph_eq (k.2.2.2.2.2.1 b (isPh_ne hb).1) (fun c hc => by rw [k.2.2.2.2.2.2.1])
theorem wcP_on {H H' : am_H} {C C' : tCl} {M : tMd} {cap cap' N A b r len : Nat} {nm : Nat → Int} (h : wcP C M N A b r len nm) (k : sbOn H H' C C' cap cap') : wcP C' M N A b r len nm := by
  obtain ⟨a1, a2, a3, a4, a5, a6, a7⟩ := h
  refine ⟨wcN_on a1 k, by rw [sbOn_alb k]; exact a2, a3, a4, a5, by rw [sbOn_pi k]; exact a6, fun j hj => ?_⟩
  rw [sbOn_pi k, sbOn_ph k a3]
  exact a7 j hj
section ROWW
variable {z : Bool} {H : am_H} {C : tCl} {l : List Nat} {cap : Nat} {M : tMd} {N A b r len : Nat} {nm : Nat → Int}
theorem wc_rd (h : wcP C M N A b r len nm) : ru_ev z 93 [.ref 1070, .int (wI r)] (clPut H C) = some (.inl (some (.int (wI (len : Nat)))), clPut H C) ∧ am_fd (clPut H C) b 6 11 = some (.ref (b + 4)) ∧ ∀ j : Nat, j < len → ru_ev z 94 [.ref 1070, .int (wI r), .int (wI (j : Nat))] (clPut H C) = some (.inl (some (.int (wI (plC (piGet C 1070) r j)))), clPut H C) ∧ am_ia (clPut H C) (b + 4) (wI (plC (piGet C 1070) r j)) = some (wI (nm j)) := by
  obtain ⟨a1, a2, a3, a4, a5, a6, a7⟩ := h
  have e1 := k93 (z := z) (h := H) (C := C) (P := 1070) (Or.inl rfl) (p := piGet C 1070) (r := r) a4
  rw [piPut_get] at e1
  have hp := cl_ph (h := H) (C := C) a3
  refine ⟨?_, (phF hp).2.2.2.2.2.2.2.2.2.2.2, fun j hj => ?_⟩
  · rw [e1]
    unfold lenC at a6
    rw [a6]
  · obtain ⟨c1, c2, c3, c4⟩ := a7 j hj
    have e2 := k94 (z := z) (h := H) (C := C) (P := 1070) (Or.inl rfl) (p := piGet C 1070) (r := r) (j := (j : Int)) (by omega) c1.1 c1.2
    rw [piPut_get] at e2
    refine ⟨e2, ?_⟩
    rw [phA3 hp c2.1 c2.2, c3]
theorem nTx_len {n : Int} {k : Nat} : (nTx M n k).length ≤ 13 := by
  unfold nTx
  split
  · exact Nat.zero_le _
  · rw [List.length_append, wdT_len]
    have := wln_8 (wf M n.toNat)
    have e1 : (sbT 45).length = 5 := by decide
    have e2 : (sbT 46).length = 0 := by decide
    split <;> omega
theorem k317a (hw : wcP C M N A b r len nm) (hst : strs H) {j k : Nat} (hj : j < len) (hk : k ≤ 12) (hl : l.length + 13 ≤ 500) (hs : sbS H C l cap) {l8 l9 : Option Value} : ∃ H' C' cap', ru_n z 317 20 [some (.ref 1257), some (.ref 1070), some (.int (wI r)), some (.ref b), some (.ref (A + 1)), some (.int (wI (len : Nat))), some (.int (wI k)), some (.int (wI j)), l8, l9] [] (clPut H C) = ru_n z 317 72 [some (.ref 1257), some (.ref 1070), some (.int (wI r)), some (.ref b), some (.ref (A + 1)), some (.int (wI (len : Nat))), some (.int (wI k)), some (.int (wI j)), some (.int (wI (nm j))), l9] [] (clPut H' C') ∧ sbS H' C' (l ++ nTx M (nm j) k) cap' ∧ sbOn H H' C C' cap cap' := by
  obtain ⟨r1, r2, r3⟩ := wc_rd (z := z) (H := H) hw
  obtain ⟨r4, r5⟩ := r3 j hj
  obtain ⟨a1, a2, a3, a4, a5, a6, a7⟩ := id hw
  have hn := (a7 j hj).2.2.2
  have hN20 := a1.2.1
  have hn2 : -1 ≤ nm j ∧ nm j < 20 := by rcases hn with h | h <;> omega
  unfold nTx
  by_cases c : nm j = -1
  · rw [if_pos c, List.append_nil]
    have d1 : (nm j = -1) = True := eq_true c
    refine ⟨H, C, cap, ?_, hs, sbOn_refl _ _ _⟩
    simp (disch := omega) only [e317_20, e317_21, e317_24, e317_25, e317_26, e317_28, e317_31, e317_32, e317_34, e317_36, e317_37, e317_40, e317_41, e317_44, e317_46, e317_49, e317_51, e317_54, e317_56, e317_59, e317_60, e317_61, e317_63, e317_66, e317_68, e317_69, ↓reduceIte, Bool.false_eq_true, not_false_eq_true, not_true_eq_false, Nat.reduceLeDiff, Nat.reduceAdd, Nat.reduceEqDiff, Int.reduceToNat, Int.toNat_natCast, iB0, iB1, ru_klI, ru_klR, ru_klF, ru_klJ, ru_kl0, ru_cs0, ru_csI, ru_csR, ru_csF, ru_csJ, wI_add, wI_sub, wI_mul, wI_lt, wI_le, wI_inj, ru_fdE, ru_fdN, ru_iaN, ru_baN, ru_laN, ru_qaN, ru_pfN, ru_isN, ru_bsN, ru_jsN, ru_qsN, ru_set2, Nat.add_right_cancel_iff, if_true, if_false, ite_self, Int.reduceEq, and_self, Int.add_neg_cancel_right, Int.add_zero, Int.zero_add, r2, r4, r5, d1]
  · rw [if_neg c]
    have d1 : (nm j = -1) = False := eq_false c
    obtain ⟨a, ha⟩ := Int.eq_ofNat_of_zero_le (show 0 ≤ nm j by omega)
    have haN : a < N := by rcases hn with h | h <;> omega
    rw [ha] at r5 d1 ⊢
    rw [Int.toNat_natCast]
    have fin : ∀ (S : Nat) (t : List Nat), stAt H S (S + 100) t → t.length ≤ 5 → ∃ H1 C1 cap1, ru_ev z 307 [.ref 1258, .ref S] (clPut H C) = some (.inl (some (.ref 1258)), clPut H1 C1) ∧ ∃ H' C' cap', ru_ev z 318 [.ref 1257, .long (wdL (wf M a))] (clPut H1 C1) = some (.inl none, clPut H' C') ∧ am_fd (clPut H1 C1) (A + 1) 3 1 = some (.ref (A + 1 + 1)) ∧ am_la (clPut H1 C1) (A + 1 + 1) (wI (a : Nat)) = some (wdL (wf M a)) ∧ sbS H' C' (l ++ (t ++ wdT (wf M a))) cap' ∧ sbOn H H' C C' cap cap' := fun S t hS ht => by
      obtain ⟨H1, C1, cap1, q1, s1, s2⟩ := k307 (z := z) hs hS (by omega) (by omega)
      have hw1 := wcN_on a1 s2
      obtain ⟨h1, h2, h3, h4⟩ := id hw1
      obtain ⟨-, k1, k2, k3, -, n2, n3, a1', a2'⟩ := clA_k h1
      have y1 := cl_l (h := H1) (C := C1) k2 (by omega) n2 (i := (a : Int)) (by omega) (by omega) (by omega)
      rw [Int.toNat_natCast, (h3 a haN).1, show alb C1 + 2 = alb C1 + 1 + 1 from rfl] at y1
      have hF := clF h1 (h := H1)
      rw [sbOn_alb s2, a2] at hF y1
      obtain ⟨H', C', cap', q2, t1, t2⟩ := k318 (z := z) (h4 a haN).1 (by rw [List.length_append]; omega) s1
      rw [List.append_assoc] at t1
      exact ⟨H1, C1, cap1, q1, H', C', cap', q2, hF.2.2.2.2.2.1, y1, t1, sbOn_tr s2 t2⟩
    by_cases c2 : 0 < k
    · rw [if_pos c2]
      have d2 : ((k : Int) ≤ 0) = False := eq_false (by omega)
      obtain ⟨H1, C1, cap1, q1, H', C', cap', q2, f1, f2, t1, t2⟩ := fin 345 (sbT 45) (hst 45 (by decide)) (by decide)
      refine ⟨H', C', cap', ?_, t1, t2⟩
      simp (disch := omega) only [e317_20, e317_21, e317_24, e317_25, e317_26, e317_28, e317_31, e317_32, e317_34, e317_36, e317_37, e317_40, e317_41, e317_44, e317_46, e317_49, e317_51, e317_54, e317_56, e317_59, e317_60, e317_61, e317_63, e317_66, e317_68, e317_69, ↓reduceIte, Bool.false_eq_true, not_false_eq_true, not_true_eq_false, Nat.reduceLeDiff, Nat.reduceAdd, Nat.reduceEqDiff, Int.reduceToNat, Int.toNat_natCast, iB0, iB1, ru_klI, ru_klR, ru_klF, ru_klJ, ru_kl0, ru_cs0, ru_csI, ru_csR, ru_csF, ru_csJ, wI_add, wI_sub, wI_mul, wI_lt, wI_le, wI_inj, ru_fdE, ru_fdN, ru_iaN, ru_baN, ru_laN, ru_qaN, ru_pfN, ru_isN, ru_bsN, ru_jsN, ru_qsN, ru_set2, Nat.add_right_cancel_iff, if_true, if_false, ite_self, Int.reduceEq, and_self, Int.add_neg_cancel_right, Int.add_zero, Int.zero_add, cl_g7, r2, r4, r5, d1, d2, q1, q2, f1, f2, ru_ctR, not_false_iff]
    · rw [if_neg c2]
      have d2 : ((k : Int) ≤ 0) = True := eq_true (by omega)
      obtain ⟨H1, C1, cap1, q1, H', C', cap', q2, f1, f2, t1, t2⟩ := fin 346 (sbT 46) (hst 46 (by decide)) (by decide)
      refine ⟨H', C', cap', ?_, t1, t2⟩
      simp (disch := omega) only [e317_20, e317_21, e317_24, e317_25, e317_26, e317_28, e317_31, e317_32, e317_34, e317_36, e317_37, e317_40, e317_41, e317_44, e317_46, e317_49, e317_51, e317_54, e317_56, e317_59, e317_60, e317_61, e317_63, e317_66, e317_68, e317_69, ↓reduceIte, Bool.false_eq_true, not_false_eq_true, not_true_eq_false, Nat.reduceLeDiff, Nat.reduceAdd, Nat.reduceEqDiff, Int.reduceToNat, Int.toNat_natCast, iB0, iB1, ru_klI, ru_klR, ru_klF, ru_klJ, ru_kl0, ru_cs0, ru_csI, ru_csR, ru_csF, ru_csJ, wI_add, wI_sub, wI_mul, wI_lt, wI_le, wI_inj, ru_fdE, ru_fdN, ru_iaN, ru_baN, ru_laN, ru_qaN, ru_pfN, ru_isN, ru_bsN, ru_jsN, ru_qsN, ru_set2, Nat.add_right_cancel_iff, if_true, if_false, ite_self, Int.reduceEq, and_self, Int.add_neg_cancel_right, Int.add_zero, Int.zero_add, cl_g7, r2, r4, r5, d1, d2, q1, q2, f1, f2, ru_ctR, not_false_iff]
theorem k317b (hw : wcP C M N A b r len nm) (hst : strs H) (hd : dgI H) {d j k : Nat} (hj : j + (d + 1) = len) (hk : k ≤ j) (hl : l.length + 11 ≤ 500) (hs : sbS H C l cap) {l9 : Option Value} : ∃ H' C' cap', ∃ l9', ru_n z 317 72 [some (.ref 1257), some (.ref 1070), some (.int (wI r)), some (.ref b), some (.ref (A + 1)), some (.int (wI (len : Nat))), some (.int (wI k)), some (.int (wI j)), some (.int (wI (nm j))), l9] [] (clPut H C) = ru_n z 317 13 [some (.ref 1257), some (.ref 1070), some (.int (wI r)), some (.ref b), some (.ref (A + 1)), some (.int (wI (len : Nat))), some (.int (wI ((if lsB M nm d j = true then 0 else k + 1 : Nat) : Int))), some (.int (wI ((j + 1 : Nat) : Int))), some (.int (wI (nm j))), l9'] [] (clPut H' C') ∧ sbS H' C' (l ++ zTx M nm d j k) cap' ∧ sbOn H H' C C' cap cap' := by
  obtain ⟨r1, r2, r3⟩ := wc_rd (z := z) (H := H) hw
  obtain ⟨a1, a2, a3, a4, a5, a6, a7⟩ := id hw
  have hn := (a7 j (by omega)).2.2.2
  have ek : ((k + 1 : Nat) : Int) = (k : Int) + 1 := by omega
  have ej : ((j + 1 : Nat) : Int) = (j : Int) + 1 := by omega
  unfold zTx
  have fin : ∀ S t, stAt H S (S + 100) t → t.length ≤ 2 → strs H → ∃ H1 C1 cap1, ru_ev z 323 [.ref 1257, .int (wI (nm j)), .int (wI ((k : Int) + 1)), .ref (A + 1)] (clPut H C) = some (.inl none, clPut H1 C1) ∧ ∃ H' C' cap', ru_ev z 307 [.ref 1258, .ref S] (clPut H1 C1) = some (.inl (some (.ref 1258)), clPut H' C') ∧ sbS H' C' (l ++ (eTx M (nm j) (k + 1) ++ t)) cap' ∧ sbOn H H' C C' cap cap' := fun S t hS ht hst => by
    obtain ⟨H1, C1, cap1, q1, s1, s2⟩ := k323 (z := z) a1 hst hd hn (k := k + 1) (by omega) (by omega) hs
    rw [a2, ek] at q1
    have hlen := eTx_len (M := M) (k := k + 1) a1.2.2.2 hn (by omega)
    obtain ⟨H', C', cap', q2, t1, t2⟩ := k307 (z := z) s1 (stAt_on hS hs s2) (by rw [List.length_append]; omega) (by omega)
    rw [List.append_assoc] at t1
    exact ⟨H1, C1, cap1, q1, H', C', cap', q2, t1, sbOn_tr s2 t2⟩
  by_cases c : d = 0
  · have hls : lsB M nm d j = true := by unfold lsB; rw [decide_eq_true c]; rfl
    rw [if_pos hls, if_pos hls, if_pos c]
    obtain ⟨H1, C1, cap1, q1, H', C', cap', q2, t1, t2⟩ := fin 346 (sbT 46) (hst 46 (by decide)) (by decide) hst
    refine ⟨H', C', cap', some (.int (wI 1)), ?_, t1, t2⟩
    have d1 : ((j : Int) + 1 < (len : Int)) = False := eq_false (by omega)
    have d2 : ((1 : Int) = 0) = False := eq_false (by decide)
    simp (disch := omega) only [e317_72, e317_75, e317_77, e317_78, e317_79, e317_81, e317_84, e317_85, e317_88, e317_89, e317_91, e317_93, e317_96, e317_98, e317_99, e317_102, e317_103, e317_104, e317_106, e317_107, e317_108, e317_111, e317_112, e317_114, e317_117, e317_120, e317_121, e317_123, e317_125, e317_127, e317_130, e317_131, e317_134, e317_136, e317_139, e317_141, e317_144, e317_146, e317_149, e317_150, e317_151, e317_153, e317_156, ↓reduceIte, Bool.false_eq_true, not_false_eq_true, not_true_eq_false, Nat.reduceLeDiff, Nat.reduceAdd, Nat.reduceEqDiff, Int.reduceToNat, Int.toNat_natCast, iB0, iB1, ru_klI, ru_klR, ru_klF, ru_klJ, ru_kl0, ru_cs0, ru_csI, ru_csR, ru_csF, ru_csJ, wI_add, wI_sub, wI_mul, wI_lt, wI_le, wI_inj, ru_fdE, ru_fdN, ru_iaN, ru_baN, ru_laN, ru_qaN, ru_pfN, ru_isN, ru_bsN, ru_jsN, ru_qsN, ru_set2, Nat.add_right_cancel_iff, if_true, if_false, ite_self, Int.reduceEq, and_self, Int.add_neg_cancel_right, Int.add_zero, Int.zero_add, cl_g7, d1, d2, q1, q2, ru_ctR, not_false_iff, ej, Int.natCast_zero]
  · have d1 : ((j : Int) + 1 < (len : Int)) = True := eq_true (by omega)
    have d2 : ((0 : Int) = 0) = True := eq_true rfl
    obtain ⟨r4, r5⟩ := r3 (j + 1) (by omega)
    rw [ej] at r4
    have hn1 := (a7 (j + 1) (by omega)).2.2.2
    have k9 := k322 (z := z) (H := H) a1 hn hn1
    rw [a2] at k9
    have hc := (a7 (j + 1) (by omega)).2.1
    by_cases c2 : oneB M (nm j) (nm (j + 1)) = true
    · have hls : ¬ lsB M nm d j = true := by unfold lsB; rw [decide_eq_false c, c2]; decide
      rw [if_neg hls, if_neg hls, List.append_nil]
      rw [if_pos c2] at k9
      have d3 : ((1 : Int) = 0) = False := eq_false (by decide)
      refine ⟨H, C, cap, some (.int (wI 0)), ?_, hs, sbOn_refl _ _ _⟩
      simp (disch := omega) only [e317_72, e317_75, e317_77, e317_78, e317_79, e317_81, e317_84, e317_85, e317_88, e317_89, e317_91, e317_93, e317_96, e317_98, e317_99, e317_102, e317_103, e317_104, e317_106, e317_107, e317_108, e317_111, e317_112, e317_114, e317_117, e317_120, e317_121, e317_123, e317_125, e317_127, e317_130, e317_131, e317_134, e317_136, e317_139, e317_141, e317_144, e317_146, e317_149, e317_150, e317_151, e317_153, e317_156, ↓reduceIte, Bool.false_eq_true, not_false_eq_true, not_true_eq_false, Nat.reduceLeDiff, Nat.reduceAdd, Nat.reduceEqDiff, Int.reduceToNat, Int.toNat_natCast, iB0, iB1, ru_klI, ru_klR, ru_klF, ru_klJ, ru_kl0, ru_cs0, ru_csI, ru_csR, ru_csF, ru_csJ, wI_add, wI_sub, wI_mul, wI_lt, wI_le, wI_inj, ru_fdE, ru_fdN, ru_iaN, ru_baN, ru_laN, ru_qaN, ru_pfN, ru_isN, ru_bsN, ru_jsN, ru_qsN, ru_set2, Nat.add_right_cancel_iff, if_true, if_false, ite_self, Int.reduceEq, and_self, Int.add_neg_cancel_right, Int.add_zero, Int.zero_add, cl_g7, d1, d2, d3, r2, r4, r5, k9, not_true, not_false_iff, ej, ek]
    · have hls : lsB M nm d j = true := by unfold lsB; rw [decide_eq_false c, Bool.eq_false_iff.mpr c2]; rfl
      rw [if_pos hls, if_pos hls, if_neg c]
      rw [if_neg c2] at k9
      obtain ⟨H1, C1, cap1, q1, H', C', cap', q2, t1, t2⟩ := fin 349 (sbT 49) (hst 49 (by decide)) (by decide) hst
      refine ⟨H', C', cap', some (.int (wI 0)), ?_, t1, t2⟩
      simp (disch := omega) only [e317_72, e317_75, e317_77, e317_78, e317_79, e317_81, e317_84, e317_85, e317_88, e317_89, e317_91, e317_93, e317_96, e317_98, e317_99, e317_102, e317_103, e317_104, e317_106, e317_107, e317_108, e317_111, e317_112, e317_114, e317_117, e317_120, e317_121, e317_123, e317_125, e317_127, e317_130, e317_131, e317_134, e317_136, e317_139, e317_141, e317_144, e317_146, e317_149, e317_150, e317_151, e317_153, e317_156, ↓reduceIte, Bool.false_eq_true, not_false_eq_true, not_true_eq_false, Nat.reduceLeDiff, Nat.reduceAdd, Nat.reduceEqDiff, Int.reduceToNat, Int.toNat_natCast, iB0, iB1, ru_klI, ru_klR, ru_klF, ru_klJ, ru_kl0, ru_cs0, ru_csI, ru_csR, ru_csF, ru_csJ, wI_add, wI_sub, wI_mul, wI_lt, wI_le, wI_inj, ru_fdE, ru_fdN, ru_iaN, ru_baN, ru_laN, ru_qaN, ru_pfN, ru_isN, ru_bsN, ru_jsN, ru_qsN, ru_set2, Nat.add_right_cancel_iff, if_true, if_false, ite_self, Int.reduceEq, and_self, Int.add_neg_cancel_right, Int.add_zero, Int.zero_add, cl_g7, d1, d2, r2, r4, r5, k9, q1, q2, ru_ctR, not_true, not_false_iff, ej, Int.natCast_zero]
theorem zTx_len {n : Nat} {d j k : Nat} (h4 : nmW M N) (hn : nmOK N (nm j)) (hk : k ≤ 11) : (zTx M nm d j k).length ≤ 11 := by
  unfold zTx
  split
  · rw [List.length_append]
    have := eTx_len (M := M) (k := k + 1) h4 hn (by omega)
    have e1 : (sbT 46).length = 0 := by decide
    have e2 : (sbT 49).length = 2 := by decide
    split <;> omega
  · exact Nat.zero_le _
theorem k317l : ∀ d j k : Nat, j + d = len → k ≤ j → ∀ (l : List Nat) (H : am_H) (C : tCl) (cap : Nat) (l8 l9 : Option Value), wcP C M N A b r len nm → strs H → dgI H → l.length + 24 * d ≤ 500 → sbS H C l cap → ∃ H' C' cap', ru_n z 317 13 [some (.ref 1257), some (.ref 1070), some (.int (wI r)), some (.ref b), some (.ref (A + 1)), some (.int (wI (len : Nat))), some (.int (wI k)), some (.int (wI j)), l8, l9] [] (clPut H C) = some (.inl none, clPut H' C') ∧ sbS H' C' (l ++ cRw M nm d j k) cap' ∧ sbOn H H' C C' cap cap' := by
  intro d
  induction d with
  | zero =>
    intro j k hj hk l H C cap l8 l9 hw hst hd hl hs
    obtain rfl : j = len := by omega
    have h12 := hw.2.2.2.2.1
    refine ⟨H, C, cap, ?_, by rw [show cRw M nm 0 j k = [] from rfl, List.append_nil]; exact hs, sbOn_refl _ _ _⟩
    simp (disch := omega) only [e317_13, e317_15, e317_17, e317_159, ↓reduceIte, Bool.false_eq_true, not_false_eq_true, not_true_eq_false, Nat.reduceLeDiff, Nat.reduceAdd, Nat.reduceEqDiff, Int.reduceToNat, Int.toNat_natCast, iB0, iB1, ru_klI, ru_klR, ru_klF, ru_klJ, ru_kl0, ru_cs0, ru_csI, ru_csR, ru_csF, ru_csJ, wI_add, wI_sub, wI_mul, wI_lt, wI_le, wI_inj, ru_fdE, ru_fdN, ru_iaN, ru_baN, ru_laN, ru_qaN, ru_pfN, ru_isN, ru_bsN, ru_jsN, ru_qsN, ru_set2, Nat.add_right_cancel_iff, if_true, if_false, ite_self, Int.reduceEq, and_self, Int.add_neg_cancel_right, Int.add_zero, Int.zero_add, Int.le_refl]
  | succ d ih =>
    intro j k hj hk l H C cap l8 l9 hw hst hd hl hs
    have h12 := hw.2.2.2.2.1
    have c : ((len : Int) ≤ (j : Int)) = False := eq_false (by omega)
    obtain ⟨H1, C1, cap1, q1, s1, s2⟩ := k317a (z := z) hw hst (j := j) (k := k) (by omega) (by omega) (by omega) hs (l8 := l8) (l9 := l9)
    have hw1 := wcP_on hw s2
    have n1 := nTx_len (M := M) (n := nm j) (k := k)
    obtain ⟨H2, C2, cap2, l9', q2, t1, t2⟩ := k317b (z := z) hw1 (strs_on hst hs s2) (dgI_on hd hs s2) (d := d) (j := j) (k := k) (by omega) hk (by rw [List.length_append]; omega) s1 (l9 := l9)
    have hw2 := wcP_on hw1 t2
    have n2 := zTx_len (n := 0) (M := M) (nm := nm) (d := d) (j := j) (k := k) hw.1.2.2.2 (hw.2.2.2.2.2.2 j (by omega)).2.2.2 (by omega)
    obtain ⟨H', C', cap', q3, u1, u2⟩ := ih (j + 1) (if lsB M nm d j = true then 0 else k + 1) (by omega) (by split <;> omega) ((l ++ nTx M (nm j) k) ++ zTx M nm d j k) H2 C2 cap2 (some (.int (wI (nm j)))) l9' hw2 (strs_on (strs_on hst hs s2) s1 t2) (dgI_on (dgI_on hd hs s2) s1 t2) (by rw [List.length_append, List.length_append]; omega) t1
    refine ⟨H', C', cap', ?_, ?_, sbOn_tr s2 (sbOn_tr t2 u2)⟩
    · rw [← q3, ← q2, ← q1, e317_13]
      simp (disch := omega) only [e317_15, e317_17, ↓reduceIte, Bool.false_eq_true, not_false_eq_true, not_true_eq_false, Nat.reduceLeDiff, Nat.reduceAdd, Nat.reduceEqDiff, Int.reduceToNat, Int.toNat_natCast, iB0, iB1, ru_klI, ru_klR, ru_klF, ru_klJ, ru_kl0, ru_cs0, ru_csI, ru_csR, ru_csF, ru_csJ, wI_add, wI_sub, wI_mul, wI_lt, wI_le, wI_inj, ru_fdE, ru_fdN, ru_iaN, ru_baN, ru_laN, ru_qaN, ru_pfN, ru_isN, ru_bsN, ru_jsN, ru_qsN, ru_set2, Nat.add_right_cancel_iff, if_true, if_false, ite_self, Int.reduceEq, and_self, Int.add_neg_cancel_right, Int.add_zero, Int.zero_add, c]
    · rw [List.append_assoc, List.append_assoc] at u1
      exact u1
theorem k317 (hw : wcP C M N A b r len nm) (hst : strs H) (hd : dgI H) (hl : l.length + 24 * len ≤ 500) (hs : sbS H C l cap) : ∃ H' C' cap', ru_ev z 317 [.ref 1257, .ref 1070, .int (wI r), .ref b, .ref (A + 1)] (clPut H C) = some (.inl none, clPut H' C') ∧ sbS H' C' (l ++ cRw M nm len 0 0) cap' ∧ sbOn H H' C C' cap cap' := by
  obtain ⟨r1, r2, r3⟩ := wc_rd (z := z) (H := H) hw
  obtain ⟨H', C', cap', q, s1, s2⟩ := k317l (z := z) (M := M) (N := N) (A := A) (b := b) (r := r) (len := len) (nm := nm) len 0 0 (by omega) (Nat.le_refl _) l H C cap none none hw hst hd hl hs
  refine ⟨H', C', cap', ?_, s1, s2⟩
  rw [show ((0 : Nat) : Int) = 0 from rfl] at q
  simp (disch := omega) only [e317_0, e317_1, e317_2, e317_5, e317_7, e317_8, e317_10, e317_11, en317, ↓reduceIte, Bool.false_eq_true, not_false_eq_true, not_true_eq_false, Nat.reduceLeDiff, Nat.reduceAdd, Nat.reduceEqDiff, Int.reduceToNat, Int.toNat_natCast, iB0, iB1, ru_klI, ru_klR, ru_klF, ru_klJ, ru_kl0, ru_cs0, ru_csI, ru_csR, ru_csF, ru_csJ, wI_add, wI_sub, wI_mul, wI_lt, wI_le, wI_inj, ru_fdE, ru_fdN, ru_iaN, ru_baN, ru_laN, ru_qaN, ru_pfN, ru_isN, ru_bsN, ru_jsN, ru_qsN, ru_set2, Nat.add_right_cancel_iff, if_true, if_false, ite_self, Int.reduceEq, and_self, Int.add_neg_cancel_right, Int.add_zero, Int.zero_add, cl_g7, r1]
  exact q
end ROWW
