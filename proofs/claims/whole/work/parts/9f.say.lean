/-! ===== the reference writes ===== -/
theorem k31 {z : Bool} {X : am_H} {S V : Nat} {t : List Nat} (h : X.1 S = some (.inr (50, [.ref V, .int (wI 0)]))) {f : Nat → Int32} (h2 : X.1 V = some (.inl (11, t.length, .inl f))) (h3 : ∀ j, j < t.length → f j = wI ((t.getD j 0 : Nat) : Int)) (ht : t.length ≤ 100) (hb : ∀ j, j < t.length → t.getD j 0 ≤ 127) {i : Nat} (hi : i < t.length) : ru_ev z 31 [.ref S, .int (wI i)] X = some (.inl (some (.int (wI ((t.getD i 0 : Nat) : Int)))), X) := by
  have f0 : am_fd X S 50 0 = some (.ref V) := ru_fd h rfl
  have f1 : am_fd X S 50 1 = some (.int (wI 0)) := ru_fd h rfl
  have al : am_al X V = some (wI (t.length : Nat)) := ru_al h2 (by decide)
  have n0 : am_nb (wI 0) = wI 0 := by decide +kernel
  have a1 : wI 1 &&& 1 = wI 1 := by decide +kernel
  have d0 : ((1 : Int) = 0) = False := eq_false (by decide)
  have kc := k34 (z := z) (X := X) (i := (i : Int)) (n := ((t.length : Nat) : Int)) (by omega) (by omega) (by omega)
  have rd := ru_ba (z := (i : Int)) h2 (Or.inr (Or.inr rfl)) (by omega) (by omega) (by omega)
  rw [Int.toNat_natCast, h3 i hi] at rd
  have hbi := hb i hi
  obtain ⟨c1, c2⟩ := am_ch (v := ((t.getD i 0 : Nat) : Int)) (by omega) (by omega)
  have e33 : ru_ev z 33 [.ref V, .int (wI i)] X = some (.inl (some (.int (wI ((t.getD i 0 : Nat) : Int)))), X) := by
    simp (disch := omega) only [en33, e33_0, e33_1, e33_2, e33_3, e33_6, e33_7, e33_8, e33_9, e33_12, e33_13, e33_14, ↓reduceIte, Bool.false_eq_true, not_false_eq_true, not_true_eq_false, Nat.reduceLeDiff, Nat.reduceAdd, Nat.reduceEqDiff, Int.reduceToNat, Int.toNat_natCast, iB0, iB1, ru_klI, ru_klR, ru_klF, ru_klJ, ru_kl0, ru_cs0, ru_csI, ru_csR, ru_csF, ru_csJ, wI_add, wI_sub, wI_mul, wI_lt, wI_le, wI_inj, ru_fdE, ru_fdN, ru_iaN, ru_baN, ru_laN, ru_qaN, ru_pfN, ru_isN, ru_bsN, ru_jsN, ru_qsN, ru_set2, Nat.add_right_cancel_iff, if_true, if_false, ite_self, Int.reduceEq, and_self, Int.add_neg_cancel_right, Int.add_zero, Int.zero_add, al, kc, rd, c1, c2]
  have e32 : ru_ev z 32 [.ref S] X = some (.inl (some (.int (wI 1))), X) := by
    simp (disch := omega) only [en32, e32_0, e32_3, e32_6, e32_7, e32_10, e32_13, e32_14, e32_18, ↓reduceIte, Bool.false_eq_true, not_false_eq_true, not_true_eq_false, Nat.reduceLeDiff, Nat.reduceAdd, Nat.reduceEqDiff, Int.reduceToNat, Int.toNat_natCast, iB0, iB1, ru_klI, ru_klR, ru_klF, ru_klJ, ru_kl0, ru_cs0, ru_csI, ru_csR, ru_csF, ru_csJ, wI_add, wI_sub, wI_mul, wI_lt, wI_le, wI_inj, ru_fdE, ru_fdN, ru_iaN, ru_baN, ru_laN, ru_qaN, ru_pfN, ru_isN, ru_bsN, ru_jsN, ru_qsN, ru_set2, Nat.add_right_cancel_iff, if_true, if_false, ite_self, Int.reduceEq, and_self, Int.add_neg_cancel_right, Int.add_zero, Int.zero_add, h, f1, n0, a1, d0]
  simp (disch := omega) only [en31, e31_0, e31_1, e31_4, e31_7, e31_8, e31_11, e31_12, e31_15, ↓reduceIte, Bool.false_eq_true, not_false_eq_true, not_true_eq_false, Nat.reduceLeDiff, Nat.reduceAdd, Nat.reduceEqDiff, Int.reduceToNat, Int.toNat_natCast, iB0, iB1, ru_klI, ru_klR, ru_klF, ru_klJ, ru_kl0, ru_cs0, ru_csI, ru_csR, ru_csF, ru_csJ, wI_add, wI_sub, wI_mul, wI_lt, wI_le, wI_inj, ru_fdE, ru_fdN, ru_iaN, ru_baN, ru_laN, ru_qaN, ru_pfN, ru_isN, ru_bsN, ru_jsN, ru_qsN, ru_set2, Nat.add_right_cancel_iff, if_true, if_false, ite_self, Int.reduceEq, and_self, Int.add_neg_cancel_right, Int.add_zero, Int.zero_add, h, f0, e32, e33, d0, c2]
/-- the reference's written text is l; the rest as in M -/
def wrS (M N : tMd) (l : List Nat) : Prop := (∀ k, k ≠ 38 → N.1 k = M.1 k) ∧ (∀ c, c ≠ 15 → N.2 c = M.2 c) ∧ N.1 38 = (l.length : Int) ∧ ∀ i, i < l.length → N.2 15 i = ((l.getD i 0 : Nat) : Int)
def wdT (f : Nat → Int) : List Nat := (List.range (wln f)).map fun k => (f k).toNat
theorem wdT_len (f : Nat → Int) : (wdT f).length = wln f := by unfold wdT; rw [List.length_map, List.length_range]
section SAY
variable {z : Bool} {h : am_H} {M N : tMd} {l : List Nat}
theorem p328 (hw : wrS M N l) (hl : l.length < 1000) {c : Nat} (hc : c ≤ 127) : ∃ N', ru_ev z 328 [.ref 1315, .int (wI c)] (mdPut h N) = some (.inl none, mdPut h N') ∧ wrS M N' (l ++ [c]) := by
  obtain ⟨a1, a2, a3, a4⟩ := hw
  refine ⟨(up1 N.1 38 ((l.length : Int) + 1), up2 N.2 15 l.length (c : Int)), ?_, fun k hk => by rw [← a1 k hk]; exact up1_n hk, fun q hq => ?_, ?_, fun i hi => ?_⟩
  · have g := md_f38 (h := h) (M := N)
    rw [a3] at g
    have w := md_w15 (h := h) (M := N) (i := (l.length : Int)) (v := (c : Int)) (by omega) (by omega)
    rw [Int.toNat_natCast] at w
    have g2 := md_f38 (h := h) (M := (N.1, up2 N.2 15 l.length (c : Int)))
    have g2 : am_fd (mdPut h (N.1, up2 N.2 15 l.length (c : Int))) 1315 10 38 = some (.int (wI (l.length : Nat))) := by rw [g2]; show some (Value.int (wI (N.1 38))) = _; rw [a3]
    have s2 := md_s38 (h := h) (M := (N.1, up2 N.2 15 l.length (c : Int))) (v := (l.length : Int) + 1)
    simp (disch := omega) only [en328, e328_0, e328_1, e328_4, e328_5, e328_8, e328_9, e328_10, e328_11, e328_12, e328_15, e328_16, e328_17, e328_20, ↓reduceIte, Bool.false_eq_true, not_false_eq_true, not_true_eq_false, Nat.reduceLeDiff, Nat.reduceAdd, Nat.reduceEqDiff, Int.reduceToNat, Int.toNat_natCast, iB0, iB1, ru_klI, ru_klR, ru_klF, ru_klJ, ru_kl0, ru_cs0, ru_csI, ru_csR, ru_csF, ru_csJ, wI_add, wI_sub, wI_mul, wI_lt, wI_le, wI_inj, ru_fdE, ru_fdN, ru_iaN, ru_baN, ru_laN, ru_qaN, ru_pfN, ru_isN, ru_bsN, ru_jsN, ru_qsN, ru_set2, Nat.add_right_cancel_iff, if_true, if_false, ite_self, Int.reduceEq, and_self, Int.add_neg_cancel_right, Int.add_zero, Int.zero_add, md_e, md_f37, g, w, g2, s2, ru_ctR]
  · show up2 N.2 15 l.length (c : Int) q = M.2 q
    rw [up2_C, upC_n hq]; exact a2 q hq
  · show up1 N.1 38 ((l.length : Int) + 1) 38 = _
    rw [up1_e, List.length_append]; rfl
  · show up2 N.2 15 l.length (c : Int) 15 i = _
    rw [up2_C, upC_e, getD_app]
    unfold up1
    by_cases ei : i = l.length
    · rw [if_pos ei, if_neg (by omega), ei, Nat.sub_self]; rfl
    · rw [List.length_append] at hi
      have hi : i < l.length + 1 := hi
      rw [if_neg ei, if_pos (by omega), a4 i (by omega)]
theorem stAt_md {S V : Nat} {t : List Nat} (hs : stAt h S V t) : (mdPut h N).1 S = some (.inr (50, [.ref V, .int (wI 0)])) ∧ ∃ f, (mdPut h N).1 V = some (.inl (11, t.length, .inl f)) ∧ ∀ j, j < t.length → f j = wI ((t.getD j 0 : Nat) : Int) := by
  obtain ⟨a1, ⟨f, a2, a3⟩, a4, a5⟩ := hs
  exact ⟨by rw [mdPut_o (by omega)]; exact a1, f, by rw [mdPut_o (by omega)]; exact a2, a3⟩
theorem p327l {S V : Nat} {t : List Nat} (hs : stAt h S V t) (ht : t.length ≤ 100) (hb : ∀ j, j < t.length → t.getD j 0 ≤ 127) (hl : l.length + t.length ≤ 1000) : ∀ d i : Nat, i + d = t.length → ∀ N, wrS M N (l ++ t.take i) → ∃ N', ru_n z 327 2 [some (.ref 1315), some (.ref S), some (.int (wI i))] [] (mdPut h N) = some (.inl none, mdPut h N') ∧ wrS M N' (l ++ t) := by
  intro d
  induction d with
  | zero =>
    intro i hi N hw
    obtain rfl : i = t.length := by omega
    obtain ⟨s1, f, s2, s3⟩ := stAt_md (N := N) hs
    have kl := k29 (z := z) s1 s2 ht
    rw [List.take_length] at hw
    refine ⟨N, ?_, hw⟩
    simp (disch := omega) only [e327_2, e327_3, e327_4, e327_7, e327_10, e327_11, e327_12, e327_13, e327_16, e327_19, e327_22, e327_25, ↓reduceIte, Bool.false_eq_true, not_false_eq_true, not_true_eq_false, Nat.reduceLeDiff, Nat.reduceAdd, Nat.reduceEqDiff, Int.reduceToNat, Int.toNat_natCast, iB0, iB1, ru_klI, ru_klR, ru_klF, ru_klJ, ru_kl0, ru_cs0, ru_csI, ru_csR, ru_csF, ru_csJ, wI_add, wI_sub, wI_mul, wI_lt, wI_le, wI_inj, ru_fdE, ru_fdN, ru_iaN, ru_baN, ru_laN, ru_qaN, ru_pfN, ru_isN, ru_bsN, ru_jsN, ru_qsN, ru_set2, Nat.add_right_cancel_iff, if_true, if_false, ite_self, Int.reduceEq, and_self, Int.add_neg_cancel_right, Int.add_zero, Int.zero_add, kl, Int.le_refl]
  | succ d ih =>
    intro i hi N hw
    obtain ⟨s1, f, s2, s3⟩ := stAt_md (N := N) hs
    have kl := k29 (z := z) s1 s2 ht
    have kc := k31 (z := z) s1 s2 s3 ht hb (i := i) (by omega)
    have c : ((t.length : Int) ≤ (i : Int)) = False := eq_false (by omega)
    have hlen : (l ++ t.take i).length = l.length + i := by rw [List.length_append, List.length_take, Nat.min_eq_left (by omega)]
    obtain ⟨N1, r1, w1⟩ := p328 (z := z) (h := h) hw (by omega) (c := t.getD i 0) (hb i (by omega))
    have e1 : (l ++ t.take i) ++ [t.getD i 0] = l ++ t.take (i + 1) := by
      rw [List.append_assoc, List.take_add_one, List.getD_eq_getElem?_getD]
      have : t[i]? = some t[i] := List.getElem?_eq_getElem (by omega)
      rw [this]; rfl
    rw [e1] at w1
    obtain ⟨N', r2, w2⟩ := ih (i + 1) (by omega) N1 w1
    refine ⟨N', ?_, w2⟩
    rw [← r2, e327_2]
    simp (disch := omega) only [e327_3, e327_4, e327_7, e327_10, e327_11, e327_12, e327_13, e327_16, e327_19, e327_22, ↓reduceIte, Bool.false_eq_true, not_false_eq_true, not_true_eq_false, Nat.reduceLeDiff, Nat.reduceAdd, Nat.reduceEqDiff, Int.reduceToNat, Int.toNat_natCast, iB0, iB1, ru_klI, ru_klR, ru_klF, ru_klJ, ru_kl0, ru_cs0, ru_csI, ru_csR, ru_csF, ru_csJ, wI_add, wI_sub, wI_mul, wI_lt, wI_le, wI_inj, ru_fdE, ru_fdN, ru_iaN, ru_baN, ru_laN, ru_qaN, ru_pfN, ru_isN, ru_bsN, ru_jsN, ru_qsN, ru_set2, Nat.add_right_cancel_iff, if_true, if_false, ite_self, Int.reduceEq, and_self, Int.add_neg_cancel_right, Int.add_zero, Int.zero_add, kl, kc, c, r1, Int.natCast_add, Int.natCast_one]
theorem p327 {S V : Nat} {t : List Nat} (hs : stAt h S V t) (ht : t.length ≤ 100) (hb : ∀ j, j < t.length → t.getD j 0 ≤ 127) (hl : l.length + t.length ≤ 1000) (hw : wrS M N l) : ∃ N', ru_ev z 327 [.ref 1315, .ref S] (mdPut h N) = some (.inl none, mdPut h N') ∧ wrS M N' (l ++ t) := by
  obtain ⟨N', r, w⟩ := p327l (z := z) (h := h) hs ht hb hl t.length 0 (by omega) N (by rw [List.take_zero, List.append_nil]; exact hw)
  refine ⟨N', ?_, w⟩
  rw [show ((0 : Nat) : Int) = 0 from rfl] at r
  simp (disch := omega) only [e327_0, e327_1, en327, ↓reduceIte, Bool.false_eq_true, not_false_eq_true, not_true_eq_false, Nat.reduceLeDiff, Nat.reduceAdd, Nat.reduceEqDiff, Int.reduceToNat, Int.toNat_natCast, iB0, iB1, ru_klI, ru_klR, ru_klF, ru_klJ, ru_kl0, ru_cs0, ru_csI, ru_csR, ru_csF, ru_csJ, wI_add, wI_sub, wI_mul, wI_lt, wI_le, wI_inj, ru_fdE, ru_fdN, ru_iaN, ru_baN, ru_laN, ru_qaN, ru_pfN, ru_isN, ru_bsN, ru_jsN, ru_qsN, ru_set2, Nat.add_right_cancel_iff, if_true, if_false, ite_self, Int.reduceEq, and_self, Int.add_neg_cancel_right, Int.add_zero, Int.zero_add, md_e, r]
theorem p329 (hw : wrS M N l) {v : Nat} (hv : v ≤ 99) (hl : l.length + 2 ≤ 1000) : ∃ N', ru_ev z 329 [.ref 1315, .int (wI v)] (mdPut h N) = some (.inl none, mdPut h N') ∧ wrS M N' (l ++ numT v) := by
  unfold numT
  by_cases c : v < 10
  · rw [if_pos c]
    obtain ⟨N', r, w⟩ := p328 (z := z) (h := h) hw (by omega) (c := 48 + v) (by omega)
    refine ⟨N', ?_, w⟩
    have d1 : ((v : Int) ≤ 9) = True := eq_true (by omega)
    rw [show ((48 + v : Nat) : Int) = 48 + (v : Int) % 10 by omega] at r
    simp (disch := omega) only [en329, e329_0, e329_1, e329_3, e329_6, e329_7, e329_8, e329_10, e329_11, e329_14, e329_15, e329_17, e329_18, e329_20, e329_21, e329_22, e329_25, ↓reduceIte, Bool.false_eq_true, not_false_eq_true, not_true_eq_false, Nat.reduceLeDiff, Nat.reduceAdd, Nat.reduceEqDiff, Int.reduceToNat, Int.toNat_natCast, iB0, iB1, ru_klI, ru_klR, ru_klF, ru_klJ, ru_kl0, ru_cs0, ru_csI, ru_csR, ru_csF, ru_csJ, wI_add, wI_sub, wI_mul, wI_lt, wI_le, wI_inj, ru_fdE, ru_fdN, ru_iaN, ru_baN, ru_laN, ru_qaN, ru_pfN, ru_isN, ru_bsN, ru_jsN, ru_qsN, ru_set2, Nat.add_right_cancel_iff, if_true, if_false, ite_self, Int.reduceEq, and_self, Int.add_neg_cancel_right, Int.add_zero, Int.zero_add, md_e, d1, wI_rem, wI_ne0, r]
  · rw [if_neg c]
    obtain ⟨N1, r1, w1⟩ := p328 (z := z) (h := h) hw (by omega) (c := 48 + v / 10) (by omega)
    obtain ⟨N2, r2, w2⟩ := p328 (z := z) (h := h) w1 (by rw [List.length_append]; show l.length + 1 < 1000; omega) (c := 48 + v % 10) (by omega)
    rw [List.append_assoc] at w2
    refine ⟨N2, ?_, w2⟩
    have d1 : ((v : Int) ≤ 9) = False := eq_false (by omega)
    have d2 : ((v : Int) / 10 ≤ 9) = True := eq_true (by omega)
    rw [show ((48 + v / 10 : Nat) : Int) = 48 + (v : Int) / 10 % 10 by omega] at r1
    rw [show ((48 + v % 10 : Nat) : Int) = 48 + ((v : Int) - (v : Int) / 10 * 10) by omega] at r2
    have e330 : ru_ev z 330 [.ref 1315, .int (wI ((v : Int) / 10))] (mdPut h N) = some (.inl none, mdPut h N1) := by
      simp (disch := omega) only [en330, e330_0, e330_1, e330_3, e330_6, e330_7, e330_8, e330_10, e330_14, e330_15, e330_17, e330_18, e330_20, e330_21, e330_22, e330_25, ↓reduceIte, Bool.false_eq_true, not_false_eq_true, not_true_eq_false, Nat.reduceLeDiff, Nat.reduceAdd, Nat.reduceEqDiff, Int.reduceToNat, Int.toNat_natCast, iB0, iB1, ru_klI, ru_klR, ru_klF, ru_klJ, ru_kl0, ru_cs0, ru_csI, ru_csR, ru_csF, ru_csJ, wI_add, wI_sub, wI_mul, wI_lt, wI_le, wI_inj, ru_fdE, ru_fdN, ru_iaN, ru_baN, ru_laN, ru_qaN, ru_pfN, ru_isN, ru_bsN, ru_jsN, ru_qsN, ru_set2, Nat.add_right_cancel_iff, if_true, if_false, ite_self, Int.reduceEq, and_self, Int.add_neg_cancel_right, Int.add_zero, Int.zero_add, md_e, d2, wI_rem, wI_ne0, r1]
    simp (disch := omega) only [en329, e329_0, e329_1, e329_3, e329_6, e329_7, e329_8, e329_10, e329_11, e329_14, e329_15, e329_17, e329_18, e329_20, e329_21, e329_22, e329_25, ↓reduceIte, Bool.false_eq_true, not_false_eq_true, not_true_eq_false, Nat.reduceLeDiff, Nat.reduceAdd, Nat.reduceEqDiff, Int.reduceToNat, Int.toNat_natCast, iB0, iB1, ru_klI, ru_klR, ru_klF, ru_klJ, ru_kl0, ru_cs0, ru_csI, ru_csR, ru_csF, ru_csJ, wI_add, wI_sub, wI_mul, wI_lt, wI_le, wI_inj, ru_fdE, ru_fdN, ru_iaN, ru_baN, ru_laN, ru_qaN, ru_pfN, ru_isN, ru_bsN, ru_jsN, ru_qsN, ru_set2, Nat.add_right_cancel_iff, if_true, if_false, ite_self, Int.reduceEq, and_self, Int.add_neg_cancel_right, Int.add_zero, Int.zero_add, md_e, d1, wI_div, wI_ne0, e330, r2]
theorem p334l {a : Nat} (ha : a + 8 ≤ 320) (hf : wdR (wF M 5 a)) (hl : l.length + 8 ≤ 1000) : ∀ d i : Nat, i + d = wln (wF M 5 a) → ∀ N, wrS M N (l ++ (wdT (wF M 5 a)).take i) → ∃ N', ru_n z 334 2 [some (.ref 1315), some (.int (wI a)), some (.int (wI i))] [] (mdPut h N) = some (.inl none, mdPut h N') ∧ wrS M N' (l ++ wdT (wF M 5 a)) := by
  have h8 := wln_8 (wF M 5 a)
  have hwl := wdT_len (wF M 5 a)
  intro d
  induction d with
  | zero =>
    intro i hi N hw
    obtain rfl : i = wln (wF M 5 a) := by omega
    have hN : wF N 5 a = wF M 5 a := by unfold wF; rw [hw.2.1 5 (by decide)]
    have kl := p219 (z := z) (h := h) (M := N) ha (by rw [hN]; exact hf)
    rw [hN] at kl
    rw [List.take_of_length_le (by omega)] at hw
    refine ⟨N, ?_, hw⟩
    simp (disch := omega) only [e334_2, e334_3, e334_4, e334_5, e334_8, e334_11, e334_12, e334_13, e334_16, e334_17, e334_18, e334_19, e334_20, e334_23, e334_26, e334_29, ↓reduceIte, Bool.false_eq_true, not_false_eq_true, not_true_eq_false, Nat.reduceLeDiff, Nat.reduceAdd, Nat.reduceEqDiff, Int.reduceToNat, Int.toNat_natCast, iB0, iB1, ru_klI, ru_klR, ru_klF, ru_klJ, ru_kl0, ru_cs0, ru_csI, ru_csR, ru_csF, ru_csJ, wI_add, wI_sub, wI_mul, wI_lt, wI_le, wI_inj, ru_fdE, ru_fdN, ru_iaN, ru_baN, ru_laN, ru_qaN, ru_pfN, ru_isN, ru_bsN, ru_jsN, ru_qsN, ru_set2, Nat.add_right_cancel_iff, if_true, if_false, ite_self, Int.reduceEq, and_self, Int.add_neg_cancel_right, Int.add_zero, Int.zero_add, kl, Int.le_refl]
  | succ d ih =>
    intro i hi N hw
    have hN : wF N 5 a = wF M 5 a := by unfold wF; rw [hw.2.1 5 (by decide)]
    have kl := p219 (z := z) (h := h) (M := N) ha (by rw [hN]; exact hf)
    rw [hN] at kl
    have c : ((wln (wF M 5 a) : Int) ≤ (i : Int)) = False := eq_false (by omega)
    have hlen : (l ++ (wdT (wF M 5 a)).take i).length = l.length + i := by rw [List.length_append, List.length_take, Nat.min_eq_left (by omega)]
    have e5 := md_a5 (h := h) (M := N) (i := (a : Int) + (i : Int)) (by omega) (by omega)
    rw [show ((a : Int) + (i : Int)).toNat = a + i by omega, hw.2.1 5 (by decide)] at e5
    have e5 : am_ia (mdPut h N) 1321 (wI ((a : Int) + (i : Int))) = some (wI (wF M 5 a i)) := e5
    have hlt := hf.1 i (by omega)
    have egd : (wdT (wF M 5 a)).getD i 0 = (wF M 5 a i).toNat := by
      unfold wdT
      rw [List.getD_eq_getElem?_getD, List.getElem?_map, List.getElem?_range (by omega)]; rfl
    obtain ⟨N1, r1, w1⟩ := p328 (z := z) (h := h) hw (by omega) (c := (wF M 5 a i).toNat) (by omega)
    have e1 : (l ++ (wdT (wF M 5 a)).take i) ++ [(wF M 5 a i).toNat] = l ++ (wdT (wF M 5 a)).take (i + 1) := by
      rw [List.append_assoc, List.take_add_one, ← egd, List.getD_eq_getElem?_getD]
      have : (wdT (wF M 5 a))[i]? = some (wdT (wF M 5 a))[i] := List.getElem?_eq_getElem (by omega)
      rw [this]; rfl
    rw [e1] at w1
    obtain ⟨N', r2, w2⟩ := ih (i + 1) (by omega) N1 w1
    refine ⟨N', ?_, w2⟩
    have hne : ¬ wF M 5 a i = 0 ∨ wF M 5 a i = 0 := by omega
    have r1 : ru_ev z 328 [.ref 1315, .int (wI (wF M 5 a i))] (mdPut h N) = some (.inl none, mdPut h N1) := by
      rw [show ((wF M 5 a i).toNat : Int) = wF M 5 a i by omega] at r1; exact r1
    rw [← r2, e334_2]
    simp (disch := omega) only [e334_3, e334_4, e334_5, e334_8, e334_11, e334_12, e334_13, e334_16, e334_17, e334_18, e334_19, e334_20, e334_23, e334_26, ↓reduceIte, Bool.false_eq_true, not_false_eq_true, not_true_eq_false, Nat.reduceLeDiff, Nat.reduceAdd, Nat.reduceEqDiff, Int.reduceToNat, Int.toNat_natCast, iB0, iB1, ru_klI, ru_klR, ru_klF, ru_klJ, ru_kl0, ru_cs0, ru_csI, ru_csR, ru_csF, ru_csJ, wI_add, wI_sub, wI_mul, wI_lt, wI_le, wI_inj, ru_fdE, ru_fdN, ru_iaN, ru_baN, ru_laN, ru_qaN, ru_pfN, ru_isN, ru_bsN, ru_jsN, ru_qsN, ru_set2, Nat.add_right_cancel_iff, if_true, if_false, ite_self, Int.reduceEq, and_self, Int.add_neg_cancel_right, Int.add_zero, Int.zero_add, md_e, md_f19, kl, e5, c, r1, Int.natCast_add, Int.natCast_one]
theorem p334 {a : Nat} (ha : a + 8 ≤ 320) (hf : wdR (wF M 5 a)) (hl : l.length + 8 ≤ 1000) (hw : wrS M N l) : ∃ N', ru_ev z 334 [.ref 1315, .int (wI a)] (mdPut h N) = some (.inl none, mdPut h N') ∧ wrS M N' (l ++ wdT (wF M 5 a)) := by
  obtain ⟨N', r, w⟩ := p334l (z := z) (h := h) ha hf hl (wln (wF M 5 a)) 0 (by omega) N (by rw [List.take_zero, List.append_nil]; exact hw)
  refine ⟨N', ?_, w⟩
  rw [show ((0 : Nat) : Int) = 0 from rfl] at r
  simp (disch := omega) only [e334_0, e334_1, en334, ↓reduceIte, Bool.false_eq_true, not_false_eq_true, not_true_eq_false, Nat.reduceLeDiff, Nat.reduceAdd, Nat.reduceEqDiff, Int.reduceToNat, Int.toNat_natCast, iB0, iB1, ru_klI, ru_klR, ru_klF, ru_klJ, ru_kl0, ru_cs0, ru_csI, ru_csR, ru_csF, ru_csJ, wI_add, wI_sub, wI_mul, wI_lt, wI_le, wI_inj, ru_fdE, ru_fdN, ru_iaN, ru_baN, ru_laN, ru_qaN, ru_pfN, ru_isN, ru_bsN, ru_jsN, ru_qsN, ru_set2, Nat.add_right_cancel_iff, if_true, if_false, ite_self, Int.reduceEq, and_self, Int.add_neg_cancel_right, Int.add_zero, Int.zero_add, md_e, r]
end SAY
