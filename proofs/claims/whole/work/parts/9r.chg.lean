/-! ===== writeChange: the texts, and the class ===== -/
def difN (a b : Nat) : Nat := a ^^^ (a &&& b)
theorem difN_bit (a b i : Nat) : (difN a b).testBit i = (a.testBit i && !b.testBit i) := by
  unfold difN
  rw [Nat.testBit_xor, Nat.testBit_and]
  cases a.testBit i <;> cases b.testBit i <;> rfl
theorem difN_lt {a b : Nat} (h : a < 1048576) : difN a b < 1048576 := by
  have h1 : a < 2 ^ 20 := h
  have h2 : a &&& b < 2 ^ 20 := Nat.lt_of_le_of_lt Nat.and_le_left h1
  exact Nat.xor_lt_two_pow h1 h2
theorem wI_dif {a b : Nat} (ha : a < 1048576) (hb : b < 1048576) : wI a &&& (wI b ^^^ wI (-1)) = wI ((difN a b : Nat) : Int) := by
  have hd := difN_lt (b := b) ha
  apply Int32.toBitVec_inj.mp
  rw [Int32.toBitVec_and, Int32.toBitVec_xor]
  simp only [wI, Int32.toBitVec_ofInt]
  rw [BitVec.ofInt_natCast, BitVec.ofInt_natCast, BitVec.ofInt_natCast]
  apply BitVec.eq_of_getLsbD_eq
  intro i hi
  have em : (BitVec.ofInt 32 (-1)).getLsbD i = true := by
    have : BitVec.ofInt 32 (-1) = BitVec.allOnes 32 := by decide
    rw [this, BitVec.getLsbD_allOnes]
    exact decide_eq_true hi
  rw [BitVec.getLsbD_and, BitVec.getLsbD_xor, em]
  simp only [BitVec.getLsbD_ofNat, hi, decide_true, Bool.true_and]
  rw [difN_bit]
  cases a.testBit i <;> cases b.testBit i <;> rfl
/-- names of a set, told after each other -/
def nmT (M : tMd) (w : Nat) : Nat → Nat → Bool → List Nat
  | 0, _, _ => []
  | d + 1, i, b => if w.testBit i = true then (if b = true then sbT 49 else []) ++ (wdT (wf M i) ++ ([32] ++ (wdT (wl M i) ++ nmT M w d (i + 1) true))) else nmT M w d (i + 1) b
theorem nmT_len {M : tMd} {v w : Nat} (hd : ∀ i, v.testBit i = true → w.testBit i = false) : ∀ d i b c, (nmT M v d i b).length + (nmT M w d i c).length ≤ 19 * d
  | 0, _, _, _ => Nat.le_refl _
  | d + 1, i, b, c => by
    have l49 : (sbT 49).length = 2 := by decide
    have l1 : ([32] : List Nat).length = 1 := rfl
    have w1 := wdT_len (wf M i)
    have w2 := wdT_len (wl M i)
    have w3 := wln_8 (wf M i)
    have w4 := wln_8 (wl M i)
    show (if v.testBit i = true then (if b = true then sbT 49 else []) ++ (wdT (wf M i) ++ ([32] ++ (wdT (wl M i) ++ nmT M v d (i + 1) true))) else nmT M v d (i + 1) b).length + (if w.testBit i = true then (if c = true then sbT 49 else []) ++ (wdT (wf M i) ++ ([32] ++ (wdT (wl M i) ++ nmT M w d (i + 1) true))) else nmT M w d (i + 1) c).length ≤ _
    have lb : ∀ b : Bool, (if b = true then sbT 49 else []).length ≤ 2 := fun b => by cases b <;> simp [l49]
    by_cases e : v.testBit i = true
    · have e2 := hd i e
      have e3 : ¬ w.testBit i = true := by rw [e2]; decide
      rw [if_pos e, if_neg e3]
      have ih := nmT_len (M := M) hd d (i + 1) true c
      have := lb b
      simp only [List.length_append]
      omega
    · rw [if_neg e]
      by_cases e2 : w.testBit i = true
      · rw [if_pos e2]
        have ih := nmT_len (M := M) hd d (i + 1) b true
        have := lb c
        simp only [List.length_append]
        omega
      · rw [if_neg e2]
        have ih := nmT_len (M := M) hd d (i + 1) b c
        omega
theorem nmT_l {M : tMd} {w : Nat} (d i : Nat) (b : Bool) : (nmT M w d i b).length ≤ 19 * d := by
  have h := nmT_len (M := M) (v := w) (w := 0) (fun i _ => Nat.zero_testBit i) d i b b
  omega
theorem txB_nm {M : tMd} {N w : Nat} (h4 : nmW M N) : ∀ d i b, i + d = N → txB (nmT M w d i b)
  | 0, _, _, _ => txB_nil
  | d + 1, i, b, hi => by
    show txB (if w.testBit i = true then (if b = true then sbT 49 else []) ++ (wdT (wf M i) ++ ([32] ++ (wdT (wl M i) ++ nmT M w d (i + 1) true))) else nmT M w d (i + 1) b)
    split
    · refine txB_app ?_ (txB_app (txB_w (h4 i (by omega)).1.1) (txB_app (fun c hc => by have := List.mem_singleton.mp hc; omega) (txB_app (txB_w (h4 i (by omega)).2.1.1) (txB_nm h4 d (i + 1) true (by omega)))))
      split
      · exact txB_s (by decide)
      · exact txB_nil
    · exact txB_nm h4 d (i + 1) b (by omega)
def chT (M : tMd) (N A B : Nat) : List Nat := (if A = 0 ∧ B = 0 then sbT 51 else []) ++ ((if A = 0 then [] else sbT 52 ++ nmT M A N 0 false) ++ (if B = 0 then [] else (if A = 0 then sbT 54 else sbT 53) ++ nmT M B N 0 false))
theorem chT_len {M : tMd} {N A B : Nat} (hd : ∀ i, A.testBit i = true → B.testBit i = false) (hN : N ≤ 20) (h4 : nmW M N) : (chT M N A B).length ≤ 410 ∧ txB (chT M N A B) := by
  have l51 : (sbT 51).length = 9 := by decide
  have l52 : (sbT 52).length = 5 := by decide
  have l53 : (sbT 53).length = 10 := by decide
  have l54 : (sbT 54).length = 8 := by decide
  have h := nmT_len (M := M) hd N 0 false false
  unfold chT
  refine ⟨?_, ?_⟩
  · by_cases a : A = 0
    · by_cases b : B = 0
      · rw [if_pos ⟨a, b⟩, if_pos a, if_pos b]; simp only [List.length_append, List.length_nil]; omega
      · rw [if_neg (fun h => b h.2), if_pos a, if_neg b, if_pos a]; simp only [List.length_append, List.length_nil]; omega
    · by_cases b : B = 0
      · rw [if_neg (fun h => a h.1), if_neg a, if_pos b]; simp only [List.length_append, List.length_nil]; omega
      · rw [if_neg (fun h => a h.1), if_neg a, if_neg b, if_neg a]; simp only [List.length_append, List.length_nil]; omega
  · refine txB_app ?_ (txB_app ?_ ?_)
    · split
      · exact txB_s (by decide)
      · exact txB_nil
    · split
      · exact txB_nil
      · exact txB_app (txB_s (by decide)) (txB_nm h4 N 0 false (by omega))
    · split
      · exact txB_nil
      · refine txB_app ?_ (txB_nm h4 N 0 false (by omega))
        split
        · exact txB_s (by decide)
        · exact txB_s (by decide)
section CHG
variable {z : Bool} {M : tMd} {N : Nat}
def wcM (C : tCl) (M : tMd) (N : Nat) : Prop := wcN C M N ∧ cNm C = (N : Int)
theorem wcM_on {H H' : am_H} {C C' : tCl} {cap cap' : Nat} (h : wcM C M N) (k : sbOn H H' C C' cap cap') : wcM C' M N := by
  refine ⟨wcN_on h.1 k, ?_⟩
  obtain ⟨-, k1, k2, k3, -, n2, n3, a1, a2⟩ := clA_k h.1.1
  rw [← h.2]
  unfold cNm
  rw [sbOn_alb k, k.2.2.2.2.2.1 _ (by omega)]
theorem k338l {w : Nat} (hw : w < 1048576) : ∀ d i : Nat, i + d = N → ∀ (b : Bool) (l : List Nat) (H : am_H) (C : tCl) (cap : Nat), wcM C M N → strs H → l.length + (nmT M w d i b).length ≤ 492 → sbS H C l cap → ∃ H' C' cap', ru_n z 338 5 [some (.ref 1257), some (.int (wI w)), some (.ref (alb C + 1)), some (.int (wI (if b = true then 1 else 0))), some (.int (wI i))] [] (clPut H C) = some (.inl none, clPut H' C') ∧ sbS H' C' (l ++ nmT M w d i b) cap' ∧ sbOn H H' C C' cap cap' := by
  intro d
  induction d with
  | zero =>
    intro i hi b l H C cap hm hst hl hs
    obtain rfl : i = N := by omega
    have hN := hm.1.2.1
    have hF := clF hm.1.1 (h := H)
    rw [hm.2] at hF
    refine ⟨H, C, cap, ?_, by rw [show nmT M w 0 i b = [] from rfl, List.append_nil]; exact hs, sbOn_refl _ _ _⟩
    simp (disch := omega) only [e338_5, e338_7, e338_8, e338_11, e338_83, ↓reduceIte, Bool.false_eq_true, not_false_eq_true, not_true_eq_false, Nat.reduceLeDiff, Nat.reduceAdd, Nat.reduceEqDiff, Int.reduceToNat, Int.toNat_natCast, iB0, iB1, ru_klI, ru_klR, ru_klF, ru_klJ, ru_kl0, ru_cs0, ru_csI, ru_csR, ru_csF, ru_csJ, wI_add, wI_sub, wI_mul, wI_lt, wI_le, wI_inj, ru_fdE, ru_fdN, ru_iaN, ru_baN, ru_laN, ru_qaN, ru_pfN, ru_isN, ru_bsN, ru_jsN, ru_qsN, ru_set2, Nat.add_right_cancel_iff, if_true, if_false, ite_self, Int.reduceEq, and_self, Int.add_neg_cancel_right, Int.add_zero, Int.zero_add, hF, Int.le_refl]
  | succ d ih =>
    intro i hi b l H C cap hm hst hl hs
    have hN := hm.1.2.1
    have hF := clF hm.1.1 (h := H)
    rw [hm.2] at hF
    have c : ((N : Int) ≤ (i : Int)) = False := eq_false (by omega)
    have hb := wI_bit (s := w) (k := (i : Int)) (by omega) (by omega) (by omega)
    rw [Int.toNat_natCast] at hb
    show ∃ H' C' cap', _ ∧ sbS H' C' (l ++ (if w.testBit i = true then (if b = true then sbT 49 else []) ++ (wdT (wf M i) ++ ([32] ++ (wdT (wl M i) ++ nmT M w d (i + 1) true))) else nmT M w d (i + 1) b)) cap' ∧ _
    have es : nmT M w (d + 1) i b = if w.testBit i = true then (if b = true then sbT 49 else []) ++ (wdT (wf M i) ++ ([32] ++ (wdT (wl M i) ++ nmT M w d (i + 1) true))) else nmT M w d (i + 1) b := rfl
    rw [es] at hl
    by_cases e : w.testBit i = true
    · rw [if_pos e]
      rw [if_pos e] at hl
      have d1 : (w.testBit i = true) = True := eq_true e
      have w1 := wdT_len (wf M i)
      have w2 := wdT_len (wl M i)
      have w3 := wln_8 (wf M i)
      have w4 := wln_8 (wl M i)
      have fin : ∀ (S : Nat) t, stAt H (300 + S) (400 + S) t → t.length ≤ 2 → t = (if b = true then sbT 49 else []) → ∃ H1 C1, ru_ev z 307 [.ref 1258, .ref (300 + S)] (clPut H C) = some (.inl (some (.ref 1258)), clPut H1 C1) ∧ alb C1 = alb C ∧ ((clPut H1 C1).1 (alb C + 1) = some (.inr (3, clL3 C1 (alb C + 1))) ∧ am_fd (clPut H1 C1) (alb C + 1) 3 1 = some (.ref (alb C + 1 + 1)) ∧ am_la (clPut H1 C1) (alb C + 1 + 1) (wI (i : Nat)) = some (wdL (wf M i))) ∧ ∃ H2 C2, ru_ev z 318 [.ref 1257, .long (wdL (wf M i))] (clPut H1 C1) = some (.inl none, clPut H2 C2) ∧ ∃ H3 C3, ru_ev z 319 [.ref 1258, .int (wI 32)] (clPut H2 C2) = some (.inl (some (.ref 1258)), clPut H3 C3) ∧ ((clPut H3 C3).1 (alb C + 1) = some (.inr (3, clL3 C3 (alb C + 1))) ∧ am_fd (clPut H3 C3) (alb C + 1) 3 2 = some (.ref (alb C + 1 + 2)) ∧ am_la (clPut H3 C3) (alb C + 1 + 2) (wI (i : Nat)) = some (wdL (wl M i))) ∧ ∃ H4 C4, ru_ev z 318 [.ref 1257, .long (wdL (wl M i))] (clPut H3 C3) = some (.inl none, clPut H4 C4) ∧ ∃ H' C' cap', ru_n z 338 5 [some (.ref 1257), some (.int (wI w)), some (.ref (alb C + 1)), some (.int (wI 1)), some (.int (wI ((i : Int) + 1)))] [] (clPut H4 C4) = some (.inl none, clPut H' C') ∧ sbS H' C' (l ++ (t ++ (wdT (wf M i) ++ ([32] ++ (wdT (wl M i) ++ nmT M w d (i + 1) true))))) cap' ∧ sbOn H H' C C' cap cap' := fun S t hS ht et => by
        rw [← et] at hl
        simp only [List.length_append, List.length_singleton] at hl
        obtain ⟨H1, C1, cap1, q1, s1, o1⟩ := k307 (z := z) hs hS (by omega) (by omega)
        have m1 := wcM_on hm o1
        obtain ⟨-, k1, k2, k3, -, n2, n3, a1, a2⟩ := clA_k m1.1.1
        have y1 := cl_l (h := H1) (C := C1) k2 (by omega) n2 (i := (i : Int)) (by omega) (by omega) (by omega)
        rw [Int.toNat_natCast, (m1.1.2.2.1 i (by omega)).1] at y1
        have f1 := (clF m1.1.1 (h := H1)).2.2.2.2.2.1
        have p1 : (clPut H1 C1).1 (alb C1 + 1) = some (.inr (3, clL3 C1 (alb C1 + 1))) := clP3 k1 (by omega)
        obtain ⟨H2, C2, cap2, q2, s2, o2⟩ := k318 (z := z) (hm.1.2.2.2 i (by omega)).1 (by rw [List.length_append]; omega) s1
        obtain ⟨H3, C3, cap3, q3, s3, o3⟩ := k319 (z := z) s2 (c := 32) (by omega) (by rw [List.length_append, List.length_append]; omega)
        have o13 := sbOn_tr (sbOn_tr o1 o2) o3
        have m3 := wcM_on hm o13
        obtain ⟨-, k1', k2', k3', -, n2', n3', a1', a2'⟩ := clA_k m3.1.1
        have y3 := cl_l (h := H3) (C := C3) k3' (by omega) n3' (i := (i : Int)) (by omega) (by omega) (by omega)
        rw [Int.toNat_natCast, (m3.1.2.2.1 i (by omega)).2] at y3
        have f3 := (clF m3.1.1 (h := H3)).2.2.2.2.2.2.1
        have p3 : (clPut H3 C3).1 (alb C3 + 1) = some (.inr (3, clL3 C3 (alb C3 + 1))) := clP3 k1' (by omega)
        obtain ⟨H4, C4, cap4, q4, s4, o4⟩ := k318 (z := z) (hm.1.2.2.2 i (by omega)).2.1 (by rw [List.length_append, List.length_append, List.length_append]; show l.length + t.length + (wdT (wf M i)).length + 1 + 8 ≤ 500; omega) s3
        have o14 := sbOn_tr o13 o4
        obtain ⟨H', C', cap', q5, s5, o5⟩ := ih (i + 1) (by omega) true _ H4 C4 cap4 (wcM_on hm o14) (strs_on hst hs o14) (by
          rw [List.length_append, List.length_append, List.length_append, List.length_append]
          show l.length + t.length + (wdT (wf M i)).length + 1 + (wdT (wl M i)).length + _ ≤ 492
          omega) s4
        rw [sbOn_alb o14] at q5
        rw [sbOn_alb o1] at y1 f1 p1
        rw [sbOn_alb o13] at y3 f3 p3
        simp only [List.append_assoc] at s5
        exact ⟨H1, C1, q1, sbOn_alb o1, ⟨p1, f1, y1⟩, H2, C2, q2, H3, C3, q3, ⟨p3, f3, y3⟩, H4, C4, q4, H', C', cap', q5, s5, sbOn_tr o14 o5⟩
      have d3 : ((1 : Int) = 0) = False := eq_false (by decide)
      cases b with
      | true =>
        obtain ⟨H1, C1, q1, ea, ⟨p1, f1, y1⟩, H2, C2, q2, H3, C3, q3, ⟨p3, f3, y3⟩, H4, C4, q4, H', C', cap', q5, s5, o5⟩ := fin 49 (sbT 49) (hst 49 (by decide)) (by decide) rfl
        refine ⟨H', C', cap', ?_, s5, o5⟩
        have q1 : ru_ev z 307 [.ref 1258, .ref 349] (clPut H C) = some (.inl (some (.ref 1258)), clPut H1 C1) := q1
        rw [← q5, e338_5]
        simp (disch := omega) only [e338_7, e338_8, e338_11, e338_14, e338_15, e338_17, e338_18, e338_19, e338_20, e338_21, e338_24, e338_25, e338_28, e338_29, e338_32, e338_34, e338_37, e338_39, e338_42, e338_43, e338_44, e338_45, e338_48, e338_50, e338_51, e338_54, e338_55, e338_58, e338_60, e338_63, e338_64, e338_65, e338_66, e338_69, e338_71, e338_72, e338_75, e338_76, e338_77, e338_80, ↓reduceIte, Bool.false_eq_true, not_false_eq_true, not_true_eq_false, Nat.reduceLeDiff, Nat.reduceAdd, Nat.reduceEqDiff, Int.reduceToNat, Int.toNat_natCast, iB0, iB1, ru_klI, ru_klR, ru_klF, ru_klJ, ru_kl0, ru_cs0, ru_csI, ru_csR, ru_csF, ru_csJ, wI_add, wI_sub, wI_mul, wI_lt, wI_le, wI_inj, ru_fdE, ru_fdN, ru_iaN, ru_baN, ru_laN, ru_qaN, ru_pfN, ru_isN, ru_bsN, ru_jsN, ru_qsN, ru_set2, Nat.add_right_cancel_iff, if_true, if_false, ite_self, Int.reduceEq, and_self, Int.add_neg_cancel_right, Int.add_zero, Int.zero_add, hF, c, hb, d1, d3, cl_g7, q1, f1, p1, y1, q2, q3, f3, p3, y3, q4, ru_ctR, not_true, not_false_iff]
      | false =>
        obtain ⟨H1, C1, q1, ea, ⟨p1, f1, y1⟩, H2, C2, q2, H3, C3, q3, ⟨p3, f3, y3⟩, H4, C4, q4, H', C', cap', q5, s5, o5⟩ := fin 46 (sbT 46) (hst 46 (by decide)) (by decide) (by decide)
        refine ⟨H', C', cap', ?_, s5, o5⟩
        have q1 : ru_ev z 307 [.ref 1258, .ref 346] (clPut H C) = some (.inl (some (.ref 1258)), clPut H1 C1) := q1
        rw [← q5, e338_5]
        simp (disch := omega) only [e338_7, e338_8, e338_11, e338_14, e338_15, e338_17, e338_18, e338_19, e338_20, e338_21, e338_24, e338_25, e338_28, e338_29, e338_32, e338_34, e338_37, e338_39, e338_42, e338_43, e338_44, e338_45, e338_48, e338_50, e338_51, e338_54, e338_55, e338_58, e338_60, e338_63, e338_64, e338_65, e338_66, e338_69, e338_71, e338_72, e338_75, e338_76, e338_77, e338_80, ↓reduceIte, Bool.false_eq_true, not_false_eq_true, not_true_eq_false, Nat.reduceLeDiff, Nat.reduceAdd, Nat.reduceEqDiff, Int.reduceToNat, Int.toNat_natCast, iB0, iB1, ru_klI, ru_klR, ru_klF, ru_klJ, ru_kl0, ru_cs0, ru_csI, ru_csR, ru_csF, ru_csJ, wI_add, wI_sub, wI_mul, wI_lt, wI_le, wI_inj, ru_fdE, ru_fdN, ru_iaN, ru_baN, ru_laN, ru_qaN, ru_pfN, ru_isN, ru_bsN, ru_jsN, ru_qsN, ru_set2, Nat.add_right_cancel_iff, if_true, if_false, ite_self, Int.reduceEq, and_self, Int.add_neg_cancel_right, Int.add_zero, Int.zero_add, hF, c, hb, d1, d3, cl_g7, q1, f1, p1, y1, q2, q3, f3, p3, y3, q4, ru_ctR, not_true, not_false_iff]
    · rw [if_neg e]
      rw [if_neg e] at hl
      have d1 : (w.testBit i = true) = False := eq_false e
      obtain ⟨H', C', cap', q5, s5, o5⟩ := ih (i + 1) (by omega) b l H C cap hm hst hl hs
      refine ⟨H', C', cap', ?_, s5, o5⟩
      rw [← q5, e338_5]
      have d3 : ((0 : Int) = 1) = False := eq_false (by decide)
      simp (disch := omega) only [e338_7, e338_8, e338_11, e338_14, e338_15, e338_17, e338_18, e338_19, e338_20, e338_21, e338_24, e338_25, e338_28, e338_29, e338_32, e338_34, e338_37, e338_39, e338_42, e338_43, e338_44, e338_45, e338_48, e338_50, e338_51, e338_54, e338_55, e338_58, e338_60, e338_63, e338_64, e338_65, e338_66, e338_69, e338_71, e338_72, e338_75, e338_76, e338_77, e338_80, ↓reduceIte, Bool.false_eq_true, not_false_eq_true, not_true_eq_false, Nat.reduceLeDiff, Nat.reduceAdd, Nat.reduceEqDiff, Int.reduceToNat, Int.toNat_natCast, iB0, iB1, ru_klI, ru_klR, ru_klF, ru_klJ, ru_kl0, ru_cs0, ru_csI, ru_csR, ru_csF, ru_csJ, wI_add, wI_sub, wI_mul, wI_lt, wI_le, wI_inj, ru_fdE, ru_fdN, ru_iaN, ru_baN, ru_laN, ru_qaN, ru_pfN, ru_isN, ru_bsN, ru_jsN, ru_qsN, ru_set2, Nat.add_right_cancel_iff, if_true, if_false, ite_self, Int.reduceEq, and_self, Int.add_neg_cancel_right, Int.add_zero, Int.zero_add, hF, c, hb, d1, d3, Int.natCast_add, Int.natCast_one, not_true, not_false_iff]
theorem k338 {w : Nat} (hw : w < 1048576) {l : List Nat} {H : am_H} {C : tCl} {cap : Nat} (hm : wcM C M N) (hst : strs H) (hl : l.length + (nmT M w N 0 false).length ≤ 492) (hs : sbS H C l cap) : ∃ H' C' cap', ru_ev z 338 [.ref 1257, .int (wI w), .ref (alb C + 1)] (clPut H C) = some (.inl none, clPut H' C') ∧ sbS H' C' (l ++ nmT M w N 0 false) cap' ∧ sbOn H H' C C' cap cap' := by
  obtain ⟨H', C', cap', q, s, o⟩ := k338l (z := z) hw N 0 (by omega) false l H C cap hm hst hl hs
  refine ⟨H', C', cap', ?_, s, o⟩
  rw [show ((0 : Nat) : Int) = 0 from rfl] at q
  simp only [Bool.false_eq_true, if_false] at q
  simp (disch := omega) only [e338_0, e338_1, e338_2, e338_3, en338, ↓reduceIte, Bool.false_eq_true, not_false_eq_true, not_true_eq_false, Nat.reduceLeDiff, Nat.reduceAdd, Nat.reduceEqDiff, Int.reduceToNat, Int.toNat_natCast, iB0, iB1, ru_klI, ru_klR, ru_klF, ru_klJ, ru_kl0, ru_cs0, ru_csI, ru_csR, ru_csF, ru_csJ, wI_add, wI_sub, wI_mul, wI_lt, wI_le, wI_inj, ru_fdE, ru_fdN, ru_iaN, ru_baN, ru_laN, ru_qaN, ru_pfN, ru_isN, ru_bsN, ru_jsN, ru_qsN, ru_set2, Nat.add_right_cancel_iff, if_true, if_false, ite_self, Int.reduceEq, and_self, Int.add_neg_cancel_right, Int.add_zero, Int.zero_add, cl_g7]
  exact q
end CHG
