/-! ===== the law writes its phrases ===== -/
def prPh (p : tPh) (gap : Int) (NN : Nat) (F L : Nat → List Nat) (w : List Nat) (p' : tPh) (ct : Nat) : Prop :=
  (∃ (hd : List Nat) (N : Nat) (e : Nat → Nat) (lf : Int) (ns : Nat → Int) (most : Nat), prRow p gap NN hd N e lf ns most ∧ w = prT F L hd lf ns most ∧ p' = gfL (sdE e N lf) ns most p ∧ ct = gfN ns most) ∨ ∃ c km, prOne p gap NN F L c km w ∧ p' = lgv p km c ∧ ct = 1
def prAll (gap : Int) (NN : Nat) (F L : Nat → List Nat) : Nat → tPh → List Nat → tPh → Nat → Prop
  | 0, p, w, p', c => w = [] ∧ p' = p ∧ c = 0
  | k + 1, p, w, p', c => ∃ w1 p1 c1 w2 c2, prAll gap NN F L k p w1 p1 c1 ∧ prPh p1 gap NN F L w2 p' c2 ∧ w = w1 ++ (if k = 0 then [] else [59]) ++ w2 ∧ c = c1 + c2
theorem prPh_E {p p' : tPh} {gap : Int} {NN : Nat} {F L : Nat → List Nat} {w : List Nat} {ct : Nat} (h : prPh p gap NN F L w p' ct) (hr : phR p) (hN : NN ≤ 6) : psE p' p ∧ phR p' ∧ 1 ≤ w.length ∧ ct ≤ 12 := by
  rcases h with ⟨hd, N, e, lf, ns, most, ⟨h0, h1, h2, h3⟩, rfl, rfl, rfl⟩ | ⟨c, km, ⟨h0, h1, h2, h3⟩, rfl, rfl⟩
  · refine ⟨gfL_E _, gfL_R hr _ (fun i hi => by have := h3 i hi; omega), ?_, ?_⟩
    · unfold prT
      rw [List.length_append, List.length_append]
      have : 1 ≤ (if lf = 1 then lwT 9 else lwT 10).length := by split <;> decide
      omega
    · have := gfN_b ns most
      have : N ≤ 12 := by
        rcases h0 with ⟨-, h4⟩ | ⟨r, R, rc, -, -, -, h4⟩
        · exact enO_12 h4
        · exact enO_12 h4
      omega
  · refine ⟨lgv_E, lgv_R hr (by omega), ?_, by decide⟩
    rcases h3 with ⟨a, b, -, -, r, N, e, i, j, -, -, -, -, -, -, -, rfl⟩ | ⟨a, -, r, N, e, i, j, lf, -, -, -, -, -, -, rfl⟩ | ⟨px, py, fr, -, -, -, rfl⟩
    · simp only [List.length_append]; show 1 ≤ 8 + _ + _ + _ + _ + _; omega
    · simp only [List.length_append]; show 1 ≤ 7 + _ + _ + _; omega
    · simp only [List.length_append]; show 1 ≤ 3 + _ + _ + _ + _ + _; omega
section PHR
variable {z : Bool} {B : Nat} {A : tLw} {n : Nat} {g : Nat → Int32} {F L : Nat → List Nat} {S : Nat}
theorem tx_sc (hk : txK B n) {X : am_H} {t r cap : Nat} {l : List Nat} (h : txS X B A n g t F L S r l cap) (hl : l.length + 1 ≤ 500) : ∃ X' r' cap', ru_ev z 319 [.ref S, .int (wI 59)] X = some (.inl (some (.ref S)), X') ∧ txS X' B A n g t F L S r' (l ++ [59]) cap' ∧ agT B S r cap r' cap' X X' 0 0 := tx_chr (z := z) hk h (c := 59) (by decide) hl
theorem d417l (hk : txK B n) (hA : ylR A) {f NN m : Nat} (hf : f < 3) (hgap : 0 ≤ A.1 0 ∧ A.1 0 ≤ 99) (hNN : A.1 1 = (NN : Int)) (hNN6 : NN ≤ 6) (hN1 : 1 ≤ NN) (hne : ¬ cnB (shS (A.2.1 f)) 12 = 0) (hm : m ≤ 3) : ∀ d k, k + d = m → ∀ (X : am_H) (t r cap ct : Nat) (l : List Nat) (p' : tPh), prAll (A.1 0) NN F L k (A.2.1 f) l p' ct → phR p' → psE p' (A.2.1 f) → txS X B (ylU A f p') n g t F L S r l cap → l.length ≤ 121 * k → ((k = 0 ∧ l.length = 0) ∨ (0 < k ∧ 0 < l.length)) → t ≤ 700000 + 20 * k → ct ≤ 12 * k →
    ∃ (X' : am_H) (r' cap' t' ct' : Nat) (l' : List Nat) (p'' : tPh), prAll (A.1 0) NN F L m (A.2.1 f) l' p'' ct' ∧ phR p'' ∧ psE p'' (A.2.1 f) ∧ txS X' B (ylU A f p'') n g t' F L S r' l' cap' ∧ l'.length ≤ 121 * m ∧ (t ≤ t' ∧ t' ≤ t + 20 * d) ∧ ct' ≤ 12 * m ∧ agT B S r cap r' cap' X X' (14000 * d) (45000 * d) ∧
      ru_n z 417 69 [some (.ref 1000), some (.ref (B + 1)), some (.ref B), some (.int (wI f)), some (.ref S), some (.int (wI ct)), some (.int (wI d))] [] X = ru_n z 417 129 [some (.ref 1000), some (.ref (B + 1)), some (.ref B), some (.int (wI f)), some (.ref S), some (.int (wI ct')), some (.int (wI 0))] [] X' := by
  intro d
  induction d with
  | zero =>
    intro k hkd X t r cap ct l p' h1 h2 h3 h4 h5 h6 h7 h8
    obtain rfl : k = m := by omega
    refine ⟨X, r, cap, t, ct, l, p', h1, h2, h3, h4, h5, ⟨by omega, by omega⟩, h8, agT_m agT_r (by omega) (by omega), ?_⟩
    simp (disch := omega) only [e417_69, e417_71, ↓reduceIte, Bool.false_eq_true, not_false_eq_true, not_true_eq_false, Nat.reduceLeDiff, Nat.reduceAdd, Nat.reduceEqDiff, Int.reduceToNat, Int.toNat_natCast, iB0, iB1, ru_klI, ru_klR, ru_klF, ru_klJ, ru_kl0, ru_cs0, ru_csI, ru_csR, ru_csF, ru_csJ, wI_add, wI_sub, wI_mul, wI_lt, wI_le, wI_inj, ru_fdE, ru_fdN, ru_iaN, ru_baN, ru_laN, ru_qaN, ru_pfN, ru_isN, ru_bsN, ru_jsN, ru_qsN, ru_set2, Nat.add_right_cancel_iff, if_true, if_false, ite_self, Int.reduceEq, and_self, Int.add_neg_cancel_right, Int.add_zero, Int.zero_add, Int.natCast_zero, Int.ofNat_zero, Int.le_refl]
  | succ d ih =>
    intro k hkd X t r cap ct l p' h1 h2 h3 h4 h5 h6 h7 h8
    have hR := ylU_R (f := f) hA h2
    have hne2 : ¬ cnB (shS ((ylU A f p').2.1 f)) 12 = 0 := by rw [ylU_s, (ps_sh h3).2.2.2]; exact hne
    have d1 : ((d : Int) + 1 ≤ 0) = False := eq_false (by omega)
    have dd : (((d + 1 : Nat)) : Int) = (d : Int) + 1 := by omega
    have sep : ∃ (X1 : am_H) (r1 cap1 : Nat), txS X1 B (ylU A f p') n g t F L S r1 (l ++ (if k = 0 then [] else [59])) cap1 ∧ agT B S r cap r1 cap1 X X1 0 0 ∧ ru_n z 417 69 [some (.ref 1000), some (.ref (B + 1)), some (.ref B), some (.int (wI f)), some (.ref S), some (.int (wI ct)), some (.int (wI ((d + 1 : Nat) : Int)))] [] X = ru_n z 417 90 [some (.ref 1000), some (.ref (B + 1)), some (.ref B), some (.int (wI f)), some (.ref S), some (.int (wI ct)), some (.int (wI ((d : Int) + 1)))] [] X1 := by
      have len := tx_len (z := z) h4
      by_cases c : k = 0
      · rw [if_pos c, List.append_nil]
        refine ⟨X, r, cap, h4, agT_r, ?_⟩
        have e0 : (l.length : Int) = 0 := by omega
        rw [e0] at len
        rw [dd]
        simp (disch := omega) only [e417_69, e417_71, e417_74, e417_76, e417_79, e417_82, e417_84, e417_86, ↓reduceIte, Bool.false_eq_true, not_false_eq_true, not_true_eq_false, Nat.reduceLeDiff, Nat.reduceAdd, Nat.reduceEqDiff, Int.reduceToNat, Int.toNat_natCast, iB0, iB1, ru_klI, ru_klR, ru_klF, ru_klJ, ru_kl0, ru_cs0, ru_csI, ru_csR, ru_csF, ru_csJ, wI_add, wI_sub, wI_mul, wI_lt, wI_le, wI_inj, ru_fdE, ru_fdN, ru_iaN, ru_baN, ru_laN, ru_qaN, ru_pfN, ru_isN, ru_bsN, ru_jsN, ru_qsN, ru_set2, Nat.add_right_cancel_iff, if_true, if_false, ite_self, Int.reduceEq, and_self, Int.add_neg_cancel_right, Int.add_zero, Int.zero_add, d1, len, Int.le_refl]
      · rw [if_neg c]
        obtain ⟨X1, r1, cap1, a1, a2, a3⟩ := tx_sc (z := z) hk h4 (by omega)
        refine ⟨X1, r1, cap1, a2, a3, ?_⟩
        have e0 : ((l.length : Int) ≤ 0) = False := eq_false (by omega)
        rw [dd]
        simp (disch := omega) only [e417_69, e417_71, e417_74, e417_76, e417_79, e417_82, e417_84, e417_86, e417_89, ↓reduceIte, Bool.false_eq_true, not_false_eq_true, not_true_eq_false, Nat.reduceLeDiff, Nat.reduceAdd, Nat.reduceEqDiff, Int.reduceToNat, Int.toNat_natCast, iB0, iB1, ru_klI, ru_klR, ru_klF, ru_klJ, ru_kl0, ru_cs0, ru_csI, ru_csR, ru_csF, ru_csJ, wI_add, wI_sub, wI_mul, wI_lt, wI_le, wI_inj, ru_fdE, ru_fdN, ru_iaN, ru_baN, ru_laN, ru_qaN, ru_pfN, ru_isN, ru_bsN, ru_jsN, ru_qsN, ru_set2, Nat.add_right_cancel_iff, if_true, if_false, ite_self, Int.reduceEq, and_self, Int.add_neg_cancel_right, Int.add_zero, Int.zero_add, d1, len, e0, a1, ru_ctR]
    obtain ⟨X1, r1, cap1, a2, a3, a4⟩ := sep
    have l1 : (l ++ (if k = 0 then [] else [59])).length ≤ 121 * k + 1 := by rw [List.length_append]; split <;> simp <;> omega
    obtain ⟨sv, X2, b1, b2, b3, b4, b5, -, -⟩ := tx_drw (z := z) hk a2 (by omega) (lo := 0) (hi := 1) (by omega) (by omega) (by omega)
    have step : ∃ (X3 : am_H) (r3 cap3 t3 ct3 : Nat) (w : List Nat) (p3 : tPh), prPh p' (A.1 0) NN F L w p3 ct3 ∧ txS X3 B (ylU A f p3) n g t3 F L S r3 ((l ++ (if k = 0 then [] else [59])) ++ w) cap3 ∧ w.length ≤ 120 ∧ (t + 1 ≤ t3 ∧ t3 ≤ t + 16) ∧ agT B S r1 cap1 r3 cap3 X2 X3 14000 45000 ∧ ru_n z 417 90 [some (.ref 1000), some (.ref (B + 1)), some (.ref B), some (.int (wI f)), some (.ref S), some (.int (wI ct)), some (.int (wI ((d : Int) + 1)))] [] X1 = ru_n z 417 123 [some (.ref 1000), some (.ref (B + 1)), some (.ref B), some (.int (wI f)), some (.ref S), some (.int (wI ((ct : Int) + (ct3 : Int)))), some (.int (wI ((d : Int) + 1)))] [] X3 := by
      by_cases c : sv = 0
      · obtain ⟨X3, r3, cap3, t3, hd, N, e, lf, ns, most, c1, c2, c3, c4, c5, c6⟩ := d418 (z := z) hk hR hf hgap hNN hNN6 (by omega) hne2 (by omega) b4
        rw [ylU_s] at c1 c2
        rw [ylU_up] at c2
        refine ⟨X3, r3, cap3, t3, gfN ns most, _, _, Or.inl ⟨hd, N, e, lf, ns, most, c1, rfl, rfl, rfl⟩, c2, c3, ⟨by omega, by omega⟩, c5, ?_⟩
        rw [c] at b3
        simp (disch := omega) only [e417_90, e417_92, e417_93, e417_94, e417_95, e417_98, e417_101, e417_102, e417_103, e417_104, e417_106, e417_109, e417_112, e417_113, e417_114, e417_115, e417_117, e417_120, e417_121, ↓reduceIte, Bool.false_eq_true, not_false_eq_true, not_true_eq_false, Nat.reduceLeDiff, Nat.reduceAdd, Nat.reduceEqDiff, Int.reduceToNat, Int.toNat_natCast, iB0, iB1, ru_klI, ru_klR, ru_klF, ru_klJ, ru_kl0, ru_cs0, ru_csI, ru_csR, ru_csF, ru_csJ, wI_add, wI_sub, wI_mul, wI_lt, wI_le, wI_inj, ru_fdE, ru_fdN, ru_iaN, ru_baN, ru_laN, ru_qaN, ru_pfN, ru_isN, ru_bsN, ru_jsN, ru_qsN, ru_set2, Nat.add_right_cancel_iff, if_true, if_false, ite_self, Int.reduceEq, and_self, Int.add_neg_cancel_right, Int.add_zero, Int.zero_add, b3, c6, not_true]
      · have e1 : sv = 1 := by omega
        obtain ⟨X3, r3, cap3, t3, cc, km, w, c1, c2, c3, c4, c5, c6⟩ := d420 (z := z) hk hR hf hgap hNN hNN6 hN1 (by omega) hne2 (by omega) b4
        rw [ylU_s] at c1 c3
        rw [ylU_up] at c3
        refine ⟨X3, r3, cap3, t3, 1, w, _, Or.inr ⟨cc, km, c1, rfl, rfl⟩, c3, by omega, ⟨by omega, by omega⟩, agT_m c5 (by omega) (by omega), ?_⟩
        rw [e1] at b3
        simp (disch := omega) only [e417_90, e417_92, e417_93, e417_94, e417_95, e417_98, e417_101, e417_102, e417_103, e417_104, e417_106, e417_109, e417_112, e417_113, e417_114, e417_115, e417_117, e417_120, e417_121, ↓reduceIte, Bool.false_eq_true, not_false_eq_true, not_true_eq_false, Nat.reduceLeDiff, Nat.reduceAdd, Nat.reduceEqDiff, Int.reduceToNat, Int.toNat_natCast, iB0, iB1, ru_klI, ru_klR, ru_klF, ru_klJ, ru_kl0, ru_cs0, ru_csI, ru_csR, ru_csF, ru_csJ, wI_add, wI_sub, wI_mul, wI_lt, wI_le, wI_inj, ru_fdE, ru_fdN, ru_iaN, ru_baN, ru_laN, ru_qaN, ru_pfN, ru_isN, ru_bsN, ru_jsN, ru_qsN, ru_set2, Nat.add_right_cancel_iff, if_true, if_false, ite_self, Int.reduceEq, and_self, Int.add_neg_cancel_right, Int.add_zero, Int.zero_add, b3, c6, not_false_iff]
        rfl
    obtain ⟨X3, r3, cap3, t3, ct3, w, p3, c1, c2, c3, c4, c5, c6⟩ := step
    obtain ⟨y1, y2, y3, y4⟩ := prPh_E c1 h2 hNN6
    have l2 : (l ++ (if k = 0 then [] else [59]) ++ w).length ≤ 121 * (k + 1) := by rw [List.length_append]; omega
    have l3 : 0 < (l ++ (if k = 0 then [] else [59]) ++ w).length := by rw [List.length_append]; omega
    obtain ⟨X', r', cap', t', ct', l', p'', u1, u2, u3, u4, u5, u6, u7, u8, u9⟩ := ih (k + 1) (by omega) X3 t3 r3 cap3 (ct + ct3) _ p3 ⟨l, p', ct, w, ct3, h1, c1, rfl, rfl⟩ y2 (psE_tr y1 h3) c2 l2 (Or.inr ⟨by omega, l3⟩) (by omega) (by omega)
    refine ⟨X', r', cap', t', ct', l', p'', u1, u2, u3, u4, u5, ⟨by omega, by omega⟩, u7, agT_m (agT_t a3 (agT_t b5 (agT_t c5 u8))) (by omega) (by omega), ?_⟩
    rw [← u9, a4, c6]
    rw [show ((ct + ct3 : Nat) : Int) = (ct : Int) + (ct3 : Int) by omega]
    simp (disch := omega) only [e417_123, e417_126, ↓reduceIte, Bool.false_eq_true, not_false_eq_true, not_true_eq_false, Nat.reduceLeDiff, Nat.reduceAdd, Nat.reduceEqDiff, Int.reduceToNat, Int.toNat_natCast, iB0, iB1, ru_klI, ru_klR, ru_klF, ru_klJ, ru_kl0, ru_cs0, ru_csI, ru_csR, ru_csF, ru_csJ, wI_add, wI_sub, wI_mul, wI_lt, wI_le, wI_inj, ru_fdE, ru_fdN, ru_iaN, ru_baN, ru_laN, ru_qaN, ru_pfN, ru_isN, ru_bsN, ru_jsN, ru_qsN, ru_set2, Nat.add_right_cancel_iff, if_true, if_false, ite_self, Int.reduceEq, and_self, Int.add_neg_cancel_right, Int.add_zero, Int.zero_add, Int.add_sub_cancel]
end PHR
