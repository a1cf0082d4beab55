/-! ===== the law writes a phrase of a row ===== -/
def itW (F L : Nat → List Nat) (ns : Nat → Int) (i : Nat) : List Nat := if ns i < 0 then lwT 13 else F (ns i).toNat ++ [32] ++ L (ns i).toNat
def itT (F L : Nat → List Nat) (ns : Nat → Int) : Nat → List Nat
  | 0 => []
  | k + 1 => itT F L ns k ++ ((if k = 0 then lwT 12 else lwT 11) ++ itW F L ns k)
def gfL (e : Nat → Nat) (ns : Nat → Int) : Nat → tPh → tPh
  | 0, q => q
  | k + 1, q => if ns k < 0 then gfL e ns k q else lgv (gfL e ns k q) (e k) (ns k)
def gfN (ns : Nat → Int) : Nat → Nat
  | 0 => 0
  | k + 1 => if ns k < 0 then gfN ns k else gfN ns k + 1
theorem itT_c {F L : Nat → List Nat} {ns ns' : Nat → Int} : ∀ k, (∀ i, i < k → ns i = ns' i) → itT F L ns k = itT F L ns' k
  | 0, _ => rfl
  | k + 1, h => by rw [itT, itT, itT_c k (fun i hi => h i (by omega)), itW, itW, h k (by omega)]
theorem gfL_c {e : Nat → Nat} {ns ns' : Nat → Int} {q : tPh} : ∀ k, (∀ i, i < k → ns i = ns' i) → gfL e ns k q = gfL e ns' k q
  | 0, _ => rfl
  | k + 1, h => by rw [gfL, gfL, gfL_c k (fun i hi => h i (by omega)), h k (by omega)]
theorem gfN_c {ns ns' : Nat → Int} : ∀ k, (∀ i, i < k → ns i = ns' i) → gfN ns k = gfN ns' k
  | 0, _ => rfl
  | k + 1, h => by rw [gfN, gfN, gfN_c k (fun i hi => h i (by omega)), h k (by omega)]
theorem gfN_b (ns : Nat → Int) : ∀ k, gfN ns k ≤ k
  | 0 => Nat.le_refl _
  | k + 1 => by have := gfN_b ns k; rw [gfN]; split <;> omega
theorem gfL_R {e : Nat → Nat} {ns : Nat → Int} {q : tPh} (hr : phR q) : ∀ k, (∀ i, i < k → ns i ≤ 19) → phR (gfL e ns k q)
  | 0, _ => hr
  | k + 1, h => by
    rw [gfL]
    split
    · exact gfL_R hr k (fun i hi => h i (by omega))
    · exact lgv_R (gfL_R hr k (fun i hi => h i (by omega))) (by have := h k (by omega); omega)
theorem gfL_E {e : Nat → Nat} {ns : Nat → Int} {q : tPh} : ∀ k, psE (gfL e ns k q) q
  | 0 => psE_refl _
  | k + 1 => by
    rw [gfL]
    split
    · exact gfL_E k
    · exact psE_tr lgv_E (gfL_E k)
section ROWT
variable {z : Bool} {B : Nat} {A : tLw} {n : Nat} {g : Nat → Int32} {F L : Nat → List Nat} {S : Nat}
theorem d418l (hk : txK B n) (hA : ylR A) {f N ha most NN : Nat} {w : Nat → Int} {e : Nat → Nat} {l0 : List Nat} {v4 lf : Int} (hf : f < 3) (hN12 : N ≤ 12) (hm : most ≤ N) (hw : ∀ i, i < N → w i = (e i : Int) ∧ e i < 12) (hlf : lf = 0 ∨ lf = 1) (hNN : A.1 1 = (NN : Int)) (hNN6 : NN ≤ 6) (hl0 : l0.length ≤ 360) (hha : B + 30 ≤ ha ∧ ha ≠ S) : ∀ d k, k + d = most → ∀ (X : am_H) (t r cap : Nat) (ns : Nat → Int) (l10 l11 : Option Value), (∀ i, i < k → -1 ≤ ns i ∧ ns i < NN) → txS X B (ylU A f (gfL (fun i => e (if lf = 1 then i else N - 1 - i)) ns k (A.2.1 f))) n g t F L S r (l0 ++ itT F L ns k) cap → (itT F L ns k).length ≤ 9 * k → t + d ≤ 1000000 → ha < X.2.1 → ha ≠ r → X.1 ha = some (ylI 0 N w) →
    ∃ (X' : am_H) (r' cap' : Nat) (ns' : Nat → Int), (∀ i, i < most → -1 ≤ ns' i ∧ ns' i < NN) ∧ txS X' B (ylU A f (gfL (fun i => e (if lf = 1 then i else N - 1 - i)) ns' most (A.2.1 f))) n g (t + d) F L S r' (l0 ++ itT F L ns' most) cap' ∧ (itT F L ns' most).length ≤ 9 * most ∧ agT B S r cap r' cap' X X' (1010 * d) (3100 * d) ∧
      ru_n z 418 131 [some (.ref (B + 1)), some (.ref B), some (.int (wI f)), some (.ref S), some (.int (wI v4)), some (.int (wI (gfN ns k : Nat))), some (.int (wI lf)), some (.ref ha), some (.int (wI most)), some (.int (wI k)), l10, l11] [] X = some (.inl (some (.int (wI (gfN ns' most : Nat)))), X') := by
  intro d
  induction d with
  | zero =>
    intro k hkd X t r cap ns l10 l11 hns htx hlen ht h1 h2 h3
    obtain rfl : k = most := by omega
    refine ⟨X, r, cap, ns, hns, htx, hlen, agT_m agT_r (Nat.zero_le _) (Nat.zero_le _), ?_⟩
    simp (disch := omega) only [e418_131, e418_133, e418_135, e418_239, e418_241, ↓reduceIte, Bool.false_eq_true, not_false_eq_true, not_true_eq_false, Nat.reduceLeDiff, Nat.reduceAdd, Nat.reduceEqDiff, Int.reduceToNat, Int.toNat_natCast, iB0, iB1, ru_klI, ru_klR, ru_klF, ru_klJ, ru_kl0, ru_cs0, ru_csI, ru_csR, ru_csF, ru_csJ, wI_add, wI_sub, wI_mul, wI_lt, wI_le, wI_inj, ru_fdE, ru_fdN, ru_iaN, ru_baN, ru_laN, ru_qaN, ru_pfN, ru_isN, ru_bsN, ru_jsN, ru_qsN, ru_set2, Nat.add_right_cancel_iff, if_true, if_false, ite_self, Int.reduceEq, and_self, Int.add_neg_cancel_right, Int.add_zero, Int.zero_add, Int.le_refl]
  | succ d ih =>
    intro k hkd X t r cap ns l10 l11 hns htx hlen ht h1 h2 h3
    have d1 : ((most : Int) ≤ (k : Int)) = False := eq_false (by omega)
    have hR : ylR (ylU A f (gfL (fun i => e (if lf = 1 then i else N - 1 - i)) ns k (A.2.1 f))) := ylU_R hA (gfL_R (hA f) k (fun i hi => by have := hns i hi; omega))
    obtain ⟨j, hj⟩ : ∃ j, j = if lf = 1 then k else N - 1 - k := ⟨_, rfl⟩
    have hjN : j < N := by rw [hj]; split <;> omega
    have al : am_al X ha = some (wI N) := ru_al h3 (by decide)
    have i1 := yl_ia h3 (k := (j : Int)) (by omega) (by omega) (by omega)
    rw [Int.toNat_natCast, (hw j hjN).1] at i1
    have ej := (hw j hjN).2
    have len1 : (l0 ++ itT F L ns k).length ≤ 360 + 9 * k := by rw [List.length_append]; omega
    obtain ⟨v, X1, v1, v2, v3, v4', v5, v6, v7⟩ := tx_drw (z := z) hk htx (by omega) (lo := -1) (hi := (NN : Int) - 1) (by omega) (by omega) (by omega)
    have f2 : am_fd X (B + 1) 13 2 = some (.int (wI (NN : Int))) := by have := yl_f2 htx.1; rw [show (ylU A f (gfL (fun i => e (if lf = 1 then i else N - 1 - i)) ns k (A.2.1 f))).1 1 = (NN : Int) from hNN] at this; exact this
    have sep : ∃ X2 r2 cap2, ru_ev z 307 [.ref S, .ref (if k = 0 then 512 else 511)] X1 = some (.inl (some (.ref S)), X2) ∧ txS X2 B (ylU A f (gfL (fun i => e (if lf = 1 then i else N - 1 - i)) ns k (A.2.1 f))) n g (t + 1) F L S r2 ((l0 ++ itT F L ns k) ++ (if k = 0 then lwT 12 else lwT 11)) cap2 ∧ agT B S r cap r2 cap2 X1 X2 0 0 := by
      by_cases c : k = 0
      · rw [if_pos c, if_pos c]; exact tx_con hk v4' (i := 12) (by decide) (by omega)
      · rw [if_neg c, if_neg c]; exact tx_con hk v4' (i := 11) (by decide) (by omega)
    obtain ⟨X2, r2, cap2, s1, s2, s3⟩ := sep
    have slen : (if k = 0 then lwT 12 else lwT 11).length ≤ 2 := by split <;> decide
    have len2 : ((l0 ++ itT F L ns k) ++ (if k = 0 then lwT 12 else lwT 11)).length ≤ 362 + 9 * k := by rw [List.length_append]; omega
    obtain ⟨ns1, hns1⟩ : ∃ ns1 : Nat → Int, ns1 = fun i => if i = k then v else ns i := ⟨_, rfl⟩
    have n1k : ns1 k = v := by rw [hns1]; exact if_pos rfl
    have n1o : ∀ i, i < k → ns1 i = ns i := fun i hi => by rw [hns1]; exact if_neg (by omega)
    have n1b : ∀ i, i < k + 1 → -1 ≤ ns1 i ∧ ns1 i < NN := fun i hi => by
      by_cases c : i = k
      · rw [c, n1k]; omega
      · rw [n1o i (by omega)]; exact hns i (by omega)
    have eT : itT F L ns1 (k + 1) = itT F L ns k ++ ((if k = 0 then lwT 12 else lwT 11) ++ itW F L ns1 k) := by rw [itT, itT_c k n1o]
    have eN : gfN ns1 (k + 1) = if v < 0 then gfN ns k else gfN ns k + 1 := by rw [gfN, n1k, gfN_c k n1o]
    have eL : gfL (fun i => e (if lf = 1 then i else N - 1 - i)) ns1 (k + 1) (A.2.1 f) = if v < 0 then gfL (fun i => e (if lf = 1 then i else N - 1 - i)) ns k (A.2.1 f) else lgv (gfL (fun i => e (if lf = 1 then i else N - 1 - i)) ns k (A.2.1 f)) (e j) v := by rw [gfL, n1k, gfL_c k n1o, ← hj]
    have ck : ((k : Int) ≤ 0) = (k = 0) := propext ⟨fun _ => by omega, fun _ => by omega⟩
    have cl : ((lf : Int) = 0) = ¬ (lf = 1) := propext ⟨fun _ => by omega, fun _ => by omega⟩
    have ij : wI ((j : Nat) : Int) = if lf = 1 then wI (k : Int) else wI ((N : Int) - 1 - (k : Int)) := by
      by_cases c : lf = 1
      · rw [if_pos c, hj, if_pos c]
      · rw [if_neg c, hj, if_neg c, show ((N - 1 - k : Nat) : Int) = (N : Int) - 1 - (k : Int) by omega]
    have sp2 : ∀ q, ru_n z 418 189 q [.ref (if k = 0 then 512 else 511), .ref S] X1 = ru_n z 418 189 q [.ref (if k = 0 then 512 else 511), .ref S] X1 := fun _ => rfl
    have pre : ru_n z 418 131 [some (.ref (B + 1)), some (.ref B), some (.int (wI f)), some (.ref S), some (.int (wI v4)), some (.int (wI (gfN ns k : Nat))), some (.int (wI lf)), some (.ref ha), some (.int (wI most)), some (.int (wI k)), l10, l11] [] X = ru_n z 418 192 [some (.ref (B + 1)), some (.ref B), some (.int (wI f)), some (.ref S), some (.int (wI v4)), some (.int (wI (gfN ns k : Nat))), some (.int (wI lf)), some (.ref ha), some (.int (wI most)), some (.int (wI k)), some (.int (wI (e j))), some (.int (wI v))] [.ref S] X2 := by
      rcases hlf with rfl | rfl
      · rw [if_neg (by decide)] at ij
        rw [ij] at i1
        by_cases c : k = 0
        · rw [if_pos c] at s1
          have c0 : ((k : Int) ≤ 0) = True := eq_true (by omega)
          simp (disch := omega) only [e418_131, e418_133, e418_135, e418_138, e418_140, e418_142, e418_145, e418_147, e418_150, e418_152, e418_153, e418_154, e418_155, e418_157, e418_158, e418_159, e418_161, e418_162, e418_163, e418_164, e418_167, e418_168, e418_169, e418_172, e418_174, e418_175, e418_177, e418_180, e418_183, e418_186, e418_189, ↓reduceIte, Bool.false_eq_true, not_false_eq_true, not_true_eq_false, Nat.reduceLeDiff, Nat.reduceAdd, Nat.reduceEqDiff, Int.reduceToNat, Int.toNat_natCast, iB0, iB1, ru_klI, ru_klR, ru_klF, ru_klJ, ru_kl0, ru_cs0, ru_csI, ru_csR, ru_csF, ru_csJ, wI_add, wI_sub, wI_mul, wI_lt, wI_le, wI_inj, ru_fdE, ru_fdN, ru_iaN, ru_baN, ru_laN, ru_qaN, ru_pfN, ru_isN, ru_bsN, ru_jsN, ru_qsN, ru_set2, Nat.add_right_cancel_iff, if_true, if_false, ite_self, Int.reduceEq, and_self, Int.add_neg_cancel_right, Int.add_zero, Int.zero_add, d1, al, i1, f2, v3, c0, s1]
        · rw [if_neg c] at s1
          have c0 : ((k : Int) ≤ 0) = False := eq_false (by omega)
          simp (disch := omega) only [e418_131, e418_133, e418_135, e418_138, e418_140, e418_142, e418_145, e418_147, e418_150, e418_152, e418_153, e418_154, e418_155, e418_157, e418_158, e418_159, e418_161, e418_162, e418_163, e418_164, e418_167, e418_168, e418_169, e418_172, e418_174, e418_175, e418_177, e418_180, e418_183, e418_186, e418_189, ↓reduceIte, Bool.false_eq_true, not_false_eq_true, not_true_eq_false, Nat.reduceLeDiff, Nat.reduceAdd, Nat.reduceEqDiff, Int.reduceToNat, Int.toNat_natCast, iB0, iB1, ru_klI, ru_klR, ru_klF, ru_klJ, ru_kl0, ru_cs0, ru_csI, ru_csR, ru_csF, ru_csJ, wI_add, wI_sub, wI_mul, wI_lt, wI_le, wI_inj, ru_fdE, ru_fdN, ru_iaN, ru_baN, ru_laN, ru_qaN, ru_pfN, ru_isN, ru_bsN, ru_jsN, ru_qsN, ru_set2, Nat.add_right_cancel_iff, if_true, if_false, ite_self, Int.reduceEq, and_self, Int.add_neg_cancel_right, Int.add_zero, Int.zero_add, d1, al, i1, f2, v3, c0, s1]
      · rw [if_pos rfl] at ij
        rw [ij] at i1
        by_cases c : k = 0
        · rw [if_pos c] at s1
          have c0 : ((k : Int) ≤ 0) = True := eq_true (by omega)
          simp (disch := omega) only [e418_131, e418_133, e418_135, e418_138, e418_140, e418_142, e418_145, e418_147, e418_150, e418_152, e418_153, e418_154, e418_155, e418_157, e418_158, e418_159, e418_161, e418_162, e418_163, e418_164, e418_167, e418_168, e418_169, e418_172, e418_174, e418_175, e418_177, e418_180, e418_183, e418_186, e418_189, ↓reduceIte, Bool.false_eq_true, not_false_eq_true, not_true_eq_false, Nat.reduceLeDiff, Nat.reduceAdd, Nat.reduceEqDiff, Int.reduceToNat, Int.toNat_natCast, iB0, iB1, ru_klI, ru_klR, ru_klF, ru_klJ, ru_kl0, ru_cs0, ru_csI, ru_csR, ru_csF, ru_csJ, wI_add, wI_sub, wI_mul, wI_lt, wI_le, wI_inj, ru_fdE, ru_fdN, ru_iaN, ru_baN, ru_laN, ru_qaN, ru_pfN, ru_isN, ru_bsN, ru_jsN, ru_qsN, ru_set2, Nat.add_right_cancel_iff, if_true, if_false, ite_self, Int.reduceEq, and_self, Int.add_neg_cancel_right, Int.add_zero, Int.zero_add, d1, al, i1, f2, v3, c0, s1]
        · rw [if_neg c] at s1
          have c0 : ((k : Int) ≤ 0) = False := eq_false (by omega)
          simp (disch := omega) only [e418_131, e418_133, e418_135, e418_138, e418_140, e418_142, e418_145, e418_147, e418_150, e418_152, e418_153, e418_154, e418_155, e418_157, e418_158, e418_159, e418_161, e418_162, e418_163, e418_164, e418_167, e418_168, e418_169, e418_172, e418_174, e418_175, e418_177, e418_180, e418_183, e418_186, e418_189, ↓reduceIte, Bool.false_eq_true, not_false_eq_true, not_true_eq_false, Nat.reduceLeDiff, Nat.reduceAdd, Nat.reduceEqDiff, Int.reduceToNat, Int.toNat_natCast, iB0, iB1, ru_klI, ru_klR, ru_klF, ru_klJ, ru_kl0, ru_cs0, ru_csI, ru_csR, ru_csF, ru_csJ, wI_add, wI_sub, wI_mul, wI_lt, wI_le, wI_inj, ru_fdE, ru_fdN, ru_iaN, ru_baN, ru_laN, ru_qaN, ru_pfN, ru_isN, ru_bsN, ru_jsN, ru_qsN, ru_set2, Nat.add_right_cancel_iff, if_true, if_false, ite_self, Int.reduceEq, and_self, Int.add_neg_cancel_right, Int.add_zero, Int.zero_add, d1, al, i1, f2, v3, c0, s1]
    rw [pre]
    by_cases c : v < 0
    · rw [if_pos c] at eN eL
      have eW : itW F L ns1 k = lwT 13 := by rw [itW, n1k, if_pos c]
      obtain ⟨X3, r3, cap3, p1, p2, p3⟩ := tx_con (z := z) hk s2 (i := 13) (by decide) (by omega)
      have ag := agT_t v5 (agT_t s3 p3)
      have el : (l0 ++ itT F L ns k) ++ (if k = 0 then lwT 12 else lwT 11) ++ lwT 13 = l0 ++ itT F L ns1 (k + 1) := by rw [eT, eW, List.append_assoc, List.append_assoc]
      rw [el, ← eL] at p2
      obtain ⟨X', r', cap', ns', u1, u2, u3, u4, u5⟩ := ih (k + 1) (by omega) X3 (t + 1) r3 cap3 ns1 (some (.int (wI (e j)))) (some (.int (wI v))) n1b p2 (by rw [eT, eW, List.length_append, List.length_append]; show _ + (_ + 7) ≤ _; omega) (by omega) (by have := ag.2.1; omega) (by rcases ag.2.2.2.2.1 with h | h <;> omega) (by rw [ag.1 ha h1 (Or.inr hha.1) hha.2 h2]; exact h3)
      refine ⟨X', r', cap', ns', u1, by rw [show t + (d + 1) = t + 1 + d by omega]; exact u2, u3, agT_m (agT_t ag u4) (by omega) (by omega), ?_⟩
      rw [eN, show (((k + 1 : Nat)) : Int) = (k : Int) + 1 by omega] at u5
      rw [← u5]
      have c2 : (0 ≤ v) = False := eq_false (by omega)
      simp (disch := omega) only [e418_192, e418_194, e418_197, e418_200, e418_203, e418_204, e418_206, e418_209, e418_212, e418_213, e418_215, e418_218, e418_221, e418_222, e418_223, e418_225, e418_227, e418_230, e418_233, e418_236, ↓reduceIte, Bool.false_eq_true, not_false_eq_true, not_true_eq_false, Nat.reduceLeDiff, Nat.reduceAdd, Nat.reduceEqDiff, Int.reduceToNat, Int.toNat_natCast, iB0, iB1, ru_klI, ru_klR, ru_klF, ru_klJ, ru_kl0, ru_cs0, ru_csI, ru_csR, ru_csF, ru_csJ, wI_add, wI_sub, wI_mul, wI_lt, wI_le, wI_inj, ru_fdE, ru_fdN, ru_iaN, ru_baN, ru_laN, ru_qaN, ru_pfN, ru_isN, ru_bsN, ru_jsN, ru_qsN, ru_set2, Nat.add_right_cancel_iff, if_true, if_false, ite_self, Int.reduceEq, and_self, Int.add_neg_cancel_right, Int.add_zero, Int.zero_add, ru_ctR, c, c2, p1]
    · rw [if_neg c] at eN eL
      obtain ⟨nv, hnv⟩ := Int.eq_ofNat_of_zero_le (show 0 ≤ v by omega)
      have eW : itW F L ns1 k = F nv ++ [32] ++ L nv := by rw [itW, n1k, if_neg c, hnv, Int.toNat_natCast]
      obtain ⟨X3, Q, X4, r4, cap4, p1, p2, p3, p4⟩ := tx_full (z := z) (k := nv) hk s2 (by show (nv : Int) < A.1 1; omega) (by omega) (by omega)
      obtain ⟨X5, q1, q2, q3, -, -⟩ := tx_giv (z := z) hk p3 hR (f := f) (k := e j) (nm := v) hf ej (by omega)
      have ag := agT_t v5 (agT_t s3 (agT_t p4 q3))
      have el : (l0 ++ itT F L ns k) ++ (if k = 0 then lwT 12 else lwT 11) ++ (F nv ++ [32] ++ L nv) = l0 ++ itT F L ns1 (k + 1) := by rw [eT, eW, List.append_assoc, List.append_assoc]
      rw [el, ylU_s, ylU_up, ← eL] at q2
      have wl : (F nv ++ [32] ++ L nv).length ≤ 6 := by
        obtain ⟨-, -, -, -, -, -, len⟩ := htx.2.2.1 nv (by show (nv : Int) < A.1 1; omega)
        rw [List.length_append, List.length_append]; show (F nv).length + 1 + (L nv).length ≤ 6; omega
      obtain ⟨X', r', cap', ns', u1, u2, u3, u4, u5⟩ := ih (k + 1) (by omega) X5 (t + 1) r4 cap4 ns1 (some (.int (wI (e j)))) (some (.int (wI v))) n1b q2 (by rw [eT, eW, List.length_append, List.length_append]; omega) (by omega) (by have := ag.2.1; omega) (by rcases ag.2.2.2.2.1 with h | h <;> omega) (by rw [ag.1 ha h1 (Or.inr hha.1) hha.2 h2]; exact h3)
      refine ⟨X', r', cap', ns', u1, by rw [show t + (d + 1) = t + 1 + d by omega]; exact u2, u3, agT_m (agT_t ag u4) (by omega) (by omega), ?_⟩
      rw [eN, show (((k + 1 : Nat)) : Int) = (k : Int) + 1 by omega, show ((gfN ns k + 1 : Nat) : Int) = (gfN ns k : Int) + 1 by omega] at u5
      rw [← u5]
      have c2 : (0 ≤ v) = True := eq_true (by omega)
      have c3 : (v < 0) = False := eq_false (by omega)
      rw [← hnv] at p1
      simp (disch := omega) only [e418_192, e418_194, e418_197, e418_200, e418_203, e418_204, e418_206, e418_209, e418_212, e418_213, e418_215, e418_218, e418_221, e418_222, e418_223, e418_225, e418_227, e418_230, e418_233, e418_236, ↓reduceIte, Bool.false_eq_true, not_false_eq_true, not_true_eq_false, Nat.reduceLeDiff, Nat.reduceAdd, Nat.reduceEqDiff, Int.reduceToNat, Int.toNat_natCast, iB0, iB1, ru_klI, ru_klR, ru_klF, ru_klJ, ru_kl0, ru_cs0, ru_csI, ru_csR, ru_csF, ru_csJ, wI_add, wI_sub, wI_mul, wI_lt, wI_le, wI_inj, ru_fdE, ru_fdN, ru_iaN, ru_baN, ru_laN, ru_qaN, ru_pfN, ru_isN, ru_bsN, ru_jsN, ru_qsN, ru_set2, Nat.add_right_cancel_iff, if_true, if_false, ite_self, Int.reduceEq, and_self, Int.add_neg_cancel_right, Int.add_zero, Int.zero_add, ru_ctR, c2, c3, p1, p2, q1]
end ROWT
