/-! ===== the class reads an item ===== -/
section ITM
variable {z : Bool} {C0 C C' : tCl} {n A N R : Nat} {F L : Nat → List Nat} {h : am_H} {q : tPh}
theorem sbT_21 : sbT 21 = sbT 6 := rfl
theorem sbT_22 : sbT 22 = sbT 5 := rfl
theorem f98s (hR : 1315 ≤ R) (hst : strs h) (hq : fpI C0 C q) {T : List Nat} {gv : Int} {T0 t : Nat} {Q : Nat → Int} {fi : Nat → Int64} (hT0 : T0 ≤ 12) (ht0 : t < T0) (ht : tkw C n (sbT 21) T) (hT : enT T) : ∃ C', ru_ev z 98 [.ref R] (clPut (rdH h R (A + 1) (gv, T0, t, Q, fi)) C) = some (.inl none, clPut (rdH h R (A + 1) (gv, T0, (t : Int) + 1, Q, fi)) C') ∧ tkT C' n T ∧ fpI C0 C' q := by
  obtain ⟨s0, p0, -⟩ := id ht
  obtain ⟨C1, a1, a2, a3⟩ := av_T (z := z) hT p0
  refine ⟨C1, ?_, a2, fpI_S hq a3⟩
  have x := fw28 (z := z) (strs_rd (nm := A + 1) (S := (gv, (T0 : Int), (t : Int), Q, fi)) hR hst) (i := 21) (by decide) (by decide) ht
  rw [if_pos rfl] at x
  have y := a1 (rdH h R (A + 1) (gv, (T0 : Int), (t : Int) + 1, Q, fi))
  have d1 : ((T0 : Int) ≤ (t : Int)) = False := eq_false (by omega)
  have d2 : ((1 : Int) = 0) = False := eq_false (by decide)
  simp (disch := omega) only [e98_0, e98_1, e98_4, e98_6, e98_9, e98_12, e98_13, e98_16, e98_17, e98_20, e98_21, e98_24, e98_27, e98_28, e98_31, e98_32, e98_34, e98_37, e98_38, e98_39, e98_42, e98_43, e98_44, e98_47, e98_48, e98_51, e98_54, en98, ↓reduceIte, Bool.false_eq_true, not_false_eq_true, not_true_eq_false, Nat.reduceLeDiff, Nat.reduceAdd, Nat.reduceEqDiff, Int.reduceToNat, Int.toNat_natCast, iB0, iB1, ru_klI, ru_klR, ru_klF, ru_klJ, ru_kl0, ru_cs0, ru_csI, ru_csR, ru_csF, ru_csJ, wI_add, wI_sub, wI_mul, wI_lt, wI_le, wI_inj, ru_fdE, ru_fdN, ru_iaN, ru_baN, ru_laN, ru_qaN, ru_pfN, ru_isN, ru_bsN, ru_jsN, ru_qsN, ru_set2, Nat.add_right_cancel_iff, if_true, if_false, ite_self, Int.reduceEq, and_self, Int.add_neg_cancel_right, Int.add_zero, Int.zero_add, Nat.reduceAdd, rd_e hR, rd_f0 hR, rd_f6 hR, rd_f7 hR, rd_s7 hR, x, d1, d2, fw36, ru_ctR, y]
theorem f98n (hR : 1315 ≤ R) (hst : strs h) (hs : nmS C0 A N F L) (hq : fpI C0 C q) {T : List Nat} {gv : Int} {T0 t c km : Nat} {Q : Nat → Int} {fi : Nat → Int64} (hT0 : T0 ≤ 12) (ht0 : t < T0) (hQ : Q t = (km : Int)) (hk : (km : Int) < q.1 7) (hc : c < N) (ht : tkw C n (F c) ([32] ++ (L c ++ T))) (hT : enT T) : ∃ (C' : tCl) (fi' : Nat → Int64), ru_ev z 98 [.ref R] (clPut (rdH h R (A + 1) (gv, T0, t, Q, fi)) C) = some (.inl none, clPut (rdH h R (A + 1) (gv + 1, T0, (t : Int) + 1, Q, fi')) C') ∧ tkT C' n T ∧ fpI C0 C' (gvQ q km c) := by
  have N20 := hs.2.2.1
  have s7 := phR_s hq.2.2.2
  obtain ⟨⟨w1, w2⟩, -, w4, -⟩ := hs.2.2.2 c hc
  obtain ⟨s0, p0, -⟩ := id ht
  obtain ⟨C1, a1, a2, a3⟩ := av_w (z := z) p0 spK_1 w2 (enT_l hT)
  have q1 := fpI_S hq a3
  have q2 := fpI_gv (k := km) q1 (nm := (c : Int)) (by omega)
  obtain ⟨s1, p1, -⟩ := id a2
  have p3 : poR (gvC C1 km c) n (s1 + (L c).length) T := poR_c p1 (phP_1 (by decide)) (phP_2 (by decide))
  obtain ⟨C3, b1, b2, b3⟩ := av_T (z := z) hT p3
  refine ⟨C3, am_up fi 0 (wdL (lsF (F c))), ?_, b2, fpI_S q2 b3⟩
  have st : ∀ S, strs (rdH h R (A + 1) S) := fun S => strs_rd hR hst
  have x1 := fw28 (z := z) (st (gv, (T0 : Int), (t : Int), Q, fi)) (i := 21) (by decide) (by decide) ht
  rw [if_neg (by rw [sbT_21]; exact (w4 6 (by decide) (by decide)).1)] at x1
  have x2 := fw42 (z := z) (st (gv, (T0 : Int), (t : Int), Q, fi)) ht (fun j h1 h2 => (w4 j h1 h2).1)
  have x3 := a1 (rdH h R (A + 1) (gv, (T0 : Int), (t : Int), Q, am_up fi 0 (wdL (lsF (F c)))))
  have x4 := fw28 (z := z) (st (gv, (T0 : Int), (t : Int), Q, am_up fi 0 (wdL (lsF (F c))))) (i := 22) (by decide) (by decide) a2
  rw [if_neg (by rw [sbT_22]; exact (w4 5 (by decide) (by decide)).2)] at x4
  have x5 := fw42 (z := z) (st (gv, (T0 : Int), (t : Int), Q, am_up fi 0 (wdL (lsF (F c))))) a2 (fun j h1 h2 => (w4 j h1 h2).2)
  have x6 := fw99 (z := z) (h := h) (S := (gv, (T0 : Int), (t : Int), Q, am_up fi 0 (wdL (lsF (F c))))) hR (nmS_pr hs q1.1) hc
  have x7 := gvC_run (z := z) (h := h) hR q1 hk (nm := (c : Int)) (by omega) (nn := A + 1) (S := (gv, (T0 : Int), (t : Int), Q, am_up fi 0 (wdL (lsF (F c)))))
  have x8 := b1 (rdH h R (A + 1) (gv + 1, (T0 : Int), (t : Int) + 1, Q, am_up fi 0 (wdL (lsF (F c)))))
  have d1 : ((T0 : Int) ≤ (t : Int)) = False := eq_false (by omega)
  have u0 : am_up fi 0 (wdL (lsF (F c))) 0 = wdL (lsF (F c)) := if_pos rfl
  have rq : am_ia (clPut (rdH h R (A + 1) (gv, (T0 : Int), (t : Int), Q, am_up fi 0 (wdL (lsF (F c))))) C1) (R + 1) (wI (t : Int)) = some (wI km) := by rw [rd_q hR (by omega) (by omega)]; show some (wI (Q (t : Int).toNat)) = _; rw [Int.toNat_natCast, hQ]
  have rj : am_js (clPut (rdH h R (A + 1) (gv, (T0 : Int), (t : Int), Q, fi)) C) (R + 2) (wI 0) (wdL (lsF (F c))) = some (clPut (rdH h R (A + 1) (gv, (T0 : Int), (t : Int), Q, am_up fi 0 (wdL (lsF (F c))))) C) := rd_j hR (by omega) (by omega)
  have rl : am_la (clPut (rdH h R (A + 1) (gv, (T0 : Int), (t : Int), Q, am_up fi 0 (wdL (lsF (F c))))) C1) (R + 2) (wI 0) = some (wdL (lsF (F c))) := (rd_l hR (by omega) (by omega)).trans (congrArg some u0)
  have d2 : ((1 : Int) = 0) = False := eq_false (by decide)
  have d3 : ((12 : Int) < 0) = False := eq_false (by decide)
  have d4 : ((12 : Int) < 1) = False := eq_false (by decide)
  have d5 : ((1 : Int) ≤ 0) = False := eq_false (by decide)
  have d6 : ((1 : Int) ≤ 1) = True := eq_true (by decide)
  simp (disch := omega) only [en98, e98_0, ↓reduceIte, Bool.false_eq_true, not_false_eq_true, not_true_eq_false, Nat.reduceLeDiff, Nat.reduceAdd, Nat.reduceEqDiff, Int.reduceToNat, Int.toNat_natCast, iB0, iB1, ru_klI, ru_klR, ru_klF, ru_klJ, ru_kl0, ru_cs0, ru_csI, ru_csR, ru_csF, ru_csJ, wI_add, wI_sub, wI_mul, wI_lt, wI_le, wI_inj, ru_fdE, ru_fdN, ru_iaN, ru_baN, ru_laN, ru_qaN, ru_pfN, ru_isN, ru_bsN, ru_jsN, ru_qsN, ru_set2, Nat.add_right_cancel_iff, if_true, if_false, ite_self, Int.reduceEq, and_self, Int.add_neg_cancel_right, Int.add_zero, Int.zero_add, Nat.reduceAdd, e98_1, e98_4, e98_6, e98_9, e98_55, e98_56, e98_57, e98_58, e98_59, e98_60, e98_62, e98_65, e98_66, e98_69, e98_70, e98_73, e98_76, e98_77, e98_78, e98_81, e98_82, e98_85, e98_86, e98_87, e98_88, e98_91, e98_94, e98_95, e98_98, e98_99, e98_101, e98_104, e98_105, e98_108, e98_109, e98_110, e98_111, e98_112, e98_115, e98_118, e98_119, e98_122, e98_124, e98_127, e98_128, e98_129, e98_132, e98_133, e98_136, e98_139, e98_142, e98_145, e98_146, e98_149, e98_152, e98_153, e98_154, e98_156, e98_158, e98_159, e98_162, e98_163, e98_164, e98_167, e98_168, e98_171, e98_173, e98_174, e98_175, e98_176, e98_177, e98_180, e98_182, e98_183, e98_184, e98_187, e98_190, e98_193, e98_196, e98_197, e98_198, e98_201, e98_202, e98_203, e98_206, e98_207, e98_210, e98_213, rd_e hR, rd_f0 hR, rd_f5 hR, rd_f6 hR, rd_f7 hR, rd_f8 hR, rd_s7 hR, x1, x2, x3, x4, x5, x6, x7, x8, d1, d2, d3, d4, d5, d6, fw36, ru_ctR, rq, rj, rl, Int.reduceLT, Int.reduceLE, Int.reduceAdd]
end ITM
