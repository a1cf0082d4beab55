/-! ===== all is the same: the law looks ===== -/
section LIK2
variable {z : Bool} {B : Nat} {A : tLw} {n : Nat} {g : Nat → Int32} {F L : Nat → List Nat} {NN P : Nat} {t : Nat}
theorem d403f {C : tCl} {X : am_H} {f : Nat} (h : acI X B A n g t F L C NN P) (hf : f < P) {v3 : Int32} {l5 : Option Value} : ∀ d k : Nat, k + d = 4 → ru_n z 403 82 [some (.ref 1000), some (.ref (B + 1)), some (.int (wI f)), some (.int v3), some (.int (wI k)), l5] [] X = ru_n z 403 115 [some (.ref 1000), some (.ref (B + 1)), some (.int (wI f)), some (.int v3), some (.int (wI 4)), l5] [] X := by
  obtain ⟨rc, pq, rq, hf3, rp⟩ := ac_rc h hf
  have y := h.1.1
  intro d
  induction d with
  | zero =>
    intro k hk
    obtain rfl : k = 4 := by omega
    have d4 : ((4 : Int) ≤ ((4 : Nat) : Int)) = True := eq_true (by decide)
    simp (disch := omega) only [e403_82, e403_84, e403_85, ↓reduceIte, Bool.false_eq_true, not_false_eq_true, not_true_eq_false, Nat.reduceLeDiff, Nat.reduceAdd, Nat.reduceEqDiff, Int.reduceToNat, Int.toNat_natCast, iB0, iB1, ru_klI, ru_klR, ru_klF, ru_klJ, ru_kl0, ru_cs0, ru_csI, ru_csR, ru_csF, ru_csJ, wI_add, wI_sub, wI_mul, wI_lt, wI_le, wI_inj, ru_fdE, ru_fdN, ru_iaN, ru_baN, ru_laN, ru_qaN, ru_pfN, ru_isN, ru_bsN, ru_jsN, ru_qsN, ru_set2, Nat.add_right_cancel_iff, if_true, if_false, ite_self, Int.reduceEq, and_self, Int.add_neg_cancel_right, Int.add_zero, Int.zero_add, d4]
    rfl
  | succ d ih =>
    intro k hk
    rw [← ih (k + 1) (by omega), e403_82]
    have d4 : ((4 : Int) ≤ (k : Int)) = False := eq_false (by omega)
    have k1 := lk167 (z := z) h hf (w := k) (by omega)
    have r1 := yl_fr y hf3 (k := (k : Int)) (by omega) (by omega)
    rw [Int.toNat_natCast] at r1
    simp only [Int.natCast_add, Int.natCast_one]
    simp (disch := omega) only [e403_84, e403_85, e403_88, e403_89, e403_90, e403_92, e403_95, e403_96, e403_99, e403_100, e403_101, e403_103, e403_104, e403_107, e403_108, e403_109, e403_112, ↓reduceIte, Bool.false_eq_true, not_false_eq_true, not_true_eq_false, Nat.reduceLeDiff, Nat.reduceAdd, Nat.reduceEqDiff, Int.reduceToNat, Int.toNat_natCast, iB0, iB1, ru_klI, ru_klR, ru_klF, ru_klJ, ru_kl0, ru_cs0, ru_csI, ru_csR, ru_csF, ru_csJ, wI_add, wI_sub, wI_mul, wI_lt, wI_le, wI_inj, ru_fdE, ru_fdN, ru_iaN, ru_baN, ru_laN, ru_qaN, ru_pfN, ru_isN, ru_bsN, ru_jsN, ru_qsN, ru_set2, Nat.add_right_cancel_iff, if_true, if_false, ite_self, Int.reduceEq, and_self, Int.add_neg_cancel_right, Int.add_zero, Int.zero_add, yl_o y, d4, k1, yl_f9 y, yl_q9 y hf3, r1, not_true, not_false_iff]
theorem d403k (hk : txK B n) {f : Nat} (hf : f < P) {r : Nat → Int} {rc : Int} (w : rwOK (shS (A.2.1 f)) (shY (A.2.1 f)) (A.1 0) r rc) {ra cnt : Nat} (hra : 1315 ≤ ra) : ∀ d k : Nat, k + d = cnt → ∀ (X : am_H) (C : tCl), acI X B A n g t F L C NN P → (A.2.1 f).1 7 = (cnt : Int) → X.1 ra = some (ylI 0 12 r) → ∃ (X' : am_H) (C' : tCl), acI X' B A n g t F L C' NN P ∧ X'.2 = X.2 ∧ ru_n z 403 125 [some (.ref 1000), some (.ref (B + 1)), some (.int (wI f)), some (.int (wI ((bsN (shw (A.2.1 f)) k : Nat) : Int))), some (.ref ra), some (.int (wI k))] [] X = ru_n z 403 259 [some (.ref 1000), some (.ref (B + 1)), some (.int (wI f)), some (.int (wI ((bsN (shw (A.2.1 f)) cnt : Nat) : Int))), some (.ref ra), some (.int (wI cnt))] [] X' := by
  intro d
  induction d with
  | zero =>
    intro k hkd X C h hc hx
    obtain rfl : k = cnt := by omega
    obtain ⟨m8, m8'⟩ := ac_m h hf
    rw [hc] at m8'
    have s := phR_s (ac_rc h hf).2.2.2.2
    have d1 : ((k : Int) ≤ (k : Int)) = True := eq_true (Int.le_refl _)
    refine ⟨X, C, h, rfl, ?_⟩
    simp (disch := omega) only [e403_125, e403_127, e403_128, e403_131, e403_132, e403_133, ↓reduceIte, Bool.false_eq_true, not_false_eq_true, not_true_eq_false, Nat.reduceLeDiff, Nat.reduceAdd, Nat.reduceEqDiff, Int.reduceToNat, Int.toNat_natCast, iB0, iB1, ru_klI, ru_klR, ru_klF, ru_klJ, ru_kl0, ru_cs0, ru_csI, ru_csR, ru_csF, ru_csJ, wI_add, wI_sub, wI_mul, wI_lt, wI_le, wI_inj, ru_fdE, ru_fdN, ru_iaN, ru_baN, ru_laN, ru_qaN, ru_pfN, ru_isN, ru_bsN, ru_jsN, ru_qsN, ru_set2, Nat.add_right_cancel_iff, if_true, if_false, ite_self, Int.reduceEq, and_self, Int.add_neg_cancel_right, Int.add_zero, Int.zero_add, yl_o h.1.1, m8, m8', d1]
  | succ d ih =>
    intro k hkd X C h hc hx
    obtain ⟨rc0, pq, rq, hf3, rp⟩ := ac_rc h hf
    obtain ⟨m8, m8'⟩ := ac_m h hf
    rw [hc] at m8'
    have s := phR_s rp
    have hk7 : (k : Int) < (A.2.1 f).1 7 := by omega
    have y := h.1.1
    have yr := h.2.1.2.2.2.2.2.1
    obtain ⟨C', h', k198⟩ := lk198 (z := z) hk h hf hk7 w
    obtain ⟨X2, C2, h2, e2, run⟩ := ih (k + 1) (by omega) (clPut X C') C' h' hc (by rw [clPut_o (by omega)]; exact hx)
    refine ⟨X2, C2, h2, e2, ?_⟩
    rw [← run, e403_125]
    have d1 : ((cnt : Int) ≤ (k : Int)) = False := eq_false (by omega)
    have k408 := d408 (z := z) y yr (f := f) (k := k) hf3 (by omega)
    have k173 := lk173 (z := z) h hf hk7
    have k178 := lk178 (z := z) h hf hk7
    have k221 := lk221 (z := z) h hf hk7
    have k411 := d411 (z := z) y yr (f := f) (k := k) hf3 (by omega)
    have k410 := d410 (z := z) y (f := f) (k := k) hf3 (by omega)
    have rn := yl_n y hf3 (k := (k : Int)) (by omega) (by omega)
    have rr : am_ia (clPut X C') ra (wI (k : Int)) = some (wI (r k)) := by
      have := yl_ia (X := clPut X C') (a := ra) (n := 12) (g := r) (by rw [clPut_o (by omega)]; exact hx) (k := (k : Int)) (by omega) (by omega) (by omega)
      rw [Int.toNat_natCast] at this
      exact this
    rw [Int.toNat_natCast] at rn
    have pi := phR_i rp k
    have d0 : ((0 : Int) = 0) = True := eq_true rfl
    have d10 : ((1 : Int) = 0) = False := eq_false (by decide)
    have bb := bsN_b (P := shw (A.2.1 f)) (k := k) (by omega)
    have bl := bsN_lt (shw (A.2.1 f)) k
    simp only [Int.natCast_add, Int.natCast_one]
    by_cases c : shw (A.2.1 f) k = true
    · rw [if_pos c] at k408 k173 k178
      have eo : wI ((bsN (shw (A.2.1 f)) k : Nat) : Int) ||| wI 1 <<< (wI (k : Int) &&& 31) = wI ((bsN (shw (A.2.1 f)) (k + 1) : Nat) : Int) := by
        rw [wI_shl1 (by omega) (by omega), Int.toNat_natCast, wI_nat_or (by omega) (by omega), bsN_t c]
      simp (disch := omega) only [e403_127, e403_128, e403_131, e403_132, e403_133, e403_136, e403_137, e403_138, e403_139, e403_141, e403_144, e403_147, e403_148, e403_150, e403_151, e403_154, e403_155, e403_156, e403_157, e403_158, e403_159, e403_161, e403_164, e403_165, e403_166, e403_168, e403_171, e403_174, e403_175, e403_176, e403_178, e403_181, e403_182, e403_183, e403_185, e403_188, e403_191, e403_194, e403_195, e403_196, e403_198, e403_201, e403_202, e403_203, e403_204, e403_206, e403_209, e403_210, e403_213, e403_214, e403_217, e403_218, e403_219, e403_221, e403_224, e403_225, e403_228, e403_229, e403_230, e403_232, e403_233, e403_236, e403_237, e403_238, e403_240, e403_243, e403_245, e403_247, e403_248, e403_251, e403_252, e403_253, e403_256, ↓reduceIte, Bool.false_eq_true, not_false_eq_true, not_true_eq_false, Nat.reduceLeDiff, Nat.reduceAdd, Nat.reduceEqDiff, Int.reduceToNat, Int.toNat_natCast, iB0, iB1, ru_klI, ru_klR, ru_klF, ru_klJ, ru_kl0, ru_cs0, ru_csI, ru_csR, ru_csF, ru_csJ, wI_add, wI_sub, wI_mul, wI_lt, wI_le, wI_inj, ru_fdE, ru_fdN, ru_iaN, ru_baN, ru_laN, ru_qaN, ru_pfN, ru_isN, ru_bsN, ru_jsN, ru_qsN, ru_set2, Nat.add_right_cancel_iff, if_true, if_false, ite_self, Int.reduceEq, and_self, Int.add_neg_cancel_right, Int.add_zero, Int.zero_add, yl_o y, m8, m8', d1, k408, d10, eo, k173, k178, k221, k411, k410, yl_f12 y, yl_q21 y hf3, rn, k198, rr, not_true, not_false_iff]
    · rw [if_neg c] at k408 k173 k178
      have eo : wI ((bsN (shw (A.2.1 f)) k : Nat) : Int) ||| wI 0 = wI ((bsN (shw (A.2.1 f)) (k + 1) : Nat) : Int) := by
        have e := wI_nat_or (a := bsN (shw (A.2.1 f)) k) (b := 0) (by omega) (by omega)
        rw [Nat.or_zero] at e
        rw [bsN_f c]
        exact e
      simp (disch := omega) only [e403_127, e403_128, e403_131, e403_132, e403_133, e403_136, e403_137, e403_138, e403_139, e403_141, e403_144, e403_147, e403_148, e403_150, e403_151, e403_154, e403_155, e403_156, e403_157, e403_158, e403_159, e403_161, e403_164, e403_165, e403_166, e403_168, e403_171, e403_174, e403_175, e403_176, e403_178, e403_181, e403_182, e403_183, e403_185, e403_188, e403_191, e403_194, e403_195, e403_196, e403_198, e403_201, e403_202, e403_203, e403_204, e403_206, e403_209, e403_210, e403_213, e403_214, e403_217, e403_218, e403_219, e403_221, e403_224, e403_225, e403_228, e403_229, e403_230, e403_232, e403_233, e403_236, e403_237, e403_238, e403_240, e403_243, e403_245, e403_247, e403_248, e403_251, e403_252, e403_253, e403_256, ↓reduceIte, Bool.false_eq_true, not_false_eq_true, not_true_eq_false, Nat.reduceLeDiff, Nat.reduceAdd, Nat.reduceEqDiff, Int.reduceToNat, Int.toNat_natCast, iB0, iB1, ru_klI, ru_klR, ru_klF, ru_klJ, ru_kl0, ru_cs0, ru_csI, ru_csR, ru_csF, ru_csJ, wI_add, wI_sub, wI_mul, wI_lt, wI_le, wI_inj, ru_fdE, ru_fdN, ru_iaN, ru_baN, ru_laN, ru_qaN, ru_pfN, ru_isN, ru_bsN, ru_jsN, ru_qsN, ru_set2, Nat.add_right_cancel_iff, if_true, if_false, ite_self, Int.reduceEq, and_self, Int.add_neg_cancel_right, Int.add_zero, Int.zero_add, yl_o y, m8, m8', d1, k408, d0, eo, k173, k178, k221, k411, k410, yl_f12 y, yl_q21 y hf3, rn, k198, rr, not_true, not_false_iff]
theorem d403l (hk : txK B n) : ∀ d f : Nat, f + d = P → ∀ (X : am_H) (C : tCl) (l3 l4 l5 : Option Value), acI X B A n g t F L C NN P → (∀ v, l3 ≠ some (.long v)) → ∃ (X' : am_H) (C' : tCl), acI X' B A n g t F L C' NN P ∧ X'.2.1 ≤ X.2.1 + 4 * d ∧ X'.2.2 ≤ X.2.2 + 48 * d ∧ ru_n z 403 26 [some (.ref 1000), some (.ref (B + 1)), some (.int (wI f)), l3, l4, l5] [] X = some (.inl (some (.int (wI 1))), X') := by
  intro d
  have w1 : wI 1 &&& 1 = wI 1 := by decide +kernel
  induction d with
  | zero =>
    intro f hfd X C l3 l4 l5 h hl3
    obtain rfl : f = P := by omega
    have f3 := yl_f3 h.1.1
    rw [h.2.1.2.2.1] at f3
    have hP := h.2.1.2.2.2.1
    have d1 : ((f : Int) ≤ (f : Int)) = True := eq_true (Int.le_refl _)
    refine ⟨X, C, h, by omega, by omega, ?_⟩
    simp (disch := omega) only [e403_26, e403_27, e403_28, e403_31, e403_276, e403_277, ↓reduceIte, Bool.false_eq_true, not_false_eq_true, not_true_eq_false, Nat.reduceLeDiff, Nat.reduceAdd, Nat.reduceEqDiff, Int.reduceToNat, Int.toNat_natCast, iB0, iB1, ru_klI, ru_klR, ru_klF, ru_klJ, ru_kl0, ru_cs0, ru_csI, ru_csR, ru_csF, ru_csJ, wI_add, wI_sub, wI_mul, wI_lt, wI_le, wI_inj, ru_fdE, ru_fdN, ru_iaN, ru_baN, ru_laN, ru_qaN, ru_pfN, ru_isN, ru_bsN, ru_jsN, ru_qsN, ru_set2, Nat.add_right_cancel_iff, if_true, if_false, ite_self, Int.reduceEq, and_self, Int.add_neg_cancel_right, Int.add_zero, Int.zero_add, yl_o h.1.1, f3, d1, w1]
  | succ d ih =>
    intro f hfd X C l3 l4 l5 h hl3
    have hf : f < P := by omega
    obtain ⟨rc0, pq, rq, hf3, rp⟩ := ac_rc h hf
    obtain ⟨m8, m8'⟩ := ac_m h hf
    have hw := h.2.1
    have yr := hw.2.2.2.2.2.1
    have gap := hw.2.2.2.2.1
    have hX := h.2.2.2.1
    have hP3 := hw.2.2.2.1
    obtain ⟨kB1, kB2, kB3⟩ := id hk
    have s := phR_s rp
    obtain ⟨-, -, r0, rc, w0, -, -⟩ := d405 (z := z) h.1.1 yr (by omega) hf3 (by omega)
    -- how many rows
    obtain ⟨C1, h1, k186⟩ := lk186 (z := z) hk h hf w0
    obtain ⟨N1, g1, r1, rc1, v1, hN1, k404⟩ := d404 (z := z) h1.1.1 yr (by have := h1.2.2.2.1; omega) hf3 (by omega)
    have erc : rc1 = rc := (rwOK_uni v1 w0 (fun _ _ => rfl) (fun _ _ _ => rfl)).1
    rw [erc] at k404
    have x2 := agX_nw2 (X := clPut X C1) (r := r1) (g := g1) (N := N1) hN1
    have h2 := ac_new hk h1 x2
    -- the rows of all
    obtain ⟨N3, g3, r3, rc3, v3, hN3, k405⟩ := d405 (z := z) h2.1.1 yr (by have := h2.2.2.2.1; omega) hf3 (by omega)
    have x3 := agX_nw2 (X := nw2 (clPut X C1) r1 N1 g1) (r := r3) (g := g3) (N := N3) hN3
    have h3 := ac_new hk h2 x3
    obtain ⟨cnt, hcnt⟩ : ∃ c : Nat, (A.2.1 f).1 7 = (c : Int) := ⟨((A.2.1 f).1 7).toNat, by omega⟩
    have hra := h2.2.2.2.1
    obtain ⟨X4, C4, h4, e4, run4⟩ := d403k (z := z) hk hf v3 hra cnt 0 (by omega) _ _ h3 hcnt nw2_e1
    have k181 := lk181 (z := z) h4 hf
    rw [hcnt, Int.toNat_natCast] at k181
    obtain ⟨X5, C5, h5, e5, e6, run5⟩ := ih (f + 1) (by omega) X4 C4 (some (.int (wI ((bsN (shw (A.2.1 f)) cnt : Nat) : Int)))) (some (.ref (nw2 (clPut X C1) r1 N1 g1).2.1)) (some (.int (wI cnt))) h4 (fun v e => by cases e)
    have sz : X4.2.1 ≤ X.2.1 + 4 ∧ X4.2.2 ≤ X.2.2 + 48 := by
      have a1 := x2.2.2
      have a2 := x3.2.2
      have a3 : (clPut X C1).2 = X.2 := rfl
      rw [e4]
      rw [a3] at a1
      omega
    refine ⟨X5, C5, h5, by omega, by omega, ?_⟩
    rw [← run5, e403_26]
    have f3 := yl_f3 h.1.1
    rw [hw.2.2.1] at f3
    have d1 : ((P : Int) ≤ (f : Int)) = False := eq_false (by omega)
    have k164 := lk164 (z := z) h hf
    have k170 := lk170 (z := z) h hf
    have r25 := yl_25 h.1.1 hf3
    have run4' : ru_n z 403 125 [some (.ref 1000), some (.ref (B + 1)), some (.int (wI f)), some (.int (wI 0)), some (.ref (nw2 (clPut X C1) r1 N1 g1).2.1), some (.int (wI 0))] [] (nw2 (nw2 (clPut X C1) r1 N1 g1) r3 N3 g3) = _ := run4
    have kf := d403f (z := z) h2 hf (v3 := wI 0) (l5 := l5) 4 0 (by omega)
    have kf' : ru_n z 403 82 [some (.ref 1000), some (.ref (B + 1)), some (.int (wI f)), some (.int (wI 0)), some (.int (wI 0)), l5] [] (nw2 (clPut X C1) r1 N1 g1) = _ := kf
    have rcb := rwOK_rc w0
    have bb := bsN_b (P := shw (A.2.1 f)) (k := cnt) (by omega)
    simp only [Int.natCast_add, Int.natCast_one]
    simp (disch := omega) only [e403_27, e403_28, e403_31, e403_34, e403_35, e403_36, e403_37, e403_38, e403_41, e403_42, e403_45, e403_46, e403_47, e403_50, e403_51, e403_52, e403_55, e403_56, e403_59, e403_60, e403_61, e403_64, e403_65, e403_66, e403_69, e403_70, e403_71, e403_74, e403_77, e403_78, e403_79, e403_80, e403_115, e403_116, e403_117, e403_120, e403_122, e403_123, e403_259, e403_260, e403_261, e403_264, e403_265, e403_268, e403_269, e403_270, e403_273, ↓reduceIte, Bool.false_eq_true, not_false_eq_true, not_true_eq_false, Nat.reduceLeDiff, Nat.reduceAdd, Nat.reduceEqDiff, Int.reduceToNat, Int.toNat_natCast, iB0, iB1, ru_klI, ru_klR, ru_klF, ru_klJ, ru_kl0, ru_cs0, ru_csI, ru_csR, ru_csF, ru_csJ, wI_add, wI_sub, wI_mul, wI_lt, wI_le, wI_inj, ru_fdE, ru_fdN, ru_iaN, ru_baN, ru_laN, ru_qaN, ru_pfN, ru_isN, ru_bsN, ru_jsN, ru_qsN, ru_set2, Nat.add_right_cancel_iff, if_true, if_false, ite_self, Int.reduceEq, and_self, Int.add_neg_cancel_right, Int.add_zero, Int.zero_add, yl_o h.1.1, yl_o h2.1.1, f3, d1, k164, m8, m8', k170, yl_f13 h.1.1, r25, k186, k404, kf', k405, run4', k181, not_true, not_false_iff]
theorem d403 (hk : txK B n) {X : am_H} {C : tCl} (h : acI X B A n g t F L C NN P) : ∃ (X' : am_H) (C' : tCl), acI X' B A n g t F L C' NN P ∧ X'.2.1 ≤ X.2.1 + 12 ∧ X'.2.2 ≤ X.2.2 + 144 ∧ ru_ev z 403 [.ref 1000, .ref (B + 1)] X = some (.inl (some (.int (wI 1))), X') := by
  have hP := h.2.1.2.2.2.1
  obtain ⟨X', C', h', e1, e2, run⟩ := d403l (z := z) hk P 0 (by omega) X C none none none h (fun v e => by cases e)
  refine ⟨X', C', h', by omega, by omega, ?_⟩
  have k160 := lk160 (z := z) h
  have k210 := lk210 (z := z) h
  have f3 := yl_f3 h.1.1
  have f2 := yl_f2 h.1.1
  have run' : ru_n z 403 26 [some (.ref 1000), some (.ref (B + 1)), some (.int (wI 0)), none, none, none] [] X = _ := run
  simp (disch := omega) only [en403, e403_0, e403_1, e403_4, e403_5, e403_8, e403_11, e403_12, e403_15, e403_16, e403_19, e403_22, e403_23, e403_24, e403_25, ↓reduceIte, Bool.false_eq_true, not_false_eq_true, not_true_eq_false, Nat.reduceLeDiff, Nat.reduceAdd, Nat.reduceEqDiff, Int.reduceToNat, Int.toNat_natCast, iB0, iB1, ru_klI, ru_klR, ru_klF, ru_klJ, ru_kl0, ru_cs0, ru_csI, ru_csR, ru_csF, ru_csJ, wI_add, wI_sub, wI_mul, wI_lt, wI_le, wI_inj, ru_fdE, ru_fdN, ru_iaN, ru_baN, ru_laN, ru_qaN, ru_pfN, ru_isN, ru_bsN, ru_jsN, ru_qsN, ru_set2, Nat.add_right_cancel_iff, if_true, if_false, ite_self, Int.reduceEq, and_self, Int.add_neg_cancel_right, Int.add_zero, Int.zero_add, yl_o h.1.1, k160, k210, f2, f3, run', not_true, not_false_iff]
end LIK2
