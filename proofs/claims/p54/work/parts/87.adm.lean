/-! ===== a person added: the reference ===== -/
def rfA (M : tMd) (f x y : Int) : Int := if rfP M f = 0 then (acR (mph M f.toNat) x y : Nat) else rfP M f
section ADM
variable {z : Bool} {h : am_H} {M : tMd}
theorem rfP_c {M : tMd} {f : Int} (hM : mdR M) : (M.1 1 = 0 ∧ rfP M f = 1) ∨ (M.1 1 = 1 ∧ 0 ≤ f ∧ f ≤ M.1 25 - 1 ∧ rfP M f = 0) ∨ (M.1 1 = 1 ∧ ¬ (0 ≤ f ∧ f ≤ M.1 25 - 1) ∧ rfP M f = 2) := by
  have := hM.2.1
  unfold rfP
  by_cases e : M.1 1 = 0
  · exact Or.inl ⟨e, if_pos e⟩
  · rw [if_neg e]
    by_cases c : 0 ≤ f ∧ f ≤ M.1 25 - 1
    · exact Or.inr (Or.inl ⟨by omega, c.1, c.2, if_pos c⟩)
    · exact Or.inr (Or.inr ⟨by omega, c, if_neg c⟩)
theorem p362 (hM : mdR M) {f x y : Int} (g : -2147483648 ≤ f ∧ f < 2147483648) (g1 : -2147483648 ≤ x ∧ x < 2147483648) (g2 : -2147483648 ≤ y ∧ y < 2147483648) : ∃ b M', ru_ev z 362 [.ref 1315, .int (wI f), .int (wI x), .int (wI y)] (mdPut h M) = some (.inl (some (.int (wI b))), mdPut h M') ∧ chH M (rfA M f x y) (fun S' b => S' = adS (M.2 0) f.toNat ((mph M f.toNat).1 7).toNat (adX (mph M f.toNat) x) ((mph M f.toNat).1 3 + y) ∧ b = (mph M f.toNat).1 7) b M' := by
  have e := p118 (z := z) (h := h) hM
  unfold rfA
  have r2 := hM.2.2.2.2.1
  rcases rfP_c (f := f) hM with ⟨a1, a2⟩ | ⟨a1, a2, a3, a4⟩ | ⟨a1, a2, a3⟩
  · rw [a2, if_neg (by decide)]
    simp only [a1, if_true] at e
    refine ⟨0, mdT M 1, ?_, Or.inl ⟨by decide, rfl⟩⟩
    simp (disch := omega) only [en362, e362_0, e362_1, e362_4, e362_7, e362_8, e362_9, e362_10, e362_11, e362_12, e362_15, e362_16, e362_17, e362_20, e362_22, e362_23, e362_25, e362_28, e362_29, e362_30, e362_33, e362_35, e362_38, e362_39, e362_42, e362_43, e362_44, e362_47, e362_50, e362_51, e362_53, e362_56, e362_57, e362_60, e362_61, e362_62, e362_65, e362_68, e362_69, e362_70, e362_71, e362_72, e362_73, e362_76, e362_77, e362_78, e362_81, e362_84, e362_85, e362_86, e362_87, e362_88, e362_91, e362_92, e362_93, e362_96, e362_99, e362_100, e362_103, e362_104, e362_105, e362_108, e362_111, e362_112, e362_113, e362_114, e362_117, e362_118, e362_119, e362_122, e362_124, e362_125, e362_128, e362_130, e362_131, e362_132, e362_133, e362_134, e362_135, e362_136, e362_137, e362_138, e362_139, e362_140, e362_141, e362_143, e362_144, e362_145, e362_146, e362_147, e362_150, e362_151, e362_154, e362_155, e362_156, e362_157, e362_160, e362_161, e362_162, e362_165, e362_166, e362_167, e362_168, e362_171, e362_172, e362_173, e362_176, e362_177, e362_178, e362_180, e362_181, e362_182, e362_183, e362_184, e362_187, e362_188, e362_189, e362_192, e362_193, e362_194, e362_196, e362_197, e362_198, e362_201, e362_202, e362_203, e362_205, e362_206, e362_207, e362_210, e362_212, ↓reduceIte, Bool.false_eq_true, not_false_eq_true, not_true_eq_false, Nat.reduceLeDiff, Nat.reduceAdd, Nat.reduceEqDiff, Int.reduceToNat, Int.toNat_natCast, iB0, iB1, ru_klI, ru_klR, ru_klF, ru_klJ, ru_kl0, ru_cs0, ru_csI, ru_csR, ru_csF, ru_csJ, wI_add, wI_sub, wI_mul, wI_lt, wI_le, wI_inj, ru_fdE, ru_fdN, ru_iaN, ru_baN, ru_laN, ru_qaN, ru_pfN, ru_isN, ru_bsN, ru_jsN, ru_qsN, ru_set2, Nat.add_right_cancel_iff, if_true, if_false, ite_self, Int.reduceEq, and_self, Int.add_neg_cancel_right, Int.add_zero, Int.zero_add, md_e, e]
  · rw [a4, if_pos rfl]
    have a0 : (M.1 1 = 0) = False := eq_false (by omega)
    simp only [a0, if_false] at e
    obtain ⟨n, hn, rfl, hq⟩ := mph_at hM a4
    have s := phR_s hq
    simp only [Int.toNat_natCast]
    have ein : (0 ≤ (n : Int) ∧ (n : Int) ≤ M.1 25 - 1) = True := eq_true ⟨a2, a3⟩
    have h25 : (mdT M 0).1 25 = M.1 25 := rfl
    have m122 := p122 (z := z) (h := h) (M := mdT M 0) hn
    rw [mph_T] at m122
    have m281 := p281 (z := z) (h := h) (M := mdT M 0) hn (by rw [mph_T]; exact hq)
    have m282 := p282 (z := z) (h := h) (M := mdT M 0) hn (by rw [mph_T]; exact hq)
    rw [mph_T] at m281 m282
    have k1 : (mph M n).1 4 - (mph M n).1 2 + 1 - 1 = (mph M n).1 4 - (mph M n).1 2 := by omega
    have k2 : (mph M n).1 5 - (mph M n).1 3 + 1 - 1 = (mph M n).1 5 - (mph M n).1 3 := by omega
    unfold acR
    by_cases c12 : (mph M n).1 7 = 12
    · simp only [if_pos c12]
      have d1 : ((mph M n).1 7 = 12) = True := eq_true c12
      refine ⟨0, mdT M 1, ?_, Or.inl ⟨by decide, rfl⟩⟩
      simp (disch := omega) only [en362, e362_0, e362_1, e362_4, e362_7, e362_8, e362_9, e362_10, e362_11, e362_12, e362_15, e362_16, e362_17, e362_20, e362_22, e362_23, e362_25, e362_28, e362_29, e362_30, e362_33, e362_35, e362_38, e362_39, e362_42, e362_43, e362_44, e362_47, e362_50, e362_51, e362_53, e362_56, e362_57, e362_60, e362_61, e362_62, e362_65, e362_68, e362_69, e362_70, e362_71, e362_72, e362_73, e362_76, e362_77, e362_78, e362_81, e362_84, e362_85, e362_86, e362_87, e362_88, e362_91, e362_92, e362_93, e362_96, e362_99, e362_100, e362_103, e362_104, e362_105, e362_108, e362_111, e362_112, e362_113, e362_114, e362_117, e362_118, e362_119, e362_122, e362_124, e362_125, e362_128, e362_130, e362_131, e362_132, e362_133, e362_134, e362_135, e362_136, e362_137, e362_138, e362_139, e362_140, e362_141, e362_143, e362_144, e362_145, e362_146, e362_147, e362_150, e362_151, e362_154, e362_155, e362_156, e362_157, e362_160, e362_161, e362_162, e362_165, e362_166, e362_167, e362_168, e362_171, e362_172, e362_173, e362_176, e362_177, e362_178, e362_180, e362_181, e362_182, e362_183, e362_184, e362_187, e362_188, e362_189, e362_192, e362_193, e362_194, e362_196, e362_197, e362_198, e362_201, e362_202, e362_203, e362_205, e362_206, e362_207, e362_210, e362_212, ↓reduceIte, Bool.false_eq_true, not_false_eq_true, not_true_eq_false, Nat.reduceLeDiff, Nat.reduceAdd, Nat.reduceEqDiff, Int.reduceToNat, Int.toNat_natCast, iB0, iB1, ru_klI, ru_klR, ru_klF, ru_klJ, ru_kl0, ru_cs0, ru_csI, ru_csR, ru_csF, ru_csJ, wI_add, wI_sub, wI_mul, wI_lt, wI_le, wI_inj, ru_fdE, ru_fdN, ru_iaN, ru_baN, ru_laN, ru_qaN, ru_pfN, ru_isN, ru_bsN, ru_jsN, ru_qsN, ru_set2, Nat.add_right_cancel_iff, if_true, if_false, ite_self, Int.reduceEq, and_self, Int.add_neg_cancel_right, Int.add_zero, Int.zero_add, md_e, md_f25, e, h25, m53, ein, m122, d1, p54, not_true, if_true]
    · simp only [if_neg c12]
      have d1 : ((mph M n).1 7 = 12) = False := eq_false c12
      by_cases cx : 0 ≤ x ∧ x ≤ (mph M n).1 4 - (mph M n).1 2
      · by_cases cy : 0 ≤ y ∧ y ≤ (mph M n).1 5 - (mph M n).1 3
        · rw [if_pos (show (0 ≤ x ∧ x ≤ (mph M n).1 4 - (mph M n).1 2) ∧ 0 ≤ y ∧ y ≤ (mph M n).1 5 - (mph M n).1 3 from ⟨cx, cy⟩)]
          obtain ⟨n', G', w1, w2⟩ := p350 (z := z) (h := h) (M := mdT M 0) hM.2.2.1
          have q0 : upC (mdT M 0).2 1 G' 0 = M.2 0 := upC_n (by decide)
          generalize hNN : (up1 (mdT M 0).1 4 n', upC (mdT M 0).2 1 G') = N at *
          have n8 : N.2 8 = M.2 8 := by rw [← hNN]; rfl
          have n9 : N.2 9 = M.2 9 := by rw [← hNN]; rfl
          have n0 : N.2 0 = M.2 0 := by rw [← hNN]; exact q0
          have hmp : mph N n = mph M n := by rw [mph_f, mph_f, n8, n9, n0]
          obtain ⟨m, hm⟩ := Int.eq_ofNat_of_zero_le s.2.2.2.2.2.2.2.1
          have hm12 : m < 12 := by omega
          have y122 := p122 (z := z) (h := h) (M := N) hn
          rw [hmp, hm] at y122
          have r5 : am_ia (mdPut h N) 1316 (wI (54 * (n : Int) + 5)) = some (wI (m : Int)) := by
            rw [md_a0 (by omega) (by omega), n0, show (54 * (n : Int) + 5).toNat = 54 * n + 5 by omega]
            exact congrArg (fun v => some (wI v)) hm
          have w5 := sw0 (h := h) (N := N) (i := 54 * (n : Int) + 5) (v := (m : Int) + 1) (by omega) (by omega)
          rw [n0, show (54 * (n : Int) + 5).toNat = 54 * n + 5 by omega] at w5
          -- reads after the count's change, and after the first place's
          have rd : ∀ (S0 : Nat → Int) (w : Nat), w < 54 → ru_ev z 123 [.ref 1315, .int (wI n), .int (wI (w : Int))] (mdPut h (N.1, upC N.2 0 S0)) = some (.inl (some (.int (wI (S0 (54 * n + w))))), mdPut h (N.1, upC N.2 0 S0)) := fun S0 w hw => by
            have := p123 (z := z) (h := h) (M := (N.1, upC N.2 0 S0)) hn (w := w) (by omega) (by omega)
            dsimp only at this
            rw [upC_e, show ((w : Int)).toNat = w from rfl] at this
            exact this
          have wr : ∀ (S0 : Nat → Int) (w : Nat) (v : Int), w < 4 → ru_ev z 141 [.ref 1315, .int (wI n), .int (wI m), .int (wI (w : Int)), .int (wI v)] (mdPut h (N.1, upC N.2 0 S0)) = some (.inl none, mdPut h (N.1, upC N.2 0 (up1 S0 (54 * n + 6 + 4 * m + w) v))) := fun S0 w v hw => by
            have := p141 (z := z) (h := h) (N := (N.1, upC N.2 0 S0)) (n := n) (k := m) (w := w) hn hm12 hw (v := v)
            dsimp only at this
            rw [upC_e, upC_up] at this
            exact this
          have S1 : ∀ w, w < 5 → up1 (M.2 0) (54 * n + 5) ((m : Int) + 1) (54 * n + w) = M.2 0 (54 * n + w) := fun w hw => up1_n (by omega)
          have S2 : ∀ px w, w < 5 → up1 (up1 (M.2 0) (54 * n + 5) ((m : Int) + 1)) (54 * n + 6 + 4 * m + 0) px (54 * n + w) = M.2 0 (54 * n + w) := fun px w hw => by rw [up1_n (by omega)]; exact S1 w hw
          have x4 := rd (up1 (M.2 0) (54 * n + 5) ((m : Int) + 1)) 4 (by decide)
          have x2 := rd (up1 (M.2 0) (54 * n + 5) ((m : Int) + 1)) 2 (by decide)
          have x0 := rd (up1 (M.2 0) (54 * n + 5) ((m : Int) + 1)) 0 (by decide)
          have x1 := fun px => rd (up1 (up1 (M.2 0) (54 * n + 5) ((m : Int) + 1)) (54 * n + 6 + 4 * m + 0) px) 1 (by decide)
          rw [S1 4 (by decide), show M.2 0 (54 * n + 4) = (mph M n).1 6 from rfl, show ((4 : Nat) : Int) = 4 from rfl] at x4
          rw [S1 2 (by decide), show M.2 0 (54 * n + 2) = (mph M n).1 4 from rfl, show ((2 : Nat) : Int) = 2 from rfl] at x2
          rw [S1 0 (by decide), show M.2 0 (54 * n + 0) = (mph M n).1 2 from rfl, show ((0 : Nat) : Int) = 0 from rfl] at x0
          have x1 : ∀ px, ru_ev z 123 [.ref 1315, .int (wI n), .int (wI 1)] (mdPut h (N.1, upC N.2 0 (up1 (up1 (M.2 0) (54 * n + 5) ((m : Int) + 1)) (54 * n + 6 + 4 * m + 0) px))) = some (.inl (some (.int (wI ((mph M n).1 3)))), mdPut h (N.1, upC N.2 0 (up1 (up1 (M.2 0) (54 * n + 5) ((m : Int) + 1)) (54 * n + 6 + 4 * m + 0) px))) := fun px => by
            have := x1 px
            rw [S2 px 1 (by decide)] at this
            exact this
          have v0 := fun px => wr (up1 (M.2 0) (54 * n + 5) ((m : Int) + 1)) 0 px (by decide)
          have v1 := fun px py => wr (up1 (up1 (M.2 0) (54 * n + 5) ((m : Int) + 1)) (54 * n + 6 + 4 * m + 0) px) 1 py (by decide)
          have v2 := fun px py => wr (up1 (up1 (up1 (M.2 0) (54 * n + 5) ((m : Int) + 1)) (54 * n + 6 + 4 * m + 0) px) (54 * n + 6 + 4 * m + 1) py) 2 0 (by decide)
          have v3 := fun px py => wr (up1 (up1 (up1 (up1 (M.2 0) (54 * n + 5) ((m : Int) + 1)) (54 * n + 6 + 4 * m + 0) px) (54 * n + 6 + 4 * m + 1) py) (54 * n + 6 + 4 * m + 2) 0) 3 0 (by decide)
          rw [show ((0 : Nat) : Int) = 0 from rfl] at v0
          rw [show ((1 : Nat) : Int) = 1 from rfl] at v1
          rw [show ((2 : Nat) : Int) = 2 from rfl] at v2
          rw [show ((3 : Nat) : Int) = 3 from rfl] at v3
          have hS : ∀ px py, up1 (up1 (up1 (up1 (up1 (M.2 0) (54 * n + 5) ((m : Int) + 1)) (54 * n + 6 + 4 * m + 0) px) (54 * n + 6 + 4 * m + 1) py) (54 * n + 6 + 4 * m + 2) 0) (54 * n + 6 + 4 * m + 3) 0 = adS (M.2 0) n m px py := fun px py => rfl
          simp only [hS] at v3
          rw [hm, Int.toNat_natCast]
          refine ⟨(m : Int), (N.1, upC N.2 0 (adS (M.2 0) n m (adX (mph M n) x) ((mph M n).1 3 + y))), ?_, Or.inr ⟨rfl, n', G', adS (M.2 0) n m (adX (mph M n) x) ((mph M n).1 3 + y), w1, by rw [← hNN]; rfl, rfl, rfl⟩⟩
          rw [hm] at m122 d1
          unfold adX
          by_cases c6 : (mph M n).1 6 = 1
          · rw [if_pos c6]
            have d6 : ((mph M n).1 6 = 1) = True := eq_true c6
            simp (disch := omega) only [en362, e362_0, e362_1, e362_4, e362_7, e362_8, e362_9, e362_10, e362_11, e362_12, e362_15, e362_16, e362_17, e362_20, e362_22, e362_23, e362_25, e362_28, e362_29, e362_30, e362_33, e362_35, e362_38, e362_39, e362_42, e362_43, e362_44, e362_47, e362_50, e362_51, e362_53, e362_56, e362_57, e362_60, e362_61, e362_62, e362_65, e362_68, e362_69, e362_70, e362_71, e362_72, e362_73, e362_76, e362_77, e362_78, e362_81, e362_84, e362_85, e362_86, e362_87, e362_88, e362_91, e362_92, e362_93, e362_96, e362_99, e362_100, e362_103, e362_104, e362_105, e362_108, e362_111, e362_112, e362_113, e362_114, e362_117, e362_118, e362_119, e362_122, e362_124, e362_125, e362_128, e362_130, e362_131, e362_132, e362_133, e362_134, e362_135, e362_136, e362_137, e362_138, e362_139, e362_140, e362_141, e362_143, e362_144, e362_145, e362_146, e362_147, e362_150, e362_151, e362_154, e362_155, e362_156, e362_157, e362_160, e362_161, e362_162, e362_165, e362_166, e362_167, e362_168, e362_171, e362_172, e362_173, e362_176, e362_177, e362_178, e362_180, e362_181, e362_182, e362_183, e362_184, e362_187, e362_188, e362_189, e362_192, e362_193, e362_194, e362_196, e362_197, e362_198, e362_201, e362_202, e362_203, e362_205, e362_206, e362_207, e362_210, e362_212, ↓reduceIte, Bool.false_eq_true, not_false_eq_true, not_true_eq_false, Nat.reduceLeDiff, Nat.reduceAdd, Nat.reduceEqDiff, Int.reduceToNat, Int.toNat_natCast, iB0, iB1, ru_klI, ru_klR, ru_klF, ru_klJ, ru_kl0, ru_cs0, ru_csI, ru_csR, ru_csF, ru_csJ, wI_add, wI_sub, wI_mul, wI_lt, wI_le, wI_inj, ru_fdE, ru_fdN, ru_iaN, ru_baN, ru_laN, ru_qaN, ru_pfN, ru_isN, ru_bsN, ru_jsN, ru_qsN, ru_set2, Nat.add_right_cancel_iff, if_true, if_false, ite_self, Int.reduceEq, and_self, Int.add_neg_cancel_right, Int.add_zero, Int.zero_add, md_e, md_f25, md_f2, e, h25, m53, ein, m122, m281, m282, k1, k2, cx, cy, d1, p54, not_false_iff, not_true, if_true, if_false, w2, y122, r5, w5, x4, x2, x0, x1, v0, v1, v2, v3, d6]
            exact if_pos ⟨rfl, rfl⟩
          · rw [if_neg c6]
            have d6 : ((mph M n).1 6 = 1) = False := eq_false c6
            simp (disch := omega) only [en362, e362_0, e362_1, e362_4, e362_7, e362_8, e362_9, e362_10, e362_11, e362_12, e362_15, e362_16, e362_17, e362_20, e362_22, e362_23, e362_25, e362_28, e362_29, e362_30, e362_33, e362_35, e362_38, e362_39, e362_42, e362_43, e362_44, e362_47, e362_50, e362_51, e362_53, e362_56, e362_57, e362_60, e362_61, e362_62, e362_65, e362_68, e362_69, e362_70, e362_71, e362_72, e362_73, e362_76, e362_77, e362_78, e362_81, e362_84, e362_85, e362_86, e362_87, e362_88, e362_91, e362_92, e362_93, e362_96, e362_99, e362_100, e362_103, e362_104, e362_105, e362_108, e362_111, e362_112, e362_113, e362_114, e362_117, e362_118, e362_119, e362_122, e362_124, e362_125, e362_128, e362_130, e362_131, e362_132, e362_133, e362_134, e362_135, e362_136, e362_137, e362_138, e362_139, e362_140, e362_141, e362_143, e362_144, e362_145, e362_146, e362_147, e362_150, e362_151, e362_154, e362_155, e362_156, e362_157, e362_160, e362_161, e362_162, e362_165, e362_166, e362_167, e362_168, e362_171, e362_172, e362_173, e362_176, e362_177, e362_178, e362_180, e362_181, e362_182, e362_183, e362_184, e362_187, e362_188, e362_189, e362_192, e362_193, e362_194, e362_196, e362_197, e362_198, e362_201, e362_202, e362_203, e362_205, e362_206, e362_207, e362_210, e362_212, ↓reduceIte, Bool.false_eq_true, not_false_eq_true, not_true_eq_false, Nat.reduceLeDiff, Nat.reduceAdd, Nat.reduceEqDiff, Int.reduceToNat, Int.toNat_natCast, iB0, iB1, ru_klI, ru_klR, ru_klF, ru_klJ, ru_kl0, ru_cs0, ru_csI, ru_csR, ru_csF, ru_csJ, wI_add, wI_sub, wI_mul, wI_lt, wI_le, wI_inj, ru_fdE, ru_fdN, ru_iaN, ru_baN, ru_laN, ru_qaN, ru_pfN, ru_isN, ru_bsN, ru_jsN, ru_qsN, ru_set2, Nat.add_right_cancel_iff, if_true, if_false, ite_self, Int.reduceEq, and_self, Int.add_neg_cancel_right, Int.add_zero, Int.zero_add, md_e, md_f25, md_f2, e, h25, m53, ein, m122, m281, m282, k1, k2, cx, cy, d1, p54, not_false_iff, not_true, if_true, if_false, w2, y122, r5, w5, x4, x2, x0, x1, v0, v1, v2, v3, d6]
            exact if_pos ⟨rfl, rfl⟩
        · rw [if_neg (fun c => cy c.2)]
          refine ⟨0, mdT M 3, ?_, Or.inl ⟨by decide, rfl⟩⟩
          simp (disch := omega) only [en362, e362_0, e362_1, e362_4, e362_7, e362_8, e362_9, e362_10, e362_11, e362_12, e362_15, e362_16, e362_17, e362_20, e362_22, e362_23, e362_25, e362_28, e362_29, e362_30, e362_33, e362_35, e362_38, e362_39, e362_42, e362_43, e362_44, e362_47, e362_50, e362_51, e362_53, e362_56, e362_57, e362_60, e362_61, e362_62, e362_65, e362_68, e362_69, e362_70, e362_71, e362_72, e362_73, e362_76, e362_77, e362_78, e362_81, e362_84, e362_85, e362_86, e362_87, e362_88, e362_91, e362_92, e362_93, e362_96, e362_99, e362_100, e362_103, e362_104, e362_105, e362_108, e362_111, e362_112, e362_113, e362_114, e362_117, e362_118, e362_119, e362_122, e362_124, e362_125, e362_128, e362_130, e362_131, e362_132, e362_133, e362_134, e362_135, e362_136, e362_137, e362_138, e362_139, e362_140, e362_141, e362_143, e362_144, e362_145, e362_146, e362_147, e362_150, e362_151, e362_154, e362_155, e362_156, e362_157, e362_160, e362_161, e362_162, e362_165, e362_166, e362_167, e362_168, e362_171, e362_172, e362_173, e362_176, e362_177, e362_178, e362_180, e362_181, e362_182, e362_183, e362_184, e362_187, e362_188, e362_189, e362_192, e362_193, e362_194, e362_196, e362_197, e362_198, e362_201, e362_202, e362_203, e362_205, e362_206, e362_207, e362_210, e362_212, ↓reduceIte, Bool.false_eq_true, not_false_eq_true, not_true_eq_false, Nat.reduceLeDiff, Nat.reduceAdd, Nat.reduceEqDiff, Int.reduceToNat, Int.toNat_natCast, iB0, iB1, ru_klI, ru_klR, ru_klF, ru_klJ, ru_kl0, ru_cs0, ru_csI, ru_csR, ru_csF, ru_csJ, wI_add, wI_sub, wI_mul, wI_lt, wI_le, wI_inj, ru_fdE, ru_fdN, ru_iaN, ru_baN, ru_laN, ru_qaN, ru_pfN, ru_isN, ru_bsN, ru_jsN, ru_qsN, ru_set2, Nat.add_right_cancel_iff, if_true, if_false, ite_self, Int.reduceEq, and_self, Int.add_neg_cancel_right, Int.add_zero, Int.zero_add, md_e, md_f25, e, h25, m53, ein, m122, m281, m282, k1, k2, cx, cy, d1, p54, not_false_iff, not_true, if_true, if_false, mdT_T]
      · rw [if_neg (fun c => cx c.1)]
        refine ⟨0, mdT M 3, ?_, Or.inl ⟨by decide, rfl⟩⟩
        simp (disch := omega) only [en362, e362_0, e362_1, e362_4, e362_7, e362_8, e362_9, e362_10, e362_11, e362_12, e362_15, e362_16, e362_17, e362_20, e362_22, e362_23, e362_25, e362_28, e362_29, e362_30, e362_33, e362_35, e362_38, e362_39, e362_42, e362_43, e362_44, e362_47, e362_50, e362_51, e362_53, e362_56, e362_57, e362_60, e362_61, e362_62, e362_65, e362_68, e362_69, e362_70, e362_71, e362_72, e362_73, e362_76, e362_77, e362_78, e362_81, e362_84, e362_85, e362_86, e362_87, e362_88, e362_91, e362_92, e362_93, e362_96, e362_99, e362_100, e362_103, e362_104, e362_105, e362_108, e362_111, e362_112, e362_113, e362_114, e362_117, e362_118, e362_119, e362_122, e362_124, e362_125, e362_128, e362_130, e362_131, e362_132, e362_133, e362_134, e362_135, e362_136, e362_137, e362_138, e362_139, e362_140, e362_141, e362_143, e362_144, e362_145, e362_146, e362_147, e362_150, e362_151, e362_154, e362_155, e362_156, e362_157, e362_160, e362_161, e362_162, e362_165, e362_166, e362_167, e362_168, e362_171, e362_172, e362_173, e362_176, e362_177, e362_178, e362_180, e362_181, e362_182, e362_183, e362_184, e362_187, e362_188, e362_189, e362_192, e362_193, e362_194, e362_196, e362_197, e362_198, e362_201, e362_202, e362_203, e362_205, e362_206, e362_207, e362_210, e362_212, ↓reduceIte, Bool.false_eq_true, not_false_eq_true, not_true_eq_false, Nat.reduceLeDiff, Nat.reduceAdd, Nat.reduceEqDiff, Int.reduceToNat, Int.toNat_natCast, iB0, iB1, ru_klI, ru_klR, ru_klF, ru_klJ, ru_kl0, ru_cs0, ru_csI, ru_csR, ru_csF, ru_csJ, wI_add, wI_sub, wI_mul, wI_lt, wI_le, wI_inj, ru_fdE, ru_fdN, ru_iaN, ru_baN, ru_laN, ru_qaN, ru_pfN, ru_isN, ru_bsN, ru_jsN, ru_qsN, ru_set2, Nat.add_right_cancel_iff, if_true, if_false, ite_self, Int.reduceEq, and_self, Int.add_neg_cancel_right, Int.add_zero, Int.zero_add, md_e, md_f25, e, h25, m53, ein, m122, m281, m282, k1, k2, cx, d1, p54, not_false_iff, not_true, if_true, if_false, mdT_T]
  · rw [a3, if_neg (by decide)]
    have a0 : (M.1 1 = 0) = False := eq_false (by omega)
    simp only [a0, if_false] at e
    have ein : (0 ≤ f ∧ f ≤ M.1 25 - 1) = False := eq_false a2
    have h25 : (mdT M 0).1 25 = M.1 25 := rfl
    refine ⟨0, mdT M 2, ?_, Or.inl ⟨by decide, rfl⟩⟩
    simp (disch := omega) only [en362, e362_0, e362_1, e362_4, e362_7, e362_8, e362_9, e362_10, e362_11, e362_12, e362_15, e362_16, e362_17, e362_20, e362_22, e362_23, e362_25, e362_28, e362_29, e362_30, e362_33, e362_35, e362_38, e362_39, e362_42, e362_43, e362_44, e362_47, e362_50, e362_51, e362_53, e362_56, e362_57, e362_60, e362_61, e362_62, e362_65, e362_68, e362_69, e362_70, e362_71, e362_72, e362_73, e362_76, e362_77, e362_78, e362_81, e362_84, e362_85, e362_86, e362_87, e362_88, e362_91, e362_92, e362_93, e362_96, e362_99, e362_100, e362_103, e362_104, e362_105, e362_108, e362_111, e362_112, e362_113, e362_114, e362_117, e362_118, e362_119, e362_122, e362_124, e362_125, e362_128, e362_130, e362_131, e362_132, e362_133, e362_134, e362_135, e362_136, e362_137, e362_138, e362_139, e362_140, e362_141, e362_143, e362_144, e362_145, e362_146, e362_147, e362_150, e362_151, e362_154, e362_155, e362_156, e362_157, e362_160, e362_161, e362_162, e362_165, e362_166, e362_167, e362_168, e362_171, e362_172, e362_173, e362_176, e362_177, e362_178, e362_180, e362_181, e362_182, e362_183, e362_184, e362_187, e362_188, e362_189, e362_192, e362_193, e362_194, e362_196, e362_197, e362_198, e362_201, e362_202, e362_203, e362_205, e362_206, e362_207, e362_210, e362_212, ↓reduceIte, Bool.false_eq_true, not_false_eq_true, not_true_eq_false, Nat.reduceLeDiff, Nat.reduceAdd, Nat.reduceEqDiff, Int.reduceToNat, Int.toNat_natCast, iB0, iB1, ru_klI, ru_klR, ru_klF, ru_klJ, ru_kl0, ru_cs0, ru_csI, ru_csR, ru_csF, ru_csJ, wI_add, wI_sub, wI_mul, wI_lt, wI_le, wI_inj, ru_fdE, ru_fdN, ru_iaN, ru_baN, ru_laN, ru_qaN, ru_pfN, ru_isN, ru_bsN, ru_jsN, ru_qsN, ru_set2, Nat.add_right_cancel_iff, if_true, if_false, ite_self, Int.reduceEq, and_self, Int.add_neg_cancel_right, Int.add_zero, Int.zero_add, md_e, md_f25, e, h25, m53, ein, p54, not_false_iff, not_true, if_false, mdT_T]
end ADM
