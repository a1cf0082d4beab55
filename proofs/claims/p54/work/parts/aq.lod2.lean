section LOE
variable {z : Bool} {C : tCl} {M T : tMd} {n : Nat}
theorem cyF (f g : Nat → Int) (i : Nat) : up1 (fun q => if q < i then f q else g q) i (f i) = fun q => if q < i + 1 then f q else g q := by
  funext q
  unfold up1
  by_cases e : q = i
  · rw [if_pos e, if_pos (by omega), e]
  · rw [if_neg e]
    dsimp only
    by_cases e2 : q < i
    · rw [if_pos e2, if_pos (by omega)]
    · rw [if_neg e2, if_neg (by omega)]
theorem cyG (f g : Nat → Int) : (fun q : Nat => if q < 0 then f q else g q) = g := funext fun q => if_neg (by omega)
theorem p52a {h : am_H} {l1 : Int32} : ∀ d i : Nat, i + d = 320 → ru_n z 52 94 [some (.ref 1315), some (.int l1), some (.int (wI i))] [] (mdPut h (M.1, upC M.2 5 (fun q => if q < i then M.2 6 q else M.2 5 q))) = ru_n z 52 119 [some (.ref 1315), some (.int l1), some (.int (wI 320))] [] (mdPut h (M.1, upC M.2 5 (fun q => if q < 320 then M.2 6 q else M.2 5 q))) := by
  intro d
  induction d with
  | zero =>
    intro i hi
    obtain rfl : i = 320 := by omega
    simp (disch := omega) only [e52_94, e52_95, e52_98, ↓reduceIte, Bool.false_eq_true, not_false_eq_true, not_true_eq_false, Nat.reduceLeDiff, Nat.reduceAdd, Nat.reduceEqDiff, Int.reduceToNat, Int.toNat_natCast, iB0, iB1, ru_klI, ru_klR, ru_klF, ru_klJ, ru_kl0, ru_cs0, ru_csI, ru_csR, ru_csF, ru_csJ, wI_add, wI_sub, wI_mul, wI_lt, wI_le, wI_inj, ru_fdE, ru_fdN, ru_iaN, ru_baN, ru_laN, ru_qaN, ru_pfN, ru_isN, ru_bsN, ru_jsN, ru_qsN, ru_set2, Nat.add_right_cancel_iff, if_true, if_false, ite_self, Int.reduceEq, and_self, Int.add_neg_cancel_right, Int.add_zero, Int.zero_add, Int.le_refl, show ((320 : Nat) : Int) = 320 from rfl]
  | succ d ih =>
    intro i hi
    have ih1 := ih (i + 1) (by omega)
    simp only [Int.natCast_add, Int.natCast_one] at ih1
    have c : ((320 : Int) ≤ (i : Int)) = False := eq_false (by omega)
    have a := md_a6 (h := h) (M := (M.1, upC M.2 5 (fun q => if q < i then M.2 6 q else M.2 5 q))) (i := (i : Int)) (by omega) (by omega)
    dsimp only at a
    rw [Int.toNat_natCast, upC_n (by decide)] at a
    have x := md_w5 (h := h) (M := (M.1, upC M.2 5 (fun q => if q < i then M.2 6 q else M.2 5 q))) (i := (i : Int)) (v := M.2 6 i) (by omega) (by omega)
    rw [Int.toNat_natCast, up2_C] at x
    dsimp only at x
    rw [upC_e, upC_up, cyF (M.2 6) (M.2 5)] at x
    rw [e52_94]
    simp (disch := omega) only [e52_95, e52_98, e52_101, e52_102, e52_105, e52_106, e52_107, e52_110, e52_111, e52_112, e52_113, e52_116, ↓reduceIte, Bool.false_eq_true, not_false_eq_true, not_true_eq_false, Nat.reduceLeDiff, Nat.reduceAdd, Nat.reduceEqDiff, Int.reduceToNat, Int.toNat_natCast, iB0, iB1, ru_klI, ru_klR, ru_klF, ru_klJ, ru_kl0, ru_cs0, ru_csI, ru_csR, ru_csF, ru_csJ, wI_add, wI_sub, wI_mul, wI_lt, wI_le, wI_inj, ru_fdE, ru_fdN, ru_iaN, ru_baN, ru_laN, ru_qaN, ru_pfN, ru_isN, ru_bsN, ru_jsN, ru_qsN, ru_set2, Nat.add_right_cancel_iff, if_true, if_false, ite_self, Int.reduceEq, and_self, Int.add_neg_cancel_right, Int.add_zero, Int.zero_add, md_e, md_f19, md_f21, c, a, x]
    exact ih1
theorem p52b {h : am_H} {l1 : Int32} : ∀ d i : Nat, i + d = 270 → ru_n z 52 121 [some (.ref 1315), some (.int l1), some (.int (wI i))] [] (mdPut h (M.1, upC M.2 0 (fun q => if q < i then M.2 10 q else M.2 0 q))) = ru_n z 52 146 [some (.ref 1315), some (.int l1), some (.int (wI 270))] [] (mdPut h (M.1, upC M.2 0 (fun q => if q < 270 then M.2 10 q else M.2 0 q))) := by
  intro d
  induction d with
  | zero =>
    intro i hi
    obtain rfl : i = 270 := by omega
    simp (disch := omega) only [e52_121, e52_122, e52_125, ↓reduceIte, Bool.false_eq_true, not_false_eq_true, not_true_eq_false, Nat.reduceLeDiff, Nat.reduceAdd, Nat.reduceEqDiff, Int.reduceToNat, Int.toNat_natCast, iB0, iB1, ru_klI, ru_klR, ru_klF, ru_klJ, ru_kl0, ru_cs0, ru_csI, ru_csR, ru_csF, ru_csJ, wI_add, wI_sub, wI_mul, wI_lt, wI_le, wI_inj, ru_fdE, ru_fdN, ru_iaN, ru_baN, ru_laN, ru_qaN, ru_pfN, ru_isN, ru_bsN, ru_jsN, ru_qsN, ru_set2, Nat.add_right_cancel_iff, if_true, if_false, ite_self, Int.reduceEq, and_self, Int.add_neg_cancel_right, Int.add_zero, Int.zero_add, Int.le_refl, show ((270 : Nat) : Int) = 270 from rfl]
  | succ d ih =>
    intro i hi
    have ih1 := ih (i + 1) (by omega)
    simp only [Int.natCast_add, Int.natCast_one] at ih1
    have c : ((270 : Int) ≤ (i : Int)) = False := eq_false (by omega)
    have a := md_a10 (h := h) (M := (M.1, upC M.2 0 (fun q => if q < i then M.2 10 q else M.2 0 q))) (i := (i : Int)) (by omega) (by omega)
    dsimp only at a
    rw [Int.toNat_natCast, upC_n (by decide)] at a
    have x := md_w0 (h := h) (M := (M.1, upC M.2 0 (fun q => if q < i then M.2 10 q else M.2 0 q))) (i := (i : Int)) (v := M.2 10 i) (by omega) (by omega)
    rw [Int.toNat_natCast, up2_C] at x
    dsimp only at x
    rw [upC_e, upC_up, cyF (M.2 10) (M.2 0)] at x
    rw [e52_121]
    simp (disch := omega) only [e52_122, e52_125, e52_128, e52_129, e52_132, e52_133, e52_134, e52_137, e52_138, e52_139, e52_140, e52_143, ↓reduceIte, Bool.false_eq_true, not_false_eq_true, not_true_eq_false, Nat.reduceLeDiff, Nat.reduceAdd, Nat.reduceEqDiff, Int.reduceToNat, Int.toNat_natCast, iB0, iB1, ru_klI, ru_klR, ru_klF, ru_klJ, ru_kl0, ru_cs0, ru_csI, ru_csR, ru_csF, ru_csJ, wI_add, wI_sub, wI_mul, wI_lt, wI_le, wI_inj, ru_fdE, ru_fdN, ru_iaN, ru_baN, ru_laN, ru_qaN, ru_pfN, ru_isN, ru_bsN, ru_jsN, ru_qsN, ru_set2, Nat.add_right_cancel_iff, if_true, if_false, ite_self, Int.reduceEq, and_self, Int.add_neg_cancel_right, Int.add_zero, Int.zero_add, md_e, md_f2, md_f30, c, a, x]
    exact ih1
theorem p52c {h : am_H} {l1 : Int32} {P : Nat} (hP : M.1 25 = (P : Int)) (h5 : P ≤ 5) : ∀ d i : Nat, i + d = P → ru_n z 52 148 [some (.ref 1315), some (.int l1), some (.int (wI i))] [] (mdPut h (M.1, upC (upC M.2 8 (fun f => if f < i then M.2 0 (54 * f + 2) + 1 else M.2 8 f)) 9 (fun f => if f < i then M.2 0 (54 * f + 3) + 1 else M.2 9 f))) = ru_n z 52 200 [some (.ref 1315), some (.int l1), some (.int (wI P))] [] (mdPut h (M.1, upC (upC M.2 8 (fun f => if f < P then M.2 0 (54 * f + 2) + 1 else M.2 8 f)) 9 (fun f => if f < P then M.2 0 (54 * f + 3) + 1 else M.2 9 f))) := by
  intro d
  have g25 : ∀ G, am_fd (mdPut h (M.1, G)) 1315 10 25 = some (.int (wI P)) := fun G => by rw [md_f25]; show some (Value.int (wI (M.1 25))) = _; rw [hP]
  have f2 : ∀ G, am_fd (mdPut h (M.1, G)) 1315 10 2 = some (.ref 1316) := fun G => md_f2
  have f26 : ∀ G, am_fd (mdPut h (M.1, G)) 1315 10 26 = some (.ref 1324) := fun G => md_f26
  have f27 : ∀ G, am_fd (mdPut h (M.1, G)) 1315 10 27 = some (.ref 1325) := fun G => md_f27
  induction d with
  | zero =>
    intro i hi
    obtain rfl : i = P := by omega
    simp (disch := omega) only [e52_148, e52_149, e52_150, e52_153, ↓reduceIte, Bool.false_eq_true, not_false_eq_true, not_true_eq_false, Nat.reduceLeDiff, Nat.reduceAdd, Nat.reduceEqDiff, Int.reduceToNat, Int.toNat_natCast, iB0, iB1, ru_klI, ru_klR, ru_klF, ru_klJ, ru_kl0, ru_cs0, ru_csI, ru_csR, ru_csF, ru_csJ, wI_add, wI_sub, wI_mul, wI_lt, wI_le, wI_inj, ru_fdE, ru_fdN, ru_iaN, ru_baN, ru_laN, ru_qaN, ru_pfN, ru_isN, ru_bsN, ru_jsN, ru_qsN, ru_set2, Nat.add_right_cancel_iff, if_true, if_false, ite_self, Int.reduceEq, and_self, Int.add_neg_cancel_right, Int.add_zero, Int.zero_add, md_e, g25, Int.le_refl]
  | succ d ih =>
    intro i hi
    have ih1 := ih (i + 1) (by omega)
    simp only [Int.natCast_add, Int.natCast_one] at ih1
    have c : ((P : Int) ≤ (i : Int)) = False := eq_false (by omega)
    have a2 : ∀ f g, am_ia (mdPut h (M.1, upC (upC M.2 8 f) 9 g)) 1316 (wI (54 * (i : Int) + 2)) = some (wI (M.2 0 (54 * i + 2))) := fun f g => by
      have a := md_a0 (h := h) (M := (M.1, upC (upC M.2 8 f) 9 g)) (i := 54 * (i : Int) + 2) (by omega) (by omega)
      dsimp only at a
      rw [show (54 * (i : Int) + 2).toNat = 54 * i + 2 by omega, upC_n (by decide), upC_n (by decide)] at a; exact a
    have a3 : ∀ f g, am_ia (mdPut h (M.1, upC (upC M.2 8 f) 9 g)) 1316 (wI (54 * (i : Int) + 3)) = some (wI (M.2 0 (54 * i + 3))) := fun f g => by
      have a := md_a0 (h := h) (M := (M.1, upC (upC M.2 8 f) 9 g)) (i := 54 * (i : Int) + 3) (by omega) (by omega)
      dsimp only at a
      rw [show (54 * (i : Int) + 3).toNat = 54 * i + 3 by omega, upC_n (by decide), upC_n (by decide)] at a; exact a
    have w8 : ∀ f g v, am_is (mdPut h (M.1, upC (upC M.2 8 f) 9 g)) 1324 (wI (i : Nat)) (wI v) = some (mdPut h (M.1, upC (upC M.2 8 (up1 f i v)) 9 g)) := fun f g v => by
      have x := md_w8 (h := h) (M := (M.1, upC (upC M.2 8 f) 9 g)) (i := (i : Int)) (v := v) (by omega) (by omega)
      rw [Int.toNat_natCast, up2_C] at x
      dsimp only at x
      rw [upC_n (show 8 ≠ 9 by decide), upC_e] at x
      rw [x]
      refine congrArg (fun G => some (mdPut h (M.1, G))) (funext fun k => ?_)
      show (if k = 8 then up1 f i v else if k = 9 then g else if k = 8 then f else M.2 k) = if k = 9 then g else if k = 8 then up1 f i v else M.2 k
      by_cases e : k = 8
      · rw [if_pos e, if_neg (show ¬ k = 9 by omega), if_pos e]
      · rw [if_neg e, if_neg e, if_neg e]
    have w9 : ∀ f g v, am_is (mdPut h (M.1, upC (upC M.2 8 f) 9 g)) 1325 (wI (i : Nat)) (wI v) = some (mdPut h (M.1, upC (upC M.2 8 f) 9 (up1 g i v))) := fun f g v => by
      have x := md_w9 (h := h) (M := (M.1, upC (upC M.2 8 f) 9 g)) (i := (i : Int)) (v := v) (by omega) (by omega)
      rw [Int.toNat_natCast, up2_C] at x
      dsimp only at x
      rw [upC_e, upC_up] at x; exact x
    have c8 := cyF (fun f => M.2 0 (54 * f + 2) + 1) (M.2 8) i
    have c9 := cyF (fun f => M.2 0 (54 * f + 3) + 1) (M.2 9) i
    rw [e52_148]
    simp (disch := omega) only [e52_149, e52_150, e52_153, e52_156, e52_157, e52_160, e52_161, e52_162, e52_165, e52_167, e52_168, e52_169, e52_170, e52_171, e52_172, e52_173, e52_174, e52_175, e52_176, e52_179, e52_180, e52_181, e52_184, e52_186, e52_187, e52_188, e52_189, e52_190, e52_191, e52_192, e52_193, e52_194, e52_197, ↓reduceIte, Bool.false_eq_true, not_false_eq_true, not_true_eq_false, Nat.reduceLeDiff, Nat.reduceAdd, Nat.reduceEqDiff, Int.reduceToNat, Int.toNat_natCast, iB0, iB1, ru_klI, ru_klR, ru_klF, ru_klJ, ru_kl0, ru_cs0, ru_csI, ru_csR, ru_csF, ru_csJ, wI_add, wI_sub, wI_mul, wI_lt, wI_le, wI_inj, ru_fdE, ru_fdN, ru_iaN, ru_baN, ru_laN, ru_qaN, ru_pfN, ru_isN, ru_bsN, ru_jsN, ru_qsN, ru_set2, Nat.add_right_cancel_iff, if_true, if_false, ite_self, Int.reduceEq, and_self, Int.add_neg_cancel_right, Int.add_zero, Int.zero_add, md_e, g25, f2, f26, f27, c, a2, a3, w8, w9, c8, c9]
    exact ih1
theorem p52z {h : am_H} {l1 : Int32} {l2 : Option Value} {P : Nat} (hP : T.1 29 = (P : Int)) (h5 : P ≤ 5) : ru_n z 52 63 [some (.ref 1315), some (.int l1), l2] [] (mdPut h T) = some (.inl (some (.int (wI P))), mdPut h (tkE T P)) := by
  obtain ⟨U, hU⟩ : ∃ U, U = up1 (up1 (up1 (up1 T.1 1 1) 24 (T.1 28)) 25 (T.1 29)) 20 (T.1 22) := ⟨_, rfl⟩
  have s1 : am_pf (mdPut h T) 1315 10 1 3 (.int (wI 1)) = some (mdPut h (up1 T.1 1 1, T.2)) := md_s1 (by decide) (by decide)
  have g28 : am_fd (mdPut h (up1 T.1 1 1, T.2)) 1315 10 28 = some (.int (wI (T.1 28))) := md_f28
  have s24 : am_pf (mdPut h (up1 T.1 1 1, T.2)) 1315 10 24 0 (.int (wI (T.1 28))) = some (mdPut h (up1 (up1 T.1 1 1) 24 (T.1 28), T.2)) := md_s24
  have g29 : am_fd (mdPut h (up1 (up1 T.1 1 1) 24 (T.1 28), T.2)) 1315 10 29 = some (.int (wI (T.1 29))) := md_f29
  have s25 : am_pf (mdPut h (up1 (up1 T.1 1 1) 24 (T.1 28), T.2)) 1315 10 25 0 (.int (wI (T.1 29))) = some (mdPut h (up1 (up1 (up1 T.1 1 1) 24 (T.1 28)) 25 (T.1 29), T.2)) := md_s25
  have g22 : am_fd (mdPut h (up1 (up1 (up1 T.1 1 1) 24 (T.1 28)) 25 (T.1 29), T.2)) 1315 10 22 = some (.int (wI (T.1 22))) := md_f22
  have s20 : am_pf (mdPut h (up1 (up1 (up1 T.1 1 1) 24 (T.1 28)) 25 (T.1 29), T.2)) 1315 10 20 0 (.int (wI (T.1 22))) = some (mdPut h (U, T.2)) := by rw [hU]; exact md_s20
  obtain ⟨X, hX⟩ : ∃ X, X = upC (upC T.2 5 (tkN T)) 0 (tkF T) := ⟨_, rfl⟩
  have hX0 : X 0 = tkF T := by rw [hX, upC_e]
  have hX8 : X 8 = T.2 8 := by rw [hX, upC_n (by decide), upC_n (by decide)]
  have hX9 : X 9 = T.2 9 := by rw [hX, upC_n (by decide), upC_n (by decide)]
  have hX2 : X 2 = T.2 2 := by rw [hX, upC_n (by decide), upC_n (by decide)]
  obtain ⟨Y, hY⟩ : ∃ Y, Y = upC (upC X 8 (tkW T P P 2 8)) 9 (tkW T P P 3 9) := ⟨_, rfl⟩
  have La : ru_n z 52 94 [some (.ref 1315), some (.int l1), some (.int (wI 0))] [] (mdPut h (U, T.2)) = ru_n z 52 119 [some (.ref 1315), some (.int l1), some (.int (wI 320))] [] (mdPut h (U, upC T.2 5 (tkN T))) := by
    have k := p52a (z := z) (h := h) (M := (U, T.2)) (l1 := l1) 320 0 (by omega)
    dsimp only at k
    rw [cyG, upC_self, show ((0 : Nat) : Int) = 0 from rfl] at k
    exact k
  have Lb : ru_n z 52 121 [some (.ref 1315), some (.int l1), some (.int (wI 0))] [] (mdPut h (U, upC T.2 5 (tkN T))) = ru_n z 52 146 [some (.ref 1315), some (.int l1), some (.int (wI 270))] [] (mdPut h (U, X)) := by
    have k := p52b (z := z) (h := h) (M := (U, upC T.2 5 (tkN T))) (l1 := l1) 270 0 (by omega)
    dsimp only at k
    rw [cyG, upC_self, show ((0 : Nat) : Int) = 0 from rfl] at k
    rw [hX]
    exact k
  have hP2 : U 25 = (P : Int) := by
    rw [hU, up1_n (by decide), up1_e]; exact hP
  have Lc : ru_n z 52 148 [some (.ref 1315), some (.int l1), some (.int (wI 0))] [] (mdPut h (U, X)) = ru_n z 52 200 [some (.ref 1315), some (.int l1), some (.int (wI P))] [] (mdPut h (U, Y)) := by
    have k := p52c (z := z) (h := h) (M := (U, X)) (l1 := l1) hP2 h5 P 0 (by omega)
    dsimp only at k
    rw [cyG (fun f => X 0 (54 * f + 2) + 1), cyG (fun f => X 0 (54 * f + 3) + 1), upC_self, upC_self, show ((0 : Nat) : Int) = 0 from rfl, hX0, hX8, hX9] at k
    rw [hY]
    exact k
  have s4 : am_pf (mdPut h (U, Y)) 1315 10 4 0 (.int (wI 0)) = some (mdPut h (up1 U 4 0, Y)) := md_s4
  have f5 : ∀ G, am_fd (mdPut h (up1 U 4 0, G)) 1315 10 5 = some (.ref 1318) := fun G => md_f5
  have hY2 : Y 2 = T.2 2 := by rw [hY, upC_n (by decide), upC_n (by decide), hX2]
  have b0 := md_w2 (h := h) (M := (up1 U 4 0, Y)) (i := 0) (v := 0) (by decide) (by decide) (by decide) (by decide)
  rw [show ((0 : Int)).toNat = 0 from rfl, up2_C] at b0
  dsimp only at b0
  rw [hY2] at b0
  have b1 := md_w2 (h := h) (M := (up1 U 4 0, upC Y 2 (up1 (T.2 2) 0 0))) (i := 1) (v := 0) (by decide) (by decide) (by decide) (by decide)
  rw [show ((1 : Int)).toNat = 1 from rfl, up2_C] at b1
  dsimp only at b1
  rw [upC_e, upC_up] at b1
  have eE : (up1 U 4 0, upC Y 2 (up1 (up1 (T.2 2) 0 0) 1 0)) = tkE T P := by rw [hU, hY, hX]; rfl
  rw [eE] at b1
  have g25 : am_fd (mdPut h (tkE T P)) 1315 10 25 = some (.int (wI P)) := by
    rw [md_f25, ← eE]
    show some (Value.int (wI (up1 U 4 0 25))) = _
    rw [up1_n (by decide), hP2]
  simp (disch := omega) only [e52_63, e52_64, e52_65, e52_68, e52_69, e52_70, e52_73, e52_76, e52_77, e52_78, e52_81, e52_84, e52_85, e52_86, e52_89, e52_92, e52_93, e52_119, e52_120, e52_146, e52_147, e52_200, e52_201, e52_202, e52_205, e52_206, e52_209, e52_210, e52_211, e52_212, e52_213, e52_216, e52_217, e52_218, e52_219, e52_220, e52_223, ↓reduceIte, Bool.false_eq_true, not_false_eq_true, not_true_eq_false, Nat.reduceLeDiff, Nat.reduceAdd, Nat.reduceEqDiff, Int.reduceToNat, Int.toNat_natCast, iB0, iB1, ru_klI, ru_klR, ru_klF, ru_klJ, ru_kl0, ru_cs0, ru_csI, ru_csR, ru_csF, ru_csJ, wI_add, wI_sub, wI_mul, wI_lt, wI_le, wI_inj, ru_fdE, ru_fdN, ru_iaN, ru_baN, ru_laN, ru_qaN, ru_pfN, ru_isN, ru_bsN, ru_jsN, ru_qsN, ru_set2, Nat.add_right_cancel_iff, if_true, if_false, ite_self, Int.reduceEq, and_self, Int.add_neg_cancel_right, Int.add_zero, Int.zero_add, md_e, s1, g28, s24, g29, s25, g22, s20, La, Lb, Lc, s4, f5, b0, b1, g25]
end LOE
