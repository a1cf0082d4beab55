section LOG
variable {z : Bool} {C : tCl} {M T : tMd} {n : Nat}
/-- the class's albums swapped, changes and saved states forgotten -/
def ldE (C : tCl) (A B : Nat) : tCl := upI (upI (upI (upR (upR C 1000 1 B) 1000 2 A) 1092 0 0) 1261 0 0) 1288 0 0
theorem upR_1 {C : tCl} {a k v : Nat} : (upR C a k v).1 = C.1 := rfl
theorem c17x {h : am_H} (hr : 0 ≤ C.1 1001 1 ∧ C.1 1001 1 ≤ 1200) {v : Int} (g : -2147483648 ≤ v ∧ v < 2147483648) (c : ¬ (0 ≤ v ∧ v ≤ C.1 1001 1)) : ru_ev z 17 [.ref 1000, .int (wI v)] (clPut h C) = some (.inr 1, clPut (thr h) C) := by
  have x := c18 (z := z) (h := h) hr g
  rw [if_neg c] at x
  simp (disch := omega) only [en17, e17_0, e17_1, e17_2, e17_5, e17_6, e17_9, e17_10, e17_13, e17_14, e17_17, e17_18, e17_21, e17_24, e17_25, e17_28, e17_29, e17_30, e17_31, e17_34, e17_37, e17_38, e17_39, e17_42, e17_43, e17_46, e17_49, e17_50, e17_51, e17_52, e17_53, e17_56, e17_57, e17_60, e17_61, e17_62, e17_65, e17_68, e17_71, e17_72, e17_75, e17_78, e17_81, ↓reduceIte, Bool.false_eq_true, not_false_eq_true, not_true_eq_false, Nat.reduceLeDiff, Nat.reduceAdd, Nat.reduceEqDiff, Int.reduceToNat, Int.toNat_natCast, iB0, iB1, ru_klI, ru_klR, ru_klF, ru_klJ, ru_kl0, ru_cs0, ru_csI, ru_csR, ru_csF, ru_csJ, wI_add, wI_sub, wI_mul, wI_lt, wI_le, wI_inj, ru_fdE, ru_fdN, ru_iaN, ru_baN, ru_laN, ru_qaN, ru_pfN, ru_isN, ru_bsN, ru_jsN, ru_qsN, ru_set2, Nat.add_right_cancel_iff, if_true, if_false, ite_self, Int.reduceEq, and_self, Int.add_neg_cancel_right, Int.add_zero, Int.zero_add, cl_e0, x]
theorem c17e {h : am_H} {C1 C2 : tCl} {A B : Nat} (hr : 0 ≤ C.1 1001 1 ∧ C.1 1001 1 ≤ 1200) {v : Int} (g : -2147483648 ≤ v ∧ v < 2147483648) (c : 0 ≤ v ∧ v ≤ C.1 1001 1) (hB : B = 1003 ∨ B = 1034) (hsp : C1.2.2.2 1000 2 = B) (k1 : ru_ev z 19 [.ref 1001, .int (wI v)] (clPut h C) = some (.inl none, clPut h C1)) (k2 : ru_ev z 25 [.ref B, .ref 1001] (clPut h C1) = some (.inr 2, clPut (thr h) C2)) : ru_ev z 17 [.ref 1000, .int (wI v)] (clPut h C) = some (.inr 2, clPut (thr h) C2) := by
  have x := c18 (z := z) (h := h) hr g
  rw [if_pos c] at x
  have g2 : am_fd (clPut h C1) 1000 0 2 = some (.ref B) := by rw [cl_g0_2, hsp]
  simp (disch := omega) only [en17, e17_0, e17_1, e17_2, e17_5, e17_6, e17_9, e17_10, e17_13, e17_14, e17_17, e17_18, e17_21, e17_24, e17_25, e17_28, e17_29, e17_30, e17_31, e17_34, e17_37, e17_38, e17_39, e17_42, e17_43, e17_46, e17_49, e17_50, e17_51, e17_52, e17_53, e17_56, e17_57, e17_60, e17_61, e17_62, e17_65, e17_68, e17_71, e17_72, e17_75, e17_78, e17_81, ↓reduceIte, Bool.false_eq_true, not_false_eq_true, not_true_eq_false, Nat.reduceLeDiff, Nat.reduceAdd, Nat.reduceEqDiff, Int.reduceToNat, Int.toNat_natCast, iB0, iB1, ru_klI, ru_klR, ru_klF, ru_klJ, ru_kl0, ru_cs0, ru_csI, ru_csR, ru_csF, ru_csJ, wI_add, wI_sub, wI_mul, wI_lt, wI_le, wI_inj, ru_fdE, ru_fdN, ru_iaN, ru_baN, ru_laN, ru_qaN, ru_pfN, ru_isN, ru_bsN, ru_jsN, ru_qsN, ru_set2, Nat.add_right_cancel_iff, if_true, if_false, ite_self, Int.reduceEq, and_self, Int.add_neg_cancel_right, Int.add_zero, Int.zero_add, cl_e0, cl_e1, cl_g0_0, x, k1, g2, k2, (sprF hB).1]
theorem c17o {h : am_H} {C1 C2 : tCl} {A B : Nat} (hr : 0 ≤ C.1 1001 1 ∧ C.1 1001 1 ≤ 1200) {v : Int} (g : -2147483648 ≤ v ∧ v < 2147483648) (c : 0 ≤ v ∧ v ≤ C.1 1001 1) (hB : B = 1003 ∨ B = 1034) (hsp : C1.2.2.2 1000 2 = B) (hsp2 : C2.2.2.2 1000 2 = B) (hal : C2.2.2.2 1000 1 = A) (hq : ∀ s, s < 2 → C2.2.2.2 1256 s = 1261 + 27 * s) (k1 : ru_ev z 19 [.ref 1001, .int (wI v)] (clPut h C) = some (.inl none, clPut h C1)) (k2 : ru_ev z 25 [.ref B, .ref 1001] (clPut h C1) = some (.inl none, clPut h C2)) : ru_ev z 17 [.ref 1000, .int (wI v)] (clPut h C) = some (.inl (some (.int (wI (C2.1 (B + 4) 0)))), clPut h (ldE C2 A B)) := by
  have x := c18 (z := z) (h := h) hr g
  rw [if_pos c] at x
  obtain ⟨s0, b2, b3⟩ := slot_k (s := 0) (by decide)
  obtain ⟨s1, -, -⟩ := slot_k (s := 1) (by decide)
  have g2 : am_fd (clPut h C1) 1000 0 2 = some (.ref B) := by rw [cl_g0_2, hsp]
  have g21 : am_fd (clPut h C2) 1000 0 1 = some (.ref A) := by rw [cl_g0_1, hal]
  have g22 : am_fd (clPut h C2) 1000 0 2 = some (.ref B) := by rw [cl_g0_2, hsp2]
  have p1 : am_pf (clPut h C2) 1000 0 1 2 (.ref B) = some (clPut h (upR C2 1000 1 B)) := cl_q0_1
  have p2 : am_pf (clPut h (upR C2 1000 1 B)) 1000 0 2 2 (.ref A) = some (clPut h (upR (upR C2 1000 1 B) 1000 2 A)) := cl_q0_2
  have x51 : ru_ev z 51 [.ref 1092] (clPut h (upR (upR C2 1000 1 B) 1000 2 A)) = some (.inl none, clPut h (upI (upR (upR C2 1000 1 B) 1000 2 A) 1092 0 0)) := m51
  have q6 : ∀ (s : Nat), s < 2 → ∀ D : tCl, D.2.2.2 1256 = C2.2.2.2 1256 → am_qa (clPut h D) 1256 (wI ((s : Nat) : Int)) = some (1261 + 27 * s) := fun s hs D hD => by
    have q := cl_q6 (h := h) (C := D) b2 (by decide) (i := (s : Int)) (by omega) (by rw [b3]; omega) (by omega)
    rw [Int.toNat_natCast, hD, hq s hs] at q; exact q
  have qa : am_qa (clPut h (upI (upR (upR C2 1000 1 B) 1000 2 A) 1092 0 0)) 1256 (wI 0) = some 1261 := q6 0 (by decide) _ (funext fun j => rfl)
  have x26 : ru_ev z 26 [.ref 1261] (clPut h (upI (upR (upR C2 1000 1 B) 1000 2 A) 1092 0 0)) = some (.inl none, clPut h (upI (upI (upR (upR C2 1000 1 B) 1000 2 A) 1092 0 0) 1261 0 0)) := m26 s0
  have qb : am_qa (clPut h (upI (upI (upR (upR C2 1000 1 B) 1000 2 A) 1092 0 0) 1261 0 0)) 1256 (wI 1) = some 1288 := q6 1 (by decide) _ (funext fun j => rfl)
  have y26 : ru_ev z 26 [.ref 1288] (clPut h (upI (upI (upR (upR C2 1000 1 B) 1000 2 A) 1092 0 0) 1261 0 0)) = some (.inl none, clPut h (ldE C2 A B)) := m26 s1
  have z1 : am_fd (clPut h (ldE C2 A B)) 1000 0 1 = some (.ref B) := by rw [cl_g0_1]; rfl
  obtain ⟨f0, f1, f2, f3, f4, f5, f6, f7, f8⟩ := sprF hB (h := h) (C := ldE C2 A B)
  have e9 : (ldE C2 A B).1 (B + 4) 0 = C2.1 (B + 4) 0 := by
    unfold ldE
    rw [upI_n (by omega), upI_n (by omega), upI_n (by omega)]; rfl
  rw [e9] at f7
  have e51 : ∀ D : tCl, (clPut h D).1 1092 = some (.inr (5, clL5 D 1092)) := fun D => cl_e5
  have e61 : ∀ D : tCl, (clPut h D).1 1261 = some (.inr (9, clL9 D 1261)) := fun D => clP9 (isSt_k s0).1 (by decide)
  have e88 : ∀ D : tCl, (clPut h D).1 1288 = some (.inr (9, clL9 D 1288)) := fun D => clP9 (isSt_k s1).1 (by decide)
  have d0 : ((2 : Int) ≤ 0) = False := eq_false (by decide)
  have d1 : ((2 : Int) ≤ 1) = False := eq_false (by decide)
  have d2 : ((1 : Int) + 1) = 2 := rfl
  simp (disch := omega) only [en17, e17_0, e17_1, e17_2, e17_5, e17_6, e17_9, e17_10, e17_13, e17_14, e17_17, e17_18, e17_21, e17_24, e17_25, e17_28, e17_29, e17_30, e17_31, e17_34, e17_37, e17_38, e17_39, e17_42, e17_43, e17_46, e17_49, e17_50, e17_51, e17_52, e17_53, e17_56, e17_57, e17_60, e17_61, e17_62, e17_65, e17_68, e17_71, e17_72, e17_75, e17_78, e17_81, ↓reduceIte, Bool.false_eq_true, not_false_eq_true, not_true_eq_false, Nat.reduceLeDiff, Nat.reduceAdd, Nat.reduceEqDiff, Int.reduceToNat, Int.toNat_natCast, iB0, iB1, ru_klI, ru_klR, ru_klF, ru_klJ, ru_kl0, ru_cs0, ru_csI, ru_csR, ru_csF, ru_csJ, wI_add, wI_sub, wI_mul, wI_lt, wI_le, wI_inj, ru_fdE, ru_fdN, ru_iaN, ru_baN, ru_laN, ru_qaN, ru_pfN, ru_isN, ru_bsN, ru_jsN, ru_qsN, ru_set2, Nat.add_right_cancel_iff, if_true, if_false, ite_self, Int.reduceEq, and_self, Int.add_neg_cancel_right, Int.add_zero, Int.zero_add, cl_e0, cl_e1, cl_g0_0, cl_g0_6, cl_g0_7, x, k1, g2, k2, (sprF hB).1, g21, g22, p1, p2, x51, qa, x26, qb, y26, z1, f3, f7, e51, e61, e88, d0, d1, d2, Int.le_refl]
/-- the reference -/
theorem p55 {h : am_H} {M0 M1 M2 : tMd} {v : Int32} (hS : strs h) (k1 : ru_ev z 56 [.ref 1315, .int v] (mdPut h M0) = some (.inl none, mdPut h M1)) (k2 : ∀ h (l1 : Int32) l2, strs h → ru_n z 55 5 [some (.ref 1315), some (.int l1), l2] [] (mdPut h M1) = some (.inl none, mdPut h M2)) : ru_ev z 55 [.ref 1315, .int v] (mdPut h M0) = some (.inl none, mdPut h M2) := by
  simp (disch := omega) only [en55, e55_0, e55_1, e55_2, ↓reduceIte, Bool.false_eq_true, not_false_eq_true, not_true_eq_false, Nat.reduceLeDiff, Nat.reduceAdd, Nat.reduceEqDiff, Int.reduceToNat, Int.toNat_natCast, iB0, iB1, ru_klI, ru_klR, ru_klF, ru_klJ, ru_kl0, ru_cs0, ru_csI, ru_csR, ru_csF, ru_csJ, wI_add, wI_sub, wI_mul, wI_lt, wI_le, wI_inj, ru_fdE, ru_fdN, ru_iaN, ru_baN, ru_laN, ru_qaN, ru_pfN, ru_isN, ru_bsN, ru_jsN, ru_qsN, ru_set2, Nat.add_right_cancel_iff, if_true, if_false, ite_self, Int.reduceEq, and_self, Int.add_neg_cancel_right, Int.add_zero, Int.zero_add, md_e, k1, k2 h _ _ hS]
theorem p52x {h : am_H} (hr : 0 ≤ M.1 7 ∧ M.1 7 ≤ 1200) {v : Int} (g : -2147483648 ≤ v ∧ v < 2147483648) (c : ¬ (0 ≤ v ∧ v ≤ M.1 7)) : ru_ev z 52 [.ref 1315, .int (wI v)] (mdPut h M) = some (.inl (some (.int (wI 0))), mdPut h (mdT M 1)) := by
  have s0 : am_pf (mdPut h M) 1315 10 0 0 (.int (wI 0)) = some (mdPut h (mdT M 0)) := md_s0
  have g7 : am_fd (mdPut h (mdT M 0)) 1315 10 7 = some (.int (wI (M.1 7))) := md_f7
  have m := m53 (z := z) (h := mdPut h (mdT M 0)) (v := v) (a := 0) (b := M.1 7) g (by omega) (by omega)
  rw [if_neg c] at m
  have p := p54 (z := z) (h := h) (M := M) (b := 1) (code := 1) (by omega) (by omega)
  rw [if_neg (by decide)] at p
  have d0 : ((0 : Int) = 0) = True := eq_true rfl
  have d1 : ((1 : Int) = 0) = False := eq_false (by decide)
  simp (disch := omega) only [en52, e52_0, e52_1, e52_2, e52_5, e52_6, e52_7, e52_8, e52_9, e52_12, e52_15, e52_18, e52_19, e52_22, e52_23, e52_24, e52_27, e52_30, e52_31, e52_32, e52_33, e52_34, e52_37, e52_38, e52_41, e52_42, e52_43, e52_46, e52_49, e52_50, e52_53, e52_54, e52_55, e52_58, e52_61, e52_62, e52_63, e52_64, e52_65, e52_68, e52_69, e52_70, e52_73, e52_76, e52_77, e52_78, e52_81, e52_84, e52_85, e52_86, e52_89, e52_92, e52_93, e52_94, e52_95, e52_98, e52_101, e52_102, e52_105, e52_106, e52_107, e52_110, e52_111, e52_112, e52_113, e52_116, e52_119, e52_120, e52_121, e52_122, e52_125, e52_128, e52_129, e52_132, e52_133, e52_134, e52_137, e52_138, e52_139, e52_140, e52_143, e52_146, e52_147, e52_148, e52_149, e52_150, e52_153, e52_156, e52_157, e52_160, e52_161, e52_162, e52_165, e52_167, e52_168, e52_169, e52_170, e52_171, e52_172, e52_173, e52_174, e52_175, e52_176, e52_179, e52_180, e52_181, e52_184, e52_186, e52_187, e52_188, e52_189, e52_190, e52_191, e52_192, e52_193, e52_194, e52_197, e52_200, e52_201, e52_202, e52_205, e52_206, e52_209, e52_210, e52_211, e52_212, e52_213, e52_216, e52_217, e52_218, e52_219, e52_220, e52_223, ↓reduceIte, Bool.false_eq_true, not_false_eq_true, not_true_eq_false, Nat.reduceLeDiff, Nat.reduceAdd, Nat.reduceEqDiff, Int.reduceToNat, Int.toNat_natCast, iB0, iB1, ru_klI, ru_klR, ru_klF, ru_klJ, ru_kl0, ru_cs0, ru_csI, ru_csR, ru_csF, ru_csJ, wI_add, wI_sub, wI_mul, wI_lt, wI_le, wI_inj, ru_fdE, ru_fdN, ru_iaN, ru_baN, ru_laN, ru_qaN, ru_pfN, ru_isN, ru_bsN, ru_jsN, ru_qsN, ru_set2, Nat.add_right_cancel_iff, if_true, if_false, ite_self, Int.reduceEq, and_self, Int.add_neg_cancel_right, Int.add_zero, Int.zero_add, md_e, s0, g7, m, p, d0, d1, not_true, not_false_iff]
theorem p52y {h : am_H} {M2 : tMd} (hr : 0 ≤ M.1 7 ∧ M.1 7 ≤ 1200) {v : Int} (g : -2147483648 ≤ v ∧ v < 2147483648) (c : 0 ≤ v ∧ v ≤ M.1 7) (k : ru_ev z 55 [.ref 1315, .int (wI v)] (mdPut h (mdT M 0)) = some (.inl none, mdPut h M2)) (h17 : 1 ≤ M2.1 17 ∧ M2.1 17 ≤ 9) (h0 : M2.1 0 = 0) : ru_ev z 52 [.ref 1315, .int (wI v)] (mdPut h M) = some (.inl (some (.int (wI 0))), mdPut h (mdT (teM M2) 2)) := by
  have s0 : am_pf (mdPut h M) 1315 10 0 0 (.int (wI 0)) = some (mdPut h (mdT M 0)) := md_s0
  have g7 : am_fd (mdPut h (mdT M 0)) 1315 10 7 = some (.int (wI (M.1 7))) := md_f7
  have m := m53 (z := z) (h := mdPut h (mdT M 0)) (v := v) (a := 0) (b := M.1 7) g (by omega) (by omega)
  rw [if_pos c] at m
  have p := p54 (z := z) (h := h) (M := M) (b := 0) (code := 1) (by omega) (by omega)
  rw [if_pos rfl] at p
  have q := p54 (z := z) (h := h) (M := teM M2) (b := 1) (code := 2) (by omega) (by omega)
  rw [if_neg (by decide), mdT_0 (M := teM M2) h0] at q
  have x74 := p74 (z := z) (h := h) (M := M2) (by omega)
  have g17 : am_fd (mdPut h (teM M2)) 1315 10 17 = some (.int (wI (M2.1 17))) := md_f17
  have d0 : ((0 : Int) = 0) = True := eq_true rfl
  have d1 : ((1 : Int) = 0) = False := eq_false (by decide)
  have d2 : (M2.1 17 = 0) = False := eq_false (by omega)
  simp (disch := omega) only [en52, e52_0, e52_1, e52_2, e52_5, e52_6, e52_7, e52_8, e52_9, e52_12, e52_15, e52_18, e52_19, e52_22, e52_23, e52_24, e52_27, e52_30, e52_31, e52_32, e52_33, e52_34, e52_37, e52_38, e52_41, e52_42, e52_43, e52_46, e52_49, e52_50, e52_53, e52_54, e52_55, e52_58, e52_61, e52_62, e52_63, e52_64, e52_65, e52_68, e52_69, e52_70, e52_73, e52_76, e52_77, e52_78, e52_81, e52_84, e52_85, e52_86, e52_89, e52_92, e52_93, e52_94, e52_95, e52_98, e52_101, e52_102, e52_105, e52_106, e52_107, e52_110, e52_111, e52_112, e52_113, e52_116, e52_119, e52_120, e52_121, e52_122, e52_125, e52_128, e52_129, e52_132, e52_133, e52_134, e52_137, e52_138, e52_139, e52_140, e52_143, e52_146, e52_147, e52_148, e52_149, e52_150, e52_153, e52_156, e52_157, e52_160, e52_161, e52_162, e52_165, e52_167, e52_168, e52_169, e52_170, e52_171, e52_172, e52_173, e52_174, e52_175, e52_176, e52_179, e52_180, e52_181, e52_184, e52_186, e52_187, e52_188, e52_189, e52_190, e52_191, e52_192, e52_193, e52_194, e52_197, e52_200, e52_201, e52_202, e52_205, e52_206, e52_209, e52_210, e52_211, e52_212, e52_213, e52_216, e52_217, e52_218, e52_219, e52_220, e52_223, ↓reduceIte, Bool.false_eq_true, not_false_eq_true, not_true_eq_false, Nat.reduceLeDiff, Nat.reduceAdd, Nat.reduceEqDiff, Int.reduceToNat, Int.toNat_natCast, iB0, iB1, ru_klI, ru_klR, ru_klF, ru_klJ, ru_kl0, ru_cs0, ru_csI, ru_csR, ru_csF, ru_csJ, wI_add, wI_sub, wI_mul, wI_lt, wI_le, wI_inj, ru_fdE, ru_fdN, ru_iaN, ru_baN, ru_laN, ru_qaN, ru_pfN, ru_isN, ru_bsN, ru_jsN, ru_qsN, ru_set2, Nat.add_right_cancel_iff, if_true, if_false, ite_self, Int.reduceEq, and_self, Int.add_neg_cancel_right, Int.add_zero, Int.zero_add, md_e, s0, g7, m, p, k, x74, g17, q, d0, d1, d2, not_true, not_false_iff]
theorem p52o {h : am_H} {M2 : tMd} {P : Nat} (hr : 0 ≤ M.1 7 ∧ M.1 7 ≤ 1200) {v : Int} (g : -2147483648 ≤ v ∧ v < 2147483648) (c : 0 ≤ v ∧ v ≤ M.1 7) (k : ru_ev z 55 [.ref 1315, .int (wI v)] (mdPut h (mdT M 0)) = some (.inl none, mdPut h M2)) (h17 : M2.1 17 = 0) (h0 : M2.1 0 = 0) (hP : M2.1 29 = (P : Int)) (h5 : P ≤ 5) : ru_ev z 52 [.ref 1315, .int (wI v)] (mdPut h M) = some (.inl (some (.int (wI P))), mdPut h (tkE (teM M2) P)) := by
  have s0 : am_pf (mdPut h M) 1315 10 0 0 (.int (wI 0)) = some (mdPut h (mdT M 0)) := md_s0
  have g7 : am_fd (mdPut h (mdT M 0)) 1315 10 7 = some (.int (wI (M.1 7))) := md_f7
  have m := m53 (z := z) (h := mdPut h (mdT M 0)) (v := v) (a := 0) (b := M.1 7) g (by omega) (by omega)
  rw [if_pos c] at m
  have p := p54 (z := z) (h := h) (M := M) (b := 0) (code := 1) (by omega) (by omega)
  rw [if_pos rfl] at p
  have q := p54 (z := z) (h := h) (M := teM M2) (b := 0) (code := 2) (by omega) (by omega)
  rw [if_pos rfl, mdT_0 (M := teM M2) h0] at q
  have x74 := p74 (z := z) (h := h) (M := M2) (by omega)
  have g17 : am_fd (mdPut h (teM M2)) 1315 10 17 = some (.int (wI 0)) := by rw [md_f17]; show some (Value.int (wI (M2.1 17))) = _; rw [h17]
  have zz := fun l2 => p52z (z := z) (h := h) (T := teM M2) (P := P) (l1 := wI v) (l2 := l2) hP h5
  have d0 : ((0 : Int) = 0) = True := eq_true rfl
  have d1 : ((1 : Int) = 0) = False := eq_false (by decide)
  simp (disch := omega) only [en52, e52_0, e52_1, e52_2, e52_5, e52_6, e52_7, e52_8, e52_9, e52_12, e52_15, e52_18, e52_19, e52_22, e52_23, e52_24, e52_27, e52_30, e52_31, e52_32, e52_33, e52_34, e52_37, e52_38, e52_41, e52_42, e52_43, e52_46, e52_49, e52_50, e52_53, e52_54, e52_55, e52_58, e52_61, e52_62, ↓reduceIte, Bool.false_eq_true, not_false_eq_true, not_true_eq_false, Nat.reduceLeDiff, Nat.reduceAdd, Nat.reduceEqDiff, Int.reduceToNat, Int.toNat_natCast, iB0, iB1, ru_klI, ru_klR, ru_klF, ru_klJ, ru_kl0, ru_cs0, ru_csI, ru_csR, ru_csF, ru_csJ, wI_add, wI_sub, wI_mul, wI_lt, wI_le, wI_inj, ru_fdE, ru_fdN, ru_iaN, ru_baN, ru_laN, ru_qaN, ru_pfN, ru_isN, ru_bsN, ru_jsN, ru_qsN, ru_set2, Nat.add_right_cancel_iff, if_true, if_false, ite_self, Int.reduceEq, and_self, Int.add_neg_cancel_right, Int.add_zero, Int.zero_add, md_e, s0, g7, m, p, k, x74, g17, q, d0, d1, zz, not_true, not_false_iff]
end LOG
