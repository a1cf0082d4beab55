theorem kp_n {M : tMd} {off i c : Nat} (h : c ≠ 7) : (kpM M off i).2 c = M.2 c := upC_n h
section NLM
variable {z : Bool} {M M0 : tMd} {C C0 : tCl} {n s B : Nat}
/-- a line read: both go on, or the class stops and the reference is mute -/
def lnO (z : Bool) (jc jm B n : Nat) (C0 : tCl) (M0 : tMd) (C : tCl) (M : tMd) (s : Nat) : Prop :=
  (∃ C' M' s', (∀ h, strs h → ru_ev z jc [.ref B, .ref 1001] (clPut h C) = some (.inl none, clPut h C')) ∧ (∀ h, strs h → ru_ev z jm [.ref 1315] (mdPut h M) = some (.inl none, mdPut h M')) ∧ tkR C' M' n s' ∧ rdI B C0 M0 C' M' ∧ s < s') ∨
  ∃ C' M', (∀ h, strs h → ru_ev z jc [.ref B, .ref 1001] (clPut h C) = some (.inr 2, clPut (thr h) C')) ∧ (∀ h, strs h → ru_ev z jm [.ref 1315] (mdPut h M) = some (.inl none, mdPut h M')) ∧ erI B C0 M0 C' M' ∧ mutM M'
theorem sprF (hB : B = 1003 ∨ B = 1034) {h : am_H} {C : tCl} : (clPut h C).1 B = some (.inr (2, clL2 C B)) ∧ am_fd (clPut h C) B 2 0 = some (.int (wI (C.1 B 0))) ∧ am_fd (clPut h C) B 2 1 = some (.ref (B + 1)) ∧ am_fd (clPut h C) B 2 2 = some (.ref (B + 4)) ∧ (clPut h C).1 (B + 1) = some (.inr (3, clL3 C (B + 1))) ∧ am_fd (clPut h C) (B + 1) 3 0 = some (.int (wI (C.1 (B + 1) 0))) ∧ (clPut h C).1 (B + 4) = some (.inr (9, clL9 C (B + 4))) ∧ am_fd (clPut h C) (B + 4) 9 0 = some (.int (wI (C.1 (B + 4) 0))) ∧ am_fd (clPut h C) (B + 4) 9 1 = some (.ref (B + 4 + 1)) := by
  obtain ⟨k0, k1, k2, k3, k4, -, -, a1, a2⟩ := spr_k hB
  obtain ⟨s1, s2, s3, s4⟩ := isSt_k k4
  exact ⟨clP2 k0 (by omega), cl_f2_0 k0 (by omega), cl_f2_1 k0 (by omega), cl_f2_2 k0 (by omega), clP3 k1 (by omega), cl_f3_0 k1 (by omega), clP9 s1 (by omega), cl_f9_0 s1 (by omega), cl_f9_1 s1 (by omega)⟩
theorem ln_name (hB : B = 1003 ∨ B = 1034) (hr : rdI B C0 M0 C M) (ht : tkR C M n s) (hb0 : byI C0 M0 n) (h13 : M.1 13 = 1) : lnO z 41 67 B n C0 M0 C M s := by
  have hb := rd_byI hB hb0 hr
  have h17 := hr.2.2.2.1
  obtain ⟨n1, n2, n3⟩ := hr.2.2.2.2.2.1
  have hn := hb.1
  by_cases cN : M.1 22 = 20
  · right
    refine ⟨_, _, fun h hS => ?_, fun h hS => ?_, er_tk hB hr ht hn (t := 4) (by decide), mut_er ht (by decide)⟩
    · obtain ⟨f0, f1, f2, f3, f4, f5, f6, f7, f8⟩ := sprF hB (h := h) (C := C)
      have y := c36 (z := z) (h := h) (C := C) (b := 0) (Or.inl rfl) (c := 4)
      rw [if_neg (by decide)] at y
      have d1 : (20 ≤ C.1 (B + 1) 0) = True := eq_true (by omega)
      simp (disch := omega) only [en41, e41_0, e41_1, e41_2, e41_5, e41_8, e41_10, e41_13, e41_14, e41_17, e41_18, e41_19, e41_22, e41_23, e41_26, e41_27, e41_30, e41_31, e41_32, e41_35, e41_36, e41_39, e41_41, e41_42, e41_43, e41_46, e41_47, e41_49, e41_52, e41_53, e41_56, e41_57, e41_60, e41_61, e41_62, e41_65, e41_66, e41_69, e41_70, e41_73, e41_74, e41_76, e41_79, ↓reduceIte, Bool.false_eq_true, not_false_eq_true, not_true_eq_false, Nat.reduceLeDiff, Nat.reduceAdd, Nat.reduceEqDiff, Int.reduceToNat, Int.toNat_natCast, iB0, iB1, ru_klI, ru_klR, ru_klF, ru_klJ, ru_kl0, ru_cs0, ru_csI, ru_csR, ru_csF, ru_csJ, wI_add, wI_sub, wI_mul, wI_lt, wI_le, wI_inj, ru_fdE, ru_fdN, ru_iaN, ru_baN, ru_laN, ru_qaN, ru_pfN, ru_isN, ru_bsN, ru_jsN, ru_qsN, ru_set2, Nat.add_right_cancel_iff, if_true, if_false, ite_self, Int.reduceEq, and_self, Int.add_neg_cancel_right, Int.add_zero, Int.zero_add, f0, f2, f5, d1, y]
      rfl
    · have hm := mut_er ht (t := 4) (by decide)
      have g22 : am_fd (mdPut h (erM M 4)) 1315 10 22 = some (.int (wI 20)) := by rw [md_f22]; show some (Value.int (wI (M.1 22))) = _; rw [cN]
      have g17 : am_fd (mdPut h (erM M 4)) 1315 10 17 = some (.int (wI 4)) := by rw [md_f17]; rfl
      have d0 : ((0 : Int) = 0) = True := eq_true rfl
      have d1 : ((4 : Int) = 0) = False := eq_false (by decide)
      have u1 := u66 (z := z) (h := h) hm
      have u2 := u68 (z := z) (h := h) (off := 0) hm
      have u3 := u69 (z := z) (h := h) hm
      have u4 := u63 (z := z) (h := h) (c := 1) hm
      simp (disch := omega) only [en67, e67_0, e67_1, e67_4, e67_6, e67_9, e67_10, e67_11, e67_14, e67_15, e67_18, e67_19, e67_20, e67_23, e67_24, e67_27, e67_28, e67_31, e67_32, e67_35, e67_38, e67_39, e67_40, e67_43, e67_46, e67_47, e67_48, e67_51, e67_52, e67_55, e67_56, e67_59, e67_60, e67_63, e67_64, e67_67, e67_68, e67_69, e67_72, e67_73, e67_76, e67_79, e67_80, e67_81, e67_82, e67_83, e67_85, e67_88, e67_89, e67_92, e67_94, e67_95, e67_98, e67_99, e67_100, e67_101, e67_102, e67_105, e67_106, e67_107, e67_108, e67_109, e67_112, e67_114, e67_115, e67_118, e67_119, e67_121, e67_122, e67_123, e67_124, e67_125, e67_128, e67_129, e67_130, e67_131, e67_134, e67_137, e67_138, e67_139, e67_142, e67_143, e67_144, e67_147, e67_148, e67_151, ↓reduceIte, Bool.false_eq_true, not_false_eq_true, not_true_eq_false, Nat.reduceLeDiff, Nat.reduceAdd, Nat.reduceEqDiff, Int.reduceToNat, Int.toNat_natCast, iB0, iB1, ru_klI, ru_klR, ru_klF, ru_klJ, ru_kl0, ru_cs0, ru_csI, ru_csR, ru_csF, ru_csJ, wI_add, wI_sub, wI_mul, wI_lt, wI_le, wI_inj, ru_fdE, ru_fdN, ru_iaN, ru_baN, ru_laN, ru_qaN, ru_pfN, ru_isN, ru_bsN, ru_jsN, ru_qsN, ru_set2, Nat.add_right_cancel_iff, if_true, if_false, ite_self, Int.reduceEq, and_self, Int.add_neg_cancel_right, Int.add_zero, Int.zero_add, md_e, md_f22, md_f23, cN, f63 h17, u1, u2, u3, u4, g22, g17, d0, d1, not_true, not_false_iff]
  obtain ⟨N, hN⟩ : ∃ N : Nat, M.1 22 = (N : Int) := ⟨(M.1 22).toNat, by omega⟩
  have hN20 : N < 20 := by omega
  have cN0 : (M.1 22 = 20) = False := eq_false cN
  obtain ⟨C1, M1, s1, k1, k2, k3, k4, k5, k6⟩ := tk_adv (z := z) ht (by omega) hb
  have r1 := rd_tok hB hr k4 k5
  have h171 := r1.2.2.2.1
  have b1 := rd_byI hB hb0 r1
  have g1 : ∀ h, ru_ev z 36 [.ref 1001, .int (wI 1), .int (wI 4)] (clPut h C) = some (.inl none, clPut h C) := fun h => by rw [c36 (Or.inr rfl), if_pos rfl]
  have dC : (20 ≤ C.1 (B + 1) 0) = False := eq_false (by omega)
  have cN1 : M1.1 22 = (N : Int) := by rw [k5.1 22 (by omega)]; exact hN
  by_cases cw : nmTk M1 = true
  rotate_left
  · right
    refine ⟨_, _, fun h hS => ?_, fun h hS => ?_, er_tk hB r1 k3 hn (t := 1) (by decide), mut_er k3 (by decide)⟩
    · obtain ⟨f0, f1, f2, f3, f4, f5, f6, f7, f8⟩ := sprF hB (h := h) (C := C)
      have x := c42 (z := z) hS k3 b1
      rw [if_neg cw] at x
      simp (disch := omega) only [en41, e41_0, e41_1, e41_2, e41_5, e41_8, e41_10, e41_13, e41_14, e41_17, e41_18, e41_19, e41_22, e41_23, e41_26, e41_27, e41_30, e41_31, e41_32, e41_35, e41_36, e41_39, e41_41, e41_42, e41_43, e41_46, e41_47, e41_49, e41_52, e41_53, e41_56, e41_57, e41_60, e41_61, e41_62, e41_65, e41_66, e41_69, e41_70, e41_73, e41_74, e41_76, e41_79, ↓reduceIte, Bool.false_eq_true, not_false_eq_true, not_true_eq_false, Nat.reduceLeDiff, Nat.reduceAdd, Nat.reduceEqDiff, Int.reduceToNat, Int.toNat_natCast, iB0, iB1, ru_klI, ru_klR, ru_klF, ru_klJ, ru_kl0, ru_cs0, ru_csI, ru_csR, ru_csF, ru_csJ, wI_add, wI_sub, wI_mul, wI_lt, wI_le, wI_inj, ru_fdE, ru_fdN, ru_iaN, ru_baN, ru_laN, ru_qaN, ru_pfN, ru_isN, ru_bsN, ru_jsN, ru_qsN, ru_set2, Nat.add_right_cancel_iff, if_true, if_false, ite_self, Int.reduceEq, and_self, Int.add_neg_cancel_right, Int.add_zero, Int.zero_add, f0, f2, f5, dC, g1, k1, x]
    · have hm := mut_er k3 (t := 1) (by decide)
      have g22 : am_fd (mdPut h (erM M1 1)) 1315 10 22 = some (.int (wI N)) := by rw [md_f22]; show some (Value.int (wI (M1.1 22))) = _; rw [cN1]
      have g17 : am_fd (mdPut h (erM M1 1)) 1315 10 17 = some (.int (wI 1)) := by rw [md_f17]; rfl
      have d0 : ((0 : Int) = 0) = True := eq_true rfl
      have d1 : ((1 : Int) = 0) = False := eq_false (by decide)
      have y := p66 (z := z) (h := h) h17 (k2 h)
      have u0 := p68e (z := z) (h := h) (off := 0) hS k3 h171 cw
      have u1 := u66 (z := z) (h := h) hm
      have u3 := u69 (z := z) (h := h) hm
      have u4 := u63 (z := z) (h := h) (c := 1) hm
      simp (disch := omega) only [en67, e67_0, e67_1, e67_4, e67_6, e67_9, e67_10, e67_11, e67_14, e67_15, e67_18, e67_19, e67_20, e67_23, e67_24, e67_27, e67_28, e67_31, e67_32, e67_35, e67_38, e67_39, e67_40, e67_43, e67_46, e67_47, e67_48, e67_51, e67_52, e67_55, e67_56, e67_59, e67_60, e67_63, e67_64, e67_67, e67_68, e67_69, e67_72, e67_73, e67_76, e67_79, e67_80, e67_81, e67_82, e67_83, e67_85, e67_88, e67_89, e67_92, e67_94, e67_95, e67_98, e67_99, e67_100, e67_101, e67_102, e67_105, e67_106, e67_107, e67_108, e67_109, e67_112, e67_114, e67_115, e67_118, e67_119, e67_121, e67_122, e67_123, e67_124, e67_125, e67_128, e67_129, e67_130, e67_131, e67_134, e67_137, e67_138, e67_139, e67_142, e67_143, e67_144, e67_147, e67_148, e67_151, ↓reduceIte, Bool.false_eq_true, not_false_eq_true, not_true_eq_false, Nat.reduceLeDiff, Nat.reduceAdd, Nat.reduceEqDiff, Int.reduceToNat, Int.toNat_natCast, iB0, iB1, ru_klI, ru_klR, ru_klF, ru_klJ, ru_kl0, ru_cs0, ru_csI, ru_csR, ru_csF, ru_csJ, wI_add, wI_sub, wI_mul, wI_lt, wI_le, wI_inj, ru_fdE, ru_fdN, ru_iaN, ru_baN, ru_laN, ru_qaN, ru_pfN, ru_isN, ru_bsN, ru_jsN, ru_qsN, ru_set2, Nat.add_right_cancel_iff, if_true, if_false, ite_self, Int.reduceEq, and_self, Int.add_neg_cancel_right, Int.add_zero, Int.zero_add, md_e, md_f22, md_f23, cN0, y, u0, u1, u3, u4, g22, g17, d0, d1, not_true, not_false_iff]
  obtain ⟨e1, e2, e3⟩ := tkR_w k3 (nmTk_13 cw)
  have kk1 : ∀ h, strs h → ru_ev z 42 [.ref 1001] (clPut h C1) = some (.inl (some (.long (wdL (M1.2 4)))), clPut h C1) := fun h hS => by rw [c42 hS k3 b1, if_pos cw, e1]
  have t1 : tkR C1 (kpM M1 0 8) n s1 := tkR_of k3 rfl rfl rfl rfl (fun _ _ _ => rfl) (kp_n (by decide))
  obtain ⟨C2, M2, s2, l1, l2, l3, l4, l5, l6⟩ := tk_adv (z := z) t1 (by show ¬ M1.1 13 = 0; rw [nmTk_13 cw]; decide) (by unfold byI at b1 ⊢; rw [show (kpM M1 0 8).2 3 = M1.2 3 from kp_n (by decide)]; exact b1)
  have rk : rdI B C0 M0 C1 (kpM M1 0 8) := by
    obtain ⟨a1, a2, a3, a4, a5, a6, a7⟩ := r1
    exact ⟨a1, a2, ldM_trans a3 ⟨fun _ _ _ _ => rfl, fun c _ _ h7 _ => upC_n h7⟩, a4, a5, rdN_of a6 rfl rfl rfl rfl (kp_n (by decide)), rdP_of a7 rfl (fun _ _ => rfl) rfl (kp_n (by decide))⟩
  have r2 := rd_tok hB rk l4 l5
  have h172 := r2.2.2.2.1
  have b2 := rd_byI hB hb0 r2
  have cN2 : M2.1 22 = (N : Int) := by rw [l5.1 22 (by omega)]; exact cN1
  have y1 : ∀ h, ru_ev z 66 [.ref 1315] (mdPut h M) = some (.inl none, mdPut h M1) := fun h => p66 (z := z) h17 (k2 h)
  have y2 : ∀ h, strs h → ru_ev z 68 [.ref 1315, .ref 1323, .int (wI 0)] (mdPut h M1) = some (.inl none, mdPut h (kpM M1 0 8)) := fun h hS => p68 (z := z) (off := 0) (by decide) hS k3 h171 (fun q hq => by have := e3 q hq; omega) cw
  have y3 : ∀ h, ru_ev z 66 [.ref 1315] (mdPut h (kpM M1 0 8)) = some (.inl none, mdPut h M2) := fun h => p66 (z := z) (M := kpM M1 0 8) h171 (l2 h)
  have e7 : ∀ k, k < 8 → M2.2 7 k = M1.2 4 k := fun k hk => by
    rw [l5.2 7 (by decide)]
    show (if 7 = 7 then (fun q => if 0 ≤ q ∧ q < 0 + 8 then M1.2 4 (q - 0) else M1.2 7 q) else M1.2 7) k = _
    rw [if_pos rfl, if_pos (by omega)]; rfl
  have g22 : ∀ h, am_fd (mdPut h M2) 1315 10 22 = some (.int (wI N)) := fun h => by rw [md_f22, cN2]
  have d0 : ((0 : Int) = 0) = True := eq_true rfl
  have d1 : ((1 : Int) = 0) = False := eq_false (by decide)
  by_cases cx : nmTk M2 = true
  rotate_left
  · right
    refine ⟨_, _, fun h hS => ?_, fun h hS => ?_, er_tk hB r2 l3 hn (t := 1) (by decide), mut_er l3 (by decide)⟩
    · obtain ⟨f0, f1, f2, f3, f4, f5, f6, f7, f8⟩ := sprF hB (h := h) (C := C)
      have x := c42 (z := z) hS l3 b2
      rw [if_neg cx] at x
      simp (disch := omega) only [en41, e41_0, e41_1, e41_2, e41_5, e41_8, e41_10, e41_13, e41_14, e41_17, e41_18, e41_19, e41_22, e41_23, e41_26, e41_27, e41_30, e41_31, e41_32, e41_35, e41_36, e41_39, e41_41, e41_42, e41_43, e41_46, e41_47, e41_49, e41_52, e41_53, e41_56, e41_57, e41_60, e41_61, e41_62, e41_65, e41_66, e41_69, e41_70, e41_73, e41_74, e41_76, e41_79, ↓reduceIte, Bool.false_eq_true, not_false_eq_true, not_true_eq_false, Nat.reduceLeDiff, Nat.reduceAdd, Nat.reduceEqDiff, Int.reduceToNat, Int.toNat_natCast, iB0, iB1, ru_klI, ru_klR, ru_klF, ru_klJ, ru_kl0, ru_cs0, ru_csI, ru_csR, ru_csF, ru_csJ, wI_add, wI_sub, wI_mul, wI_lt, wI_le, wI_inj, ru_fdE, ru_fdN, ru_iaN, ru_baN, ru_laN, ru_qaN, ru_pfN, ru_isN, ru_bsN, ru_jsN, ru_qsN, ru_set2, Nat.add_right_cancel_iff, if_true, if_false, ite_self, Int.reduceEq, and_self, Int.add_neg_cancel_right, Int.add_zero, Int.zero_add, f0, f2, f5, dC, g1, k1, kk1 h hS, l1, x]
    · have g17 : am_fd (mdPut h (erM M2 1)) 1315 10 17 = some (.int (wI 1)) := by rw [md_f17]; rfl
      have x := p69 (z := z) hS l3 h172
      rw [if_neg cx] at x
      simp (disch := omega) only [en67, e67_0, e67_1, e67_4, e67_6, e67_9, e67_10, e67_11, e67_14, e67_15, e67_18, e67_19, e67_20, e67_23, e67_24, e67_27, e67_28, e67_31, e67_32, e67_35, e67_38, e67_39, e67_40, e67_43, e67_46, e67_47, e67_48, e67_51, e67_52, e67_55, e67_56, e67_59, e67_60, e67_63, e67_64, e67_67, e67_68, e67_69, e67_72, e67_73, e67_76, e67_79, e67_80, e67_81, e67_82, e67_83, e67_85, e67_88, e67_89, e67_92, e67_94, e67_95, e67_98, e67_99, e67_100, e67_101, e67_102, e67_105, e67_106, e67_107, e67_108, e67_109, e67_112, e67_114, e67_115, e67_118, e67_119, e67_121, e67_122, e67_123, e67_124, e67_125, e67_128, e67_129, e67_130, e67_131, e67_134, e67_137, e67_138, e67_139, e67_142, e67_143, e67_144, e67_147, e67_148, e67_151, ↓reduceIte, Bool.false_eq_true, not_false_eq_true, not_true_eq_false, Nat.reduceLeDiff, Nat.reduceAdd, Nat.reduceEqDiff, Int.reduceToNat, Int.toNat_natCast, iB0, iB1, ru_klI, ru_klR, ru_klF, ru_klJ, ru_kl0, ru_cs0, ru_csI, ru_csR, ru_csF, ru_csJ, wI_add, wI_sub, wI_mul, wI_lt, wI_le, wI_inj, ru_fdE, ru_fdN, ru_iaN, ru_baN, ru_laN, ru_qaN, ru_pfN, ru_isN, ru_bsN, ru_jsN, ru_qsN, ru_set2, Nat.add_right_cancel_iff, if_true, if_false, ite_self, Int.reduceEq, and_self, Int.add_neg_cancel_right, Int.add_zero, Int.zero_add, md_e, md_f22, md_f23, cN0, y1, y2 h hS, y3, x, f63 h172, g17, d0, d1, not_true, not_false_iff]
  obtain ⟨o1, o2, o3⟩ := tkR_w l3 (nmTk_13 cx)
  have kk2 : ∀ h, strs h → ru_ev z 42 [.ref 1001] (clPut h C2) = some (.inl (some (.long (wdL (M2.2 4)))), clPut h C2) := fun h hS => by rw [c42 hS l3 b2, if_pos cx, o1]
  obtain ⟨m1, m2, m3⟩ := r2.2.2.2.2.2.1
  have ltf : ltR (wF M2 7 0) := fun k hk => by
    show M2.2 7 (0 + k) = 0 ∨ _
    unfold wF
    rw [Nat.zero_add, e7 k hk]; exact e2.1 k hk
  have ew : wdL (M1.2 4) = wdL (wF M2 7 0) := wdL_c e2.1 (fun k hk => by unfold wF; rw [Nat.zero_add]; exact e7 k hk)
  obtain ⟨fd, hfd⟩ : ∃ fd, fd = fdN (fun i => wF M2 6 (16 * i)) (fun i => wF M2 6 (16 * i + 8)) (wF M2 7 0) (M2.2 4) N 0 := ⟨_, rfl⟩
  have fb := fdN_b (fun i => wF M2 6 (16 * i)) (fun i => wF M2 6 (16 * i + 8)) (wF M2 7 0) (M2.2 4) N 0
  rw [← hfd] at fb
  have kf : ∀ h, ru_ev z 43 [.ref (B + 1), .long (wdL (M1.2 4)), .long (wdL (M2.2 4))] (clPut h C2) = some (.inl (some (.int (wI fd))), clPut h C2) := fun h => by
    rw [ew, hfd]
    exact c43 (z := z) hB (by rw [m1, cN2]) (by omega) ltf o2.1 (fun i hi => by
      obtain ⟨q1, q2, q3, q4, -⟩ := m3 i (by omega)
      exact ⟨q1.1, q2.1, q3, q4⟩)
  have pf : ∀ h, ru_ev z 70 [.ref 1315, .ref 1322, .int (wI N), .ref 1323, .int (wI 0)] (mdPut h M2) = some (.inl (some (.int (wI fd))), mdPut h M2) := fun h => by
    rw [hfd]
    refine p70 (by omega) (fun i hi => ?_) (fun k hk => ?_) (fun k hk => ?_)
    · obtain ⟨q1, q2, -⟩ := m3 (i / 16) (by omega)
      by_cases c : i % 16 < 8
      · have := q1.1 (i % 16) c
        unfold wF at this
        rw [show 16 * (i / 16) + i % 16 = i by omega] at this
        omega
      · have := q2.1 (i % 16 - 8) (by omega)
        unfold wF at this
        rw [show 16 * (i / 16) + 8 + (i % 16 - 8) = i by omega] at this
        omega
    · rw [e7 k hk]; have := e3 k hk; omega
    · have := o3 k hk; omega
  have x69 : ∀ h, strs h → ru_ev z 69 [.ref 1315] (mdPut h M2) = some (.inl (some (.int (wI 1))), mdPut h M2) := fun h hS => by
    have x := p69 (z := z) hS l3 h172
    rw [if_pos cx] at x; exact x
  by_cases cf : fd = -1
  rotate_left
  · right
    have df : (fd = -1) = False := eq_false cf
    refine ⟨_, _, fun h hS => ?_, fun h hS => ?_, er_tk hB r2 l3 hn (t := 3) (by decide), mut_er l3 (by decide)⟩
    · obtain ⟨f0, f1, f2, f3, f4, f5, f6, f7, f8⟩ := sprF hB (h := h) (C := C)
      obtain ⟨v0, v1, v2, v3, v4, v5, v6, v7, v8⟩ := sprF hB (h := h) (C := C2)
      have y := c36 (z := z) (h := h) (C := C2) (b := 0) (Or.inl rfl) (c := 3)
      rw [if_neg (by decide)] at y
      simp (disch := omega) only [en41, e41_0, e41_1, e41_2, e41_5, e41_8, e41_10, e41_13, e41_14, e41_17, e41_18, e41_19, e41_22, e41_23, e41_26, e41_27, e41_30, e41_31, e41_32, e41_35, e41_36, e41_39, e41_41, e41_42, e41_43, e41_46, e41_47, e41_49, e41_52, e41_53, e41_56, e41_57, e41_60, e41_61, e41_62, e41_65, e41_66, e41_69, e41_70, e41_73, e41_74, e41_76, e41_79, ↓reduceIte, Bool.false_eq_true, not_false_eq_true, not_true_eq_false, Nat.reduceLeDiff, Nat.reduceAdd, Nat.reduceEqDiff, Int.reduceToNat, Int.toNat_natCast, iB0, iB1, ru_klI, ru_klR, ru_klF, ru_klJ, ru_kl0, ru_cs0, ru_csI, ru_csR, ru_csF, ru_csJ, wI_add, wI_sub, wI_mul, wI_lt, wI_le, wI_inj, ru_fdE, ru_fdN, ru_iaN, ru_baN, ru_laN, ru_qaN, ru_pfN, ru_isN, ru_bsN, ru_jsN, ru_qsN, ru_set2, Nat.add_right_cancel_iff, if_true, if_false, ite_self, Int.reduceEq, and_self, Int.add_neg_cancel_right, Int.add_zero, Int.zero_add, f0, f2, f5, v0, v2, dC, g1, k1, kk1 h hS, kk2 h hS, l1, kf, df, y, not_false_iff]
      rfl
    · have g17 : am_fd (mdPut h (erM M2 3)) 1315 10 17 = some (.int (wI 3)) := by rw [md_f17]; rfl
      have d3 : ((3 : Int) = 0) = False := eq_false (by decide)
      simp (disch := omega) only [en67, e67_0, e67_1, e67_4, e67_6, e67_9, e67_10, e67_11, e67_14, e67_15, e67_18, e67_19, e67_20, e67_23, e67_24, e67_27, e67_28, e67_31, e67_32, e67_35, e67_38, e67_39, e67_40, e67_43, e67_46, e67_47, e67_48, e67_51, e67_52, e67_55, e67_56, e67_59, e67_60, e67_63, e67_64, e67_67, e67_68, e67_69, e67_72, e67_73, e67_76, e67_79, e67_80, e67_81, e67_82, e67_83, e67_85, e67_88, e67_89, e67_92, e67_94, e67_95, e67_98, e67_99, e67_100, e67_101, e67_102, e67_105, e67_106, e67_107, e67_108, e67_109, e67_112, e67_114, e67_115, e67_118, e67_119, e67_121, e67_122, e67_123, e67_124, e67_125, e67_128, e67_129, e67_130, e67_131, e67_134, e67_137, e67_138, e67_139, e67_142, e67_143, e67_144, e67_147, e67_148, e67_151, ↓reduceIte, Bool.false_eq_true, not_false_eq_true, not_true_eq_false, Nat.reduceLeDiff, Nat.reduceAdd, Nat.reduceEqDiff, Int.reduceToNat, Int.toNat_natCast, iB0, iB1, ru_klI, ru_klR, ru_klF, ru_klJ, ru_kl0, ru_cs0, ru_csI, ru_csR, ru_csF, ru_csJ, wI_add, wI_sub, wI_mul, wI_lt, wI_le, wI_inj, ru_fdE, ru_fdN, ru_iaN, ru_baN, ru_laN, ru_qaN, ru_pfN, ru_isN, ru_bsN, ru_jsN, ru_qsN, ru_set2, Nat.add_right_cancel_iff, if_true, if_false, ite_self, Int.reduceEq, and_self, Int.add_neg_cancel_right, Int.add_zero, Int.zero_add, md_e, md_f21, md_f22, md_f23, g22, cN0, y1, y2 h hS, y3, x69 h hS, pf, df, f63 h172, g17, d0, d1, d3, not_true, not_false_iff]
  · left
    have df : (fd = -1) = True := eq_true cf
    have ho := fdN_no N 0 (hfd.symm.trans cf)
    obtain ⟨M3, hM3⟩ : ∃ M3 : tMd, M3 = (up1 (nlM M2 N 8).1 22 ((N : Int) + 1), (nlM M2 N 8).2) := ⟨_, rfl⟩
    have z1 : ∀ k, k ≠ 22 → M3.1 k = M2.1 k := fun k hk => by rw [hM3]; exact up1_n hk
    have z2 : ∀ c, c ≠ 6 → M3.2 c = M2.2 c := fun c hc => by rw [hM3]; exact upC_n hc
    have z3 : ∀ q, M3.2 6 q = if 16 * N ≤ q ∧ q < 16 * N + 8 then M2.2 7 (q - 16 * N) else if 16 * N + 8 ≤ q ∧ q < 16 * N + 8 + 8 then M2.2 4 (q - (16 * N + 8)) else M2.2 6 q := fun q => by rw [hM3]; rfl
    have z4 : M3.1 22 = (N : Int) + 1 := by rw [hM3]; show up1 (nlM M2 N 8).1 22 ((N : Int) + 1) 22 = _; rw [up1_e]
    have t3 : tkR C2 M3 n s2 := tkR_of l3 rfl rfl rfl rfl (fun k _ _ => z1 k (by omega)) (z2 4 (by decide))
    obtain ⟨C4, M4, s4, q1, q2, q3, q4, q5, q6⟩ := tk_adv (z := z) t3 (by rw [z1 13 (by decide), nmTk_13 cx]; decide) (by unfold byI at b2 ⊢; rw [z2 3 (by decide)]; exact b2)
    have oN : ∀ a, a ≠ B + 1 → (naC C4 B N (wdL (M1.2 4)) (wdL (M2.2 4))).1 a = C4.1 a := fun a ha => by
      funext j
      show (if a = B + 1 then _ else C4.1 a j) = _
      rw [if_neg ha]
    refine ⟨naC C4 B N (wdL (M1.2 4)) (wdL (M2.2 4)), M4, s4, fun h hS => ?_, fun h hS => ?_, ?_, ?_, by omega⟩
    · obtain ⟨f0, f1, f2, f3, f4, f5, f6, f7, f8⟩ := sprF hB (h := h) (C := C)
      obtain ⟨v0, v1, v2, v3, v4, v5, v6, v7, v8⟩ := sprF hB (h := h) (C := C2)
      obtain ⟨w0, w1, w2, w3, w4, w5, w6, w7, w8⟩ := sprF hB (h := h) (C := C4)
      have y := c36 (z := z) (h := h) (C := C2) (b := 1) (Or.inr rfl) (c := 3)
      rw [if_pos rfl] at y
      have x44 := c44 (z := z) (h := h) (C := C4) hB (n := N) (by rw [q4.1 _ (by omega), m1, cN2]) hN20 (v := wdL (M1.2 4)) (w := wdL (M2.2 4))
      simp (disch := omega) only [en41, e41_0, e41_1, e41_2, e41_5, e41_8, e41_10, e41_13, e41_14, e41_17, e41_18, e41_19, e41_22, e41_23, e41_26, e41_27, e41_30, e41_31, e41_32, e41_35, e41_36, e41_39, e41_41, e41_42, e41_43, e41_46, e41_47, e41_49, e41_52, e41_53, e41_56, e41_57, e41_60, e41_61, e41_62, e41_65, e41_66, e41_69, e41_70, e41_73, e41_74, e41_76, e41_79, ↓reduceIte, Bool.false_eq_true, not_false_eq_true, not_true_eq_false, Nat.reduceLeDiff, Nat.reduceAdd, Nat.reduceEqDiff, Int.reduceToNat, Int.toNat_natCast, iB0, iB1, ru_klI, ru_klR, ru_klF, ru_klJ, ru_kl0, ru_cs0, ru_csI, ru_csR, ru_csF, ru_csJ, wI_add, wI_sub, wI_mul, wI_lt, wI_le, wI_inj, ru_fdE, ru_fdN, ru_iaN, ru_baN, ru_laN, ru_qaN, ru_pfN, ru_isN, ru_bsN, ru_jsN, ru_qsN, ru_set2, Nat.add_right_cancel_iff, if_true, if_false, ite_self, Int.reduceEq, and_self, Int.add_neg_cancel_right, Int.add_zero, Int.zero_add, f0, f2, f5, v0, v2, w0, w2, dC, g1, k1, kk1 h hS, kk2 h hS, l1, kf, df, y, q1, x44, not_true]
    · have L := p67l (z := z) (M := M2) (h := h) cN2 hN20 8 0 (by omega)
      have en0 : nlM M2 N 0 = M2 := by
        refine Prod.ext rfl (funext fun k => ?_)
        show (if k = 6 then (fun q => if 16 * N ≤ q ∧ q < 16 * N + 0 then M2.2 7 (q - 16 * N) else if 16 * N + 8 ≤ q ∧ q < 16 * N + 8 + 0 then M2.2 4 (q - (16 * N + 8)) else M2.2 6 q) else M2.2 k) = M2.2 k
        by_cases e : k = 6
        · rw [if_pos e, e]
          funext q
          rw [if_neg (by omega), if_neg (by omega)]
        · rw [if_neg e]
      rw [en0, show ((0 : Nat) : Int) = 0 from rfl] at L
      have g17 : am_fd (mdPut h M2) 1315 10 17 = some (.int (wI 0)) := by rw [md_f17, h172]
      have v22 : am_fd (mdPut h (nlM M2 N 8)) 1315 10 22 = some (.int (wI N)) := by rw [md_f22]; show some (Value.int (wI (M2.1 22))) = _; rw [cN2]
      have s22 : am_pf (mdPut h (nlM M2 N 8)) 1315 10 22 0 (.int (wI ((N : Int) + 1))) = some (mdPut h M3) := by rw [hM3]; exact md_s22
      have y4 : ru_ev z 66 [.ref 1315] (mdPut h M3) = some (.inl none, mdPut h M4) := p66 (z := z) (by rw [z1 17 (by decide)]; exact h172) (q2 h)
      have xx : ru_n z 67 137 [some (.ref 1315), some (.int (wI 8))] [] (mdPut h (nlM M2 N 8)) = some (.inl none, mdPut h M4) := by
        simp (disch := omega) only [e67_137, e67_138, e67_139, e67_142, e67_143, e67_144, e67_147, e67_148, e67_151, ↓reduceIte, Bool.false_eq_true, not_false_eq_true, not_true_eq_false, Nat.reduceLeDiff, Nat.reduceAdd, Nat.reduceEqDiff, Int.reduceToNat, Int.toNat_natCast, iB0, iB1, ru_klI, ru_klR, ru_klF, ru_klJ, ru_kl0, ru_cs0, ru_csI, ru_csR, ru_csF, ru_csJ, wI_add, wI_sub, wI_mul, wI_lt, wI_le, wI_inj, ru_fdE, ru_fdN, ru_iaN, ru_baN, ru_laN, ru_qaN, ru_pfN, ru_isN, ru_bsN, ru_jsN, ru_qsN, ru_set2, Nat.add_right_cancel_iff, if_true, if_false, ite_self, Int.reduceEq, and_self, Int.add_neg_cancel_right, Int.add_zero, Int.zero_add, ru_ctR, ru_ctI, md_e, v22, s22, y4]
      rw [xx] at L
      simp (disch := omega) only [en67, e67_0, e67_1, e67_4, e67_6, e67_9, e67_10, e67_11, e67_14, e67_15, e67_18, e67_19, e67_20, e67_23, e67_24, e67_27, e67_28, e67_31, e67_32, e67_35, e67_38, e67_39, e67_40, e67_43, e67_46, e67_47, e67_48, e67_51, e67_52, e67_55, e67_56, e67_59, e67_60, e67_63, e67_64, e67_67, e67_68, e67_69, e67_72, e67_73, e67_76, e67_79, e67_80, e67_81, ↓reduceIte, Bool.false_eq_true, not_false_eq_true, not_true_eq_false, Nat.reduceLeDiff, Nat.reduceAdd, Nat.reduceEqDiff, Int.reduceToNat, Int.toNat_natCast, iB0, iB1, ru_klI, ru_klR, ru_klF, ru_klJ, ru_kl0, ru_cs0, ru_csI, ru_csR, ru_csF, ru_csJ, wI_add, wI_sub, wI_mul, wI_lt, wI_le, wI_inj, ru_fdE, ru_fdN, ru_iaN, ru_baN, ru_laN, ru_qaN, ru_pfN, ru_isN, ru_bsN, ru_jsN, ru_qsN, ru_set2, Nat.add_right_cancel_iff, if_true, if_false, ite_self, Int.reduceEq, and_self, Int.add_neg_cancel_right, Int.add_zero, Int.zero_add, md_e, md_f21, md_f22, md_f23, g22, cN0, y1, y2 h hS, y3, x69 h hS, pf, df, g17, d0, d1, L, not_true, not_false_iff]
    · exact tkR_of q3 (oN _ (by omega)) rfl (by show (if 1001 = B + 3 then _ else (if 1001 = B + 2 then _ else C4.2.2.1 1001 8)) = _; rw [if_neg (by omega), if_neg (by omega)]) rfl (fun _ _ _ => rfl) rfl
    · obtain ⟨a1, a2, a3, a4, a5, a6, a7⟩ := r2
      have w22 : M4.1 22 = (N : Int) + 1 := by rw [q5.1 22 (by omega), z4]
      have w6 : M4.2 6 = M3.2 6 := q5.2 6 (by decide)
      refine ⟨ldC_trans (ldC_trans a1 (ldC_S q4)) ⟨fun q h1 h2 => oN q (by omega), fun _ _ => rfl, fun q j _ h2 h3 => ?_, fun _ _ _ => rfl⟩, fun i hi => ?_, ldM_trans a3 (ldM_trans ⟨fun k _ h2 _ => z1 k h2, fun c _ h6 _ _ => z2 c h6⟩ (ldM_S q5)), ?_, ?_, ⟨?_, ?_, ?_⟩, ?_⟩
      · show (if q = B + 3 then _ else (if q = B + 2 then _ else C4.2.2.1 q j)) = _
        rw [if_neg h3, if_neg h2]
      · rw [oN _ (by omega), q4.2.1 i (by omega)]; exact a2 i hi
      · rw [q5.1 17 (by omega), z1 17 (by decide)]; exact a4
      · intro i hi
        have := spR_S hB q4 a5 i hi
        rw [cph_eq (oN _ (by omega)) (fun c hc => rfl)]; exact this
      · show (if B + 1 = B + 1 then (if 0 = 0 then (N : Int) + 1 else C4.1 (B + 1) 0) else C4.1 (B + 1) 0) = _
        rw [if_pos rfl, if_pos rfl, w22]
      · rw [w22]; omega
      · intro m hm
        rw [w22] at hm
        have jJ : ∀ q j, (naC C4 B N (wdL (M1.2 4)) (wdL (M2.2 4))).2.2.1 q j = if q = B + 3 then (if j = N then wdL (M2.2 4) else C4.2.2.1 q j) else if q = B + 2 then (if j = N then wdL (M1.2 4) else C4.2.2.1 q j) else C4.2.2.1 q j := fun q j => by
          show (if q = B + 3 then (if j = N then wdL (M2.2 4) else (if q = B + 2 then (if j = N then wdL (M1.2 4) else C4.2.2.1 q j) else C4.2.2.1 q j)) else (if q = B + 2 then (if j = N then wdL (M1.2 4) else C4.2.2.1 q j) else C4.2.2.1 q j)) = _
          by_cases e : q = B + 3
          · rw [if_pos e, if_pos e, if_neg (show ¬ q = B + 2 by omega)]
          · rw [if_neg e, if_neg e]
        have cc : ∀ q j, ¬ (q = 1001 ∧ j = 8) → C4.2.2.1 q j = C2.2.2.1 q j := fun q j h => q4.2.2.2.1 q j h
        have oW : ∀ m, m < N → (∀ k, k < 8 → wF M4 6 (16 * m) k = wF M2 6 (16 * m) k) ∧ ∀ k, k < 8 → wF M4 6 (16 * m + 8) k = wF M2 6 (16 * m + 8) k := fun m hm => by
          refine ⟨fun k hk => ?_, fun k hk => ?_⟩
          · show M4.2 6 (16 * m + k) = _
            rw [w6, z3, if_neg (by omega), if_neg (by omega)]; rfl
          · show M4.2 6 (16 * m + 8 + k) = _
            rw [w6, z3, if_neg (by omega), if_neg (by omega)]; rfl
        have nW : (∀ k, k < 8 → wF M4 6 (16 * N) k = wF M2 7 0 k) ∧ ∀ k, k < 8 → wF M4 6 (16 * N + 8) k = M2.2 4 k := by
          refine ⟨fun k hk => ?_, fun k hk => ?_⟩
          · show M4.2 6 (16 * N + k) = M2.2 7 (0 + k)
            rw [w6, z3, if_pos (by omega), show 16 * N + k - 16 * N = 0 + k by omega]
          · show M4.2 6 (16 * N + 8 + k) = _
            rw [w6, z3, if_neg (by omega), if_pos (by omega), show 16 * N + 8 + k - (16 * N + 8) = k by omega]
        have wdf : wdR (wF M2 7 0) := wdR_c e2 (fun k hk => by unfold wF; rw [Nat.zero_add]; exact e7 k hk)
        by_cases e : m = N
        · subst e
          refine ⟨wdR_c wdf nW.1, wdR_c o2 nW.2, ?_, ?_, fun j hj hh => ?_⟩
          · rw [jJ, if_neg (by omega), if_pos rfl, if_pos rfl, ew]
            exact wdL_c ltf nW.1
          · rw [jJ, if_pos rfl, if_pos rfl]
            exact wdL_c o2.1 nW.2
          · obtain ⟨p1, p2, -⟩ := m3 j (by omega)
            refine ho j (Nat.zero_le _) (by omega) ⟨?_, ?_⟩
            · rw [ag_eq p1.1 ltf]
              exact fun i hi => by rw [← (oW j hj).1 i hi, ← nW.1 i hi]; exact (hh.1 i hi).symm
            · rw [ag_eq p2.1 o2.1]
              exact fun i hi => by rw [← (oW j hj).2 i hi, ← nW.2 i hi]; exact (hh.2 i hi).symm
        · have hmN : m < N := by omega
          obtain ⟨p1, p2, p3, p4, p5⟩ := m3 m (by omega)
          refine ⟨wdR_c p1 (oW m hmN).1, wdR_c p2 (oW m hmN).2, ?_, ?_, fun j hj hh => ?_⟩
          · rw [jJ, if_neg (by omega), if_pos rfl, if_neg e, cc _ _ (by omega), p3]
            exact wdL_c p1.1 (oW m hmN).1
          · rw [jJ, if_pos rfl, if_neg e, cc _ _ (by omega), p4]
            exact wdL_c p2.1 (oW m hmN).2
          · refine p5 j hj ⟨fun i hi => ?_, fun i hi => ?_⟩
            · rw [← (oW m hmN).1 i hi, ← (oW j (by omega)).1 i hi]; exact hh.1 i hi
            · rw [← (oW m hmN).2 i hi, ← (oW j (by omega)).2 i hi]; exact hh.2 i hi
      · refine rdP_of a7 ?_ (fun f hf => ?_) ?_ ?_
        · rw [oN _ (by omega), q4.1 _ (by omega)]
        · rw [cph_eq (oN _ (by omega)) (fun c hc => rfl), cph_eq (q4.1 _ (by omega)) (fun c hc => by rw [q4.2.2.1])]
        · rw [q5.1 29 (by omega), z1 29 (by decide)]
        · rw [q5.2 10 (by decide), z2 10 (by decide)]
end NLM
