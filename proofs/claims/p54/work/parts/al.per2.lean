section PEM
variable {z : Bool} {M M0 : tMd} {C C0 : tCl} {n s B : Nat}
theorem cph_S (hB : B = 1003 ∨ B = 1034) {C' : tCl} (h : inS C C') {f : Nat} : cph C' (B + 6 + 5 * f) = cph C (B + 6 + 5 * f) := cph_eq (h.1 _ (by omega)) (fun c hc => by rw [h.2.2.1])
theorem ln_person (hB : B = 1003 ∨ B = 1034) (hr : rdI B C0 M0 C M) (ht : tkR C M n s) (hb0 : byI C0 M0 n) (h13 : M.1 13 = 1) : lnO z 49 73 B n C0 M0 C M s := by
  have hb := rd_byI hB hb0 hr
  have h17 := hr.2.2.2.1
  have hn := hb.1
  have d0 : ((0 : Int) = 0) = True := eq_true rfl
  have d1 : ((1 : Int) = 0) = False := eq_false (by decide)
  obtain ⟨C1, M1, s1, k1, k2, k3, k4, k5, k6⟩ := tk_adv (z := z) ht (by omega) hb
  have r1 := rd_tok hB hr k4 k5
  have h171 := r1.2.2.2.1
  have b1 := rd_byI hB hb0 r1
  obtain ⟨p1, p2, ⟨p3, p4⟩, p5⟩ := r1.2.2.2.2.2.2
  have y1 : ∀ h, ru_ev z 66 [.ref 1315] (mdPut h M) = some (.inl none, mdPut h M1) := fun h => p66 (z := z) h17 (k2 h)
  have hP0 : M1.1 29 = M.1 29 := k5.1 29 (by omega)
  have h4P : C.1 (B + 4) 0 = M1.1 29 := by rw [← k4.1 (B + 4) (by omega)]; exact p1
  have bP : -2147483648 ≤ M1.1 29 - 1 ∧ M1.1 29 - 1 < 2147483648 := by omega
  have k38 : ∀ h, ru_ev z 38 [.ref 1001, .int (wI 0), .int (wI (M1.1 29 - 1))] (clPut h C1) = _ := fun h => c38 (z := z) (h := h) k3 (by decide) bP
  have k65 : ∀ h, ru_ev z 65 [.ref 1315, .int (wI 0), .int (wI (M1.1 29 - 1))] (mdPut h M1) = _ := fun h => p65 (z := z) (h := h) k3 h171 (by decide) bP
  by_cases e1 : nbT M1 0 (M1.1 29 - 1) = 0
  rotate_left
  · right
    have hm := mut_er k3 (nbT_b e1)
    refine ⟨_, _, fun h hS => ?_, fun h hS => ?_, er_tk hB r1 k3 hn (nbT_b e1), hm⟩
    · obtain ⟨f0, f1, f2, f3, f4, f5, f6, f7, f8⟩ := sprF hB (h := h) (C := C)
      obtain ⟨v0, v1, v2, v3, v4, v5, v6, v7, v8⟩ := sprF hB (h := h) (C := C1)
      rw [p1] at v7
      have x := k38 h
      rw [if_neg e1] at x
      simp (disch := omega) only [en49, e49_0, e49_1, e49_4, e49_5, e49_8, e49_11, e49_12, e49_13, e49_14, e49_17, e49_20, e49_21, e49_22, e49_25, e49_26, e49_27, e49_28, e49_29, e49_32, e49_34, e49_37, e49_38, e49_41, e49_42, e49_43, e49_46, e49_47, e49_50, e49_51, e49_52, e49_53, e49_56, e49_57, e49_58, e49_61, e49_62, e49_63, e49_64, e49_65, e49_68, e49_69, e49_70, e49_73, e49_75, e49_76, e49_77, e49_79, e49_82, ↓reduceIte, Bool.false_eq_true, not_false_eq_true, not_true_eq_false, Nat.reduceLeDiff, Nat.reduceAdd, Nat.reduceEqDiff, Int.reduceToNat, Int.toNat_natCast, iB0, iB1, ru_klI, ru_klR, ru_klF, ru_klJ, ru_kl0, ru_cs0, ru_csI, ru_csR, ru_csF, ru_csJ, wI_add, wI_sub, wI_mul, wI_lt, wI_le, wI_inj, ru_fdE, ru_fdN, ru_iaN, ru_baN, ru_laN, ru_qaN, ru_pfN, ru_isN, ru_bsN, ru_jsN, ru_qsN, ru_set2, Nat.add_right_cancel_iff, if_true, if_false, ite_self, Int.reduceEq, and_self, Int.add_neg_cancel_right, Int.add_zero, Int.zero_add, f0, k1, v0, v3, v7, v8, x]
    · have x := k65 h
      rw [if_neg e1] at x
      have bb := nbT_b e1
      have g17 : am_fd (mdPut h (erM M1 (nbT M1 0 (M1.1 29 - 1)))) 1315 10 17 = some (.int (wI (nbT M1 0 (M1.1 29 - 1)))) := by rw [md_f17]; rfl
      have g29 : am_fd (mdPut h M1) 1315 10 29 = some (.int (wI (M1.1 29))) := md_f29
      have d4 : (nbT M1 0 (M1.1 29 - 1) = 0) = False := eq_false e1
      have u1 := u66 (z := z) (h := h) hm
      have x2 := md_a10 (h := h) (M := erM M1 (nbT M1 0 (M1.1 29 - 1))) (i := 2) (by decide) (by decide)
      have x3 := md_a10 (h := h) (M := erM M1 (nbT M1 0 (M1.1 29 - 1))) (i := 3) (by decide) (by decide)
      rw [show ((2 : Int)).toNat = 2 from rfl, show (erM M1 (nbT M1 0 (M1.1 29 - 1))).2 = M1.2 from rfl] at x2
      rw [show ((3 : Int)).toNat = 3 from rfl, show (erM M1 (nbT M1 0 (M1.1 29 - 1))).2 = M1.2 from rfl] at x3
      have q2 := p3 2 (by decide)
      have q3 := p3 3 (by decide)
      have u2 := u64 (z := z) (h := h) (lo := 0) (hi := M1.2 10 2) hm (by decide) (by omega)
      have u3 := u64 (z := z) (h := h) (lo := 0) (hi := M1.2 10 3) hm (by decide) (by omega)
      simp (disch := omega) only [en73, e73_0, e73_1, e73_4, e73_6, e73_7, e73_8, e73_9, e73_12, e73_13, e73_14, e73_17, e73_18, e73_19, e73_20, e73_23, e73_26, e73_27, e73_30, e73_31, e73_32, e73_33, e73_34, e73_36, e73_39, e73_40, e73_41, e73_44, e73_45, e73_48, e73_49, e73_52, e73_55, e73_56, e73_59, e73_60, e73_61, e73_62, e73_63, e73_64, e73_67, e73_68, e73_69, e73_70, e73_71, e73_74, e73_75, e73_76, e73_77, e73_78, e73_81, e73_82, e73_83, e73_84, e73_85, e73_88, e73_90, e73_91, e73_94, e73_97, e73_98, e73_100, e73_101, e73_102, e73_103, e73_106, e73_107, e73_108, e73_109, e73_110, e73_111, e73_112, e73_114, e73_115, e73_118, e73_120, e73_121, e73_122, e73_123, e73_124, e73_125, e73_128, e73_130, e73_131, e73_132, e73_134, e73_135, e73_136, e73_139, e73_140, e73_141, e73_142, e73_143, e73_144, e73_145, e73_146, e73_147, ↓reduceIte, Bool.false_eq_true, not_false_eq_true, not_true_eq_false, Nat.reduceLeDiff, Nat.reduceAdd, Nat.reduceEqDiff, Int.reduceToNat, Int.toNat_natCast, iB0, iB1, ru_klI, ru_klR, ru_klF, ru_klJ, ru_kl0, ru_cs0, ru_csI, ru_csR, ru_csF, ru_csJ, wI_add, wI_sub, wI_mul, wI_lt, wI_le, wI_inj, ru_fdE, ru_fdN, ru_iaN, ru_baN, ru_laN, ru_qaN, ru_pfN, ru_isN, ru_bsN, ru_jsN, ru_qsN, ru_set2, Nat.add_right_cancel_iff, if_true, if_false, ite_self, Int.reduceEq, and_self, Int.add_neg_cancel_right, Int.add_zero, Int.zero_add, md_e, g29, md_f30, y1, x, u1, x2, x3, u2, u3, g17, d4, not_true, not_false_iff]
  obtain ⟨w13, w1, w2⟩ := nbT_ok e1
  obtain ⟨F, hF⟩ : ∃ F : Nat, M1.1 16 = (F : Int) := ⟨(M1.1 16).toNat, by omega⟩
  have hF5 : F < 5 := by omega
  have hFP : (F : Int) < M1.1 29 := by omega
  have x38 : ∀ h, ru_ev z 38 [.ref 1001, .int (wI 0), .int (wI (M1.1 29 - 1))] (clPut h C1) = some (.inl (some (.int (wI F))), clPut h C1) := fun h => by rw [k38 h, if_pos e1, hF]
  have x65 : ∀ h, ru_ev z 65 [.ref 1315, .int (wI 0), .int (wI (M1.1 29 - 1))] (mdPut h M1) = some (.inl (some (.int (wI F))), mdPut h M1) := fun h => by rw [k65 h, if_pos e1, hF]
  have k4s := (spr_k hB).2.2.2.2.1
  obtain ⟨s1', s2', s3', s4'⟩ := isSt_k k4s
  have ha : isPh (B + 6 + 5 * F) := by have := isSt_ph k4s hF5; rw [show B + 4 + 2 + 5 * F = B + 6 + 5 * F by omega] at this; exact this
  have q5 : ∀ h, am_qa (clPut h C1) (B + 4 + 1) (wI (F : Nat)) = some (B + 6 + 5 * F) := fun h => by
    have q := cl_q5 (h := h) (C := C1) s2' (by omega) (i := (F : Int)) (by omega) (by omega)
    rw [Int.toNat_natCast, show B + 4 + 1 + 1 + 5 * F = B + 6 + 5 * F by omega] at q; exact q
  have pe := p5 F hFP
  have hR := r1.2.2.2.2.1 F hF5
  obtain ⟨q, hq⟩ : ∃ q, q = cph C1 (B + 6 + 5 * F) := ⟨_, rfl⟩
  rw [← hq] at pe hR
  have g0 : q.1 0 = M1.2 10 (54 * F + 2) + 1 := pe.1 0 (by decide)
  have g1 : q.1 1 = M1.2 10 (54 * F + 3) + 1 := pe.1 1 (by decide)
  have g7 : q.1 7 = M1.2 10 (54 * F + 5) := pe.1 7 (by decide)
  have pA1 : ∀ h, phAt (clPut h C1) (B + 6 + 5 * F) q := fun h => by rw [hq]; exact cl_ph ha
  obtain ⟨m, hm7⟩ : ∃ m : Nat, M1.2 10 (54 * F + 5) = (m : Int) := ⟨(M1.2 10 (54 * F + 5)).toNat, by have := p3 (54 * F + 5) (by omega); omega⟩
  have m12 : m ≤ 12 := by have := (p4 F hF5).2.2.2.1; omega
  have i5 : ∀ h (N : tMd), N.2 10 = M1.2 10 → am_ia (mdPut h N) 1326 (wI (54 * (F : Int) + 5)) = some (wI (m : Nat)) := fun h N e => by
    have x := md_a10 (h := h) (M := N) (i := 54 * (F : Int) + 5) (by omega) (by omega)
    rw [show (54 * (F : Int) + 5).toNat = 54 * F + 5 by omega, e, hm7] at x; exact x
  have i2 : ∀ h (N : tMd), N.2 10 = M1.2 10 → am_ia (mdPut h N) 1326 (wI (54 * (F : Int) + 2)) = some (wI (M1.2 10 (54 * F + 2))) := fun h N e => by
    have x := md_a10 (h := h) (M := N) (i := 54 * (F : Int) + 2) (by omega) (by omega)
    rw [show (54 * (F : Int) + 2).toNat = 54 * F + 2 by omega, e] at x; exact x
  have i3 : ∀ h (N : tMd), N.2 10 = M1.2 10 → am_ia (mdPut h N) 1326 (wI (54 * (F : Int) + 3)) = some (wI (M1.2 10 (54 * F + 3))) := fun h N e => by
    have x := md_a10 (h := h) (M := N) (i := 54 * (F : Int) + 3) (by omega) (by omega)
    rw [show (54 * (F : Int) + 3).toNat = 54 * F + 3 by omega, e] at x; exact x
  have o2 := p3 (54 * F + 2) (by omega)
  have o3 := p3 (54 * F + 3) (by omega)
  have z17 : ∀ h, am_fd (mdPut h M1) 1315 10 17 = some (.int (wI 0)) := fun h => by rw [md_f17, h171]
  by_cases c12 : m = 12
  · right
    have hm := mut_er k3 (t := 4) (by decide)
    refine ⟨_, _, fun h hS => ?_, fun h hS => ?_, er_tk hB r1 k3 hn (t := 4) (by decide), hm⟩
    · obtain ⟨f0, f1, f2, f3, f4, f5, f6, f7, f8⟩ := sprF hB (h := h) (C := C)
      obtain ⟨v0, v1, v2, v3, v4, v5, v6, v7, v8⟩ := sprF hB (h := h) (C := C1)
      rw [p1] at v7
      have y := c36 (z := z) (h := h) (C := C1) (b := 0) (Or.inl rfl) (c := 4)
      rw [if_neg (by decide)] at y
      have dd : (12 ≤ q.1 7) = True := eq_true (by omega)
      simp (disch := omega) only [en49, e49_0, e49_1, e49_4, e49_5, e49_8, e49_11, e49_12, e49_13, e49_14, e49_17, e49_20, e49_21, e49_22, e49_25, e49_26, e49_27, e49_28, e49_29, e49_32, e49_34, e49_37, e49_38, e49_41, e49_42, e49_43, e49_46, e49_47, e49_50, e49_51, e49_52, e49_53, e49_56, e49_57, e49_58, e49_61, e49_62, e49_63, e49_64, e49_65, e49_68, e49_69, e49_70, e49_73, e49_75, e49_76, e49_77, e49_79, e49_82, ↓reduceIte, Bool.false_eq_true, not_false_eq_true, not_true_eq_false, Nat.reduceLeDiff, Nat.reduceAdd, Nat.reduceEqDiff, Int.reduceToNat, Int.toNat_natCast, iB0, iB1, ru_klI, ru_klR, ru_klF, ru_klJ, ru_kl0, ru_cs0, ru_csI, ru_csR, ru_csF, ru_csJ, wI_add, wI_sub, wI_mul, wI_lt, wI_le, wI_inj, ru_fdE, ru_fdN, ru_iaN, ru_baN, ru_laN, ru_qaN, ru_pfN, ru_isN, ru_bsN, ru_jsN, ru_qsN, ru_set2, Nat.add_right_cancel_iff, if_true, if_false, ite_self, Int.reduceEq, and_self, Int.add_neg_cancel_right, Int.add_zero, Int.zero_add, f0, k1, v0, v3, v7, v8, x38, q5, phF (pA1 h), dd, y]
      rfl
    · have g17 : am_fd (mdPut h (erM M1 4)) 1315 10 17 = some (.int (wI 4)) := by rw [md_f17]; rfl
      have g29 : am_fd (mdPut h M1) 1315 10 29 = some (.int (wI (M1.1 29))) := md_f29
      have d4 : ((4 : Int) = 0) = False := eq_false (by decide)
      have dm : ((m : Int) = 12) = True := eq_true (by omega)
      have u1 := u66 (z := z) (h := h) hm
      have x2 := md_a10 (h := h) (M := erM M1 4) (i := 2) (by decide) (by decide)
      have x3 := md_a10 (h := h) (M := erM M1 4) (i := 3) (by decide) (by decide)
      rw [show ((2 : Int)).toNat = 2 from rfl, show (erM M1 4).2 = M1.2 from rfl] at x2
      rw [show ((3 : Int)).toNat = 3 from rfl, show (erM M1 4).2 = M1.2 from rfl] at x3
      have q2 := p3 2 (by decide)
      have q3 := p3 3 (by decide)
      have u2 := u64 (z := z) (h := h) (lo := 0) (hi := M1.2 10 2) hm (by decide) (by omega)
      have u3 := u64 (z := z) (h := h) (lo := 0) (hi := M1.2 10 3) hm (by decide) (by omega)
      simp (disch := omega) only [en73, e73_0, e73_1, e73_4, e73_6, e73_7, e73_8, e73_9, e73_12, e73_13, e73_14, e73_17, e73_18, e73_19, e73_20, e73_23, e73_26, e73_27, e73_30, e73_31, e73_32, e73_33, e73_34, e73_36, e73_39, e73_40, e73_41, e73_44, e73_45, e73_48, e73_49, e73_52, e73_55, e73_56, e73_59, e73_60, e73_61, e73_62, e73_63, e73_64, e73_67, e73_68, e73_69, e73_70, e73_71, e73_74, e73_75, e73_76, e73_77, e73_78, e73_81, e73_82, e73_83, e73_84, e73_85, e73_88, e73_90, e73_91, e73_94, e73_97, e73_98, e73_100, e73_101, e73_102, e73_103, e73_106, e73_107, e73_108, e73_109, e73_110, e73_111, e73_112, e73_114, e73_115, e73_118, e73_120, e73_121, e73_122, e73_123, e73_124, e73_125, e73_128, e73_130, e73_131, e73_132, e73_134, e73_135, e73_136, e73_139, e73_140, e73_141, e73_142, e73_143, e73_144, e73_145, e73_146, e73_147, ↓reduceIte, Bool.false_eq_true, not_false_eq_true, not_true_eq_false, Nat.reduceLeDiff, Nat.reduceAdd, Nat.reduceEqDiff, Int.reduceToNat, Int.toNat_natCast, iB0, iB1, ru_klI, ru_klR, ru_klF, ru_klJ, ru_kl0, ru_cs0, ru_csI, ru_csR, ru_csF, ru_csJ, wI_add, wI_sub, wI_mul, wI_lt, wI_le, wI_inj, ru_fdE, ru_fdN, ru_iaN, ru_baN, ru_laN, ru_qaN, ru_pfN, ru_isN, ru_bsN, ru_jsN, ru_qsN, ru_set2, Nat.add_right_cancel_iff, if_true, if_false, ite_self, Int.reduceEq, and_self, Int.add_neg_cancel_right, Int.add_zero, Int.zero_add, md_e, g29, md_f30, y1, x65, z17, i5 h M1 rfl, dm, d0, f63 h171, u1, x2, x3, u2, u3, g17, d4, not_true, not_false_iff]
  have m11 : m < 12 := by omega
  have dm : ((m : Int) = 12) = False := eq_false (by omega)
  have dq : (12 ≤ q.1 7) = False := eq_false (by omega)
  have gy : ∀ h, ru_ev z 36 [.ref 1001, .int (wI 1), .int (wI 4)] (clPut h C1) = some (.inl none, clPut h C1) := fun h => by rw [c36 (Or.inr rfl), if_pos rfl]
  obtain ⟨C2, M2, s2, l1, l2, l3, l4, l5, l6⟩ := tk_adv (z := z) k3 (by omega) b1
  have r2 := rd_tok hB r1 l4 l5
  have h172 := r2.2.2.2.1
  have b2 := rd_byI hB hb0 r2
  have y2 : ∀ h, ru_ev z 66 [.ref 1315] (mdPut h M1) = some (.inl none, mdPut h M2) := fun h => p66 (z := z) h171 (l2 h)
  have z172 : ∀ h, am_fd (mdPut h M2) 1315 10 17 = some (.int (wI 0)) := fun h => by rw [md_f17, h172]
  have pA2 : ∀ h, phAt (clPut h C2) (B + 6 + 5 * F) q := fun h => by rw [hq, ← cph_S hB l4]; exact cl_ph ha
  have t2 : M2.2 10 = M1.2 10 := l5.2 10 (by decide)
  have g29 : ∀ h, am_fd (mdPut h M1) 1315 10 29 = some (.int (wI (M1.1 29))) := fun h => md_f29
  have ew : q.1 0 - 1 = M1.2 10 (54 * F + 2) := by omega
  have eh : q.1 1 - 1 = M1.2 10 (54 * F + 3) := by omega
  rcases ps_num (z := z) l3 h172 b2 (lo := 0) (hi := M1.2 10 (54 * F + 2)) (by decide) (by omega) with ⟨e2, C3, M3, s3, v1, v2, v3, v4, v5, v6⟩ | ⟨e2, v1, v2⟩
  rotate_left
  · right
    have hm := mut_er l3 (nbT_b e2)
    refine ⟨_, _, fun h hS => ?_, fun h hS => ?_, er_tk hB r2 l3 hn (nbT_b e2), hm⟩
    · obtain ⟨w0, w1', w2', w3, w4, w5, w6, w7, w8⟩ := sprF hB (h := h) (C := C1)
      rw [p1] at w7
      simp (disch := omega) only [en49, e49_0, e49_1, e49_4, e49_5, e49_8, e49_11, e49_12, e49_13, e49_14, e49_17, e49_20, e49_21, e49_22, e49_25, e49_26, e49_27, e49_28, e49_29, e49_32, e49_34, e49_37, e49_38, e49_41, e49_42, e49_43, e49_46, e49_47, e49_50, e49_51, e49_52, e49_53, e49_56, e49_57, e49_58, e49_61, e49_62, e49_63, e49_64, e49_65, e49_68, e49_69, e49_70, e49_73, e49_75, e49_76, e49_77, e49_79, e49_82, ↓reduceIte, Bool.false_eq_true, not_false_eq_true, not_true_eq_false, Nat.reduceLeDiff, Nat.reduceAdd, Nat.reduceEqDiff, Int.reduceToNat, Int.toNat_natCast, iB0, iB1, ru_klI, ru_klR, ru_klF, ru_klJ, ru_kl0, ru_cs0, ru_csI, ru_csR, ru_csF, ru_csJ, wI_add, wI_sub, wI_mul, wI_lt, wI_le, wI_inj, ru_fdE, ru_fdN, ru_iaN, ru_baN, ru_laN, ru_qaN, ru_pfN, ru_isN, ru_bsN, ru_jsN, ru_qsN, ru_set2, Nat.add_right_cancel_iff, if_true, if_false, ite_self, Int.reduceEq, and_self, Int.add_neg_cancel_right, Int.add_zero, Int.zero_add, (sprF hB (h := h) (C := C)).1, k1, w0, w3, w7, w8, x38, q5, phF (pA1 h), phF (pA2 h), dq, gy, l1, ew, v1]
    · obtain ⟨t, htt⟩ : ∃ t, t = nbT M2 0 (M1.2 10 (54 * F + 2)) := ⟨_, rfl⟩
      have bb := nbT_b e2
      rw [← htt] at v2 hm e2 bb
      have g17 : am_fd (mdPut h (erM M2 t)) 1315 10 17 = some (.int (wI t)) := by rw [md_f17]; rfl
      have d4 : (t = 0) = False := eq_false e2
      have u3 := u64 (z := z) (h := h) (lo := 0) (hi := M1.2 10 (54 * F + 3)) hm (by decide) (by omega)
      have j3 := i3 h (erM M2 t) t2
      rw [← htt]
      simp (disch := omega) only [en73, e73_0, e73_1, e73_4, e73_6, e73_7, e73_8, e73_9, e73_12, e73_13, e73_14, e73_17, e73_18, e73_19, e73_20, e73_23, e73_26, e73_27, e73_30, e73_31, e73_32, e73_33, e73_34, e73_36, e73_39, e73_40, e73_41, e73_44, e73_45, e73_48, e73_49, e73_52, e73_55, e73_56, e73_59, e73_60, e73_61, e73_62, e73_63, e73_64, e73_67, e73_68, e73_69, e73_70, e73_71, e73_74, e73_75, e73_76, e73_77, e73_78, e73_81, e73_82, e73_83, e73_84, e73_85, e73_88, e73_90, e73_91, e73_94, e73_97, e73_98, e73_100, e73_101, e73_102, e73_103, e73_106, e73_107, e73_108, e73_109, e73_110, e73_111, e73_112, e73_114, e73_115, e73_118, e73_120, e73_121, e73_122, e73_123, e73_124, e73_125, e73_128, e73_130, e73_131, e73_132, e73_134, e73_135, e73_136, e73_139, e73_140, e73_141, e73_142, e73_143, e73_144, e73_145, e73_146, e73_147, ↓reduceIte, Bool.false_eq_true, not_false_eq_true, not_true_eq_false, Nat.reduceLeDiff, Nat.reduceAdd, Nat.reduceEqDiff, Int.reduceToNat, Int.toNat_natCast, iB0, iB1, ru_klI, ru_klR, ru_klF, ru_klJ, ru_kl0, ru_cs0, ru_csI, ru_csR, ru_csF, ru_csJ, wI_add, wI_sub, wI_mul, wI_lt, wI_le, wI_inj, ru_fdE, ru_fdN, ru_iaN, ru_baN, ru_laN, ru_qaN, ru_pfN, ru_isN, ru_bsN, ru_jsN, ru_qsN, ru_set2, Nat.add_right_cancel_iff, if_true, if_false, ite_self, Int.reduceEq, and_self, Int.add_neg_cancel_right, Int.add_zero, Int.zero_add, md_e, g29, md_f30, y1, x65, z17, z172, i5 h M1 rfl, i2 h M2 t2, j3, dm, d0, y2, v2, u3, g17, d4, not_true, not_false_iff]
  obtain ⟨-, X1, X2⟩ := nbT_ok e2
  have r3 := rd_tok hB r2 v4 v5
  have h173 := r3.2.2.2.1
  have b3 := rd_byI hB hb0 r3
  have pA3 : ∀ h, phAt (clPut h C3) (B + 6 + 5 * F) q := fun h => by rw [hq, ← cph_S hB l4, ← cph_S hB v4]; exact cl_ph ha
  have t3 : M3.2 10 = M1.2 10 := (v5.2 10 (by decide)).trans t2
  rcases ps_num (z := z) v3 h173 b3 (lo := 0) (hi := M1.2 10 (54 * F + 3)) (by decide) (by omega) with ⟨e3, C4, M4, s4, o1', o2', o3', o4', o5', o6'⟩ | ⟨e3, o1', o2'⟩
  rotate_left
  · right
    have hm := mut_er v3 (nbT_b e3)
    refine ⟨_, _, fun h hS => ?_, fun h hS => ?_, er_tk hB r3 v3 hn (nbT_b e3), hm⟩
    · obtain ⟨w0, w1', w2', w3, w4, w5, w6, w7, w8⟩ := sprF hB (h := h) (C := C1)
      rw [p1] at w7
      simp (disch := omega) only [en49, e49_0, e49_1, e49_4, e49_5, e49_8, e49_11, e49_12, e49_13, e49_14, e49_17, e49_20, e49_21, e49_22, e49_25, e49_26, e49_27, e49_28, e49_29, e49_32, e49_34, e49_37, e49_38, e49_41, e49_42, e49_43, e49_46, e49_47, e49_50, e49_51, e49_52, e49_53, e49_56, e49_57, e49_58, e49_61, e49_62, e49_63, e49_64, e49_65, e49_68, e49_69, e49_70, e49_73, e49_75, e49_76, e49_77, e49_79, e49_82, ↓reduceIte, Bool.false_eq_true, not_false_eq_true, not_true_eq_false, Nat.reduceLeDiff, Nat.reduceAdd, Nat.reduceEqDiff, Int.reduceToNat, Int.toNat_natCast, iB0, iB1, ru_klI, ru_klR, ru_klF, ru_klJ, ru_kl0, ru_cs0, ru_csI, ru_csR, ru_csF, ru_csJ, wI_add, wI_sub, wI_mul, wI_lt, wI_le, wI_inj, ru_fdE, ru_fdN, ru_iaN, ru_baN, ru_laN, ru_qaN, ru_pfN, ru_isN, ru_bsN, ru_jsN, ru_qsN, ru_set2, Nat.add_right_cancel_iff, if_true, if_false, ite_self, Int.reduceEq, and_self, Int.add_neg_cancel_right, Int.add_zero, Int.zero_add, (sprF hB (h := h) (C := C)).1, k1, w0, w3, w7, w8, x38, q5, phF (pA1 h), phF (pA2 h), phF (pA3 h), dq, gy, l1, ew, eh, v1, o1']
    · obtain ⟨t, htt⟩ : ∃ t, t = nbT M3 0 (M1.2 10 (54 * F + 3)) := ⟨_, rfl⟩
      have bb := nbT_b e3
      rw [← htt] at o2' hm e3 bb
      have g17 : am_fd (mdPut h (erM M3 t)) 1315 10 17 = some (.int (wI t)) := by rw [md_f17]; rfl
      have d4 : (t = 0) = False := eq_false e3
      rw [← htt]
      simp (disch := omega) only [en73, e73_0, e73_1, e73_4, e73_6, e73_7, e73_8, e73_9, e73_12, e73_13, e73_14, e73_17, e73_18, e73_19, e73_20, e73_23, e73_26, e73_27, e73_30, e73_31, e73_32, e73_33, e73_34, e73_36, e73_39, e73_40, e73_41, e73_44, e73_45, e73_48, e73_49, e73_52, e73_55, e73_56, e73_59, e73_60, e73_61, e73_62, e73_63, e73_64, e73_67, e73_68, e73_69, e73_70, e73_71, e73_74, e73_75, e73_76, e73_77, e73_78, e73_81, e73_82, e73_83, e73_84, e73_85, e73_88, e73_90, e73_91, e73_94, e73_97, e73_98, e73_100, e73_101, e73_102, e73_103, e73_106, e73_107, e73_108, e73_109, e73_110, e73_111, e73_112, e73_114, e73_115, e73_118, e73_120, e73_121, e73_122, e73_123, e73_124, e73_125, e73_128, e73_130, e73_131, e73_132, e73_134, e73_135, e73_136, e73_139, e73_140, e73_141, e73_142, e73_143, e73_144, e73_145, e73_146, e73_147, ↓reduceIte, Bool.false_eq_true, not_false_eq_true, not_true_eq_false, Nat.reduceLeDiff, Nat.reduceAdd, Nat.reduceEqDiff, Int.reduceToNat, Int.toNat_natCast, iB0, iB1, ru_klI, ru_klR, ru_klF, ru_klJ, ru_kl0, ru_cs0, ru_csI, ru_csR, ru_csF, ru_csJ, wI_add, wI_sub, wI_mul, wI_lt, wI_le, wI_inj, ru_fdE, ru_fdN, ru_iaN, ru_baN, ru_laN, ru_qaN, ru_pfN, ru_isN, ru_bsN, ru_jsN, ru_qsN, ru_set2, Nat.add_right_cancel_iff, if_true, if_false, ite_self, Int.reduceEq, and_self, Int.add_neg_cancel_right, Int.add_zero, Int.zero_add, md_e, g29, md_f30, y1, x65, z17, z172, i5 h M1 rfl, i2 h M2 t2, i3 h M3 t3, dm, d0, y2, v2, o2', g17, d4, not_true, not_false_iff]
  left
  obtain ⟨-, Y1, Y2⟩ := nbT_ok e3
  have r4 := rd_tok hB r3 o4' o5'
  have t4 : M4.2 10 = M1.2 10 := (o5'.2 10 (by decide)).trans t3
  have c4 : cph C4 (B + 6 + 5 * F) = q := by rw [hq, ← cph_S hB l4, ← cph_S hB v4, ← cph_S hB o4']
  have h294 : M4.1 29 = M1.1 29 := by rw [o5'.1 29 (by omega), v5.1 29 (by omega), l5.1 29 (by omega)]
  refine ⟨phP C4 (B + 6 + 5 * F) (adQ (cph C4 (B + 6 + 5 * F)) (M2.1 16) (M3.1 16)), pnM M4 F m (M2.1 16) (M3.1 16), s4, fun h hS => ?_, fun h hS => ?_, ?_, rd_pnM hB r4 (by rw [h294]; exact hFP) (by rw [t4]; exact hm7) m11 (by omega) (by omega), by omega⟩
  · obtain ⟨w0, w1', w2', w3, w4, w5, w6, w7, w8⟩ := sprF hB (h := h) (C := C1)
    rw [p1] at w7
    have pA4 : phAt (clPut h C4) (B + 6 + 5 * F) q := by rw [← c4]; exact cl_ph ha
    have x := m50 (z := z) (h := h) (C := C4) (a := B + 6 + 5 * F) (q := cph C4 (B + 6 + 5 * F)) ha (by rw [c4]; exact hR) (by rw [c4]; omega) (px := M2.1 16) (py := M3.1 16)
    rw [phP_get] at x
    simp (disch := omega) only [en49, e49_0, e49_1, e49_4, e49_5, e49_8, e49_11, e49_12, e49_13, e49_14, e49_17, e49_20, e49_21, e49_22, e49_25, e49_26, e49_27, e49_28, e49_29, e49_32, e49_34, e49_37, e49_38, e49_41, e49_42, e49_43, e49_46, e49_47, e49_50, e49_51, e49_52, e49_53, e49_56, e49_57, e49_58, e49_61, e49_62, e49_63, e49_64, e49_65, e49_68, e49_69, e49_70, e49_73, e49_75, e49_76, e49_77, e49_79, e49_82, ↓reduceIte, Bool.false_eq_true, not_false_eq_true, not_true_eq_false, Nat.reduceLeDiff, Nat.reduceAdd, Nat.reduceEqDiff, Int.reduceToNat, Int.toNat_natCast, iB0, iB1, ru_klI, ru_klR, ru_klF, ru_klJ, ru_kl0, ru_cs0, ru_csI, ru_csR, ru_csF, ru_csJ, wI_add, wI_sub, wI_mul, wI_lt, wI_le, wI_inj, ru_fdE, ru_fdN, ru_iaN, ru_baN, ru_laN, ru_qaN, ru_pfN, ru_isN, ru_bsN, ru_jsN, ru_qsN, ru_set2, Nat.add_right_cancel_iff, if_true, if_false, ite_self, Int.reduceEq, and_self, Int.add_neg_cancel_right, Int.add_zero, Int.zero_add, (sprF hB (h := h) (C := C)).1, k1, w0, w3, w7, w8, x38, q5, phF (pA1 h), phF (pA2 h), phF (pA3 h), pA4.1, dq, gy, l1, ew, eh, v1, o1', x]
  · have z174 : am_fd (mdPut h M4) 1315 10 17 = some (.int (wI 0)) := by rw [md_f17, r4.2.2.2.1]
    have f30 : ∀ G, am_fd (mdPut h (M4.1, G)) 1315 10 30 = some (.ref 1326) := fun G => md_f30
    have f30' : ∀ N, am_fd (mdPut h N) 1315 10 30 = some (.ref 1326) := fun N => md_f30
    have x1 := md_w10 (h := h) (M := M4) (i := 54 * (F : Int) + 6 + 4 * (m : Int)) (v := M2.1 16) (by omega) (by omega)
    rw [show (54 * (F : Int) + 6 + 4 * (m : Int)).toNat = 54 * F + 6 + 4 * m by omega, up2_C, t4] at x1
    have x2 := md_w10 (h := h) (M := (M4.1, upC M4.2 10 (up1 (M1.2 10) (54 * F + 6 + 4 * m) (M2.1 16)))) (i := 54 * (F : Int) + 6 + 4 * (m : Int) + 1) (v := M3.1 16) (by omega) (by omega)
    rw [show (54 * (F : Int) + 6 + 4 * (m : Int) + 1).toNat = 54 * F + 6 + 4 * m + 1 by omega, up2_C] at x2
    dsimp only at x2
    rw [upC_e, upC_up] at x2
    have x3 := md_a10 (h := h) (M := (M4.1, upC M4.2 10 (up1 (up1 (M1.2 10) (54 * F + 6 + 4 * m) (M2.1 16)) (54 * F + 6 + 4 * m + 1) (M3.1 16)))) (i := 54 * (F : Int) + 5) (by omega) (by omega)
    rw [show (54 * (F : Int) + 5).toNat = 54 * F + 5 by omega] at x3
    dsimp only at x3
    rw [upC_e, up1_n (by omega), up1_n (by omega), hm7] at x3
    have x4 := md_w10 (h := h) (M := (M4.1, upC M4.2 10 (up1 (up1 (M1.2 10) (54 * F + 6 + 4 * m) (M2.1 16)) (54 * F + 6 + 4 * m + 1) (M3.1 16)))) (i := 54 * (F : Int) + 5) (v := (m : Int) + 1) (by omega) (by omega)
    rw [show (54 * (F : Int) + 5).toNat = 54 * F + 5 by omega, up2_C] at x4
    dsimp only at x4
    rw [upC_e, upC_up] at x4
    have e9 : pnM M4 F m (M2.1 16) (M3.1 16) = (M4.1, upC M4.2 10 (up1 (up1 (up1 (M1.2 10) (54 * F + 6 + 4 * m) (M2.1 16)) (54 * F + 6 + 4 * m + 1) (M3.1 16)) (54 * F + 5) ((m : Int) + 1))) := by unfold pnM; rw [t4]
    rw [e9]
    simp (disch := omega) only [en73, e73_0, e73_1, e73_4, e73_6, e73_7, e73_8, e73_9, e73_12, e73_13, e73_14, e73_17, e73_18, e73_19, e73_20, e73_23, e73_26, e73_27, e73_30, e73_31, e73_32, e73_33, e73_34, e73_36, e73_39, e73_40, e73_41, e73_44, e73_45, e73_48, e73_49, e73_52, e73_55, e73_56, e73_59, e73_60, e73_61, e73_62, e73_63, e73_64, e73_67, e73_68, e73_69, e73_70, e73_71, e73_74, e73_75, e73_76, e73_77, e73_78, e73_81, e73_82, e73_83, e73_84, e73_85, e73_88, e73_90, e73_91, e73_94, e73_97, e73_98, e73_100, e73_101, e73_102, e73_103, e73_106, e73_107, e73_108, e73_109, e73_110, e73_111, e73_112, e73_114, e73_115, e73_118, e73_120, e73_121, e73_122, e73_123, e73_124, e73_125, e73_128, e73_130, e73_131, e73_132, e73_134, e73_135, e73_136, e73_139, e73_140, e73_141, e73_142, e73_143, e73_144, e73_145, e73_146, e73_147, ↓reduceIte, Bool.false_eq_true, not_false_eq_true, not_true_eq_false, Nat.reduceLeDiff, Nat.reduceAdd, Nat.reduceEqDiff, Int.reduceToNat, Int.toNat_natCast, iB0, iB1, ru_klI, ru_klR, ru_klF, ru_klJ, ru_kl0, ru_cs0, ru_csI, ru_csR, ru_csF, ru_csJ, wI_add, wI_sub, wI_mul, wI_lt, wI_le, wI_inj, ru_fdE, ru_fdN, ru_iaN, ru_baN, ru_laN, ru_qaN, ru_pfN, ru_isN, ru_bsN, ru_jsN, ru_qsN, ru_set2, Nat.add_right_cancel_iff, if_true, if_false, ite_self, Int.reduceEq, and_self, Int.add_neg_cancel_right, Int.add_zero, Int.zero_add, ru_ctR, ru_ctI, md_e, g29, f30', f30, y1, x65, z17, z172, i5 h M1 rfl, i2 h M2 t2, i3 h M3 t3, i5 h M4 t4, dm, d0, y2, v2, o2', z174, x1, x2, x3, x4, not_true, not_false_iff]
  · exact tkR_of o3' (phP_1 (by omega)) (phP_2 (by omega)) rfl rfl (fun k _ _ => rfl) (pnM_n (by decide))
end PEM
