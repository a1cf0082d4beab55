theorem stM0_n {M : tMd} {c : Nat} (h : c ≠ 10) : (stM0 M).2 c = M.2 c := upC_n h
section ALM
variable {z : Bool} {M M0 : tMd} {C C0 : tCl} {n s B : Nat}
/-- the reference's end of reading: mute -/
theorem p55m {h : am_H} {l1 l2 : Option Value} (hm : mutM M) : ru_n z 55 146 [some (.ref 1315), l1, l2] [] (mdPut h M) = some (.inl none, mdPut h M) := by
  have f1 := u63 (z := z) (h := h) (c := 1) hm
  have f5 := u63 (z := z) (h := h) (c := 5) hm
  obtain ⟨m1, m2, m3⟩ := hm
  by_cases c : M.1 13 = 0
  · have d1 : (M.1 13 = 0) = True := eq_true c
    by_cases e : wI (M.1 29) = wI 0
    · have d2 : (wI (M.1 29) = wI 0) = True := eq_true e
      simp (disch := omega) only [e55_146, e55_147, e55_150, e55_153, e55_154, e55_155, e55_158, e55_161, e55_162, e55_165, e55_168, e55_169, e55_170, e55_173, ↓reduceIte, Bool.false_eq_true, not_false_eq_true, not_true_eq_false, Nat.reduceLeDiff, Nat.reduceAdd, Nat.reduceEqDiff, Int.reduceToNat, Int.toNat_natCast, iB0, iB1, ru_klI, ru_klR, ru_klF, ru_klJ, ru_kl0, ru_cs0, ru_csI, ru_csR, ru_csF, ru_csJ, wI_add, wI_sub, wI_mul, wI_lt, wI_le, wI_inj, ru_fdE, ru_fdN, ru_iaN, ru_baN, ru_laN, ru_qaN, ru_pfN, ru_isN, ru_bsN, ru_jsN, ru_qsN, ru_set2, Nat.add_right_cancel_iff, if_true, if_false, ite_self, Int.reduceEq, and_self, Int.add_neg_cancel_right, Int.add_zero, Int.zero_add, md_e, md_f13, md_f29, d1, d2, f5, not_true, not_false_iff]
    · have d2 : (wI (M.1 29) = wI 0) = False := eq_false e
      simp (disch := omega) only [e55_146, e55_147, e55_150, e55_153, e55_154, e55_155, e55_158, e55_161, e55_162, e55_165, e55_168, e55_169, e55_170, e55_173, ↓reduceIte, Bool.false_eq_true, not_false_eq_true, not_true_eq_false, Nat.reduceLeDiff, Nat.reduceAdd, Nat.reduceEqDiff, Int.reduceToNat, Int.toNat_natCast, iB0, iB1, ru_klI, ru_klR, ru_klF, ru_klJ, ru_kl0, ru_cs0, ru_csI, ru_csR, ru_csF, ru_csJ, wI_add, wI_sub, wI_mul, wI_lt, wI_le, wI_inj, ru_fdE, ru_fdN, ru_iaN, ru_baN, ru_laN, ru_qaN, ru_pfN, ru_isN, ru_bsN, ru_jsN, ru_qsN, ru_set2, Nat.add_right_cancel_iff, if_true, if_false, ite_self, Int.reduceEq, and_self, Int.add_neg_cancel_right, Int.add_zero, Int.zero_add, md_e, md_f13, md_f29, d1, d2, f5, not_true, not_false_iff]
  · have d1 : (M.1 13 = 0) = False := eq_false c
    simp (disch := omega) only [e55_146, e55_147, e55_150, e55_153, e55_154, e55_155, e55_158, e55_161, e55_162, e55_165, e55_168, e55_169, e55_170, e55_173, ↓reduceIte, Bool.false_eq_true, not_false_eq_true, not_true_eq_false, Nat.reduceLeDiff, Nat.reduceAdd, Nat.reduceEqDiff, Int.reduceToNat, Int.toNat_natCast, iB0, iB1, ru_klI, ru_klR, ru_klF, ru_klJ, ru_kl0, ru_cs0, ru_csI, ru_csR, ru_csF, ru_csJ, wI_add, wI_sub, wI_mul, wI_lt, wI_le, wI_inj, ru_fdE, ru_fdN, ru_iaN, ru_baN, ru_laN, ru_qaN, ru_pfN, ru_isN, ru_bsN, ru_jsN, ru_qsN, ru_set2, Nat.add_right_cancel_iff, if_true, if_false, ite_self, Int.reduceEq, and_self, Int.add_neg_cancel_right, Int.add_zero, Int.zero_add, md_e, md_f13, d1, f1, not_true, not_false_iff]
theorem p55n {h : am_H} {l1 l2 : Option Value} (hm : mutM M) : ru_n z 55 71 [some (.ref 1315), l1, l2] [] (mdPut h M) = some (.inl none, mdPut h M) := by
  rw [← p55m (z := z) (h := h) (l1 := l1) (l2 := l2) hm]
  obtain ⟨m1, m2, m3⟩ := hm
  have d1 : (M.1 17 = 0) = False := eq_false (by omega)
  simp (disch := omega) only [e55_71, e55_72, e55_75, ↓reduceIte, Bool.false_eq_true, not_false_eq_true, not_true_eq_false, Nat.reduceLeDiff, Nat.reduceAdd, Nat.reduceEqDiff, Int.reduceToNat, Int.toNat_natCast, iB0, iB1, ru_klI, ru_klR, ru_klF, ru_klJ, ru_kl0, ru_cs0, ru_csI, ru_csR, ru_csF, ru_csJ, wI_add, wI_sub, wI_mul, wI_lt, wI_le, wI_inj, ru_fdE, ru_fdN, ru_iaN, ru_baN, ru_laN, ru_qaN, ru_pfN, ru_isN, ru_bsN, ru_jsN, ru_qsN, ru_set2, Nat.add_right_cancel_iff, if_true, if_false, ite_self, Int.reduceEq, and_self, Int.add_neg_cancel_right, Int.add_zero, Int.zero_add, md_e, md_f17, d1, not_false_iff]
/-- its gap, told for nothing -/
theorem p55g {h : am_H} {l1 l2 : Option Value} (hm : mutM M) : ru_n z 55 60 [some (.ref 1315), l1, l2] [] (mdPut h M) = some (.inl none, mdPut h (up1 M.1 28 0, M.2)) := by
  have x := u64 (z := z) (h := h) (lo := 0) (hi := 99) hm (by decide) (by decide)
  have s28 : am_pf (mdPut h M) 1315 10 28 0 (.int (wI 0)) = some (mdPut h (up1 M.1 28 0, M.2)) := md_s28
  have y := p55n (z := z) (h := h) (l1 := l1) (l2 := l2) (mut_28 (v := 0) hm)
  simp (disch := omega) only [e55_60, e55_61, e55_62, e55_63, e55_65, e55_68, ↓reduceIte, Bool.false_eq_true, not_false_eq_true, not_true_eq_false, Nat.reduceLeDiff, Nat.reduceAdd, Nat.reduceEqDiff, Int.reduceToNat, Int.toNat_natCast, iB0, iB1, ru_klI, ru_klR, ru_klF, ru_klJ, ru_kl0, ru_cs0, ru_csI, ru_csR, ru_csF, ru_csJ, wI_add, wI_sub, wI_mul, wI_lt, wI_le, wI_inj, ru_fdE, ru_fdN, ru_iaN, ru_baN, ru_laN, ru_qaN, ru_pfN, ru_isN, ru_bsN, ru_jsN, ru_qsN, ru_set2, Nat.add_right_cancel_iff, if_true, if_false, ite_self, Int.reduceEq, and_self, Int.add_neg_cancel_right, Int.add_zero, Int.zero_add, md_e, x, s28, y]
theorem rd_all (hB : B = 1003 ∨ B = 1034) (ht : tkR C M n s) (hb : byI C M n) (h17 : M.1 17 = 0) (hs : spR B C) :
    (∃ C' M', (∀ h, strs h → ru_ev z 25 [.ref B, .ref 1001] (clPut h C) = some (.inl none, clPut h C')) ∧ (∀ h (l1 : Int32) l2, strs h → ru_n z 55 5 [some (.ref 1315), some (.int l1), l2] [] (mdPut h M) = some (.inl none, mdPut h M')) ∧ okR B C M C' M') ∨
    ∃ C' M', (∀ h, strs h → ru_ev z 25 [.ref B, .ref 1001] (clPut h C) = some (.inr 2, clPut (thr h) C')) ∧ (∀ h (l1 : Int32) l2, strs h → ru_n z 55 5 [some (.ref 1315), some (.int l1), l2] [] (mdPut h M) = some (.inl none, mdPut h M')) ∧ erR B C M C' M' := by
  have hn := hb.1
  have d0 : ((0 : Int) = 0) = True := eq_true rfl
  have d1 : ((1 : Int) = 0) = False := eq_false (by decide)
  have ra := rd_st hB h17 hs
  have ba := rd_byI hB hb ra
  have h17a := ra.2.2.2.1
  have ta : tkR (stC0 B C) (stM0 M) n s := tkR_of ht (by
    funext j
    show (if 1001 = B + 4 then _ else (if 1001 = B + 1 then _ else C.1 1001 j)) = _
    rw [if_neg (by omega), if_neg (by omega)]) rfl rfl rfl (fun k _ _ => by
    show up1 (up1 M.1 22 0) 29 0 k = _
    rw [up1_n (by omega), up1_n (by omega)]) (stM0_n (by decide))
  obtain ⟨kB0, kB1, kB2, kB3, kB4, kB5, kB6, kB7, kB8⟩ := spr_k hB
  -- the class up to its first word
  have cs : ∀ h, ru_ev z 25 [.ref B, .ref 1001] (clPut h C) = ru_n z 25 15 [some (.ref B), some (.ref 1001), none] [] (clPut h (stC0 B C)) := fun h => by
    obtain ⟨f0, f1, f2, f3, f4, f5, f6, f7, f8⟩ := sprF hB (h := h) (C := C)
    obtain ⟨g0, g1, g2, g3, g4, g5, g6, g7, g8⟩ := sprF hB (h := h) (C := upI C (B + 1) 0 0)
    have p0 : am_pf (clPut h C) (B + 1) 3 0 0 (.int (wI 0)) = some (clPut h (upI C (B + 1) 0 0)) := cl_p3_0 kB1 (by omega)
    have x26 : ru_ev z 26 [.ref (B + 4)] (clPut h (upI C (B + 1) 0 0)) = some (.inl none, clPut h (stC0 B C)) := m26 kB4
    simp (disch := omega) only [en25, e25_0, e25_1, e25_4, e25_5, e25_8, e25_9, e25_12, ↓reduceIte, Bool.false_eq_true, not_false_eq_true, not_true_eq_false, Nat.reduceLeDiff, Nat.reduceAdd, Nat.reduceEqDiff, Int.reduceToNat, Int.toNat_natCast, iB0, iB1, ru_klI, ru_klR, ru_klF, ru_klJ, ru_kl0, ru_cs0, ru_csI, ru_csR, ru_csF, ru_csJ, wI_add, wI_sub, wI_mul, wI_lt, wI_le, wI_inj, ru_fdE, ru_fdN, ru_iaN, ru_baN, ru_laN, ru_qaN, ru_pfN, ru_isN, ru_bsN, ru_jsN, ru_qsN, ru_set2, Nat.add_right_cancel_iff, if_true, if_false, ite_self, Int.reduceEq, and_self, Int.add_neg_cancel_right, Int.add_zero, Int.zero_add, f0, f2, g3, p0, x26]
  have ms : ∀ h (l1 : Int32) l2, ∃ l2', ru_n z 55 5 [some (.ref 1315), some (.int l1), l2] [] (mdPut h M) = ru_n z 55 37 [some (.ref 1315), some (.int l1), l2'] [] (mdPut h (stM0 M)) := fun h l1 l2 => p55s
  have e61 : sbT 61 = sbT 1 := by decide
  have e62 : sbT 62 = sbT 3 := by decide
  rcases ps_word (z := z) ta h17a ba (S := 301) (V := 401) (S2 := 361) (V2 := 461) (T := sbT 1) (by decide) (sbT_ok 1 (by decide)).2 with ⟨w1, C1, M1, s1, k1, k2, k3, k4, k5, k6⟩ | ⟨w1, k1, k2⟩
  rotate_left
  · right
    have hm := mut_er ta (t := 1) (by decide)
    refine ⟨_, _, fun h hS => ?_, fun h l1 l2 hS => ?_, erR_28 (v := 0) (erI_R (er_tk hB ra ta hn (t := 1) (by decide)) ⟨fun _ _ _ => rfl, fun _ _ => rfl, fun _ _ _ _ _ => rfl, fun _ _ _ => rfl⟩ ⟨fun _ _ _ _ _ => rfl, fun _ _ _ _ _ => rfl⟩ rfl)⟩
    · rw [cs h]
      have x := k1 h (hS 1 (by decide))
      simp (disch := omega) only [e25_15, e25_16, e25_18, ↓reduceIte, Bool.false_eq_true, not_false_eq_true, not_true_eq_false, Nat.reduceLeDiff, Nat.reduceAdd, Nat.reduceEqDiff, Int.reduceToNat, Int.toNat_natCast, iB0, iB1, ru_klI, ru_klR, ru_klF, ru_klJ, ru_kl0, ru_cs0, ru_csI, ru_csR, ru_csF, ru_csJ, wI_add, wI_sub, wI_mul, wI_lt, wI_le, wI_inj, ru_fdE, ru_fdN, ru_iaN, ru_baN, ru_laN, ru_qaN, ru_pfN, ru_isN, ru_bsN, ru_jsN, ru_qsN, ru_set2, Nat.add_right_cancel_iff, if_true, if_false, ite_self, Int.reduceEq, and_self, Int.add_neg_cancel_right, Int.add_zero, Int.zero_add, cl_e1, x]
    · obtain ⟨l2', q⟩ := ms h l1 l2
      rw [q]
      have x := k2 h (by rw [← e61]; exact hS 61 (by decide))
      have y := p55g (z := z) (h := h) (l1 := some (.int l1)) (l2 := l2') hm
      simp (disch := omega) only [e55_37, e55_38, e55_40, e55_43, e55_46, e55_47, e55_49, e55_52, e55_55, e55_56, e55_57, ↓reduceIte, Bool.false_eq_true, not_false_eq_true, not_true_eq_false, Nat.reduceLeDiff, Nat.reduceAdd, Nat.reduceEqDiff, Int.reduceToNat, Int.toNat_natCast, iB0, iB1, ru_klI, ru_klR, ru_klF, ru_klJ, ru_kl0, ru_cs0, ru_csI, ru_csR, ru_csF, ru_csJ, wI_add, wI_sub, wI_mul, wI_lt, wI_le, wI_inj, ru_fdE, ru_fdN, ru_iaN, ru_baN, ru_laN, ru_qaN, ru_pfN, ru_isN, ru_bsN, ru_jsN, ru_qsN, ru_set2, Nat.add_right_cancel_iff, if_true, if_false, ite_self, Int.reduceEq, and_self, Int.add_neg_cancel_right, Int.add_zero, Int.zero_add, md_e, x, f63 h17a, y, d0, not_true, not_false_iff]
  have r1 := rd_tok hB ra k4 k5
  have h171 := r1.2.2.2.1
  have b1 := rd_byI hB hb r1
  rcases ps_word (z := z) k3 h171 b1 (S := 303) (V := 403) (S2 := 362) (V2 := 462) (T := sbT 3) (by decide) (sbT_ok 3 (by decide)).2 with ⟨w2, C2, M2, s2, l1', l2', l3, l4, l5, l6⟩ | ⟨w2, l1', l2'⟩
  rotate_left
  · right
    have hm := mut_er k3 (t := 1) (by decide)
    refine ⟨_, _, fun h hS => ?_, fun h l1 l2 hS => ?_, erR_28 (v := 0) (erI_R (er_tk hB r1 k3 hn (t := 1) (by decide)) ⟨fun _ _ _ => rfl, fun _ _ => rfl, fun _ _ _ _ _ => rfl, fun _ _ _ => rfl⟩ ⟨fun _ _ _ _ _ => rfl, fun _ _ _ _ _ => rfl⟩ rfl)⟩
    · rw [cs h]
      have x := k1 h (hS 1 (by decide))
      have x2 := l1' h (hS 3 (by decide))
      simp (disch := omega) only [e25_15, e25_16, e25_18, e25_21, e25_22, e25_24, ↓reduceIte, Bool.false_eq_true, not_false_eq_true, not_true_eq_false, Nat.reduceLeDiff, Nat.reduceAdd, Nat.reduceEqDiff, Int.reduceToNat, Int.toNat_natCast, iB0, iB1, ru_klI, ru_klR, ru_klF, ru_klJ, ru_kl0, ru_cs0, ru_csI, ru_csR, ru_csF, ru_csJ, wI_add, wI_sub, wI_mul, wI_lt, wI_le, wI_inj, ru_fdE, ru_fdN, ru_iaN, ru_baN, ru_laN, ru_qaN, ru_pfN, ru_isN, ru_bsN, ru_jsN, ru_qsN, ru_set2, Nat.add_right_cancel_iff, if_true, if_false, ite_self, Int.reduceEq, and_self, Int.add_neg_cancel_right, Int.add_zero, Int.zero_add, cl_e1, x, x2]
    · obtain ⟨l3', q⟩ := ms h l1 l2
      rw [q]
      have x := k2 h (by rw [← e61]; exact hS 61 (by decide))
      have x2 := l2' h (by rw [← e62]; exact hS 62 (by decide))
      have y := p55g (z := z) (h := h) (l1 := some (.int l1)) (l2 := l3') hm
      simp (disch := omega) only [e55_37, e55_38, e55_40, e55_43, e55_46, e55_47, e55_49, e55_52, e55_55, e55_56, e55_57, ↓reduceIte, Bool.false_eq_true, not_false_eq_true, not_true_eq_false, Nat.reduceLeDiff, Nat.reduceAdd, Nat.reduceEqDiff, Int.reduceToNat, Int.toNat_natCast, iB0, iB1, ru_klI, ru_klR, ru_klF, ru_klJ, ru_kl0, ru_cs0, ru_csI, ru_csR, ru_csF, ru_csJ, wI_add, wI_sub, wI_mul, wI_lt, wI_le, wI_inj, ru_fdE, ru_fdN, ru_iaN, ru_baN, ru_laN, ru_qaN, ru_pfN, ru_isN, ru_bsN, ru_jsN, ru_qsN, ru_set2, Nat.add_right_cancel_iff, if_true, if_false, ite_self, Int.reduceEq, and_self, Int.add_neg_cancel_right, Int.add_zero, Int.zero_add, md_e, x, x2, f63 h171, y, d0, d1, not_true, not_false_iff]
  have r2 := rd_tok hB r1 l4 l5
  have h172 := r2.2.2.2.1
  have b2 := rd_byI hB hb r2
  rcases ps_num (z := z) l3 h172 b2 (lo := 0) (hi := 99) (by decide) (by decide) with ⟨w3, C3, M3, s3, q1, q2, q3, q4, q5, q6⟩ | ⟨w3, q1, q2⟩
  rotate_left
  · right
    have hm := mut_er l3 (nbT_b w3)
    refine ⟨_, _, fun h hS => ?_, fun h l1 l2 hS => ?_, erR_28 (v := 0) (erI_R (er_tk hB r2 l3 hn (nbT_b w3)) ⟨fun _ _ _ => rfl, fun _ _ => rfl, fun _ _ _ _ _ => rfl, fun _ _ _ => rfl⟩ ⟨fun _ _ _ _ _ => rfl, fun _ _ _ _ _ => rfl⟩ rfl)⟩
    · rw [cs h]
      have x := k1 h (hS 1 (by decide))
      have x2 := l1' h (hS 3 (by decide))
      simp (disch := omega) only [e25_15, e25_16, e25_18, e25_21, e25_22, e25_24, e25_27, e25_28, e25_29, e25_30, e25_32, ↓reduceIte, Bool.false_eq_true, not_false_eq_true, not_true_eq_false, Nat.reduceLeDiff, Nat.reduceAdd, Nat.reduceEqDiff, Int.reduceToNat, Int.toNat_natCast, iB0, iB1, ru_klI, ru_klR, ru_klF, ru_klJ, ru_kl0, ru_cs0, ru_csI, ru_csR, ru_csF, ru_csJ, wI_add, wI_sub, wI_mul, wI_lt, wI_le, wI_inj, ru_fdE, ru_fdN, ru_iaN, ru_baN, ru_laN, ru_qaN, ru_pfN, ru_isN, ru_bsN, ru_jsN, ru_qsN, ru_set2, Nat.add_right_cancel_iff, if_true, if_false, ite_self, Int.reduceEq, and_self, Int.add_neg_cancel_right, Int.add_zero, Int.zero_add, cl_e1, x, x2, q1]
    · obtain ⟨l3', q⟩ := ms h l1 l2
      rw [q]
      have x := k2 h (by rw [← e61]; exact hS 61 (by decide))
      have x2 := l2' h (by rw [← e62]; exact hS 62 (by decide))
      obtain ⟨t, htt⟩ : ∃ t, t = nbT M2 0 99 := ⟨_, rfl⟩
      have q2h := q2 h
      rw [← htt] at q2h hm
      have s28 : am_pf (mdPut h (erM M2 t)) 1315 10 28 0 (.int (wI 0)) = some (mdPut h (up1 (erM M2 t).1 28 0, (erM M2 t).2)) := md_s28
      have y := p55n (z := z) (h := h) (l1 := some (.int l1)) (l2 := l3') (mut_28 (v := 0) hm)
      rw [← htt]
      simp (disch := omega) only [e55_37, e55_38, e55_40, e55_43, e55_46, e55_47, e55_49, e55_52, e55_55, e55_56, e55_57, e55_60, e55_61, e55_62, e55_63, e55_65, e55_68, ↓reduceIte, Bool.false_eq_true, not_false_eq_true, not_true_eq_false, Nat.reduceLeDiff, Nat.reduceAdd, Nat.reduceEqDiff, Int.reduceToNat, Int.toNat_natCast, iB0, iB1, ru_klI, ru_klR, ru_klF, ru_klJ, ru_kl0, ru_cs0, ru_csI, ru_csR, ru_csF, ru_csJ, wI_add, wI_sub, wI_mul, wI_lt, wI_le, wI_inj, ru_fdE, ru_fdN, ru_iaN, ru_baN, ru_laN, ru_qaN, ru_pfN, ru_isN, ru_bsN, ru_jsN, ru_qsN, ru_set2, Nat.add_right_cancel_iff, if_true, if_false, ite_self, Int.reduceEq, and_self, Int.add_neg_cancel_right, Int.add_zero, Int.zero_add, md_e, x, x2, q2h, s28, y, d0, d1, not_true, not_false_iff]
  obtain ⟨-, G1, G2⟩ := nbT_ok w3
  have r3 := rd_tok hB r2 q4 q5
  obtain ⟨G, hG⟩ : ∃ G, G = M2.1 16 := ⟨_, rfl⟩
  rw [← hG] at G1 G2 q1 q2
  -- the gap is told
  obtain ⟨Cg, hCg⟩ : ∃ Cg, Cg = upI C3 B 0 G := ⟨_, rfl⟩
  obtain ⟨Mg, hMg⟩ : ∃ Mg : tMd, Mg = (up1 M3.1 28 G, M3.2) := ⟨_, rfl⟩
  have og : ∀ q, q ≠ B → Cg.1 q = C3.1 q := fun q hq => by
    rw [hCg]; funext j
    show (if q = B then _ else C3.1 q j) = _
    rw [if_neg hq]
  have oG : Cg.2 = C3.2 := by rw [hCg]; rfl
  have om : ∀ k, k ≠ 28 → Mg.1 k = M3.1 k := fun k hk => by rw [hMg]; exact up1_n hk
  have oM : Mg.2 = M3.2 := by rw [hMg]
  have tg : tkR Cg Mg n s3 := tkR_of q3 (og _ (by omega)) (by rw [oG]) (by rw [oG]) (by rw [oG]) (fun k _ _ => om k (by omega)) (by rw [oM])
  obtain ⟨a1, a2, a3, a4, a5, a6, a7⟩ := r3
  have cg : ∀ f, cph Cg (B + 6 + 5 * f) = cph C3 (B + 6 + 5 * f) := fun f => cph_eq (og _ (by omega)) (fun c hc => by rw [oG])
  have rg : rdI B Cg Mg Cg Mg := ⟨ldC_refl, fun _ _ => rfl, ldM_refl, by rw [om 17 (by decide)]; exact a4, fun i hi => by rw [cg]; exact a5 i hi, rdN_of a6 (by rw [og _ (by omega)]) (by rw [oG]) (by rw [oG]) (om 22 (by decide)) (by rw [oM]), rdP_of a7 (by rw [og _ (by omega)]) (fun f _ => cg f) (om 29 (by decide)) (by rw [oM])⟩
  have bg : byI Cg Mg n := by
    have := rd_byI hB hb ⟨a1, a2, a3, a4, a5, a6, a7⟩
    unfold byI at this ⊢
    rw [oG, oM]; exact this
  have fC : lfC B C Cg := lfC_trans (ld_lfC a1) ⟨fun q h1 h2 => og q (by omega), fun _ _ => by rw [oG], fun _ _ _ _ _ => by rw [oG], fun _ _ _ => by rw [oG]⟩
  have fM : lfM M Mg := lfM_trans (ld_lfM a3) ⟨fun k _ _ h _ => om k h, fun _ _ _ _ _ => by rw [oM]⟩
  have c5 : ∀ i, i < 4 → Cg.1 1001 i = C.1 1001 i := fun i hi => by rw [og _ (by omega)]; exact a2 i hi
  -- the class up to its lines; the reference
  have cl : ∀ h, strs h → ru_ev z 25 [.ref B, .ref 1001] (clPut h C) = ru_n z 25 40 [some (.ref B), some (.ref 1001), some (.int (wI 0))] [] (clPut h Cg) := fun h hS => by
    rw [cs h]
    have x := k1 h (hS 1 (by decide))
    have x2 := l1' h (hS 3 (by decide))
    obtain ⟨f0, -⟩ := sprF hB (h := h) (C := C3)
    have p0 : am_pf (clPut h C3) B 2 0 0 (.int (wI G)) = some (clPut h Cg) := by rw [hCg]; exact cl_p2_0 kB0 (by omega)
    simp (disch := omega) only [e25_15, e25_16, e25_18, e25_21, e25_22, e25_24, e25_27, e25_28, e25_29, e25_30, e25_32, e25_35, e25_38, e25_39, ↓reduceIte, Bool.false_eq_true, not_false_eq_true, not_true_eq_false, Nat.reduceLeDiff, Nat.reduceAdd, Nat.reduceEqDiff, Int.reduceToNat, Int.toNat_natCast, iB0, iB1, ru_klI, ru_klR, ru_klF, ru_klJ, ru_kl0, ru_cs0, ru_csI, ru_csR, ru_csF, ru_csJ, wI_add, wI_sub, wI_mul, wI_lt, wI_le, wI_inj, ru_fdE, ru_fdN, ru_iaN, ru_baN, ru_laN, ru_qaN, ru_pfN, ru_isN, ru_bsN, ru_jsN, ru_qsN, ru_set2, Nat.add_right_cancel_iff, if_true, if_false, ite_self, Int.reduceEq, and_self, Int.add_neg_cancel_right, Int.add_zero, Int.zero_add, cl_e1, f0, x, x2, q1, p0]
  have ml : ∀ h (l1 : Int32) l2, strs h → ∃ l2', ru_n z 55 5 [some (.ref 1315), some (.int l1), l2] [] (mdPut h M) = ru_n z 55 71 [some (.ref 1315), some (.int l1), l2'] [] (mdPut h Mg) := fun h l1 l2 hS => by
    obtain ⟨l3', q⟩ := ms h l1 l2
    refine ⟨l3', ?_⟩
    rw [q]
    have x := k2 h (by rw [← e61]; exact hS 61 (by decide))
    have x2 := l2' h (by rw [← e62]; exact hS 62 (by decide))
    have s28 : am_pf (mdPut h M3) 1315 10 28 0 (.int (wI G)) = some (mdPut h Mg) := by rw [hMg]; exact md_s28
    simp (disch := omega) only [e55_37, e55_38, e55_40, e55_43, e55_46, e55_47, e55_49, e55_52, e55_55, e55_56, e55_57, e55_60, e55_61, e55_62, e55_63, e55_65, e55_68, ↓reduceIte, Bool.false_eq_true, not_false_eq_true, not_true_eq_false, Nat.reduceLeDiff, Nat.reduceAdd, Nat.reduceEqDiff, Int.reduceToNat, Int.toNat_natCast, iB0, iB1, ru_klI, ru_klR, ru_klF, ru_klJ, ru_kl0, ru_cs0, ru_csI, ru_csR, ru_csF, ru_csJ, wI_add, wI_sub, wI_mul, wI_lt, wI_le, wI_inj, ru_fdE, ru_fdN, ru_iaN, ru_baN, ru_laN, ru_qaN, ru_pfN, ru_isN, ru_bsN, ru_jsN, ru_qsN, ru_set2, Nat.add_right_cancel_iff, if_true, if_false, ite_self, Int.reduceEq, and_self, Int.add_neg_cancel_right, Int.add_zero, Int.zero_add, md_e, x, x2, q2, s28, d0, d1, not_true, not_false_iff]
  rcases ln_all (z := z) hB bg n 0 s3 Cg Mg (by omega) (by omega) tg rg with ⟨C4, M4, s4, i4, o1, o2, o3, o4⟩ | ⟨C4, M4, o1, o2, o3, o4⟩
  rotate_left
  · right
    refine ⟨C4, M4, fun h hS => ?_, fun h l1 l2 hS => ?_, erI_R o3 fC fM (c5 1 (by decide))⟩
    · rw [cl h hS]; exact o1 h hS
    · obtain ⟨l3', q⟩ := ml h l1 l2 hS
      rw [q, o2 h (some (.int l1)) l3' hS, p55m o4]
  obtain ⟨j0, jj, -, -, -, -, j5, -⟩ := tkR_k o3
  have h174 := o4.2.2.2.1
  obtain ⟨v1, v2, v3, v4, v5, v6, v7⟩ := id o4
  have cl2 : ∀ h, strs h → ru_ev z 25 [.ref B, .ref 1001] (clPut h C) = ru_n z 25 72 [some (.ref B), some (.ref 1001), some (.int (wI ((i4 : Nat) : Int)))] [] (clPut h C4) := fun h hS => by rw [cl h hS]; exact o1 h hS
  by_cases c0 : M4.1 13 = 0
  rotate_left
  · right
    have hm := mut_er o3 (t := 1) (by decide)
    refine ⟨_, _, fun h hS => ?_, fun h l1 l2 hS => ?_, erI_R (er_tk hB o4 o3 hn (t := 1) (by decide)) fC fM (c5 1 (by decide))⟩
    · rw [cl2 h hS]
      have x := c39 (z := z) (h := h) (K := 205) j0 (by decide)
      rw [if_neg (fun e => c0 (j5.mp e))] at x
      have y := c36 (z := z) (h := h) (C := C4) (b := 0) (Or.inl rfl) (c := 1)
      rw [if_neg (by decide)] at y
      simp (disch := omega) only [e25_72, e25_73, e25_74, e25_77, e25_80, e25_81, ↓reduceIte, Bool.false_eq_true, not_false_eq_true, not_true_eq_false, Nat.reduceLeDiff, Nat.reduceAdd, Nat.reduceEqDiff, Int.reduceToNat, Int.toNat_natCast, iB0, iB1, ru_klI, ru_klR, ru_klF, ru_klJ, ru_kl0, ru_cs0, ru_csI, ru_csR, ru_csF, ru_csJ, wI_add, wI_sub, wI_mul, wI_lt, wI_le, wI_inj, ru_fdE, ru_fdN, ru_iaN, ru_baN, ru_laN, ru_qaN, ru_pfN, ru_isN, ru_bsN, ru_jsN, ru_qsN, ru_set2, Nat.add_right_cancel_iff, if_true, if_false, ite_self, Int.reduceEq, and_self, Int.add_neg_cancel_right, Int.add_zero, Int.zero_add, cl_e1, x, y]
      rfl
    · obtain ⟨l3', q⟩ := ml h l1 l2 hS
      rw [q, o2 h (some (.int l1)) l3' hS]
      have e : (M4.1 13 = 0) = False := eq_false c0
      simp (disch := omega) only [e55_146, e55_147, e55_150, e55_153, e55_154, e55_155, e55_158, e55_161, e55_162, e55_165, e55_168, e55_169, e55_170, e55_173, ↓reduceIte, Bool.false_eq_true, not_false_eq_true, not_true_eq_false, Nat.reduceLeDiff, Nat.reduceAdd, Nat.reduceEqDiff, Int.reduceToNat, Int.toNat_natCast, iB0, iB1, ru_klI, ru_klR, ru_klF, ru_klJ, ru_kl0, ru_cs0, ru_csI, ru_csR, ru_csF, ru_csJ, wI_add, wI_sub, wI_mul, wI_lt, wI_le, wI_inj, ru_fdE, ru_fdN, ru_iaN, ru_baN, ru_laN, ru_qaN, ru_pfN, ru_isN, ru_bsN, ru_jsN, ru_qsN, ru_set2, Nat.add_right_cancel_iff, if_true, if_false, ite_self, Int.reduceEq, and_self, Int.add_neg_cancel_right, Int.add_zero, Int.zero_add, md_e, md_f13, e, f63 h174, not_true, not_false_iff]
  have x39 : ∀ h, ru_ev z 39 [.ref 1001, .ref 205] (clPut h C4) = some (.inl (some (.int (wI 1))), clPut h C4) := fun h => by rw [c39 j0 (by decide), if_pos (j5.mpr c0)]
  have x36 : ∀ h, ru_ev z 36 [.ref 1001, .int (wI 1), .int (wI 1)] (clPut h C4) = some (.inl none, clPut h C4) := fun h => by rw [c36 (Or.inr rfl), if_pos rfl]
  have e0 : (M4.1 13 = 0) = True := eq_true c0
  by_cases cP : M4.1 29 = 0
  · right
    refine ⟨_, _, fun h hS => ?_, fun h l1 l2 hS => ?_, erI_R (er_tk hB o4 o3 hn (t := 5) (by decide)) fC fM (c5 1 (by decide))⟩
    · rw [cl2 h hS]
      obtain ⟨f0, f1, f2, f3, f4, f5, f6, f7, f8⟩ := sprF hB (h := h) (C := C4)
      rw [v7.1, cP] at f7
      have y := c36 (z := z) (h := h) (C := C4) (b := 0) (Or.inl rfl) (c := 5)
      rw [if_neg (by decide)] at y
      simp (disch := omega) only [e25_72, e25_73, e25_74, e25_77, e25_80, e25_81, e25_84, e25_85, e25_86, e25_89, e25_92, e25_95, e25_96, e25_99, e25_100, e25_101, e25_104, ↓reduceIte, Bool.false_eq_true, not_false_eq_true, not_true_eq_false, Nat.reduceLeDiff, Nat.reduceAdd, Nat.reduceEqDiff, Int.reduceToNat, Int.toNat_natCast, iB0, iB1, ru_klI, ru_klR, ru_klF, ru_klJ, ru_kl0, ru_cs0, ru_csI, ru_csR, ru_csF, ru_csJ, wI_add, wI_sub, wI_mul, wI_lt, wI_le, wI_inj, ru_fdE, ru_fdN, ru_iaN, ru_baN, ru_laN, ru_qaN, ru_pfN, ru_isN, ru_bsN, ru_jsN, ru_qsN, ru_set2, Nat.add_right_cancel_iff, if_true, if_false, ite_self, Int.reduceEq, and_self, Int.add_neg_cancel_right, Int.add_zero, Int.zero_add, cl_e1, f0, f3, f7, x39, x36, y, Int.le_refl]
      rfl
    · obtain ⟨l3', q⟩ := ml h l1 l2 hS
      rw [q, o2 h (some (.int l1)) l3' hS]
      have e : (M4.1 29 = 0) = True := eq_true cP
      simp (disch := omega) only [e55_146, e55_147, e55_150, e55_153, e55_154, e55_155, e55_158, e55_161, e55_162, e55_165, e55_168, e55_169, e55_170, e55_173, ↓reduceIte, Bool.false_eq_true, not_false_eq_true, not_true_eq_false, Nat.reduceLeDiff, Nat.reduceAdd, Nat.reduceEqDiff, Int.reduceToNat, Int.toNat_natCast, iB0, iB1, ru_klI, ru_klR, ru_klF, ru_klJ, ru_kl0, ru_cs0, ru_csI, ru_csR, ru_csF, ru_csJ, wI_add, wI_sub, wI_mul, wI_lt, wI_le, wI_inj, ru_fdE, ru_fdN, ru_iaN, ru_baN, ru_laN, ru_qaN, ru_pfN, ru_isN, ru_bsN, ru_jsN, ru_qsN, ru_set2, Nat.add_right_cancel_iff, if_true, if_false, ite_self, Int.reduceEq, and_self, Int.add_neg_cancel_right, Int.add_zero, Int.zero_add, md_e, md_f13, md_f29, e0, e, f63 h174, not_true, not_false_iff]
  · left
    have p2 := v7.2.1
    refine ⟨C4, M4, fun h hS => ?_, fun h l1 l2 hS => ?_, lfC_trans fC (ld_lfC v1), fun i hi => by rw [v2 i hi]; exact c5 i hi, lfM_trans fM (ld_lfM v3), h174, v5, v6, v7, ?_, ?_, by omega⟩
    · rw [cl2 h hS]
      obtain ⟨f0, f1, f2, f3, f4, f5, f6, f7, f8⟩ := sprF hB (h := h) (C := C4)
      rw [v7.1] at f7
      have y := c36 (z := z) (h := h) (C := C4) (b := 1) (Or.inr rfl) (c := 5)
      rw [if_pos rfl] at y
      have e : (M4.1 29 ≤ 0) = False := eq_false (by omega)
      simp (disch := omega) only [e25_72, e25_73, e25_74, e25_77, e25_80, e25_81, e25_84, e25_85, e25_86, e25_89, e25_92, e25_95, e25_96, e25_99, e25_100, e25_101, e25_104, ↓reduceIte, Bool.false_eq_true, not_false_eq_true, not_true_eq_false, Nat.reduceLeDiff, Nat.reduceAdd, Nat.reduceEqDiff, Int.reduceToNat, Int.toNat_natCast, iB0, iB1, ru_klI, ru_klR, ru_klF, ru_klJ, ru_kl0, ru_cs0, ru_csI, ru_csR, ru_csF, ru_csJ, wI_add, wI_sub, wI_mul, wI_lt, wI_le, wI_inj, ru_fdE, ru_fdN, ru_iaN, ru_baN, ru_laN, ru_qaN, ru_pfN, ru_isN, ru_bsN, ru_jsN, ru_qsN, ru_set2, Nat.add_right_cancel_iff, if_true, if_false, ite_self, Int.reduceEq, and_self, Int.add_neg_cancel_right, Int.add_zero, Int.zero_add, cl_e1, f0, f3, f7, x39, x36, y, e]
    · obtain ⟨l3', q⟩ := ml h l1 l2 hS
      rw [q, o2 h (some (.int l1)) l3' hS]
      have e : (M4.1 29 = 0) = False := eq_false cP
      simp (disch := omega) only [e55_146, e55_147, e55_150, e55_153, e55_154, e55_155, e55_158, e55_161, e55_162, e55_165, e55_168, e55_169, e55_170, e55_173, ↓reduceIte, Bool.false_eq_true, not_false_eq_true, not_true_eq_false, Nat.reduceLeDiff, Nat.reduceAdd, Nat.reduceEqDiff, Int.reduceToNat, Int.toNat_natCast, iB0, iB1, ru_klI, ru_klR, ru_klF, ru_klJ, ru_kl0, ru_cs0, ru_csI, ru_csR, ru_csF, ru_csJ, wI_add, wI_sub, wI_mul, wI_lt, wI_le, wI_inj, ru_fdE, ru_fdN, ru_iaN, ru_baN, ru_laN, ru_qaN, ru_pfN, ru_isN, ru_bsN, ru_jsN, ru_qsN, ru_set2, Nat.add_right_cancel_iff, if_true, if_false, ite_self, Int.reduceEq, and_self, Int.add_neg_cancel_right, Int.add_zero, Int.zero_add, md_e, md_f13, md_f29, e0, e, not_true, not_false_iff]
    · rw [v1.1 B (by omega) (by omega), v3.1 28 (by omega) (by decide) (by decide), hCg, hMg]
      show (if B = B then (if 0 = 0 then G else _) else _) = up1 M3.1 28 G 28
      rw [if_pos rfl, if_pos rfl, up1_e]
    · rw [v3.1 28 (by omega) (by decide) (by decide), hMg]
      show 0 ≤ up1 M3.1 28 G 28 ∧ up1 M3.1 28 G 28 ≤ 99
      rw [up1_e]; omega
end ALM
