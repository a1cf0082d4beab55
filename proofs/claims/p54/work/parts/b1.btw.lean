/-! ===== phrases: between ===== -/
section BTW
variable {z : Bool} {M M0 : tMd} {C C0 : tCl} {n l s A N R nm : Nat} {gv rc : Int}
/-- the one between, if there is just one -/
def btV (M0 : tMd) (n a b : Nat) : Int := if M0.2 11 a = M0.2 11 b ∧ abF (M0.2 12 a - M0.2 12 b) = 2 then nbV M0 n (M0.2 11 a) ((M0.2 12 a + M0.2 12 b) / 2) else -1
theorem bt_111 (hr : prI n C0 M0 C M gv) (hR : prR n C0 M0 rc) {a b : Nat} (ha : shS (mph M0 n) a = true) (hb : shS (mph M0 n) b = true) {h : am_H} : ru_ev z 111 [.ref 1070, .int (wI a), .int (wI b)] (clPut h C) = some (.inl (some (.int (wI (btV M0 n a b)))), clPut h C) := by
  have hP : isPi 1070 := Or.inl rfl
  have hp := pr_pi hr hR
  obtain ⟨l1, l2, l3, l4, l5⟩ := pl_link hp hR.2.1 hR.2.2.2.2.2 hR.2.2.2.1 hR.2.2.2.2.1
  obtain ⟨a12, x1, x2, x3, x4⟩ := lr_at hR ha
  obtain ⟨b12, y1, y2, y3, y4⟩ := lr_at hR hb
  have ea3 := l2 a a12
  have ea4 := l3 a a12
  have eb3 := l2 b b12
  have eb4 := l3 b b12
  obtain ⟨p, hpp⟩ : ∃ p, p = piGet C 1070 := ⟨_, rfl⟩
  have n1 := fun st h1 => nb_109 (z := z) (h := h) hr hR ha (st := st) h1
  rw [← hpp] at ea3 ea4 eb3 eb4
  have eC : piPut C 1070 p = C := by rw [hpp]; exact piPut_get C 1070
  rw [← eC] at n1 ⊢
  have n2 := n1 1 (by decide)
  have n3 := n1 (-1) (by decide)
  have m2 := m112 (z := z) (h := clPut h (piPut C 1070 p)) (a := M0.2 12 b - M0.2 12 a) (by omega)
  have ab := abF_rng (a := M0.2 12 b - M0.2 12 a) (by omega)
  have eab : abF (M0.2 12 b - M0.2 12 a) = abF (M0.2 12 a - M0.2 12 b) := by
    unfold abF
    split <;> split <;> omega
  unfold btV
  by_cases c1 : M0.2 11 a = M0.2 11 b
  · have d1 : (M0.2 11 a = M0.2 11 b) = True := eq_true c1
    by_cases c2 : abF (M0.2 12 a - M0.2 12 b) = 2
    · have d2 : (abF (M0.2 12 b - M0.2 12 a) = 2) = True := eq_true (eab.trans c2)
      rw [if_pos ⟨c1, c2⟩]
      unfold abF at c2
      by_cases c3 : M0.2 12 b - M0.2 12 a ≤ 0
      · have d3 : (M0.2 12 b - M0.2 12 a ≤ 0) = True := eq_true c3
        have e : (M0.2 12 a + M0.2 12 b) / 2 = M0.2 12 a + -1 := by
          split at c2 <;> omega
        rw [e]
        simp (disch := omega) only [en111, e111_0, e111_1, e111_4, e111_5, e111_6, e111_7, e111_10, e111_11, e111_12, e111_13, e111_14, e111_15, e111_18, e111_19, e111_20, e111_21, e111_24, e111_25, e111_26, e111_29, e111_30, e111_33, e111_34, e111_37, e111_38, e111_39, e111_40, e111_41, e111_42, e111_45, e111_46, e111_49, e111_50, e111_53, ↓reduceIte, Bool.false_eq_true, not_false_eq_true, not_true_eq_false, Nat.reduceLeDiff, Nat.reduceAdd, Nat.reduceEqDiff, Int.reduceToNat, Int.toNat_natCast, iB0, iB1, ru_klI, ru_klR, ru_klF, ru_klJ, ru_kl0, ru_cs0, ru_csI, ru_csR, ru_csF, ru_csJ, wI_add, wI_sub, wI_mul, wI_lt, wI_le, wI_inj, ru_fdE, ru_fdN, ru_iaN, ru_baN, ru_laN, ru_qaN, ru_pfN, ru_isN, ru_bsN, ru_jsN, ru_qsN, ru_set2, Nat.add_right_cancel_iff, if_true, if_false, ite_self, Int.reduceEq, and_self, Int.add_neg_cancel_right, Int.add_zero, Int.zero_add, pi_e hP, pi_f0 hP, pi_s0 hP, pi_f1 hP, pi_s1 hP, pi_f2 hP, pi_a0 hP, pi_w0 hP, pi_f3 hP, pi_a1 hP, pi_w1 hP, pi_f4 hP, pi_a2 hP, pi_w2 hP, pi_f5 hP, pi_a3 hP, pi_w3 hP, pi_f6 hP, pi_a4 hP, pi_w4 hP, pi_f7 hP, pi_a5 hP, pi_w5 hP, pi_f8 hP, pi_a6 hP, pi_w6 hP, pi_f9 hP, pi_a7 hP, pi_w7 hP, pi_f10 hP, pi_a8 hP, pi_w8 hP, pi_f11 hP, pi_a9 hP, pi_w9 hP, Int.reduceEq, ru_ctR, ru_ctI, upC_e, upC_n, upC_up, up1_e, up1_n, Int.toNat_natCast, ea3, ea4, eb3, eb4, d1, d2, d3, m2, n3, not_true, not_false_iff]
      · have d3 : (M0.2 12 b - M0.2 12 a ≤ 0) = False := eq_false c3
        have e : (M0.2 12 a + M0.2 12 b) / 2 = M0.2 12 a + 1 := by
          split at c2 <;> omega
        rw [e]
        simp (disch := omega) only [en111, e111_0, e111_1, e111_4, e111_5, e111_6, e111_7, e111_10, e111_11, e111_12, e111_13, e111_14, e111_15, e111_18, e111_19, e111_20, e111_21, e111_24, e111_25, e111_26, e111_29, e111_30, e111_33, e111_34, e111_37, e111_38, e111_39, e111_40, e111_41, e111_42, e111_45, e111_46, e111_49, e111_50, e111_53, ↓reduceIte, Bool.false_eq_true, not_false_eq_true, not_true_eq_false, Nat.reduceLeDiff, Nat.reduceAdd, Nat.reduceEqDiff, Int.reduceToNat, Int.toNat_natCast, iB0, iB1, ru_klI, ru_klR, ru_klF, ru_klJ, ru_kl0, ru_cs0, ru_csI, ru_csR, ru_csF, ru_csJ, wI_add, wI_sub, wI_mul, wI_lt, wI_le, wI_inj, ru_fdE, ru_fdN, ru_iaN, ru_baN, ru_laN, ru_qaN, ru_pfN, ru_isN, ru_bsN, ru_jsN, ru_qsN, ru_set2, Nat.add_right_cancel_iff, if_true, if_false, ite_self, Int.reduceEq, and_self, Int.add_neg_cancel_right, Int.add_zero, Int.zero_add, pi_e hP, pi_f0 hP, pi_s0 hP, pi_f1 hP, pi_s1 hP, pi_f2 hP, pi_a0 hP, pi_w0 hP, pi_f3 hP, pi_a1 hP, pi_w1 hP, pi_f4 hP, pi_a2 hP, pi_w2 hP, pi_f5 hP, pi_a3 hP, pi_w3 hP, pi_f6 hP, pi_a4 hP, pi_w4 hP, pi_f7 hP, pi_a5 hP, pi_w5 hP, pi_f8 hP, pi_a6 hP, pi_w6 hP, pi_f9 hP, pi_a7 hP, pi_w7 hP, pi_f10 hP, pi_a8 hP, pi_w8 hP, pi_f11 hP, pi_a9 hP, pi_w9 hP, Int.reduceEq, ru_ctR, ru_ctI, upC_e, upC_n, upC_up, up1_e, up1_n, Int.toNat_natCast, ea3, ea4, eb3, eb4, d1, d2, d3, m2, n2, not_true, not_false_iff]
    · have d2 : (abF (M0.2 12 b - M0.2 12 a) = 2) = False := eq_false (fun h => c2 (eab.symm.trans h))
      rw [if_neg (fun h => c2 h.2)]
      simp (disch := omega) only [en111, e111_0, e111_1, e111_4, e111_5, e111_6, e111_7, e111_10, e111_11, e111_12, e111_13, e111_14, e111_15, e111_18, e111_19, e111_20, e111_21, e111_24, e111_25, e111_26, e111_29, e111_30, e111_33, e111_34, e111_37, e111_38, e111_39, e111_40, e111_41, e111_42, e111_45, e111_46, e111_49, e111_50, e111_53, ↓reduceIte, Bool.false_eq_true, not_false_eq_true, not_true_eq_false, Nat.reduceLeDiff, Nat.reduceAdd, Nat.reduceEqDiff, Int.reduceToNat, Int.toNat_natCast, iB0, iB1, ru_klI, ru_klR, ru_klF, ru_klJ, ru_kl0, ru_cs0, ru_csI, ru_csR, ru_csF, ru_csJ, wI_add, wI_sub, wI_mul, wI_lt, wI_le, wI_inj, ru_fdE, ru_fdN, ru_iaN, ru_baN, ru_laN, ru_qaN, ru_pfN, ru_isN, ru_bsN, ru_jsN, ru_qsN, ru_set2, Nat.add_right_cancel_iff, if_true, if_false, ite_self, Int.reduceEq, and_self, Int.add_neg_cancel_right, Int.add_zero, Int.zero_add, pi_e hP, pi_f0 hP, pi_s0 hP, pi_f1 hP, pi_s1 hP, pi_f2 hP, pi_a0 hP, pi_w0 hP, pi_f3 hP, pi_a1 hP, pi_w1 hP, pi_f4 hP, pi_a2 hP, pi_w2 hP, pi_f5 hP, pi_a3 hP, pi_w3 hP, pi_f6 hP, pi_a4 hP, pi_w4 hP, pi_f7 hP, pi_a5 hP, pi_w5 hP, pi_f8 hP, pi_a6 hP, pi_w6 hP, pi_f9 hP, pi_a7 hP, pi_w7 hP, pi_f10 hP, pi_a8 hP, pi_w8 hP, pi_f11 hP, pi_a9 hP, pi_w9 hP, Int.reduceEq, ru_ctR, ru_ctI, upC_e, upC_n, upC_up, up1_e, up1_n, Int.toNat_natCast, ea3, ea4, eb3, eb4, d1, d2, m2, not_true, not_false_iff]
  · have d1 : (M0.2 11 a = M0.2 11 b) = False := eq_false c1
    rw [if_neg (fun h => c1 h.1)]
    simp (disch := omega) only [en111, e111_0, e111_1, e111_4, e111_5, e111_6, e111_7, e111_10, e111_11, e111_12, e111_13, e111_14, e111_15, e111_18, e111_19, e111_20, e111_21, e111_24, e111_25, e111_26, e111_29, e111_30, e111_33, e111_34, e111_37, e111_38, e111_39, e111_40, e111_41, e111_42, e111_45, e111_46, e111_49, e111_50, e111_53, ↓reduceIte, Bool.false_eq_true, not_false_eq_true, not_true_eq_false, Nat.reduceLeDiff, Nat.reduceAdd, Nat.reduceEqDiff, Int.reduceToNat, Int.toNat_natCast, iB0, iB1, ru_klI, ru_klR, ru_klF, ru_klJ, ru_kl0, ru_cs0, ru_csI, ru_csR, ru_csF, ru_csJ, wI_add, wI_sub, wI_mul, wI_lt, wI_le, wI_inj, ru_fdE, ru_fdN, ru_iaN, ru_baN, ru_laN, ru_qaN, ru_pfN, ru_isN, ru_bsN, ru_jsN, ru_qsN, ru_set2, Nat.add_right_cancel_iff, if_true, if_false, ite_self, Int.reduceEq, and_self, Int.add_neg_cancel_right, Int.add_zero, Int.zero_add, pi_e hP, pi_f0 hP, pi_s0 hP, pi_f1 hP, pi_s1 hP, pi_f2 hP, pi_a0 hP, pi_w0 hP, pi_f3 hP, pi_a1 hP, pi_w1 hP, pi_f4 hP, pi_a2 hP, pi_w2 hP, pi_f5 hP, pi_a3 hP, pi_w3 hP, pi_f6 hP, pi_a4 hP, pi_w4 hP, pi_f7 hP, pi_a5 hP, pi_w5 hP, pi_f8 hP, pi_a6 hP, pi_w6 hP, pi_f9 hP, pi_a7 hP, pi_w7 hP, pi_f10 hP, pi_a8 hP, pi_w8 hP, pi_f11 hP, pi_a9 hP, pi_w9 hP, Int.reduceEq, ru_ctR, ru_ctI, upC_e, upC_n, upC_up, up1_e, up1_n, Int.toNat_natCast, ea3, ea4, eb3, eb4, d1, not_true, not_false_iff]
theorem bt_sh (hR : prR n C0 M0 rc) {a b : Nat} (h : ¬ btV M0 n a b = -1) : ∃ k : Nat, btV M0 n a b = (k : Int) ∧ shS (mph M0 n) k = true := by
  unfold btV at h ⊢
  by_cases c : M0.2 11 a = M0.2 11 b ∧ abF (M0.2 12 a - M0.2 12 b) = 2
  · rw [if_pos c] at h ⊢; exact nb_sh hR h
  · rw [if_neg c] at h; exact absurd rfl h
theorem bw_j (hR : 1315 ≤ R) {H : am_H} (hH : strs H) (hs : prS A N n C0 M0) (hp : prR n C0 M0 rc) (hb0 : byI C0 M0 l) {C1 : tCl} {S : tRd} (hk1 : ∀ h, ru_ev z 20 [.ref 1001] (clPut h C) = some (.inl none, clPut h C1)) (ht : tkR C1 M l s) (hr : prI n C0 M0 C1 M gv) (hS : S.1 = gv) : pOK z H 110 R A n l C0 M0 C S (rfV z 150 n M) s ∨ pER z H 110 R A n C0 M0 C S (rfV z 150 n M) := by
  have hn5 := hs.2.2.2.2.1
  have hn := hb0.1
  have hq0 := hp.2.2.2.2.1
  have d0 : ((0 : Int) = 0) = True := eq_true rfl
  have d1 : ((1 : Int) = 0) = False := eq_false (by decide)
  have dm : ((-1 : Int) = -1) = True := eq_true rfl
  -- the reference's end, mute
  have ue : ∀ M' (k2 k3 : Int32) (l4 l5 : Option Value), mutM M' → ∀ h, ru_n z 150 16 [some (.ref 1315), some (.int (wI n)), some (.int k2), some (.int k3), l4, l5] [] (mdPut h M') = some (.inl none, mdPut h M') := fun M' k2 k3 l4 l5 hm h => by
    have u1 := u66 (z := z) (h := h) hm
    have u5 := u63 (z := z) (h := h) (c := 7) hm
    have u7 := u145 (z := z) (h := h) (f := wI n) (k := wI (-1)) hm
    have r17 := hm.1
    have d9 : (M'.1 17 = 0) = False := eq_false (by omega)
    simp (disch := omega) only [e150_16, e150_17, e150_20, e150_23, e150_24, e150_27, e150_28, e150_29, e150_30, e150_33, e150_34, e150_35, e150_38, e150_39, e150_42, e150_43, e150_44, e150_45, e150_48, e150_49, e150_50, e150_51, e150_54, e150_55, e150_58, e150_59, e150_62, e150_63, e150_65, e150_67, e150_70, e150_71, e150_73, e150_76, e150_77, e150_80, e150_83, e150_84, e150_85, e150_86, e150_89, e150_90, e150_91, e150_92, e150_95, e150_96, e150_97, e150_98, e150_101, e150_102, e150_103, e150_104, e150_105, e150_106, e150_109, e150_112, e150_113, e150_115, e150_116, e150_119, e150_120, e150_121, e150_123, e150_126, ↓reduceIte, Bool.false_eq_true, not_false_eq_true, not_true_eq_false, Nat.reduceLeDiff, Nat.reduceAdd, Nat.reduceEqDiff, Int.reduceToNat, Int.toNat_natCast, iB0, iB1, ru_klI, ru_klR, ru_klF, ru_klJ, ru_kl0, ru_cs0, ru_csI, ru_csR, ru_csF, ru_csJ, wI_add, wI_sub, wI_mul, wI_lt, wI_le, wI_inj, ru_fdE, ru_fdN, ru_iaN, ru_baN, ru_laN, ru_qaN, ru_pfN, ru_isN, ru_bsN, ru_jsN, ru_qsN, ru_set2, Nat.add_right_cancel_iff, if_true, if_false, ite_self, Int.reduceEq, and_self, Int.add_neg_cancel_right, Int.add_zero, Int.zero_add, md_e, md_f17, u1, u5, u7, d9, d0, not_true, not_false_iff]
  have um : ∀ M', mutM M' → (∀ h, strs h → ru_ev z 148 [.ref 1315, .int (wI n)] (mdPut h M) = some (.inl (some (.int (wI (-1)))), mdPut h M')) → rfV z 150 n M M' := fun M' hm k h hh => by
    have u1 := u66 (z := z) (h := h) hm
    have u2 := u148 (z := z) (h := h) (f := wI n) hm
    have y := ue M' (wI (-1)) (wI (-1)) none none hm h
    simp (disch := omega) only [en150, e150_0, e150_1, e150_2, e150_5, e150_6, e150_7, e150_10, e150_11, e150_12, e150_15, ↓reduceIte, Bool.false_eq_true, not_false_eq_true, not_true_eq_false, Nat.reduceLeDiff, Nat.reduceAdd, Nat.reduceEqDiff, Int.reduceToNat, Int.toNat_natCast, iB0, iB1, ru_klI, ru_klR, ru_klF, ru_klJ, ru_kl0, ru_cs0, ru_csI, ru_csR, ru_csF, ru_csJ, wI_add, wI_sub, wI_mul, wI_lt, wI_le, wI_inj, ru_fdE, ru_fdN, ru_iaN, ru_baN, ru_laN, ru_qaN, ru_pfN, ru_isN, ru_bsN, ru_jsN, ru_qsN, ru_set2, Nat.add_right_cancel_iff, if_true, if_false, ite_self, Int.reduceEq, and_self, Int.add_neg_cancel_right, Int.add_zero, Int.zero_add, md_e, k h hh, u1, u2, y]
  rcases fh_j (z := z) hR hs hr ht hb0 with ⟨C2, M2, s2, w, a, k1, k2, k3, k4, k5, k6, k7, k8⟩ | ⟨C2, C2', M2, w, k1, k2, k3, k4⟩ | ⟨C2, M2, k1, k3, k4⟩
  rotate_left
  · right
    refine ⟨C2, S, M2, ?_, um M2 k4.2.2.2.2.2.2.2.2 k3, k4⟩
    have x := k1 H S hH
    have y := k2 H S
    simp (disch := omega) only [en110, e110_0, e110_1, e110_4, e110_7, e110_8, e110_9, e110_12, e110_15, e110_16, e110_17, e110_20, e110_23, e110_24, e110_25, e110_28, e110_31, e110_32, e110_33, e110_36, e110_37, e110_38, e110_41, e110_42, e110_43, e110_46, e110_47, e110_48, e110_51, e110_52, e110_55, e110_56, e110_58, e110_61, e110_62, e110_65, e110_68, e110_69, e110_70, e110_71, e110_74, e110_77, e110_78, e110_81, e110_84, ↓reduceIte, Bool.false_eq_true, not_false_eq_true, not_true_eq_false, Nat.reduceLeDiff, Nat.reduceAdd, Nat.reduceEqDiff, Int.reduceToNat, Int.toNat_natCast, iB0, iB1, ru_klI, ru_klR, ru_klF, ru_klJ, ru_kl0, ru_cs0, ru_csI, ru_csR, ru_csF, ru_csJ, wI_add, wI_sub, wI_mul, wI_lt, wI_le, wI_inj, ru_fdE, ru_fdN, ru_iaN, ru_baN, ru_laN, ru_qaN, ru_pfN, ru_isN, ru_bsN, ru_jsN, ru_qsN, ru_set2, Nat.add_right_cancel_iff, if_true, if_false, ite_self, Int.reduceEq, and_self, Int.add_neg_cancel_right, Int.add_zero, Int.zero_add, rd_e hR, rd_f0 hR, cl_e1, hk1, x, y]
  · right
    refine ⟨C2, S, M2, ?_, um M2 k4.2.2.2.2.2.2.2.2 k3, k4⟩
    have x := k1 H S hH
    simp (disch := omega) only [en110, e110_0, e110_1, e110_4, e110_7, e110_8, e110_9, e110_12, e110_15, e110_16, e110_17, e110_20, e110_23, e110_24, e110_25, e110_28, e110_31, e110_32, e110_33, e110_36, e110_37, e110_38, e110_41, e110_42, e110_43, e110_46, e110_47, e110_48, e110_51, e110_52, e110_55, e110_56, e110_58, e110_61, e110_62, e110_65, e110_68, e110_69, e110_70, e110_71, e110_74, e110_77, e110_78, e110_81, e110_84, ↓reduceIte, Bool.false_eq_true, not_false_eq_true, not_true_eq_false, Nat.reduceLeDiff, Nat.reduceAdd, Nat.reduceEqDiff, Int.reduceToNat, Int.toNat_natCast, iB0, iB1, ru_klI, ru_klR, ru_klF, ru_klJ, ru_kl0, ru_cs0, ru_csI, ru_csR, ru_csF, ru_csJ, wI_add, wI_sub, wI_mul, wI_lt, wI_le, wI_inj, ru_fdE, ru_fdN, ru_iaN, ru_baN, ru_laN, ru_qaN, ru_pfN, ru_isN, ru_bsN, ru_jsN, ru_qsN, ru_set2, Nat.add_right_cancel_iff, if_true, if_false, ite_self, Int.reduceEq, and_self, Int.add_neg_cancel_right, Int.add_zero, Int.zero_add, rd_e hR, rd_f0 hR, cl_e1, hk1, x]
  have x1 := k1 H S hH
  have x2 := k2 H S
  have hb2 := pr_byI hb0 k5
  have h172 := k5.2.2.2.1
  obtain ⟨C3, M3, s3, q1, q2, q3, q4, q5, q6⟩ := tk_adv (z := z) k4 (by omega) hb2
  have r3 := prI_tok k5 q4 q5
  have h173 := r3.2.2.2.1
  have y2 : ∀ h, ru_ev z 66 [.ref 1315] (mdPut h M2) = some (.inl none, mdPut h M3) := fun h => p66 (z := z) h172 (q2 h)
  have us : ∀ (M' : tMd) (V : Int), (∀ h, strs h → ru_ev z 148 [.ref 1315, .int (wI n)] (mdPut h M3) = some (.inl (some (.int (wI V))), mdPut h M')) → ∀ h, strs h → ru_ev z 150 [.ref 1315, .int (wI n)] (mdPut h M) = ru_n z 150 16 [some (.ref 1315), some (.int (wI n)), some (.int (wI a)), some (.int (wI V)), none, none] [] (mdPut h M') := fun M' V k h hh => by
    simp (disch := omega) only [en150, e150_0, e150_1, e150_2, e150_5, e150_6, e150_7, e150_10, e150_11, e150_12, e150_15, ↓reduceIte, Bool.false_eq_true, not_false_eq_true, not_true_eq_false, Nat.reduceLeDiff, Nat.reduceAdd, Nat.reduceEqDiff, Int.reduceToNat, Int.toNat_natCast, iB0, iB1, ru_klI, ru_klR, ru_klF, ru_klJ, ru_kl0, ru_cs0, ru_csI, ru_csR, ru_csF, ru_csJ, wI_add, wI_sub, wI_mul, wI_lt, wI_le, wI_inj, ru_fdE, ru_fdN, ru_iaN, ru_baN, ru_laN, ru_qaN, ru_pfN, ru_isN, ru_bsN, ru_jsN, ru_qsN, ru_set2, Nat.add_right_cancel_iff, if_true, if_false, ite_self, Int.reduceEq, and_self, Int.add_neg_cancel_right, Int.add_zero, Int.zero_add, md_e, k3 h hh, y2, k h hh]
  rcases fh_j (z := z) hR hs r3 q3 hb0 with ⟨C4, M4, s4, w4, b, j1, j2, j3, j4, j5, j6, j7, j8⟩ | ⟨C4, C4', M4, w4, j1, j2, j3, j4⟩ | ⟨C4, M4, j1, j3, j4⟩
  rotate_left
  · right
    refine ⟨C4, S, M4, ?_, fun h hh => (us M4 (-1) j3 h hh).trans (ue M4 (wI a) (wI (-1)) none none j4.2.2.2.2.2.2.2.2 h), j4⟩
    have x := j1 H S hH
    have y := j2 H S
    simp (disch := omega) only [en110, e110_0, e110_1, e110_4, e110_7, e110_8, e110_9, e110_12, e110_15, e110_16, e110_17, e110_20, e110_23, e110_24, e110_25, e110_28, e110_31, e110_32, e110_33, e110_36, e110_37, e110_38, e110_41, e110_42, e110_43, e110_46, e110_47, e110_48, e110_51, e110_52, e110_55, e110_56, e110_58, e110_61, e110_62, e110_65, e110_68, e110_69, e110_70, e110_71, e110_74, e110_77, e110_78, e110_81, e110_84, ↓reduceIte, Bool.false_eq_true, not_false_eq_true, not_true_eq_false, Nat.reduceLeDiff, Nat.reduceAdd, Nat.reduceEqDiff, Int.reduceToNat, Int.toNat_natCast, iB0, iB1, ru_klI, ru_klR, ru_klF, ru_klJ, ru_kl0, ru_cs0, ru_csI, ru_csR, ru_csF, ru_csJ, wI_add, wI_sub, wI_mul, wI_lt, wI_le, wI_inj, ru_fdE, ru_fdN, ru_iaN, ru_baN, ru_laN, ru_qaN, ru_pfN, ru_isN, ru_bsN, ru_jsN, ru_qsN, ru_set2, Nat.add_right_cancel_iff, if_true, if_false, ite_self, Int.reduceEq, and_self, Int.add_neg_cancel_right, Int.add_zero, Int.zero_add, rd_e hR, rd_f0 hR, cl_e1, hk1, x1, x2, q1, x, y]
  · right
    refine ⟨C4, S, M4, ?_, fun h hh => (us M4 (-1) j3 h hh).trans (ue M4 (wI a) (wI (-1)) none none j4.2.2.2.2.2.2.2.2 h), j4⟩
    have x := j1 H S hH
    simp (disch := omega) only [en110, e110_0, e110_1, e110_4, e110_7, e110_8, e110_9, e110_12, e110_15, e110_16, e110_17, e110_20, e110_23, e110_24, e110_25, e110_28, e110_31, e110_32, e110_33, e110_36, e110_37, e110_38, e110_41, e110_42, e110_43, e110_46, e110_47, e110_48, e110_51, e110_52, e110_55, e110_56, e110_58, e110_61, e110_62, e110_65, e110_68, e110_69, e110_70, e110_71, e110_74, e110_77, e110_78, e110_81, e110_84, ↓reduceIte, Bool.false_eq_true, not_false_eq_true, not_true_eq_false, Nat.reduceLeDiff, Nat.reduceAdd, Nat.reduceEqDiff, Int.reduceToNat, Int.toNat_natCast, iB0, iB1, ru_klI, ru_klR, ru_klF, ru_klJ, ru_kl0, ru_cs0, ru_csI, ru_csR, ru_csF, ru_csJ, wI_add, wI_sub, wI_mul, wI_lt, wI_le, wI_inj, ru_fdE, ru_fdN, ru_iaN, ru_baN, ru_laN, ru_qaN, ru_pfN, ru_isN, ru_bsN, ru_jsN, ru_qsN, ru_set2, Nat.add_right_cancel_iff, if_true, if_false, ite_self, Int.reduceEq, and_self, Int.add_neg_cancel_right, Int.add_zero, Int.zero_add, rd_e hR, rd_f0 hR, cl_e1, hk1, x1, x2, q1, x]
  have x3 := j1 H S hH
  have x4 := j2 H S
  have h174 := j5.2.2.2.1
  have b4 := pr_byI hb0 j5
  have a12 := (shS_rng hq0 k7).2.2.2.1
  have b12 := (shS_rng hq0 j7).2.2.2.1
  have la := lr_at hp k7
  have lb := lr_at hp j7
  have c111 : ru_ev z 111 [.ref 1070, .int (wI a), .int (wI b)] (clPut (rdH H R (A + 1) S) C4) = some (.inl (some (.int (wI (btV M0 n a b)))), clPut (rdH H R (A + 1) S) C4) := bt_111 j5 hp k7 j7
  have fP4 : (clPut (rdH H R (A + 1) S) C4).1 1070 = some (.inr (4, clL4 C4 1070)) := clP4 (by decide +kernel) (by decide)
  have ra := fun h => (pr_11 j5 a12 (h := h)).1
  have rb := fun h => (pr_11 j5 a12 (h := h)).2
  have sa := fun h => (pr_11 j5 b12 (h := h)).1
  have sb := fun h => (pr_11 j5 b12 (h := h)).2
  have g17 : ∀ h, am_fd (mdPut h M4) 1315 10 17 = some (.int (wI 0)) := fun h => by rw [md_f17, h174]
  have m1 := fun h : am_H => m151 (z := z) (h := h) (a := M0.2 12 a - M0.2 12 b) (by omega)
  have ab := abF_rng (a := M0.2 12 a - M0.2 12 b) (by omega)
  by_cases cc : M0.2 11 a = M0.2 11 b ∧ abF (M0.2 12 a - M0.2 12 b) = 2
  rotate_left
  · -- no one between
    right
    have hm := mut_er j4 (t := 7) (by decide)
    have cv : btV M0 n a b = -1 := if_neg cc
    rw [cv] at c111
    refine ⟨_, S, _, ?_, fun h hh => ?_, ep_of j5 j4 hn (t := 7) (by decide)⟩
    · have w := c36 (z := z) (h := rdH H R (A + 1) S) (C := C4) (b := 0) (Or.inl rfl) (c := 7)
      rw [if_neg (by decide)] at w
      simp (disch := omega) only [en110, e110_0, e110_1, e110_4, e110_7, e110_8, e110_9, e110_12, e110_15, e110_16, e110_17, e110_20, e110_23, e110_24, e110_25, e110_28, e110_31, e110_32, e110_33, e110_36, e110_37, e110_38, e110_41, e110_42, e110_43, e110_46, e110_47, e110_48, e110_51, e110_52, e110_55, e110_56, e110_58, e110_61, e110_62, e110_65, e110_68, e110_69, e110_70, e110_71, e110_74, e110_77, e110_78, e110_81, e110_84, ↓reduceIte, Bool.false_eq_true, not_false_eq_true, not_true_eq_false, Nat.reduceLeDiff, Nat.reduceAdd, Nat.reduceEqDiff, Int.reduceToNat, Int.toNat_natCast, iB0, iB1, ru_klI, ru_klR, ru_klF, ru_klJ, ru_kl0, ru_cs0, ru_csI, ru_csR, ru_csF, ru_csJ, wI_add, wI_sub, wI_mul, wI_lt, wI_le, wI_inj, ru_fdE, ru_fdN, ru_iaN, ru_baN, ru_laN, ru_qaN, ru_pfN, ru_isN, ru_bsN, ru_jsN, ru_qsN, ru_set2, Nat.add_right_cancel_iff, if_true, if_false, ite_self, Int.reduceEq, and_self, Int.add_neg_cancel_right, Int.add_zero, Int.zero_add, rd_e hR, rd_f0 hR, rd_f3 hR, cl_e1, fP4, hk1, x1, x2, q1, x3, x4, c111, w, dm, not_true, not_false_iff]
      rfl
    · rw [us M4 b j3 h hh]
      have u1 := u66 (z := z) (h := h) hm
      have u7 := u145 (z := z) (h := h) (f := wI n) (k := wI (-1)) hm
      have e17 : am_fd (mdPut h (erM M4 7)) 1315 10 17 = some (.int (wI 7)) := by rw [md_f17]; rfl
      have d7 : ((7 : Int) = 0) = False := eq_false (by decide)
      by_cases c1 : M0.2 11 a = M0.2 11 b
      · have e1 : (M0.2 11 a = M0.2 11 b) = True := eq_true c1
        have e2 : (abF (M0.2 12 a - M0.2 12 b) = 2) = False := eq_false (fun h => cc ⟨c1, h⟩)
        simp (disch := omega) only [e150_16, e150_17, e150_20, e150_23, e150_24, e150_27, e150_28, e150_29, e150_30, e150_33, e150_34, e150_35, e150_38, e150_39, e150_42, e150_43, e150_44, e150_45, e150_48, e150_49, e150_50, e150_51, e150_54, e150_55, e150_58, e150_59, e150_62, e150_63, e150_65, e150_67, e150_70, e150_71, e150_73, e150_76, e150_77, e150_80, e150_83, e150_84, e150_85, e150_86, e150_89, e150_90, e150_91, e150_92, e150_95, e150_96, e150_97, e150_98, e150_101, e150_102, e150_103, e150_104, e150_105, e150_106, e150_109, e150_112, e150_113, e150_115, e150_116, e150_119, e150_120, e150_121, e150_123, e150_126, ↓reduceIte, Bool.false_eq_true, not_false_eq_true, not_true_eq_false, Nat.reduceLeDiff, Nat.reduceAdd, Nat.reduceEqDiff, Int.reduceToNat, Int.toNat_natCast, iB0, iB1, ru_klI, ru_klR, ru_klF, ru_klJ, ru_kl0, ru_cs0, ru_csI, ru_csR, ru_csF, ru_csJ, wI_add, wI_sub, wI_mul, wI_lt, wI_le, wI_inj, ru_fdE, ru_fdN, ru_iaN, ru_baN, ru_laN, ru_qaN, ru_pfN, ru_isN, ru_bsN, ru_jsN, ru_qsN, ru_set2, Nat.add_right_cancel_iff, if_true, if_false, ite_self, Int.reduceEq, and_self, Int.add_neg_cancel_right, Int.add_zero, Int.zero_add, md_e, md_f31, md_f32, g17, ra, rb, sa, sb, m1, e1, e2, f63 h174, e17, d7, u1, u7, d0, dm, not_true, not_false_iff]
      · have e1 : (M0.2 11 a = M0.2 11 b) = False := eq_false c1
        simp (disch := omega) only [e150_16, e150_17, e150_20, e150_23, e150_24, e150_27, e150_28, e150_29, e150_30, e150_33, e150_34, e150_35, e150_38, e150_39, e150_42, e150_43, e150_44, e150_45, e150_48, e150_49, e150_50, e150_51, e150_54, e150_55, e150_58, e150_59, e150_62, e150_63, e150_65, e150_67, e150_70, e150_71, e150_73, e150_76, e150_77, e150_80, e150_83, e150_84, e150_85, e150_86, e150_89, e150_90, e150_91, e150_92, e150_95, e150_96, e150_97, e150_98, e150_101, e150_102, e150_103, e150_104, e150_105, e150_106, e150_109, e150_112, e150_113, e150_115, e150_116, e150_119, e150_120, e150_121, e150_123, e150_126, ↓reduceIte, Bool.false_eq_true, not_false_eq_true, not_true_eq_false, Nat.reduceLeDiff, Nat.reduceAdd, Nat.reduceEqDiff, Int.reduceToNat, Int.toNat_natCast, iB0, iB1, ru_klI, ru_klR, ru_klF, ru_klJ, ru_kl0, ru_cs0, ru_csI, ru_csR, ru_csF, ru_csJ, wI_add, wI_sub, wI_mul, wI_lt, wI_le, wI_inj, ru_fdE, ru_fdN, ru_iaN, ru_baN, ru_laN, ru_qaN, ru_pfN, ru_isN, ru_bsN, ru_jsN, ru_qsN, ru_set2, Nat.add_right_cancel_iff, if_true, if_false, ite_self, Int.reduceEq, and_self, Int.add_neg_cancel_right, Int.add_zero, Int.zero_add, md_e, md_f31, md_f32, g17, ra, rb, sa, sb, e1, f63 h174, e17, d7, u1, u7, d0, dm, not_true, not_false_iff]
  have e1 : (M0.2 11 a = M0.2 11 b) = True := eq_true cc.1
  have e2 : (abF (M0.2 12 a - M0.2 12 b) = 2) = True := eq_true cc.2
  have eV : btV M0 n a b = nbV M0 n (M0.2 11 a) ((M0.2 12 a + M0.2 12 b) / 2) := if_pos cc
  have dv2 : wI (M0.2 12 a + M0.2 12 b) / wI 2 = wI ((M0.2 12 a + M0.2 12 b) / 2) := wI_div (by omega) (by omega) (by decide) (by decide)
  have p137' : ∀ h, ru_ev z 137 [.ref 1315, .int (wI n), .int (wI (M0.2 11 a)), .int (wI ((M0.2 12 a + M0.2 12 b) / 2))] (mdPut h M4) = some (.inl (some (.int (wI (btV M0 n a b)))), mdPut h M4) := fun h => by rw [eV]; exact nb_137 hn5 j5 hp (by omega) (by omega)
  -- in a row, two places apart: one stands between
  have cv : ¬ btV M0 n a b = -1 := by
    rw [eV]
    obtain ⟨l1, l2, l3, l4, l5⟩ := pl_link hp.1 hp.2.1 hp.2.2.2.2.2 hp.2.2.2.1 hp.2.2.2.2.1
    obtain ⟨r, hrr⟩ := Int.eq_ofNat_of_zero_le la.2.1.1
    have la3 := la.2.2.2.1
    have lb3 := lb.2.2.2.1
    have rlt := la.2.1.2.1
    rw [← cc.1] at lb3
    rw [hrr] at la3 lb3 rlt ⊢
    rw [Int.toNat_natCast] at la3 lb3
    obtain ⟨k', w1, w2, w3, w4, w5⟩ := l5 r ((M0.2 12 a + M0.2 12 b) / 2).toNat (by omega) (by omega)
    rw [Int.toNat_of_nonneg (by omega)] at w5
    intro hh
    have : nbV M0 n ((r : Nat) : Int) ((M0.2 12 a + M0.2 12 b) / 2) = (k' : Int) := w5
    omega
  obtain ⟨k', hk', hs'⟩ := bt_sh hp cv
  rw [hk'] at c111 p137'
  have dv : (((k' : Nat) : Int) = -1) = False := eq_false (by omega)
  have k12' := (shS_rng hq0 hs').2.2.2.1
  have w := c36 (z := z) (h := rdH H R (A + 1) S) (C := C4) (b := 1) (Or.inr rfl) (c := 7)
  rw [if_pos rfl] at w
  obtain ⟨C5, M5, s5, v1, v2, v3, v4, v5, v6⟩ := tk_adv (z := z) j4 (by omega) b4
  have r5 := prI_tok j5 v4 v5
  have y4 : ∀ h, ru_ev z 66 [.ref 1315] (mdPut h M4) = some (.inl none, mdPut h M5) := fun h => p66 (z := z) h174 (v2 h)
  have dz : (wI 2 = 0) = False := eq_false (by decide)
  rcases gf_j (z := z) hR hs r5 v3 hb0 hs' hq0 with ⟨C6, nm', C7, C8, M8, s8, o1, o2, o3, o4, o5, o6, o7⟩ | ⟨C6, M6, o1, o2, o3⟩
  · left
    refine ⟨C8, (S.1 + 1, S.2), M8, s8, gv + 1, ?_, fun h hh => ?_, o5, o6, by rw [← hS], by omega⟩
    · have o1h := o1 H S hH
      have o2h := o2 H S
      have o3h := o3 (rdH H R (A + 1) (S.1 + 1, S.2))
      simp (disch := omega) only [en110, e110_0, e110_1, e110_4, e110_7, e110_8, e110_9, e110_12, e110_15, e110_16, e110_17, e110_20, e110_23, e110_24, e110_25, e110_28, e110_31, e110_32, e110_33, e110_36, e110_37, e110_38, e110_41, e110_42, e110_43, e110_46, e110_47, e110_48, e110_51, e110_52, e110_55, e110_56, e110_58, e110_61, e110_62, e110_65, e110_68, e110_69, e110_70, e110_71, e110_74, e110_77, e110_78, e110_81, e110_84, ↓reduceIte, Bool.false_eq_true, not_false_eq_true, not_true_eq_false, Nat.reduceLeDiff, Nat.reduceAdd, Nat.reduceEqDiff, Int.reduceToNat, Int.toNat_natCast, iB0, iB1, ru_klI, ru_klR, ru_klF, ru_klJ, ru_kl0, ru_cs0, ru_csI, ru_csR, ru_csF, ru_csJ, wI_add, wI_sub, wI_mul, wI_lt, wI_le, wI_inj, ru_fdE, ru_fdN, ru_iaN, ru_baN, ru_laN, ru_qaN, ru_pfN, ru_isN, ru_bsN, ru_jsN, ru_qsN, ru_set2, Nat.add_right_cancel_iff, if_true, if_false, ite_self, Int.reduceEq, and_self, Int.add_neg_cancel_right, Int.add_zero, Int.zero_add, rd_e hR, rd_f0 hR, rd_f3 hR, cl_e1, fP4, hk1, x1, x2, q1, x3, x4, c111, w, dv, v1, o1h, o2h, o3h, not_true, not_false_iff]
    · rw [us M4 b j3 h hh]
      simp (disch := omega) only [e150_16, e150_17, e150_20, e150_23, e150_24, e150_27, e150_28, e150_29, e150_30, e150_33, e150_34, e150_35, e150_38, e150_39, e150_42, e150_43, e150_44, e150_45, e150_48, e150_49, e150_50, e150_51, e150_54, e150_55, e150_58, e150_59, e150_62, e150_63, e150_65, e150_67, e150_70, e150_71, e150_73, e150_76, e150_77, e150_80, e150_83, e150_84, e150_85, e150_86, e150_89, e150_90, e150_91, e150_92, e150_95, e150_96, e150_97, e150_98, e150_101, e150_102, e150_103, e150_104, e150_105, e150_106, e150_109, e150_112, e150_113, e150_115, e150_116, e150_119, e150_120, e150_121, e150_123, e150_126, ↓reduceIte, Bool.false_eq_true, not_false_eq_true, not_true_eq_false, Nat.reduceLeDiff, Nat.reduceAdd, Nat.reduceEqDiff, Int.reduceToNat, Int.toNat_natCast, iB0, iB1, ru_klI, ru_klR, ru_klF, ru_klJ, ru_kl0, ru_cs0, ru_csI, ru_csR, ru_csF, ru_csJ, wI_add, wI_sub, wI_mul, wI_lt, wI_le, wI_inj, ru_fdE, ru_fdN, ru_iaN, ru_baN, ru_laN, ru_qaN, ru_pfN, ru_isN, ru_bsN, ru_jsN, ru_qsN, ru_set2, Nat.add_right_cancel_iff, if_true, if_false, ite_self, Int.reduceEq, and_self, Int.add_neg_cancel_right, Int.add_zero, Int.zero_add, md_e, md_f31, md_f32, g17, ra, rb, sa, sb, m1, e1, e2, dv2, dz, p137' h, y4, o4 h hh, d0, d1, not_true, not_false_iff]
  · right
    refine ⟨C6, S, M6, ?_, fun h hh => ?_, o3⟩
    · have o1h := o1 H S hH
      simp (disch := omega) only [en110, e110_0, e110_1, e110_4, e110_7, e110_8, e110_9, e110_12, e110_15, e110_16, e110_17, e110_20, e110_23, e110_24, e110_25, e110_28, e110_31, e110_32, e110_33, e110_36, e110_37, e110_38, e110_41, e110_42, e110_43, e110_46, e110_47, e110_48, e110_51, e110_52, e110_55, e110_56, e110_58, e110_61, e110_62, e110_65, e110_68, e110_69, e110_70, e110_71, e110_74, e110_77, e110_78, e110_81, e110_84, ↓reduceIte, Bool.false_eq_true, not_false_eq_true, not_true_eq_false, Nat.reduceLeDiff, Nat.reduceAdd, Nat.reduceEqDiff, Int.reduceToNat, Int.toNat_natCast, iB0, iB1, ru_klI, ru_klR, ru_klF, ru_klJ, ru_kl0, ru_cs0, ru_csI, ru_csR, ru_csF, ru_csJ, wI_add, wI_sub, wI_mul, wI_lt, wI_le, wI_inj, ru_fdE, ru_fdN, ru_iaN, ru_baN, ru_laN, ru_qaN, ru_pfN, ru_isN, ru_bsN, ru_jsN, ru_qsN, ru_set2, Nat.add_right_cancel_iff, if_true, if_false, ite_self, Int.reduceEq, and_self, Int.add_neg_cancel_right, Int.add_zero, Int.zero_add, rd_e hR, rd_f0 hR, rd_f3 hR, cl_e1, fP4, hk1, x1, x2, q1, x3, x4, c111, w, dv, v1, o1h, not_true, not_false_iff]
    · rw [us M4 b j3 h hh]
      simp (disch := omega) only [e150_16, e150_17, e150_20, e150_23, e150_24, e150_27, e150_28, e150_29, e150_30, e150_33, e150_34, e150_35, e150_38, e150_39, e150_42, e150_43, e150_44, e150_45, e150_48, e150_49, e150_50, e150_51, e150_54, e150_55, e150_58, e150_59, e150_62, e150_63, e150_65, e150_67, e150_70, e150_71, e150_73, e150_76, e150_77, e150_80, e150_83, e150_84, e150_85, e150_86, e150_89, e150_90, e150_91, e150_92, e150_95, e150_96, e150_97, e150_98, e150_101, e150_102, e150_103, e150_104, e150_105, e150_106, e150_109, e150_112, e150_113, e150_115, e150_116, e150_119, e150_120, e150_121, e150_123, e150_126, ↓reduceIte, Bool.false_eq_true, not_false_eq_true, not_true_eq_false, Nat.reduceLeDiff, Nat.reduceAdd, Nat.reduceEqDiff, Int.reduceToNat, Int.toNat_natCast, iB0, iB1, ru_klI, ru_klR, ru_klF, ru_klJ, ru_kl0, ru_cs0, ru_csI, ru_csR, ru_csF, ru_csJ, wI_add, wI_sub, wI_mul, wI_lt, wI_le, wI_inj, ru_fdE, ru_fdN, ru_iaN, ru_baN, ru_laN, ru_qaN, ru_pfN, ru_isN, ru_bsN, ru_jsN, ru_qsN, ru_set2, Nat.add_right_cancel_iff, if_true, if_false, ite_self, Int.reduceEq, and_self, Int.add_neg_cancel_right, Int.add_zero, Int.zero_add, md_e, md_f31, md_f32, g17, ra, rb, sa, sb, m1, e1, e2, dv2, dz, p137' h, y4, o2 h hh, d0, d1, not_true, not_false_iff]
end BTW
