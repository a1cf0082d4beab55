/-! ===== a line that tells a photo ===== -/
theorem nbT_ok {M : tMd} {lo hi : Int} (h : nbT M lo hi = 0) : M.1 13 = 2 ∧ lo ≤ M.1 16 ∧ M.1 16 ≤ hi := by
  unfold nbT at h
  by_cases c : M.1 13 = 2
  · rw [if_pos c] at h
    by_cases c2 : lo ≤ M.1 16 ∧ M.1 16 ≤ hi
    · exact ⟨c, c2⟩
    · rw [if_neg c2] at h; exact absurd h (by decide)
  · rw [if_neg c] at h; exact absurd h (by decide)
theorem nbT_b {M : tMd} {lo hi : Int} (h : ¬ nbT M lo hi = 0) : 1 ≤ nbT M lo hi ∧ nbT M lo hi ≤ 9 := by
  unfold nbT at h ⊢
  repeat' split
  all_goals omega
theorem erM_17 {M : tMd} {t : Int} : (erM M t).1 17 = t := rfl
theorem erM_o {M : tMd} {t : Int} {k : Nat} (h : k ≠ 17) (h2 : k ≠ 18) : (erM M t).1 k = M.1 k := by
  show up1 (up1 M.1 17 t) 18 (M.1 12) k = _
  rw [up1_n h2, up1_n h]
theorem msfB {S T : Nat → Int} {f : Nat} (h : ∀ j, 54 * f ≤ j → j < 54 * f + 54 → T j = S j) : phS (msf S (rdW S 2) (rdW S 3) f) (msf T (rdW T 2) (rdW T 3) f) := by
  refine ⟨fun k hk => ?_, fun c i hc hi => ?_⟩
  · unfold msf rdW
    dsimp only
    rw [h (54 * f + 2) (by omega) (by omega), h (54 * f + 3) (by omega) (by omega)]
    by_cases e0 : k = 0
    · rw [if_pos e0, if_pos e0]
    · rw [if_neg e0, if_neg e0]
      by_cases e1 : k = 1
      · rw [if_pos e1, if_pos e1]
      · rw [if_neg e1, if_neg e1, h (54 * f + (k - 2)) (by omega) (by omega)]
  · unfold msf
    dsimp only
    rw [h (54 * f + 6 + 4 * i + 3) (by omega) (by omega), h (54 * f + 6 + 4 * i + c) (by omega) (by omega)]
/-- the reference's read photos with one more -/
def plM (M : tMd) (P : Nat) (w v : Int) : tMd := (up1 M.1 29 ((P : Int) + 1), upC M.2 10 (up1 (up1 (M.2 10) (54 * P + 2) (w - 1)) (54 * P + 3) (v - 1)))
theorem plM_n {M : tMd} {P c : Nat} {w v : Int} (h : c ≠ 10) : (plM M P w v).2 c = M.2 c := upC_n h
section PLN
variable {z : Bool} {M M0 : tMd} {C C0 : tCl} {n s B : Nat}
theorem rd_plM (hB : B = 1003 ∨ B = 1034) (hr : rdI B C0 M0 C M) {P : Nat} (hP : M.1 29 = (P : Int)) (h5 : P < 5) {w v : Int} (hw : 1 ≤ w ∧ w ≤ 999) (hv : 1 ≤ v ∧ v ≤ 999) : rdI B C0 M0 (paC C (B + 4) P w v) (plM M P w v) := by
  obtain ⟨a1, a2, a3, a4, a5, a6, a7⟩ := hr
  obtain ⟨p1, p2, ⟨p3, p4⟩, p5⟩ := a7
  have o1 : ∀ q, q ≠ B + 4 → q ≠ B + 6 + 5 * P → (paC C (B + 4) P w v).1 q = C.1 q := fun q h1 h2 => by
    funext j
    show (if q = B + 4 then _ else (if q = B + 4 + 2 + 5 * P then _ else C.1 q) j) = _
    rw [if_neg h1, if_neg (by omega)]
  have o2 : ∀ q, (q < B + 6 + 5 * P + 1 ∨ B + 6 + 5 * P + 4 < q) → (paC C (B + 4) P w v).2.1 q = C.2.1 q := fun q h1 => by
    show (if B + 4 + 2 + 5 * P + 1 ≤ q ∧ q ≤ B + 4 + 2 + 5 * P + 4 then _ else C.2.1 q) = _
    rw [if_neg (by omega)]
  have e29 : (plM M P w v).1 29 = (P : Int) + 1 := by show up1 M.1 29 ((P : Int) + 1) 29 = _; rw [up1_e]
  have n29 : ∀ k, k ≠ 29 → (plM M P w v).1 k = M.1 k := fun k hk => up1_n hk
  have n10 : ∀ c, c ≠ 10 → (plM M P w v).2 c = M.2 c := fun c hc => upC_n hc
  have s10 : ∀ j, (plM M P w v).2 10 j = if j = 54 * P + 3 then v - 1 else if j = 54 * P + 2 then w - 1 else M.2 10 j := fun j => rfl
  have cne : ∀ f, f < 5 → f ≠ P → cph (paC C (B + 4) P w v) (B + 6 + 5 * f) = cph C (B + 6 + 5 * f) := fun f hf hne => cph_eq (o1 _ (by omega) (by omega)) (fun c hc => o2 _ (by omega))
  obtain ⟨y1, y2⟩ := phP_self (C := C) (a := B + 4 + 2 + 5 * P) (q := bgQ (cph C (B + 4 + 2 + 5 * P)) w v)
  have ceq : cph (paC C (B + 4) P w v) (B + 6 + 5 * P) = cph (phP C (B + 4 + 2 + 5 * P) (bgQ (cph C (B + 4 + 2 + 5 * P)) w v)) (B + 6 + 5 * P) := cph_eq (by
    funext j
    show (if B + 6 + 5 * P = B + 4 then _ else _) = _
    rw [if_neg (by omega)]) (fun c hc => rfl)
  rw [show B + 4 + 2 + 5 * P = B + 6 + 5 * P by omega] at y1 y2 ceq
  refine ⟨ldC_trans a1 ⟨fun q h1 h2 => o1 q (by omega) (by omega), fun q h1 => o2 q (by omega), fun _ _ _ _ _ => rfl, fun _ _ _ => rfl⟩, fun i hi => by rw [o1 _ (by omega) (by omega)]; exact a2 i hi, ldM_trans a3 ⟨fun k _ _ h => n29 k h, fun c _ _ _ h => n10 c h⟩, by rw [n29 17 (by decide)]; exact a4, ?_, ?_, ?_, by rw [e29]; omega, ⟨fun j hj => ?_, fun f hf => ?_⟩, fun f hf => ?_⟩
  · intro i hi
    by_cases e : i = P
    · subst e
      rw [ceq]
      have hR := bgQ_R (w := w) (v := v) (a5 i hi) hw hv
      refine ⟨fun k => by rw [y1]; exact hR.1 k, by rw [y1]; exact hR.2.1, by rw [y1]; exact hR.2.2.1, fun c j => ?_, fun j => by rw [y2 2 (by decide)]; exact hR.2.2.2.2.1 j, fun j => by rw [y2 3 (by decide)]; exact hR.2.2.2.2.2 j⟩
      by_cases hc : c < 4
      · rw [y2 c hc]; exact hR.2.2.2.1 c j
      · show -1 ≤ (if c < 4 then _ else fun _ => (0 : Int)) j ∧ (if c < 4 then _ else fun _ => (0 : Int)) j ≤ 999
        rw [if_neg hc]; omega
    · rw [cne i hi e]; exact a5 i hi
  · exact rdN_of a6 (by rw [o1 _ (by omega) (by omega)]) rfl rfl (n29 22 (by decide)) (n10 6 (by decide))
  · rw [e29]
    show (if B + 4 = B + 4 then (if 0 = 0 then (P : Int) + 1 else _) else _) = _
    rw [if_pos rfl, if_pos rfl]
  · rw [s10]
    have := p3 j hj
    repeat' split
    all_goals omega
  · obtain ⟨b1, b2, b3, b4, b5, b6⟩ := p4 f hf
    have s' : ∀ j, j ≠ 54 * P + 3 → j ≠ 54 * P + 2 → (plM M P w v).2 10 j = M.2 10 j := fun j h1 h2 => by rw [s10, if_neg h1, if_neg h2]
    rw [s' _ (by omega) (by omega), s' _ (by omega) (by omega), s' _ (by omega) (by omega), s' _ (by omega) (by omega), e29]
    refine ⟨b1, b2, b3, b4, fun h => b5 (by omega), fun i hi => ?_⟩
    rw [s' _ (by omega) (by omega), s' _ (by omega) (by omega)]; exact b6 i hi
  · rw [e29] at hf
    by_cases e : f = P
    · subst e
      rw [ceq]
      obtain ⟨b1, b2, b3, b4, b5, b6⟩ := p4 f h5
      have b5 := b5 (by omega)
      have s' : ∀ j, j ≠ 54 * f + 3 → j ≠ 54 * f + 2 → (plM M f w v).2 10 j = M.2 10 j := fun j h1 h2 => by rw [s10, if_neg h1, if_neg h2]
      have s2 : (plM M f w v).2 10 (54 * f + 2) = w - 1 := by rw [s10, if_neg (by omega), if_pos rfl]
      have s3 : (plM M f w v).2 10 (54 * f + 3) = v - 1 := by rw [s10, if_pos rfl]
      refine ⟨fun k hk => ?_, fun c i hc hi => ?_⟩
      · rw [y1]
        have hk8 : k = 0 ∨ k = 1 ∨ k = 2 ∨ k = 3 ∨ k = 4 ∨ k = 5 ∨ k = 6 ∨ k = 7 := by omega
        rcases hk8 with rfl | rfl | rfl | rfl | rfl | rfl | rfl | rfl
        · show w = (plM M f w v).2 10 (54 * f + 2) + 1
          rw [s2]; omega
        · show v = (plM M f w v).2 10 (54 * f + 3) + 1
          rw [s3]; omega
        · show (0 : Int) = (plM M f w v).2 10 (54 * f)
          rw [s' _ (by omega) (by omega), b1]
        · show (0 : Int) = (plM M f w v).2 10 (54 * f + 1)
          rw [s' _ (by omega) (by omega), b2]
        · show w - 1 = (plM M f w v).2 10 (54 * f + 2)
          rw [s2]
        · show v - 1 = (plM M f w v).2 10 (54 * f + 3)
          rw [s3]
        · show (0 : Int) = (plM M f w v).2 10 (54 * f + 4)
          rw [s' _ (by omega) (by omega), b3]
        · show (0 : Int) = (plM M f w v).2 10 (54 * f + 5)
          rw [s' _ (by omega) (by omega), b5]
      · rw [y1] at hi
        have e7 : (bgQ (cph C (B + 6 + 5 * f)) w v).1 7 = 0 := rfl
        rw [e7] at hi; omega
    · rw [cne f (by omega) e]
      have x := p5 f (by omega)
      have b4 := (p4 f (by omega)).2.2.2.1
      refine pheq_S x (msfB (fun j h1 h2 => by rw [s10, if_neg (by omega), if_neg (by omega)])) ?_
      rw [x.1 7 (by decide)]; exact b4
theorem ln_photo (hB : B = 1003 ∨ B = 1034) (hr : rdI B C0 M0 C M) (ht : tkR C M n s) (hb0 : byI C0 M0 n) (h13 : M.1 13 = 1) : lnO z 45 72 B n C0 M0 C M s := by
  have hb := rd_byI hB hb0 hr
  have h17 := hr.2.2.2.1
  obtain ⟨p1, p2, -⟩ := hr.2.2.2.2.2.2
  have hn := hb.1
  have d0 : ((0 : Int) = 0) = True := eq_true rfl
  have d1 : ((1 : Int) = 0) = False := eq_false (by decide)
  by_cases cP : M.1 29 = 5
  · right
    have hm := mut_er ht (t := 4) (by decide)
    refine ⟨_, _, fun h hS => ?_, fun h hS => ?_, er_tk hB hr ht hn (t := 4) (by decide), hm⟩
    · obtain ⟨f0, f1, f2, f3, f4, f5, f6, f7, f8⟩ := sprF hB (h := h) (C := C)
      have y := c36 (z := z) (h := h) (C := C) (b := 0) (Or.inl rfl) (c := 4)
      rw [if_neg (by decide)] at y
      have d1 : (5 ≤ C.1 (B + 4) 0) = True := eq_true (by omega)
      simp (disch := omega) only [en45, e45_0, e45_1, e45_2, e45_5, e45_8, e45_9, e45_12, e45_13, e45_16, e45_17, e45_18, e45_21, e45_22, e45_25, e45_26, e45_27, e45_30, e45_33, e45_34, e45_35, e45_36, e45_39, e45_42, e45_43, e45_44, e45_47, e45_48, e45_49, e45_52, ↓reduceIte, Bool.false_eq_true, not_false_eq_true, not_true_eq_false, Nat.reduceLeDiff, Nat.reduceAdd, Nat.reduceEqDiff, Int.reduceToNat, Int.toNat_natCast, iB0, iB1, ru_klI, ru_klR, ru_klF, ru_klJ, ru_kl0, ru_cs0, ru_csI, ru_csR, ru_csF, ru_csJ, wI_add, wI_sub, wI_mul, wI_lt, wI_le, wI_inj, ru_fdE, ru_fdN, ru_iaN, ru_baN, ru_laN, ru_qaN, ru_pfN, ru_isN, ru_bsN, ru_jsN, ru_qsN, ru_set2, Nat.add_right_cancel_iff, if_true, if_false, ite_self, Int.reduceEq, and_self, Int.add_neg_cancel_right, Int.add_zero, Int.zero_add, f0, f3, f7, d1, y]
      rfl
    · have g17 : am_fd (mdPut h (erM M 4)) 1315 10 17 = some (.int (wI 4)) := by rw [md_f17]; rfl
      have d4 : ((4 : Int) = 0) = False := eq_false (by decide)
      have u1 := u66 (z := z) (h := h) hm
      have u2 := u64 (z := z) (h := h) (lo := 1) (hi := 999) hm (by decide) (by decide)
      simp (disch := omega) only [en72, e72_0, e72_1, e72_4, e72_5, e72_8, e72_9, e72_10, e72_13, e72_14, e72_17, e72_18, e72_19, e72_22, e72_25, e72_26, e72_27, e72_28, e72_31, e72_34, e72_35, e72_36, e72_39, e72_42, e72_43, e72_46, e72_48, e72_49, e72_52, e72_53, e72_54, e72_55, e72_56, e72_57, e72_58, e72_59, e72_60, e72_63, e72_65, e72_66, e72_69, e72_70, e72_71, e72_72, e72_73, e72_74, e72_75, e72_76, e72_77, e72_78, e72_81, e72_82, e72_83, e72_86, ↓reduceIte, Bool.false_eq_true, not_false_eq_true, not_true_eq_false, Nat.reduceLeDiff, Nat.reduceAdd, Nat.reduceEqDiff, Int.reduceToNat, Int.toNat_natCast, iB0, iB1, ru_klI, ru_klR, ru_klF, ru_klJ, ru_kl0, ru_cs0, ru_csI, ru_csR, ru_csF, ru_csJ, wI_add, wI_sub, wI_mul, wI_lt, wI_le, wI_inj, ru_fdE, ru_fdN, ru_iaN, ru_baN, ru_laN, ru_qaN, ru_pfN, ru_isN, ru_bsN, ru_jsN, ru_qsN, ru_set2, Nat.add_right_cancel_iff, if_true, if_false, ite_self, Int.reduceEq, and_self, Int.add_neg_cancel_right, Int.add_zero, Int.zero_add, md_e, md_f29, cP, f63 h17, u1, u2, g17, d4, not_true, not_false_iff]
  obtain ⟨P, hP⟩ : ∃ P : Nat, M.1 29 = (P : Int) := ⟨(M.1 29).toNat, by omega⟩
  have h5 : P < 5 := by omega
  have cP0 : (M.1 29 = 5) = False := eq_false cP
  obtain ⟨C1, M1, s1, k1, k2, k3, k4, k5, k6⟩ := tk_adv (z := z) ht (by omega) hb
  have r1 := rd_tok hB hr k4 k5
  have h171 := r1.2.2.2.1
  have b1 := rd_byI hB hb0 r1
  have g1 : ∀ h, ru_ev z 36 [.ref 1001, .int (wI 1), .int (wI 4)] (clPut h C) = some (.inl none, clPut h C) := fun h => by rw [c36 (Or.inr rfl), if_pos rfl]
  have dC : (5 ≤ C.1 (B + 4) 0) = False := eq_false (by omega)
  have y1 : ∀ h, ru_ev z 66 [.ref 1315] (mdPut h M) = some (.inl none, mdPut h M1) := fun h => p66 (z := z) h17 (k2 h)
  rcases ps_num (z := z) k3 h171 b1 (lo := 1) (hi := 999) (by decide) (by decide) with ⟨e2, C2, M2, s2, l1, l2, l3, l4, l5, l6⟩ | ⟨e2, l1, l2⟩
  rotate_left
  · right
    have hm := mut_er k3 (nbT_b e2)
    refine ⟨_, _, fun h hS => ?_, fun h hS => ?_, er_tk hB r1 k3 hn (nbT_b e2), hm⟩
    · obtain ⟨f0, f1, f2, f3, f4, f5, f6, f7, f8⟩ := sprF hB (h := h) (C := C)
      simp (disch := omega) only [en45, e45_0, e45_1, e45_2, e45_5, e45_8, e45_9, e45_12, e45_13, e45_16, e45_17, e45_18, e45_21, e45_22, e45_25, e45_26, e45_27, e45_30, e45_33, e45_34, e45_35, e45_36, e45_39, e45_42, e45_43, e45_44, e45_47, e45_48, e45_49, e45_52, ↓reduceIte, Bool.false_eq_true, not_false_eq_true, not_true_eq_false, Nat.reduceLeDiff, Nat.reduceAdd, Nat.reduceEqDiff, Int.reduceToNat, Int.toNat_natCast, iB0, iB1, ru_klI, ru_klR, ru_klF, ru_klJ, ru_kl0, ru_cs0, ru_csI, ru_csR, ru_csF, ru_csJ, wI_add, wI_sub, wI_mul, wI_lt, wI_le, wI_inj, ru_fdE, ru_fdN, ru_iaN, ru_baN, ru_laN, ru_qaN, ru_pfN, ru_isN, ru_bsN, ru_jsN, ru_qsN, ru_set2, Nat.add_right_cancel_iff, if_true, if_false, ite_self, Int.reduceEq, and_self, Int.add_neg_cancel_right, Int.add_zero, Int.zero_add, f0, f3, f7, dC, g1, k1, l1]
    · have g17 : am_fd (mdPut h (erM M1 (nbT M1 1 999))) 1315 10 17 = some (.int (wI (nbT M1 1 999))) := by rw [md_f17]; rfl
      have bb := nbT_b e2
      have d4 : (nbT M1 1 999 = 0) = False := eq_false e2
      have u2 := u64 (z := z) (h := h) (lo := 1) (hi := 999) hm (by decide) (by decide)
      simp (disch := omega) only [en72, e72_0, e72_1, e72_4, e72_5, e72_8, e72_9, e72_10, e72_13, e72_14, e72_17, e72_18, e72_19, e72_22, e72_25, e72_26, e72_27, e72_28, e72_31, e72_34, e72_35, e72_36, e72_39, e72_42, e72_43, e72_46, e72_48, e72_49, e72_52, e72_53, e72_54, e72_55, e72_56, e72_57, e72_58, e72_59, e72_60, e72_63, e72_65, e72_66, e72_69, e72_70, e72_71, e72_72, e72_73, e72_74, e72_75, e72_76, e72_77, e72_78, e72_81, e72_82, e72_83, e72_86, ↓reduceIte, Bool.false_eq_true, not_false_eq_true, not_true_eq_false, Nat.reduceLeDiff, Nat.reduceAdd, Nat.reduceEqDiff, Int.reduceToNat, Int.toNat_natCast, iB0, iB1, ru_klI, ru_klR, ru_klF, ru_klJ, ru_kl0, ru_cs0, ru_csI, ru_csR, ru_csF, ru_csJ, wI_add, wI_sub, wI_mul, wI_lt, wI_le, wI_inj, ru_fdE, ru_fdN, ru_iaN, ru_baN, ru_laN, ru_qaN, ru_pfN, ru_isN, ru_bsN, ru_jsN, ru_qsN, ru_set2, Nat.add_right_cancel_iff, if_true, if_false, ite_self, Int.reduceEq, and_self, Int.add_neg_cancel_right, Int.add_zero, Int.zero_add, md_e, md_f29, cP0, y1, l2, u2, g17, d4, not_true, not_false_iff]
  have r2 := rd_tok hB r1 l4 l5
  have h172 := r2.2.2.2.1
  have b2 := rd_byI hB hb0 r2
  obtain ⟨-, w1, w2⟩ := nbT_ok e2
  rcases ps_num (z := z) l3 h172 b2 (lo := 1) (hi := 999) (by decide) (by decide) with ⟨e3, C3, M3, s3, q1, q2, q3, q4, q5, q6⟩ | ⟨e3, q1, q2⟩
  rotate_left
  · right
    have hm := mut_er l3 (nbT_b e3)
    refine ⟨_, _, fun h hS => ?_, fun h hS => ?_, er_tk hB r2 l3 hn (nbT_b e3), hm⟩
    · obtain ⟨f0, f1, f2, f3, f4, f5, f6, f7, f8⟩ := sprF hB (h := h) (C := C)
      simp (disch := omega) only [en45, e45_0, e45_1, e45_2, e45_5, e45_8, e45_9, e45_12, e45_13, e45_16, e45_17, e45_18, e45_21, e45_22, e45_25, e45_26, e45_27, e45_30, e45_33, e45_34, e45_35, e45_36, e45_39, e45_42, e45_43, e45_44, e45_47, e45_48, e45_49, e45_52, ↓reduceIte, Bool.false_eq_true, not_false_eq_true, not_true_eq_false, Nat.reduceLeDiff, Nat.reduceAdd, Nat.reduceEqDiff, Int.reduceToNat, Int.toNat_natCast, iB0, iB1, ru_klI, ru_klR, ru_klF, ru_klJ, ru_kl0, ru_cs0, ru_csI, ru_csR, ru_csF, ru_csJ, wI_add, wI_sub, wI_mul, wI_lt, wI_le, wI_inj, ru_fdE, ru_fdN, ru_iaN, ru_baN, ru_laN, ru_qaN, ru_pfN, ru_isN, ru_bsN, ru_jsN, ru_qsN, ru_set2, Nat.add_right_cancel_iff, if_true, if_false, ite_self, Int.reduceEq, and_self, Int.add_neg_cancel_right, Int.add_zero, Int.zero_add, f0, f3, f7, dC, g1, k1, l1, q1]
    · have g17 : am_fd (mdPut h (erM M2 (nbT M2 1 999))) 1315 10 17 = some (.int (wI (nbT M2 1 999))) := by rw [md_f17]; rfl
      have bb := nbT_b e3
      have d4 : (nbT M2 1 999 = 0) = False := eq_false e3
      simp (disch := omega) only [en72, e72_0, e72_1, e72_4, e72_5, e72_8, e72_9, e72_10, e72_13, e72_14, e72_17, e72_18, e72_19, e72_22, e72_25, e72_26, e72_27, e72_28, e72_31, e72_34, e72_35, e72_36, e72_39, e72_42, e72_43, e72_46, e72_48, e72_49, e72_52, e72_53, e72_54, e72_55, e72_56, e72_57, e72_58, e72_59, e72_60, e72_63, e72_65, e72_66, e72_69, e72_70, e72_71, e72_72, e72_73, e72_74, e72_75, e72_76, e72_77, e72_78, e72_81, e72_82, e72_83, e72_86, ↓reduceIte, Bool.false_eq_true, not_false_eq_true, not_true_eq_false, Nat.reduceLeDiff, Nat.reduceAdd, Nat.reduceEqDiff, Int.reduceToNat, Int.toNat_natCast, iB0, iB1, ru_klI, ru_klR, ru_klF, ru_klJ, ru_kl0, ru_cs0, ru_csI, ru_csR, ru_csF, ru_csJ, wI_add, wI_sub, wI_mul, wI_lt, wI_le, wI_inj, ru_fdE, ru_fdN, ru_iaN, ru_baN, ru_laN, ru_qaN, ru_pfN, ru_isN, ru_bsN, ru_jsN, ru_qsN, ru_set2, Nat.add_right_cancel_iff, if_true, if_false, ite_self, Int.reduceEq, and_self, Int.add_neg_cancel_right, Int.add_zero, Int.zero_add, md_e, md_f29, cP0, y1, l2, q2, g17, d4, not_true, not_false_iff]
  left
  have r3 := rd_tok hB r2 q4 q5
  obtain ⟨-, v1, v2⟩ := nbT_ok e3
  have hP3 : M3.1 29 = (P : Int) := by rw [q5.1 29 (by omega), l5.1 29 (by omega), k5.1 29 (by omega)]; exact hP
  have hc3 : C3.1 (B + 4) 0 = (P : Int) := by rw [r3.2.2.2.2.2.2.1]; exact hP3
  refine ⟨paC C3 (B + 4) P (M1.1 16) (M2.1 16), plM M3 P (M1.1 16) (M2.1 16), s3, fun h hS => ?_, fun h hS => ?_, ?_, rd_plM hB r3 hP3 h5 ⟨w1, w2⟩ ⟨v1, v2⟩, by omega⟩
  · obtain ⟨f0, f1, f2, f3, f4, f5, f6, f7, f8⟩ := sprF hB (h := h) (C := C)
    obtain ⟨g0, -, -, g3, -, -, -, -, -⟩ := sprF hB (h := h) (C := C3)
    have x := c46 (z := z) (h := h) (C := C3) (spr_k hB).2.2.2.2.1 hc3 h5 (w := M1.1 16) (v := M2.1 16) (by omega) (by omega)
    simp (disch := omega) only [en45, e45_0, e45_1, e45_2, e45_5, e45_8, e45_9, e45_12, e45_13, e45_16, e45_17, e45_18, e45_21, e45_22, e45_25, e45_26, e45_27, e45_30, e45_33, e45_34, e45_35, e45_36, e45_39, e45_42, e45_43, e45_44, e45_47, e45_48, e45_49, e45_52, ↓reduceIte, Bool.false_eq_true, not_false_eq_true, not_true_eq_false, Nat.reduceLeDiff, Nat.reduceAdd, Nat.reduceEqDiff, Int.reduceToNat, Int.toNat_natCast, iB0, iB1, ru_klI, ru_klR, ru_klF, ru_klJ, ru_kl0, ru_cs0, ru_csI, ru_csR, ru_csF, ru_csJ, wI_add, wI_sub, wI_mul, wI_lt, wI_le, wI_inj, ru_fdE, ru_fdN, ru_iaN, ru_baN, ru_laN, ru_qaN, ru_pfN, ru_isN, ru_bsN, ru_jsN, ru_qsN, ru_set2, Nat.add_right_cancel_iff, if_true, if_false, ite_self, Int.reduceEq, and_self, Int.add_neg_cancel_right, Int.add_zero, Int.zero_add, f0, f3, f7, g0, g3, dC, g1, k1, l1, q1, x]
  · have g17 : am_fd (mdPut h M3) 1315 10 17 = some (.int (wI 0)) := by rw [md_f17, r3.2.2.2.1]
    have f29 : ∀ G, am_fd (mdPut h (M3.1, G)) 1315 10 29 = some (.int (wI P)) := fun G => by rw [md_f29]; show some (Value.int (wI (M3.1 29))) = _; rw [hP3]
    have f30 : ∀ G, am_fd (mdPut h (M3.1, G)) 1315 10 30 = some (.ref 1326) := fun G => md_f30
    have f29' : am_fd (mdPut h M3) 1315 10 29 = some (.int (wI P)) := by rw [md_f29, hP3]
    have x1 := md_w10 (h := h) (M := M3) (i := 54 * (P : Int) + 2) (v := M1.1 16 - 1) (by omega) (by omega)
    rw [show (54 * (P : Int) + 2).toNat = 54 * P + 2 by omega, up2_C] at x1
    have x2 := md_w10 (h := h) (M := (M3.1, upC M3.2 10 (up1 (M3.2 10) (54 * P + 2) (M1.1 16 - 1)))) (i := 54 * (P : Int) + 3) (v := M2.1 16 - 1) (by omega) (by omega)
    rw [show (54 * (P : Int) + 3).toNat = 54 * P + 3 by omega, up2_C] at x2
    dsimp only at x2
    rw [upC_e, upC_up] at x2
    have x3 : am_pf (mdPut h (M3.1, upC M3.2 10 (up1 (up1 (M3.2 10) (54 * P + 2) (M1.1 16 - 1)) (54 * P + 3) (M2.1 16 - 1)))) 1315 10 29 0 (.int (wI ((P : Int) + 1))) = some (mdPut h (plM M3 P (M1.1 16) (M2.1 16))) := md_s29
    simp (disch := omega) only [en72, e72_0, e72_1, e72_4, e72_5, e72_8, e72_9, e72_10, e72_13, e72_14, e72_17, e72_18, e72_19, e72_22, e72_25, e72_26, e72_27, e72_28, e72_31, e72_34, e72_35, e72_36, e72_39, e72_42, e72_43, e72_46, e72_48, e72_49, e72_52, e72_53, e72_54, e72_55, e72_56, e72_57, e72_58, e72_59, e72_60, e72_63, e72_65, e72_66, e72_69, e72_70, e72_71, e72_72, e72_73, e72_74, e72_75, e72_76, e72_77, e72_78, e72_81, e72_82, e72_83, e72_86, ↓reduceIte, Bool.false_eq_true, not_false_eq_true, not_true_eq_false, Nat.reduceLeDiff, Nat.reduceAdd, Nat.reduceEqDiff, Int.reduceToNat, Int.toNat_natCast, iB0, iB1, ru_klI, ru_klR, ru_klF, ru_klJ, ru_kl0, ru_cs0, ru_csI, ru_csR, ru_csF, ru_csJ, wI_add, wI_sub, wI_mul, wI_lt, wI_le, wI_inj, ru_fdE, ru_fdN, ru_iaN, ru_baN, ru_laN, ru_qaN, ru_pfN, ru_isN, ru_bsN, ru_jsN, ru_qsN, ru_set2, Nat.add_right_cancel_iff, if_true, if_false, ite_self, Int.reduceEq, and_self, Int.add_neg_cancel_right, Int.add_zero, Int.zero_add, ru_ctR, ru_ctI, md_e, md_f29, md_f30, cP0, y1, l2, q2, g17, f29', f29, f30, x1, x2, x3, d0, not_true, not_false_iff]
  · exact tkR_of q3 (by
      funext j
      show (if 1001 = B + 4 then _ else (if 1001 = B + 4 + 2 + 5 * P then _ else C3.1 1001) j) = _
      rw [if_neg (by omega), if_neg (by omega)]) (by
      show (if B + 4 + 2 + 5 * P + 1 ≤ 1002 ∧ 1002 ≤ B + 4 + 2 + 5 * P + 4 then _ else C3.2.1 1002) = _
      rw [if_neg (by omega)]) rfl rfl (fun k _ _ => up1_n (by omega)) (plM_n (by decide))
end PLN
