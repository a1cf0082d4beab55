/-! ===== the reference lays the rows, 2 ===== -/
def bfF (e : Nat → Nat) : Nat → Int
  | 0 => -1
  | t + 1 => (e t : Nat)
def rwF (q : tPh) (gap : Int) (e : Nat → Nat) (k : Nat) : Int := if shS q k = true then (rwA (shY q) gap e (rkN (shS q) (kyY (shY q)) k) : Nat) else -1
theorem kyY_inj {y : Nat → Int} {S : Nat → Bool} (hy : ∀ k, k < 12 → S k = true → 0 ≤ y k ∧ y k ≤ 999) : ∀ a b, a < 12 → b < 12 → S a = true → S b = true → kyY y a = kyY y b → a = b := by
  intro a b ha hb sa sb e
  have h1 := kyY_rng (hy a ha sa) ha
  have h2 := kyY_rng (hy b hb sb) hb
  rw [e] at h1; omega
section LR2
variable {z : Bool} {h : am_H} {M : tMd} {rm : Int} {f : Nat}
theorem p120b (hf : f < 5) (hr : phR (mph M f)) (hG : 0 ≤ M.1 24 ∧ M.1 24 ≤ 99) {L : Nat → Int} {m n : Nat} (hm : (mph M f).1 7 = (m : Int)) {e : Nat → Nat} (hE : enO (shS (mph M f)) (kyY (shY (mph M f))) n e) : ∀ d t, t + d = n → ∀ (R Q : Nat → Int) (l4 l5 : Option Value),
    (∀ k, k < 12 → R k = if befB e t k = true then rwF (mph M f) (M.1 24) e k else -1) → (∀ r, r < 12 → Q r = (cnB (fun o => shS (mph M f) o && (befB e t o && decide (rwF (mph M f) (M.1 24) e o = (r : Int)))) 12 : Nat)) → ∃ (R' Q' : Nat → Int) (l4' l5' : Option Value),
    (∀ k, k < 12 → R' k = if befB e n k = true then rwF (mph M f) (M.1 24) e k else -1) ∧ (∀ r, r < 12 → Q' r = (cnB (fun o => shS (mph M f) o && (befB e n o && decide (rwF (mph M f) (M.1 24) e o = (r : Int)))) 12 : Nat)) ∧
    ru_n z 120 51 [some (.ref 1315), some (.int (wI f)), some (.int (wI (bfF e t))), some (.int (wI d)), l4, l5] [] (mdPut h (mdQ M (rwC (shY (mph M f)) (M.1 24) e t : Nat) R L Q)) = ru_n z 120 198 [some (.ref 1315), some (.int (wI f)), some (.int (wI (bfF e n))), some (.int (wI 0)), l4', l5'] [] (mdPut h (mdQ M (rwC (shY (mph M f)) (M.1 24) e n : Nat) R' L Q')) := by
  have s := phR_s hr
  have h12 := enO_12 hE
  have hrow : ∀ j, j < n → rwF (mph M f) (M.1 24) e (e j) = (rwA (shY (mph M f)) (M.1 24) e j : Nat) := fun j hj => by
    unfold rwF
    rw [if_pos (hE.1 j hj).2, enO_rk hE hj]
  intro d
  induction d with
  | zero =>
    intro t ht R Q l4 l5 hR hQ
    obtain rfl : t = n := by omega
    refine ⟨R, Q, l4, l5, hR, hQ, ?_⟩
    have c : ((0 : Int) ≤ 0) = True := eq_true (Int.le_refl _)
    simp (disch := omega) only [e120_51, e120_52, ↓reduceIte, Bool.false_eq_true, not_false_eq_true, not_true_eq_false, Nat.reduceLeDiff, Nat.reduceAdd, Nat.reduceEqDiff, Int.reduceToNat, Int.toNat_natCast, iB0, iB1, ru_klI, ru_klR, ru_klF, ru_klJ, ru_kl0, ru_cs0, ru_csI, ru_csR, ru_csF, ru_csJ, wI_add, wI_sub, wI_mul, wI_lt, wI_le, wI_inj, ru_fdE, ru_fdN, ru_iaN, ru_baN, ru_laN, ru_qaN, ru_pfN, ru_isN, ru_bsN, ru_jsN, ru_qsN, ru_set2, Nat.add_right_cancel_iff, if_true, if_false, ite_self, Int.reduceEq, and_self, Int.add_neg_cancel_right, Int.add_zero, Int.zero_add, Int.natCast_zero, c]
  | succ d ih =>
    intro t ht R Q l4 l5 hR hQ
    have hRr : ∀ k, k < 12 → -1 ≤ R k ∧ R k < 12 := by
      intro k hk
      rw [hR k hk]
      split
      · rename_i hb
        obtain ⟨j, j1, rfl⟩ := (befB_iff e k t).mp hb
        rw [hrow j (by omega)]
        have := rwA_lt (shY (mph M f)) (M.1 24) e j
        omega
      · omega
    obtain ⟨b, hb, hc⟩ := p120c (z := z) (h := h) (M := M) (rm := (rwC (shY (mph M f)) (M.1 24) e t : Nat)) hf hr (R := R) (L := L) (Q := Q) hRr hm (B := bfF e t) (N := ((d + 1 : Nat) : Int)) m 0 (by omega) (-1) (Or.inl ⟨rfl, fun o ho => by omega⟩)
    have het := hE.1 t (by omega)
    have ret := shS_rng hr het.2
    have hnb : ¬ befB e t (e t) = true := fun c => by
      obtain ⟨j, j1, j2⟩ := (befB_iff e (e t) t).mp c
      have := enO_inj hE (by omega) (by omega) j2
      omega
    have hRt : R (e t) = -1 := by rw [hR _ het.1, if_neg hnb]
    have hbe : b = (e t : Nat) := by
      rcases hb with ⟨-, hb⟩ | ⟨k, rfl, h1, h2, h3, h4⟩
      · exact absurd hRt (hb (e t) (by omega) ret.2.2.2.2)
      · have h5 := h4 (e t) (by omega) ret.2.2.2.2 hRt
        have hsk : shS (mph M f) k = true := by rw [shS_of (by omega)]; exact h2
        obtain ⟨j, j1, rfl⟩ := hE.2.2 k (by omega) hsk
        have j2 : ¬ j < t := fun c => by
          rw [hR _ (hE.1 j j1).1, if_pos ((befB_iff e (e j) t).mpr ⟨j, c, rfl⟩), hrow j j1] at h3
          omega
        have j3 : ¬ t < j := fun c => by
          have := hE.2.1 t j c j1
          omega
        obtain rfl : j = t := by omega
        rfl
    subst hbe
    have hA := rwA_lt (shY (mph M f)) (M.1 24) e t
    obtain ⟨R', Q', l4', l5', t1, t2, t3⟩ := ih (t + 1) (by omega) (up1 R (e t) (rwA (shY (mph M f)) (M.1 24) e t : Nat)) (up1 Q (rwA (shY (mph M f)) (M.1 24) e t) (Q (rwA (shY (mph M f)) (M.1 24) e t) + 1)) (some (.int (wI (e t : Nat)))) (some (.int (wI m))) (fun k hk => by
        unfold up1 befB
        by_cases c : k = e t
        · subst c
          rw [if_pos rfl, decide_eq_true rfl, Bool.or_true, if_pos rfl, hrow t (by omega)]
        · rw [if_neg c, decide_eq_false (fun c2 => c c2.symm), Bool.or_false]
          exact hR k hk) (fun r hr2 => by
        unfold up1
        by_cases c : r = rwA (shY (mph M f)) (M.1 24) e t
        · rw [if_pos c, ← c, hQ r hr2]
          have : cnB (fun o => shS (mph M f) o && (befB e (t + 1) o && decide (rwF (mph M f) (M.1 24) e o = (r : Int)))) 12 = cnB (fun o => shS (mph M f) o && (befB e t o && decide (rwF (mph M f) (M.1 24) e o = (r : Int)))) 12 + 1 := by
            refine cnB_one (k := e t) 12 het.1 ?_ ?_ ?_
            · rw [het.2, hrow t (by omega), c]
              simp [befB]
            · simp only [Bool.not_eq_true] at hnb
              rw [hnb]; simp
            · intro o _ ho
              dsimp only [befB]
              rw [decide_eq_false (fun c2 => ho c2.symm), Bool.or_false]
          omega
        · rw [if_neg c, hQ r hr2]
          congr 1
          refine cnB_congr fun o ho => ?_
          dsimp only [befB]
          by_cases c2 : o = e t
          · subst c2
            rw [hrow t (by omega), decide_eq_false (show ¬ ((rwA (shY (mph M f)) (M.1 24) e t : Nat) : Int) = (r : Int) by omega)]
            simp
          · rw [decide_eq_false (show ¬ e t = o from fun c3 => c2 c3.symm), Bool.or_false])
    refine ⟨R', Q', l4', l5', t1, t2, ?_⟩
    rw [← t3, e120_51]
    have c1 : (((d : Int) + 1) ≤ 0) = False := eq_false (by omega)
    simp only [Int.natCast_add, Int.natCast_one, Int.natCast_zero] at hc
    have hC1 : ((rwC (shY (mph M f)) (M.1 24) e (t + 1) : Nat) : Int) = (rwA (shY (mph M f)) (M.1 24) e t : Nat) + 1 := rfl
    have hB1 : bfF e (t + 1) = (e t : Nat) := rfl
    rw [hC1, hB1]
    have hY : ∀ (rm : Int) (R Q : Nat → Int) (k : Nat), k < 12 → ru_ev z 127 [.ref 1315, .int (wI f), .int (wI (k : Nat))] (mdPut h (mdQ M rm R L Q)) = some (.inl (some (.int (wI (shY (mph M f) k)))), mdPut h (mdQ M rm R L Q)) := fun rm R Q k hk => p127 hf hk
    have key : ru_n z 120 125 [some (.ref 1315), some (.int (wI f)), some (.int (wI (bfF e t))), some (.int (wI ((d : Int) + 1))), some (.int (wI (e t : Nat))), some (.int (wI m))] [] (mdPut h (mdQ M (rwC (shY (mph M f)) (M.1 24) e t : Nat) R L Q)) = ru_n z 120 161 [some (.ref 1315), some (.int (wI f)), some (.int (wI (bfF e t))), some (.int (wI ((d : Int) + 1))), some (.int (wI (e t : Nat))), some (.int (wI m))] [] (mdPut h (mdQ M ((rwA (shY (mph M f)) (M.1 24) e t : Nat) + 1) R L Q)) := by
      cases t with
      | zero =>
        have hA0 : rwA (shY (mph M f)) (M.1 24) e 0 = 0 := rfl
        have hC0 : rwC (shY (mph M f)) (M.1 24) e 0 = 0 := rfl
        have hB0 : bfF e 0 = -1 := rfl
        simp (disch := omega) only [e120_125, e120_126, e120_127, e120_130, e120_131, e120_132, e120_133, e120_136, e120_137, e120_138, e120_140, e120_143, e120_144, e120_145, e120_148, e120_151, e120_152, e120_153, e120_156, e120_157, e120_158, ↓reduceIte, Bool.false_eq_true, not_false_eq_true, not_true_eq_false, Nat.reduceLeDiff, Nat.reduceAdd, Nat.reduceEqDiff, Int.reduceToNat, Int.toNat_natCast, iB0, iB1, ru_klI, ru_klR, ru_klF, ru_klJ, ru_kl0, ru_cs0, ru_csI, ru_csR, ru_csF, ru_csJ, wI_add, wI_sub, wI_mul, wI_lt, wI_le, wI_inj, ru_fdE, ru_fdN, ru_iaN, ru_baN, ru_laN, ru_qaN, ru_pfN, ru_isN, ru_bsN, ru_jsN, ru_qsN, ru_set2, Nat.add_right_cancel_iff, if_true, if_false, ite_self, Int.reduceEq, and_self, Int.add_neg_cancel_right, Int.add_zero, Int.zero_add, ru_ctR, ru_ctI, md_e, lr_f34, lr_s34, hA0, hC0, hB0, Int.natCast_zero]
      | succ t =>
        have hC0 : ((rwC (shY (mph M f)) (M.1 24) e (t + 1) : Nat) : Int) = (rwA (shY (mph M f)) (M.1 24) e t : Nat) + 1 := rfl
        have hB0 : bfF e (t + 1) = (e t : Nat) := rfl
        have k1 := hE.1 t (by omega)
        have y1 := shXY_rng hr (e t)
        have y2 := shXY_rng hr (e (t + 1))
        have cb : (((e t : Nat) : Int) = -1) = False := eq_false (by omega)
        by_cases hg : shY (mph M f) (e t) - shY (mph M f) (e (t + 1)) > M.1 24
        · have hA1 : rwA (shY (mph M f)) (M.1 24) e (t + 1) = rwA (shY (mph M f)) (M.1 24) e t + 1 := by rw [rwA, if_pos hg]
          have c2 : (shY (mph M f) (e t) - shY (mph M f) (e (t + 1)) ≤ M.1 24) = False := eq_false (by omega)
          simp (disch := omega) only [e120_125, e120_126, e120_127, e120_130, e120_131, e120_132, e120_133, e120_136, e120_137, e120_138, e120_140, e120_143, e120_144, e120_145, e120_148, e120_151, e120_152, e120_153, e120_156, e120_157, e120_158, ↓reduceIte, Bool.false_eq_true, not_false_eq_true, not_true_eq_false, Nat.reduceLeDiff, Nat.reduceAdd, Nat.reduceEqDiff, Int.reduceToNat, Int.toNat_natCast, iB0, iB1, ru_klI, ru_klR, ru_klF, ru_klJ, ru_kl0, ru_cs0, ru_csI, ru_csR, ru_csF, ru_csJ, wI_add, wI_sub, wI_mul, wI_lt, wI_le, wI_inj, ru_fdE, ru_fdN, ru_iaN, ru_baN, ru_laN, ru_qaN, ru_pfN, ru_isN, ru_bsN, ru_jsN, ru_qsN, ru_set2, Nat.add_right_cancel_iff, if_true, if_false, ite_self, Int.reduceEq, and_self, Int.add_neg_cancel_right, Int.add_zero, Int.zero_add, ru_ctR, ru_ctI, md_e, lr_f34, lr_s34, lr_f24, hA1, hC0, hB0, hY _ _ _ (e t) k1.1, hY _ _ _ (e (t + 1)) het.1, cb, c2, Int.natCast_add, Int.natCast_one]
        · have hA1 : rwA (shY (mph M f)) (M.1 24) e (t + 1) = rwA (shY (mph M f)) (M.1 24) e t := by rw [rwA, if_neg hg]
          have c2 : (shY (mph M f) (e t) - shY (mph M f) (e (t + 1)) ≤ M.1 24) = True := eq_true (by omega)
          simp (disch := omega) only [e120_125, e120_126, e120_127, e120_130, e120_131, e120_132, e120_133, e120_136, e120_137, e120_138, e120_140, e120_143, e120_144, e120_145, e120_148, e120_151, e120_152, e120_153, e120_156, e120_157, e120_158, ↓reduceIte, Bool.false_eq_true, not_false_eq_true, not_true_eq_false, Nat.reduceLeDiff, Nat.reduceAdd, Nat.reduceEqDiff, Int.reduceToNat, Int.toNat_natCast, iB0, iB1, ru_klI, ru_klR, ru_klF, ru_klJ, ru_kl0, ru_cs0, ru_csI, ru_csR, ru_csF, ru_csJ, wI_add, wI_sub, wI_mul, wI_lt, wI_le, wI_inj, ru_fdE, ru_fdN, ru_iaN, ru_baN, ru_laN, ru_qaN, ru_pfN, ru_isN, ru_bsN, ru_jsN, ru_qsN, ru_set2, Nat.add_right_cancel_iff, if_true, if_false, ite_self, Int.reduceEq, and_self, Int.add_neg_cancel_right, Int.add_zero, Int.zero_add, ru_ctR, ru_ctI, md_e, lr_f34, lr_s34, lr_f24, hA1, hC0, hB0, hY _ _ _ (e t) k1.1, hY _ _ _ (e (t + 1)) het.1, cb, c2, Int.natCast_add, Int.natCast_one]
    simp (disch := omega) only [e120_52, e120_55, e120_56, e120_58, e120_59, ↓reduceIte, Bool.false_eq_true, not_false_eq_true, not_true_eq_false, Nat.reduceLeDiff, Nat.reduceAdd, Nat.reduceEqDiff, Int.reduceToNat, Int.toNat_natCast, iB0, iB1, ru_klI, ru_klR, ru_klF, ru_klJ, ru_kl0, ru_cs0, ru_csI, ru_csR, ru_csF, ru_csJ, wI_add, wI_sub, wI_mul, wI_lt, wI_le, wI_inj, ru_fdE, ru_fdN, ru_iaN, ru_baN, ru_laN, ru_qaN, ru_pfN, ru_isN, ru_bsN, ru_jsN, ru_qsN, ru_set2, Nat.add_right_cancel_iff, if_true, if_false, ite_self, Int.reduceEq, and_self, Int.add_neg_cancel_right, Int.add_zero, Int.zero_add, Int.natCast_add, Int.natCast_one, c1, hc, key]
    simp (disch := omega) only [e120_161, e120_162, e120_165, e120_167, e120_168, e120_171, e120_172, e120_173, e120_174, e120_175, e120_178, e120_179, e120_182, e120_183, e120_184, e120_185, e120_186, e120_187, e120_188, e120_189, e120_191, e120_192, e120_195, ↓reduceIte, Bool.false_eq_true, not_false_eq_true, not_true_eq_false, Nat.reduceLeDiff, Nat.reduceAdd, Nat.reduceEqDiff, Int.reduceToNat, Int.toNat_natCast, iB0, iB1, ru_klI, ru_klR, ru_klF, ru_klJ, ru_kl0, ru_cs0, ru_csI, ru_csR, ru_csF, ru_csJ, wI_add, wI_sub, wI_mul, wI_lt, wI_le, wI_inj, ru_fdE, ru_fdN, ru_iaN, ru_baN, ru_laN, ru_qaN, ru_pfN, ru_isN, ru_bsN, ru_jsN, ru_qsN, ru_set2, Nat.add_right_cancel_iff, if_true, if_false, ite_self, Int.reduceEq, and_self, Int.add_neg_cancel_right, Int.add_zero, Int.zero_add, ru_ctR, ru_ctI, md_e, md_f31, md_f33, lr_f34, lr_w11, lr_a13, lr_w13, Int.add_sub_cancel]
theorem p120e (hf : f < 5) (hr : phR (mph M f)) {R L Q : Nat → Int} {m k : Nat} (hm : (mph M f).1 7 = (m : Int)) (hk : k < 12) (hR : ∀ i, i < 12 → -1 ≤ R i ∧ R i < 12) {B : Int} {l5 : Option Value} : ∀ d o, o + d = m →
    ru_n z 120 232 [some (.ref 1315), some (.int (wI f)), some (.int (wI B)), some (.int (wI k)), some (.int (wI o)), l5] [] (mdPut h (mdQ M rm R (up1 L k (cnB (fun o => decide (R o = R k) && lfB (shX (mph M f)) o k) o : Nat)) Q)) = ru_n z 120 289 [some (.ref 1315), some (.int (wI f)), some (.int (wI B)), some (.int (wI k)), some (.int (wI m)), l5] [] (mdPut h (mdQ M rm R (up1 L k (cnB (fun o => decide (R o = R k) && lfB (shX (mph M f)) o k) m : Nat)) Q)) := by
  have s := phR_s hr
  intro d
  induction d with
  | zero =>
    intro o ho
    obtain rfl : o = m := by omega
    have c : ((o : Int) ≤ (o : Int)) = True := eq_true (Int.le_refl _)
    simp (disch := omega) only [e120_232, e120_234, e120_235, e120_236, e120_239, ↓reduceIte, Bool.false_eq_true, not_false_eq_true, not_true_eq_false, Nat.reduceLeDiff, Nat.reduceAdd, Nat.reduceEqDiff, Int.reduceToNat, Int.toNat_natCast, iB0, iB1, ru_klI, ru_klR, ru_klF, ru_klJ, ru_kl0, ru_cs0, ru_csI, ru_csR, ru_csF, ru_csJ, wI_add, wI_sub, wI_mul, wI_lt, wI_le, wI_inj, ru_fdE, ru_fdN, ru_iaN, ru_baN, ru_laN, ru_qaN, ru_pfN, ru_isN, ru_bsN, ru_jsN, ru_qsN, ru_set2, Nat.add_right_cancel_iff, if_true, if_false, ite_self, Int.reduceEq, and_self, Int.add_neg_cancel_right, Int.add_zero, Int.zero_add, ru_ctR, ru_ctI, md_e, p122, mph_Q, hm, c]
  | succ d ih =>
    intro o ho
    rw [← ih (o + 1) (by omega), e120_232]
    have c : ((m : Int) ≤ (o : Int)) = False := eq_false (by omega)
    have hl : ∀ L', ru_ev z 128 [.ref 1315, .int (wI f), .int (wI (o : Nat)), .int (wI (k : Nat))] (mdPut h (mdQ M rm R L' Q)) = some (.inl (some (.int (wI (if lfB (shX (mph M f)) o k = true then 1 else 0)))), mdPut h (mdQ M rm R L' Q)) := fun L' => p128 hf (by omega) hk hr
    have r1 := hR o (by omega)
    have r2 := hR k hk
    have hcn := cnB_le (fun o => decide (R o = R k) && lfB (shX (mph M f)) o k) o
    by_cases e1 : R o = R k
    · by_cases e2 : lfB (shX (mph M f)) o k = true
      · have ec : cnB (fun o => decide (R o = R k) && lfB (shX (mph M f)) o k) (o + 1) = cnB (fun o => decide (R o = R k) && lfB (shX (mph M f)) o k) o + 1 := by
          rw [cnB, decide_eq_true e1, e2]; rfl
        have c1 : (R o = R k) = True := eq_true e1
        rw [ec]
        simp (disch := omega) only [e120_234, e120_235, e120_236, e120_239, e120_242, e120_243, e120_246, e120_247, e120_248, e120_249, e120_250, e120_253, e120_255, e120_256, e120_257, e120_260, e120_261, e120_262, e120_265, e120_266, e120_267, e120_269, e120_270, e120_273, e120_276, e120_277, e120_280, e120_281, e120_282, e120_283, e120_286, ↓reduceIte, Bool.false_eq_true, not_false_eq_true, not_true_eq_false, Nat.reduceLeDiff, Nat.reduceAdd, Nat.reduceEqDiff, Int.reduceToNat, Int.toNat_natCast, iB0, iB1, ru_klI, ru_klR, ru_klF, ru_klJ, ru_kl0, ru_cs0, ru_csI, ru_csR, ru_csF, ru_csJ, wI_add, wI_sub, wI_mul, wI_lt, wI_le, wI_inj, ru_fdE, ru_fdN, ru_iaN, ru_baN, ru_laN, ru_qaN, ru_pfN, ru_isN, ru_bsN, ru_jsN, ru_qsN, ru_set2, Nat.add_right_cancel_iff, if_true, if_false, ite_self, Int.reduceEq, and_self, Int.add_neg_cancel_right, Int.add_zero, Int.zero_add, ru_ctR, ru_ctI, md_e, md_f31, md_f32, lr_a11, lr_a12, lr_w12, p122, mph_Q, hm, c, c1, hl, e2, wI_b0, not_true, up1_e, up1_up1, Int.natCast_add, Int.natCast_one]
      · have ec : cnB (fun o => decide (R o = R k) && lfB (shX (mph M f)) o k) (o + 1) = cnB (fun o => decide (R o = R k) && lfB (shX (mph M f)) o k) o := by
          rw [cnB, decide_eq_true e1]
          simp only [Bool.not_eq_true] at e2
          rw [e2]; rfl
        have c1 : (R o = R k) = True := eq_true e1
        rw [ec]
        simp (disch := omega) only [e120_234, e120_235, e120_236, e120_239, e120_242, e120_243, e120_246, e120_247, e120_248, e120_249, e120_250, e120_253, e120_255, e120_256, e120_257, e120_260, e120_261, e120_262, e120_265, e120_266, e120_267, e120_269, e120_270, e120_273, e120_276, e120_277, e120_280, e120_281, e120_282, e120_283, e120_286, ↓reduceIte, Bool.false_eq_true, not_false_eq_true, not_true_eq_false, Nat.reduceLeDiff, Nat.reduceAdd, Nat.reduceEqDiff, Int.reduceToNat, Int.toNat_natCast, iB0, iB1, ru_klI, ru_klR, ru_klF, ru_klJ, ru_kl0, ru_cs0, ru_csI, ru_csR, ru_csF, ru_csJ, wI_add, wI_sub, wI_mul, wI_lt, wI_le, wI_inj, ru_fdE, ru_fdN, ru_iaN, ru_baN, ru_laN, ru_qaN, ru_pfN, ru_isN, ru_bsN, ru_jsN, ru_qsN, ru_set2, Nat.add_right_cancel_iff, if_true, if_false, ite_self, Int.reduceEq, and_self, Int.add_neg_cancel_right, Int.add_zero, Int.zero_add, ru_ctR, ru_ctI, md_e, md_f31, md_f32, lr_a11, lr_a12, lr_w12, p122, mph_Q, hm, c, c1, hl, e2, wI_b0, not_false_iff, up1_e, up1_up1, Int.natCast_add, Int.natCast_one, Int.add_zero]
    · have ec : cnB (fun o => decide (R o = R k) && lfB (shX (mph M f)) o k) (o + 1) = cnB (fun o => decide (R o = R k) && lfB (shX (mph M f)) o k) o := by
        rw [cnB, decide_eq_false e1]; rfl
      have c1 : (R o = R k) = False := eq_false e1
      rw [ec]
      simp (disch := omega) only [e120_234, e120_235, e120_236, e120_239, e120_242, e120_243, e120_246, e120_247, e120_248, e120_249, e120_250, e120_253, e120_255, e120_256, e120_257, e120_260, e120_261, e120_262, e120_265, e120_266, e120_267, e120_269, e120_270, e120_273, e120_276, e120_277, e120_280, e120_281, e120_282, e120_283, e120_286, ↓reduceIte, Bool.false_eq_true, not_false_eq_true, not_true_eq_false, Nat.reduceLeDiff, Nat.reduceAdd, Nat.reduceEqDiff, Int.reduceToNat, Int.toNat_natCast, iB0, iB1, ru_klI, ru_klR, ru_klF, ru_klJ, ru_kl0, ru_cs0, ru_csI, ru_csR, ru_csF, ru_csJ, wI_add, wI_sub, wI_mul, wI_lt, wI_le, wI_inj, ru_fdE, ru_fdN, ru_iaN, ru_baN, ru_laN, ru_qaN, ru_pfN, ru_isN, ru_bsN, ru_jsN, ru_qsN, ru_set2, Nat.add_right_cancel_iff, if_true, if_false, ite_self, Int.reduceEq, and_self, Int.add_neg_cancel_right, Int.add_zero, Int.zero_add, ru_ctR, ru_ctI, md_e, md_f31, md_f32, lr_a11, lr_a12, lr_w12, p122, mph_Q, hm, c, c1, not_false_iff, up1_e, up1_up1, Int.natCast_add, Int.natCast_one, Int.add_zero]
theorem p120d (hf : f < 5) (hr : phR (mph M f)) {R Q : Nat → Int} {m : Nat} (hm : (mph M f).1 7 = (m : Int)) (hR : ∀ i, i < 12 → -1 ≤ R i ∧ R i < 12) {B : Int} {l5 : Option Value} : ∀ d k, k + d = m → ∀ (L : Nat → Int) (l4 : Option Value), (∀ i, i < 12 → L i = if i < k ∧ ¬ R i = -1 then ((cnB (fun o => decide (R o = R i) && lfB (shX (mph M f)) o i) m : Nat) : Int) else -1) → ∃ (L' : Nat → Int), (∀ i, i < 12 → L' i = if i < m ∧ ¬ R i = -1 then ((cnB (fun o => decide (R o = R i) && lfB (shX (mph M f)) o i) m : Nat) : Int) else -1) ∧
    ru_n z 120 200 [some (.ref 1315), some (.int (wI f)), some (.int (wI B)), some (.int (wI k)), l4, l5] [] (mdPut h (mdQ M rm R L Q)) = some (.inl none, mdPut h (mdQ M rm R L' Q)) := by
  have s := phR_s hr
  intro d
  induction d with
  | zero =>
    intro k hk L l4 hL
    obtain rfl : k = m := by omega
    refine ⟨L, hL, ?_⟩
    have c : ((k : Int) ≤ (k : Int)) = True := eq_true (Int.le_refl _)
    simp (disch := omega) only [e120_200, e120_201, e120_202, e120_203, e120_206, e120_295, ↓reduceIte, Bool.false_eq_true, not_false_eq_true, not_true_eq_false, Nat.reduceLeDiff, Nat.reduceAdd, Nat.reduceEqDiff, Int.reduceToNat, Int.toNat_natCast, iB0, iB1, ru_klI, ru_klR, ru_klF, ru_klJ, ru_kl0, ru_cs0, ru_csI, ru_csR, ru_csF, ru_csJ, wI_add, wI_sub, wI_mul, wI_lt, wI_le, wI_inj, ru_fdE, ru_fdN, ru_iaN, ru_baN, ru_laN, ru_qaN, ru_pfN, ru_isN, ru_bsN, ru_jsN, ru_qsN, ru_set2, Nat.add_right_cancel_iff, if_true, if_false, ite_self, Int.reduceEq, and_self, Int.add_neg_cancel_right, Int.add_zero, Int.zero_add, ru_ctR, ru_ctI, md_e, p122, mph_Q, hm, c]
  | succ d ih =>
    intro k hk L l4 hL
    have c : ((m : Int) ≤ (k : Int)) = False := eq_false (by omega)
    have r1 := hR k (by omega)
    by_cases e1 : R k = -1
    · obtain ⟨L', t1, t2⟩ := ih (k + 1) (by omega) L l4 (fun i hi => by
        rw [hL i hi]
        by_cases e : i = k
        · subst e; rw [if_neg (fun c => c.2 e1), if_neg (fun c => c.2 e1)]
        · have : (i < k ∧ ¬ R i = -1) = (i < k + 1 ∧ ¬ R i = -1) := propext ⟨fun h => ⟨by omega, h.2⟩, fun h => ⟨by omega, h.2⟩⟩
          simp only [this])
      refine ⟨L', t1, ?_⟩
      rw [← t2, e120_200]
      simp (disch := omega) only [e120_201, e120_202, e120_203, e120_206, e120_209, e120_210, e120_213, e120_214, e120_215, e120_216, e120_219, e120_222, e120_223, e120_226, e120_227, e120_228, e120_229, e120_230, e120_289, e120_292, ↓reduceIte, Bool.false_eq_true, not_false_eq_true, not_true_eq_false, Nat.reduceLeDiff, Nat.reduceAdd, Nat.reduceEqDiff, Int.reduceToNat, Int.toNat_natCast, iB0, iB1, ru_klI, ru_klR, ru_klF, ru_klJ, ru_kl0, ru_cs0, ru_csI, ru_csR, ru_csF, ru_csJ, wI_add, wI_sub, wI_mul, wI_lt, wI_le, wI_inj, ru_fdE, ru_fdN, ru_iaN, ru_baN, ru_laN, ru_qaN, ru_pfN, ru_isN, ru_bsN, ru_jsN, ru_qsN, ru_set2, Nat.add_right_cancel_iff, if_true, if_false, ite_self, Int.reduceEq, and_self, Int.add_neg_cancel_right, Int.add_zero, Int.zero_add, ru_ctR, ru_ctI, md_e, md_f31, lr_a11, p122, mph_Q, hm, c, e1, Int.natCast_add, Int.natCast_one]
    · obtain ⟨L', t1, t2⟩ := ih (k + 1) (by omega) (up1 L k (cnB (fun o => decide (R o = R k) && lfB (shX (mph M f)) o k) m : Nat)) (some (.int (wI m))) (fun i hi => by
        unfold up1
        by_cases e : i = k
        · subst e; rw [if_pos rfl, if_pos ⟨by omega, e1⟩]
        · rw [if_neg e, hL i hi]
          have : (i < k ∧ ¬ R i = -1) = (i < k + 1 ∧ ¬ R i = -1) := propext ⟨fun h => ⟨by omega, h.2⟩, fun h => ⟨by omega, h.2⟩⟩
          simp only [this])
      refine ⟨L', t1, ?_⟩
      have hin := p120e (z := z) (h := h) (M := M) (rm := rm) hf hr (R := R) (L := L) (Q := Q) hm (show k < 12 by omega) hR (B := B) (l5 := l5) m 0 (by omega)
      have e0 : ((cnB (fun o => decide (R o = R k) && lfB (shX (mph M f)) o k) 0 : Nat) : Int) = 0 := rfl
      rw [e0, show ((0 : Nat) : Int) = 0 from rfl] at hin
      rw [← t2, e120_200]
      simp (disch := omega) only [e120_201, e120_202, e120_203, e120_206, e120_209, e120_210, e120_213, e120_214, e120_215, e120_216, e120_219, e120_222, e120_223, e120_226, e120_227, e120_228, e120_229, e120_230, ↓reduceIte, Bool.false_eq_true, not_false_eq_true, not_true_eq_false, Nat.reduceLeDiff, Nat.reduceAdd, Nat.reduceEqDiff, Int.reduceToNat, Int.toNat_natCast, iB0, iB1, ru_klI, ru_klR, ru_klF, ru_klJ, ru_kl0, ru_cs0, ru_csI, ru_csR, ru_csF, ru_csJ, wI_add, wI_sub, wI_mul, wI_lt, wI_le, wI_inj, ru_fdE, ru_fdN, ru_iaN, ru_baN, ru_laN, ru_qaN, ru_pfN, ru_isN, ru_bsN, ru_jsN, ru_qsN, ru_set2, Nat.add_right_cancel_iff, if_true, if_false, ite_self, Int.reduceEq, and_self, Int.add_neg_cancel_right, Int.add_zero, Int.zero_add, ru_ctR, ru_ctI, md_e, md_f31, md_f32, lr_a11, lr_w12, p122, mph_Q, hm, c, e1, hin]
      simp (disch := omega) only [e120_289, e120_292, ↓reduceIte, Bool.false_eq_true, not_false_eq_true, not_true_eq_false, Nat.reduceLeDiff, Nat.reduceAdd, Nat.reduceEqDiff, Int.reduceToNat, Int.toNat_natCast, iB0, iB1, ru_klI, ru_klR, ru_klF, ru_klJ, ru_kl0, ru_cs0, ru_csI, ru_csR, ru_csF, ru_csJ, wI_add, wI_sub, wI_mul, wI_lt, wI_le, wI_inj, ru_fdE, ru_fdN, ru_iaN, ru_baN, ru_laN, ru_qaN, ru_pfN, ru_isN, ru_bsN, ru_jsN, ru_qsN, ru_set2, Nat.add_right_cancel_iff, if_true, if_false, ite_self, Int.reduceEq, and_self, Int.add_neg_cancel_right, Int.add_zero, Int.zero_add, Int.natCast_add, Int.natCast_one]
theorem p120a {N : tMd} : ∀ d k, k + d = 12 → ∀ (R L Q : Nat → Int), (∀ i, i < k → R i = -1 ∧ L i = -1 ∧ Q i = 0) → ∃ R' L' Q', (∀ i, i < 12 → R' i = -1 ∧ L' i = -1 ∧ Q' i = 0) ∧
    ru_n z 120 7 [some (.ref 1315), some (.int (wI f)), some (.int (wI k)), none, none, none] [] (mdPut h (mdQ M rm R L Q)) = ru_n z 120 40 [some (.ref 1315), some (.int (wI f)), some (.int (wI 12)), none, none, none] [] (mdPut h (mdQ M rm R' L' Q')) := by
  intro d
  induction d with
  | zero =>
    intro k hk R L Q hi
    obtain rfl : k = 12 := by omega
    refine ⟨R, L, Q, hi, ?_⟩
    have e12 : (((12 : Nat) : Int)) = 12 := rfl
    simp (disch := omega) only [e120_7, e120_8, e120_10, ↓reduceIte, Bool.false_eq_true, not_false_eq_true, not_true_eq_false, Nat.reduceLeDiff, Nat.reduceAdd, Nat.reduceEqDiff, Int.reduceToNat, Int.toNat_natCast, iB0, iB1, ru_klI, ru_klR, ru_klF, ru_klJ, ru_kl0, ru_cs0, ru_csI, ru_csR, ru_csF, ru_csJ, wI_add, wI_sub, wI_mul, wI_lt, wI_le, wI_inj, ru_fdE, ru_fdN, ru_iaN, ru_baN, ru_laN, ru_qaN, ru_pfN, ru_isN, ru_bsN, ru_jsN, ru_qsN, ru_set2, Nat.add_right_cancel_iff, if_true, if_false, ite_self, Int.reduceEq, and_self, Int.add_neg_cancel_right, Int.add_zero, Int.zero_add, e12, Int.le_refl]
  | succ d ih =>
    intro k hk R L Q hi
    obtain ⟨R', L', Q', t1, t2⟩ := ih (k + 1) (by omega) (up1 R k (-1)) (up1 L k (-1)) (up1 Q k 0) (fun i hi2 => by
      unfold up1
      by_cases e : i = k
      · rw [if_pos e, if_pos e, if_pos e]; exact ⟨rfl, rfl, rfl⟩
      · rw [if_neg e, if_neg e, if_neg e]; exact hi i (by omega))
    refine ⟨R', L', Q', t1, ?_⟩
    have c : ((12 : Int) ≤ (k : Int)) = False := eq_false (by omega)
    rw [← t2, e120_7]
    simp (disch := omega) only [e120_8, e120_10, e120_13, e120_14, e120_17, e120_18, e120_19, e120_20, e120_21, e120_24, e120_25, e120_26, e120_27, e120_28, e120_31, e120_32, e120_33, e120_34, e120_37, ↓reduceIte, Bool.false_eq_true, not_false_eq_true, not_true_eq_false, Nat.reduceLeDiff, Nat.reduceAdd, Nat.reduceEqDiff, Int.reduceToNat, Int.toNat_natCast, iB0, iB1, ru_klI, ru_klR, ru_klF, ru_klJ, ru_kl0, ru_cs0, ru_csI, ru_csR, ru_csF, ru_csJ, wI_add, wI_sub, wI_mul, wI_lt, wI_le, wI_inj, ru_fdE, ru_fdN, ru_iaN, ru_baN, ru_laN, ru_qaN, ru_pfN, ru_isN, ru_bsN, ru_jsN, ru_qsN, ru_set2, Nat.add_right_cancel_iff, if_true, if_false, ite_self, Int.reduceEq, and_self, Int.add_neg_cancel_right, Int.add_zero, Int.zero_add, ru_ctR, ru_ctI, md_e, md_f31, md_f32, md_f33, lr_w11, lr_w12, lr_w13, c, Int.natCast_add, Int.natCast_one]
/-- what is told when the rows of photo f lie -/
def lrOK (M : tMd) (f : Nat) (rc : Int) (R L Q : Nat → Int) : Prop := rwOK (shS (mph M f)) (shY (mph M f)) (M.1 24) R rc ∧ (∀ k, k < 12 → L k = plF (shS (mph M f)) R (shX (mph M f)) k) ∧ ∀ r : Nat, r < 12 → Q r = (rlN (shS (mph M f)) R r : Nat)
theorem shS_cn {q : tPh} {m : Nat} (hm : q.1 7 = (m : Int)) (h12 : m ≤ 12) : cnB (shw q) m = cnB (shS q) 12 :=
  cnB_ext h12 (fun o ho => (shS_of (by omega)).symm) (fun o ho _ => by rw [shS_no (by omega)]; decide)
theorem p120 (hf : f < 5) (hr : phR (mph M f)) (hG : 0 ≤ M.1 24 ∧ M.1 24 ≤ 99) : ∃ (rc : Int) (R L Q : Nat → Int), lrOK M f rc R L Q ∧ ru_ev z 120 [.ref 1315, .int (wI f)] (mdPut h M) = some (.inl none, mdPut h (mdQ M rc R L Q)) := by
  have s := phR_s hr
  obtain ⟨m, hm⟩ := Int.eq_ofNat_of_zero_le s.2.2.2.2.2.2.2.1
  obtain ⟨R0, L0, Q0, a1, a2⟩ := p120a (z := z) (h := h) (M := M) (rm := 0) (f := f) (N := M) 12 0 (by omega) (M.2 11) (M.2 12) (M.2 13) (fun i hi => by omega)
  obtain ⟨n, e, hE⟩ := enO_ex (S := shS (mph M f)) (key := kyY (shY (mph M f))) (kyY_inj (fun k hk hs => (shS_rng hr hs).2.1))
  have hn := enO_n hE
  have h12 := enO_12 hE
  obtain ⟨R, Q, l4, l5, b1, b2, b3⟩ := p120b (z := z) (h := h) (M := M) hf hr hG (L := L0) hm hE n 0 (by omega) R0 Q0 none none (fun k hk => by rw [(a1 k hk).1]; rfl) (fun r hr2 => by
    rw [(a1 r hr2).2.2, cnB_none 12 (fun o _ => by simp [befB])]; rfl)
  have hbn : ∀ k, k < 12 → befB e n k = shS (mph M f) k := fun k hk => by
    apply Bool.eq_iff_iff.mpr
    rw [befB_iff]
    constructor
    · rintro ⟨j, j1, rfl⟩; exact (hE.1 j j1).2
    · intro hs; exact hE.2.2 k hk hs
  have hR : ∀ k, k < 12 → R k = rwF (mph M f) (M.1 24) e k := fun k hk => by
    rw [b1 k hk, hbn k hk]
    unfold rwF
    split <;> rfl
  have hW : rwOK (shS (mph M f)) (shY (mph M f)) (M.1 24) R (rwC (shY (mph M f)) (M.1 24) e n : Nat) := ⟨n, e, hE, fun i hi => by
      have k1 := hE.1 i hi
      rw [hR _ k1.1]; unfold rwF
      rw [if_pos k1.2, enO_rk hE hi], fun k hk hs => by
      rw [hR k hk]; unfold rwF; rw [if_neg hs], rfl⟩
  have hRn : ∀ k, k < 12 → (R k = -1 ↔ ¬ shS (mph M f) k = true) := fun k hk => by
    constructor
    · intro h1 h2
      have := rwOK_rng hW hk h2
      omega
    · intro h1
      rw [hR k hk]; unfold rwF; rw [if_neg h1]
  have hRr : ∀ i, i < 12 → -1 ≤ R i ∧ R i < 12 := fun i hi => by
    by_cases hs : shS (mph M f) i = true
    · have := rwOK_rng hW hi hs; omega
    · have := (hRn i hi).mpr hs; omega
  obtain ⟨L, d1, d2⟩ := p120d (z := z) (h := h) (M := M) (rm := (rwC (shY (mph M f)) (M.1 24) e n : Nat)) hf hr (R := R) (Q := Q) hm hRr (B := bfF e n) (l5 := l5) m 0 (by omega) L0 l4 (fun i hi => by
    rw [if_neg (fun c => by omega)]; exact (a1 i hi).2.1)
  refine ⟨_, R, L, Q, ⟨hW, fun k hk => ?_, fun r hr2 => ?_⟩, ?_⟩
  · rw [d1 k hk]
    unfold plF
    by_cases hs : shS (mph M f) k = true
    · have k1 := shS_rng hr hs
      have k2 : ¬ R k = -1 := fun c => (hRn k hk).mp c hs
      rw [if_pos ⟨by omega, k2⟩, if_pos hs]
      unfold lfN
      congr 1
      refine cnB_ext (by omega) (fun o ho => ?_) (fun o ho _ => by rw [shS_no (by omega)]; simp)
      by_cases hso : shS (mph M f) o = true
      · rw [hso, Bool.true_and]
      · have := (hRn o (by omega)).mpr hso
        rw [decide_eq_false (show ¬ R o = R k by omega)]
        simp
    · rw [if_neg (fun c => c.2 ((hRn k hk).mpr hs)), if_neg hs]
  · rw [b2 r hr2]
    unfold rlN
    congr 1
    refine cnB_congr fun o ho => ?_
    rw [hbn o ho, hR o ho]
    by_cases hso : shS (mph M f) o = true
    · rw [hso]; simp
    · simp [hso]
  · have hmem := p126 (z := z) (h := mdPut h (mdQ M 0 R0 L0 Q0)) (s := bsN (shw (mph M f)) m) (by have := bsN_b (P := shw (mph M f)) (k := m) (by omega); omega)
    rw [pcN_bs _ 12 m (by omega), shS_cn hm (by omega), hn] at hmem
    have hset := p121 (z := z) (h := h) (M := mdQ M 0 R0 L0 Q0) (f := f) hf hr
    rw [mph_Q, hm, Int.toNat_natCast] at hset
    have e0 : bfF e 0 = -1 := rfl
    have e1 : ((rwC (shY (mph M f)) (M.1 24) e 0 : Nat) : Int) = 0 := rfl
    rw [e0, e1] at b3
    rw [show ((0 : Nat) : Int) = 0 from rfl] at a2 d2
    have es : am_pf (mdPut h M) 1315 10 34 0 (.int (wI 0)) = some (mdPut h (mdQ M 0 (M.2 11) (M.2 12) (M.2 13))) := by
      rw [md_s34]; unfold mdQ; rw [upC_self, upC_self, upC_self]
    simp (disch := omega) only [en120, e120_0, e120_1, e120_2, e120_5, e120_6, ↓reduceIte, Bool.false_eq_true, not_false_eq_true, not_true_eq_false, Nat.reduceLeDiff, Nat.reduceAdd, Nat.reduceEqDiff, Int.reduceToNat, Int.toNat_natCast, iB0, iB1, ru_klI, ru_klR, ru_klF, ru_klJ, ru_kl0, ru_cs0, ru_csI, ru_csR, ru_csF, ru_csJ, wI_add, wI_sub, wI_mul, wI_lt, wI_le, wI_inj, ru_fdE, ru_fdN, ru_iaN, ru_baN, ru_laN, ru_qaN, ru_pfN, ru_isN, ru_bsN, ru_jsN, ru_qsN, ru_set2, Nat.add_right_cancel_iff, if_true, if_false, ite_self, Int.reduceEq, and_self, Int.add_neg_cancel_right, Int.add_zero, Int.zero_add, ru_ctR, ru_ctI, md_e, es, a2]
    simp (disch := omega) only [e120_40, e120_41, e120_42, e120_43, e120_44, e120_47, e120_50, ↓reduceIte, Bool.false_eq_true, not_false_eq_true, not_true_eq_false, Nat.reduceLeDiff, Nat.reduceAdd, Nat.reduceEqDiff, Int.reduceToNat, Int.toNat_natCast, iB0, iB1, ru_klI, ru_klR, ru_klF, ru_klJ, ru_kl0, ru_cs0, ru_csI, ru_csR, ru_csF, ru_csJ, wI_add, wI_sub, wI_mul, wI_lt, wI_le, wI_inj, ru_fdE, ru_fdN, ru_iaN, ru_baN, ru_laN, ru_qaN, ru_pfN, ru_isN, ru_bsN, ru_jsN, ru_qsN, ru_set2, Nat.add_right_cancel_iff, if_true, if_false, ite_self, Int.reduceEq, and_self, Int.add_neg_cancel_right, Int.add_zero, Int.zero_add, ru_ctR, ru_ctI, md_e, hset, hmem, b3, d2]
    simp (disch := omega) only [e120_198, e120_199, ↓reduceIte, Bool.false_eq_true, not_false_eq_true, not_true_eq_false, Nat.reduceLeDiff, Nat.reduceAdd, Nat.reduceEqDiff, Int.reduceToNat, Int.toNat_natCast, iB0, iB1, ru_klI, ru_klR, ru_klF, ru_klJ, ru_kl0, ru_cs0, ru_csI, ru_csR, ru_csF, ru_csJ, wI_add, wI_sub, wI_mul, wI_lt, wI_le, wI_inj, ru_fdE, ru_fdN, ru_iaN, ru_baN, ru_laN, ru_qaN, ru_pfN, ru_isN, ru_bsN, ru_jsN, ru_qsN, ru_set2, Nat.add_right_cancel_iff, if_true, if_false, ite_self, Int.reduceEq, and_self, Int.add_neg_cancel_right, Int.add_zero, Int.zero_add, d2]
end LR2
