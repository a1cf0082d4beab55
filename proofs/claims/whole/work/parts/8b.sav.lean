/-! ===== sums over the photos; a state kept: both sides ===== -/
def smF (f : Nat → Nat) : Nat → Nat
  | 0 => 0
  | k + 1 => smF f k + f k
theorem smF_le {f : Nat → Nat} : ∀ n, (∀ i, i < n → f i ≤ 12) → smF f n ≤ 12 * n
  | 0, _ => Nat.le_refl _
  | n + 1, h => by
    have a := smF_le n (fun i hi => h i (by omega))
    have b := h n (by omega)
    show smF f n + f n ≤ 12 * (n + 1)
    omega
theorem smF_congr {f g : Nat → Nat} : ∀ n, (∀ i, i < n → f i = g i) → smF f n = smF g n
  | 0, _ => rfl
  | n + 1, h => by
    show smF f n + f n = smF g n + g n
    rw [smF_congr n (fun i hi => h i (by omega)), h n (by omega)]
def snC (C : tCl) (s i : Nat) : Nat := cnB (shw (cph C (s + 2 + 5 * i))) ((cph C (s + 2 + 5 * i)).1 7).toNat
def inM (M : tMd) (f : Nat) : Nat := cnB (shw (mph M f)) ((mph M f).1 7).toNat
theorem cn_12 {q : tPh} (hr : phR q) : cnB (shw q) (q.1 7).toNat ≤ 12 := by
  have a := cnB_le (shw q) (q.1 7).toNat
  have s := phR_s hr
  omega
theorem slot_k {s : Nat} (hs : s < 2) : isSt (1261 + 27 * s) ∧ clk 1256 = 106 ∧ cln 1256 = 2 := by
  refine ⟨?_, by decide +kernel, by decide +kernel⟩
  have : s = 0 ∨ s = 1 := by omega
  rcases this with rfl | rfl <;> (unfold isSt; decide)
section SAV
variable {z : Bool} {h : am_H} {C : tCl} {M : tMd}
theorem k379 {s n : Nat} (hs : isSt s) (hn : C.1 s 0 = (n : Int)) (h5 : n ≤ 5) (hr : ∀ i, i < 5 → phR (cph C (s + 2 + 5 * i))) : ru_ev z 379 [.ref s] (clPut h C) = some (.inl (some (.int (wI (smF (snC C s) n : Nat)))), clPut h C) := by
  obtain ⟨s1, s2, s3, s4⟩ := isSt_k hs
  have key : ∀ d k : Nat, k + d = n → ru_n z 379 4 [some (.ref s), some (.int (wI (smF (snC C s) k : Nat))), some (.int (wI k))] [] (clPut h C) = some (.inl (some (.int (wI (smF (snC C s) n : Nat)))), clPut h C) := by
    intro d
    induction d with
    | zero =>
      intro k hk
      obtain rfl : k = n := by omega
      simp (disch := omega) only [e379_4, e379_5, e379_6, e379_9, e379_33, e379_34, ↓reduceIte, Bool.false_eq_true, not_false_eq_true, not_true_eq_false, Nat.reduceLeDiff, Nat.reduceAdd, Nat.reduceEqDiff, Int.reduceToNat, Int.toNat_natCast, iB0, iB1, ru_klI, ru_klR, ru_klF, ru_klJ, ru_kl0, ru_cs0, ru_csI, ru_csR, ru_csF, ru_csJ, wI_add, wI_sub, wI_mul, wI_lt, wI_le, wI_inj, ru_fdE, ru_fdN, ru_iaN, ru_baN, ru_laN, ru_qaN, ru_pfN, ru_isN, ru_bsN, ru_jsN, ru_qsN, ru_set2, Nat.add_right_cancel_iff, if_true, if_false, ite_self, Int.reduceEq, and_self, Int.add_neg_cancel_right, Int.add_zero, Int.zero_add, cl_f9_0 s1 (by omega), hn, Int.le_refl]
    | succ d ih =>
      intro k hk
      have c : ((n : Int) ≤ (k : Int)) = False := eq_false (by omega)
      have ha := isSt_ph hs (i := k) (by omega)
      obtain ⟨m1, m2⟩ := k_cnt (z := z) (h := clPut h C) (cl_ph (h := h) (C := C) ha) (hr k (by omega))
      have q5 := cl_q5 (h := h) (C := C) s2 (by omega) (i := (k : Int)) (by omega) (by omega)
      rw [show s + 1 + 1 + 5 * ((k : Int)).toNat = s + 2 + 5 * k by omega] at q5
      have ih1 := ih (k + 1) (by omega)
      have es : smF (snC C s) (k + 1) = smF (snC C s) k + cnB (shw (cph C (s + 2 + 5 * k))) ((cph C (s + 2 + 5 * k)).1 7).toNat := rfl
      have b1 := smF_le (f := snC C s) k (fun i hi => cn_12 (hr i (by omega)))
      have b2 := cn_12 (hr k (by omega))
      rw [es] at ih1
      simp only [Int.natCast_add, Int.natCast_one] at ih1
      rw [← ih1, e379_4]
      simp (disch := omega) only [e379_5, e379_6, e379_9, e379_12, e379_13, e379_14, e379_17, e379_18, e379_19, e379_22, e379_25, e379_26, e379_27, e379_30, ↓reduceIte, Bool.false_eq_true, not_false_eq_true, not_true_eq_false, Nat.reduceLeDiff, Nat.reduceAdd, Nat.reduceEqDiff, Int.reduceToNat, Int.toNat_natCast, iB0, iB1, ru_klI, ru_klR, ru_klF, ru_klJ, ru_kl0, ru_cs0, ru_csI, ru_csR, ru_csF, ru_csJ, wI_add, wI_sub, wI_mul, wI_lt, wI_le, wI_inj, ru_fdE, ru_fdN, ru_iaN, ru_baN, ru_laN, ru_qaN, ru_pfN, ru_isN, ru_bsN, ru_jsN, ru_qsN, ru_set2, Nat.add_right_cancel_iff, if_true, if_false, ite_self, Int.reduceEq, and_self, Int.add_neg_cancel_right, Int.add_zero, Int.zero_add, cl_f9_0 s1 (by omega), cl_f9_1 s1 (by omega), hn, c, q5, m1, m2]
  have k0 := key n 0 (by omega)
  rw [show ((smF (snC C s) 0 : Nat) : Int) = 0 from rfl, show ((0 : Nat) : Int) = 0 from rfl] at k0
  have hcl : (clPut h C).1 s = some (.inr (9, clL9 C s)) := clP9 s1 (by omega)
  simp (disch := omega) only [en379, e379_0, e379_1, e379_2, e379_3, ↓reduceIte, Bool.false_eq_true, not_false_eq_true, not_true_eq_false, Nat.reduceLeDiff, Nat.reduceAdd, Nat.reduceEqDiff, Int.reduceToNat, Int.toNat_natCast, iB0, iB1, ru_klI, ru_klR, ru_klF, ru_klJ, ru_kl0, ru_cs0, ru_csI, ru_csR, ru_csF, ru_csJ, wI_add, wI_sub, wI_mul, wI_lt, wI_le, wI_inj, ru_fdE, ru_fdN, ru_iaN, ru_baN, ru_laN, ru_qaN, ru_pfN, ru_isN, ru_bsN, ru_jsN, ru_qsN, ru_set2, Nat.add_right_cancel_iff, if_true, if_false, ite_self, Int.reduceEq, and_self, Int.add_neg_cancel_right, Int.add_zero, Int.zero_add, hcl]
  exact k0
theorem p381 {n : Nat} (hn : M.1 25 = (n : Int)) (h5 : n ≤ 5) (hr : ∀ i, i < n → phR (mph M i)) : ru_ev z 381 [.ref 1315] (mdPut h M) = some (.inl (some (.int (wI (smF (inM M) n : Nat)))), mdPut h M) := by
  have key : ∀ d k : Nat, k + d = n → ru_n z 381 4 [some (.ref 1315), some (.int (wI (smF (inM M) k : Nat))), some (.int (wI k))] [] (mdPut h M) = some (.inl (some (.int (wI (smF (inM M) n : Nat)))), mdPut h M) := by
    intro d
    induction d with
    | zero =>
      intro k hk
      obtain rfl : k = n := by omega
      simp (disch := omega) only [e381_4, e381_5, e381_6, e381_9, e381_29, e381_30, ↓reduceIte, Bool.false_eq_true, not_false_eq_true, not_true_eq_false, Nat.reduceLeDiff, Nat.reduceAdd, Nat.reduceEqDiff, Int.reduceToNat, Int.toNat_natCast, iB0, iB1, ru_klI, ru_klR, ru_klF, ru_klJ, ru_kl0, ru_cs0, ru_csI, ru_csR, ru_csF, ru_csJ, wI_add, wI_sub, wI_mul, wI_lt, wI_le, wI_inj, ru_fdE, ru_fdN, ru_iaN, ru_baN, ru_laN, ru_qaN, ru_pfN, ru_isN, ru_bsN, ru_jsN, ru_qsN, ru_set2, Nat.add_right_cancel_iff, if_true, if_false, ite_self, Int.reduceEq, and_self, Int.add_neg_cancel_right, Int.add_zero, Int.zero_add, md_e, md_f25, hn, Int.le_refl]
    | succ d ih =>
      intro k hk
      have c : ((n : Int) ≤ (k : Int)) = False := eq_false (by omega)
      obtain ⟨m1, m2⟩ := p_cn2 (z := z) (h := h) (M := M) (n := k) (by omega) (hr k (by omega))
      have ih1 := ih (k + 1) (by omega)
      have es : smF (inM M) (k + 1) = smF (inM M) k + cnB (shw (mph M k)) ((mph M k).1 7).toNat := rfl
      have b1 := smF_le (f := inM M) k (fun i hi => cn_12 (hr i (by omega)))
      have b2 := cn_12 (hr k (by omega))
      rw [es] at ih1
      simp only [Int.natCast_add, Int.natCast_one] at ih1
      rw [← ih1, e381_4]
      simp (disch := omega) only [e381_5, e381_6, e381_9, e381_12, e381_13, e381_14, e381_15, e381_18, e381_21, e381_22, e381_23, e381_26, ↓reduceIte, Bool.false_eq_true, not_false_eq_true, not_true_eq_false, Nat.reduceLeDiff, Nat.reduceAdd, Nat.reduceEqDiff, Int.reduceToNat, Int.toNat_natCast, iB0, iB1, ru_klI, ru_klR, ru_klF, ru_klJ, ru_kl0, ru_cs0, ru_csI, ru_csR, ru_csF, ru_csJ, wI_add, wI_sub, wI_mul, wI_lt, wI_le, wI_inj, ru_fdE, ru_fdN, ru_iaN, ru_baN, ru_laN, ru_qaN, ru_pfN, ru_isN, ru_bsN, ru_jsN, ru_qsN, ru_set2, Nat.add_right_cancel_iff, if_true, if_false, ite_self, Int.reduceEq, and_self, Int.add_neg_cancel_right, Int.add_zero, Int.zero_add, md_e, md_f25, hn, c, m1, m2]
  have k0 := key n 0 (by omega)
  rw [show ((smF (inM M) 0 : Nat) : Int) = 0 from rfl, show ((0 : Nat) : Int) = 0 from rfl] at k0
  simp (disch := omega) only [en381, e381_0, e381_1, e381_2, e381_3, ↓reduceIte, Bool.false_eq_true, not_false_eq_true, not_true_eq_false, Nat.reduceLeDiff, Nat.reduceAdd, Nat.reduceEqDiff, Int.reduceToNat, Int.toNat_natCast, iB0, iB1, ru_klI, ru_klR, ru_klF, ru_klJ, ru_kl0, ru_cs0, ru_csI, ru_csR, ru_csF, ru_csJ, wI_add, wI_sub, wI_mul, wI_lt, wI_le, wI_inj, ru_fdE, ru_fdN, ru_iaN, ru_baN, ru_laN, ru_qaN, ru_pfN, ru_isN, ru_bsN, ru_jsN, ru_qsN, ru_set2, Nat.add_right_cancel_iff, if_true, if_false, ite_self, Int.reduceEq, and_self, Int.add_neg_cancel_right, Int.add_zero, Int.zero_add, md_e]
  exact k0
theorem k378 {s : Int} (g : -2147483648 ≤ s ∧ s < 2147483648) : ru_ev z 378 [.int (wI s)] h = oR (if 0 ≤ s ∧ s < 2 then 0 else 2) none h (thr h) := by
  by_cases e : 0 ≤ s ∧ s < 2
  · have d1 : (s < 0) = False := eq_false (by omega)
    have d2 : (s < 2) = True := eq_true (by omega)
    rw [if_pos e, oR_0 rfl]
    simp (disch := omega) only [en378, e378_0, e378_1, e378_4, e378_5, e378_6, e378_9, e378_12, e378_13, e378_20, ↓reduceIte, Bool.false_eq_true, not_false_eq_true, not_true_eq_false, Nat.reduceLeDiff, Nat.reduceAdd, Nat.reduceEqDiff, Int.reduceToNat, Int.toNat_natCast, iB0, iB1, ru_klI, ru_klR, ru_klF, ru_klJ, ru_kl0, ru_cs0, ru_csI, ru_csR, ru_csF, ru_csJ, wI_add, wI_sub, wI_mul, wI_lt, wI_le, wI_inj, ru_fdE, ru_fdN, ru_iaN, ru_baN, ru_laN, ru_qaN, ru_pfN, ru_isN, ru_bsN, ru_jsN, ru_qsN, ru_set2, Nat.add_right_cancel_iff, if_true, if_false, ite_self, Int.reduceEq, and_self, Int.add_neg_cancel_right, Int.add_zero, Int.zero_add, d1, d2]
  · rw [if_neg e, oR_n (by decide)]
    by_cases c : s < 0
    · have d1 : (s < 0) = True := eq_true c
      simp (disch := omega) only [en378, e378_0, e378_1, e378_4, e378_5, e378_6, e378_9, e378_12, e378_13, e378_20, ↓reduceIte, Bool.false_eq_true, not_false_eq_true, not_true_eq_false, Nat.reduceLeDiff, Nat.reduceAdd, Nat.reduceEqDiff, Int.reduceToNat, Int.toNat_natCast, iB0, iB1, ru_klI, ru_klR, ru_klF, ru_klJ, ru_kl0, ru_cs0, ru_csI, ru_csR, ru_csF, ru_csJ, wI_add, wI_sub, wI_mul, wI_lt, wI_le, wI_inj, ru_fdE, ru_fdN, ru_iaN, ru_baN, ru_laN, ru_qaN, ru_pfN, ru_isN, ru_bsN, ru_jsN, ru_qsN, ru_set2, Nat.add_right_cancel_iff, if_true, if_false, ite_self, Int.reduceEq, and_self, Int.add_neg_cancel_right, Int.add_zero, Int.zero_add, d1]
      rfl
    · have d1 : (s < 0) = False := eq_false c
      have d2 : (s < 2) = False := eq_false (by omega)
      simp (disch := omega) only [en378, e378_0, e378_1, e378_4, e378_5, e378_6, e378_9, e378_12, e378_13, e378_20, ↓reduceIte, Bool.false_eq_true, not_false_eq_true, not_true_eq_false, Nat.reduceLeDiff, Nat.reduceAdd, Nat.reduceEqDiff, Int.reduceToNat, Int.toNat_natCast, iB0, iB1, ru_klI, ru_klR, ru_klF, ru_klJ, ru_kl0, ru_cs0, ru_csI, ru_csR, ru_csF, ru_csJ, wI_add, wI_sub, wI_mul, wI_lt, wI_le, wI_inj, ru_fdE, ru_fdN, ru_iaN, ru_baN, ru_laN, ru_qaN, ru_pfN, ru_isN, ru_bsN, ru_jsN, ru_qsN, ru_set2, Nat.add_right_cancel_iff, if_true, if_false, ite_self, Int.reduceEq, and_self, Int.add_neg_cancel_right, Int.add_zero, Int.zero_add, d1, d2]
      rfl
def svR (C : tCl) (s : Int) (t : Nat) (v : Int) (C' : tCl) : Prop := (cPm C = 0 ∧ t = 1 ∧ C' = C) ∨ (¬ cPm C = 0 ∧ ¬ (0 ≤ s ∧ s < 2) ∧ t = 2 ∧ C' = C) ∨ (¬ cPm C = 0 ∧ (0 ≤ s ∧ s < 2) ∧ t = 0 ∧ v = (smF (snC C (alb C + 4)) (cPm C).toNat : Nat) ∧ cpS C C' (1261 + 27 * s.toNat) (alb C + 4))
theorem c377 (hR : clR C) (hA : phA C) (hq : ∀ s, s < 2 → C.2.2.2 1256 s = 1261 + 27 * s) {s : Int} (g : -2147483648 ≤ s ∧ s < 2147483648) : ∃ t v C', ru_ev z 377 [.ref 1000, .int (wI s)] (clPut h C) = oR t (some (.int (wI v))) (clPut h C') (clPut (thr h) C') ∧ svR C s t v C' := by
  have e1 := c79 (z := z) (h := h) hR
  obtain ⟨-, -, -, -, hst, -, -, a1, a2⟩ := clA_k hR.1
  have hc := hR.2.1
  have e2 := k378 (z := z) (h := clPut h C) g
  by_cases e : cPm C = 0
  · rw [if_pos e] at e1
    refine ⟨1, 0, C, ?_, Or.inl ⟨e, rfl, rfl⟩⟩
    rw [oR_n (by decide)]
    simp (disch := omega) only [en377, e377_0, e377_1, e377_4, e377_5, e377_8, e377_9, e377_12, e377_13, e377_14, e377_15, e377_18, e377_21, e377_24, e377_25, e377_28, e377_31, e377_34, ↓reduceIte, Bool.false_eq_true, not_false_eq_true, not_true_eq_false, Nat.reduceLeDiff, Nat.reduceAdd, Nat.reduceEqDiff, Int.reduceToNat, Int.toNat_natCast, iB0, iB1, ru_klI, ru_klR, ru_klF, ru_klJ, ru_kl0, ru_cs0, ru_csI, ru_csR, ru_csF, ru_csJ, wI_add, wI_sub, wI_mul, wI_lt, wI_le, wI_inj, ru_fdE, ru_fdN, ru_iaN, ru_baN, ru_laN, ru_qaN, ru_pfN, ru_isN, ru_bsN, ru_jsN, ru_qsN, ru_set2, Nat.add_right_cancel_iff, if_true, if_false, ite_self, Int.reduceEq, and_self, Int.add_neg_cancel_right, Int.add_zero, Int.zero_add, cl_e0, e1]
  · rw [if_neg e] at e1
    by_cases c : 0 ≤ s ∧ s < 2
    · rw [if_pos c, oR_0 rfl] at e2
      obtain ⟨n, rfl⟩ := Int.eq_ofNat_of_zero_le c.1
      have hn : n < 2 := by omega
      obtain ⟨b1, b2, b3⟩ := slot_k hn
      have hq2 := hq n hn
      have q6 := cl_q6 (h := h) (C := C) b2 (by decide) (i := (n : Int)) (by omega) (by rw [b3]; omega) (by omega)
      rw [Int.toNat_natCast, hq2] at q6
      obtain ⟨D, k1, k2⟩ := k115 (z := z) (h := h) (C := C) b1 hst (by omega) (fun i hi => hA.1 _ b1 i hi) (fun i hi => hR.2.2.2.2 i hi)
      have hal : alb D = alb C := by unfold alb; rw [k1.2.2.2]
      have hph : ∀ i, i < 5 → cph D (alb C + 4 + 2 + 5 * i) = cph C (alb C + 4 + 2 + 5 * i) := fun i hi => agO_ph k1.2.2 (by omega)
      have hcn : D.1 (alb C + 4) 0 = ((cPm C).toNat : Nat) := by
        rw [(k1.2.2.1 _ (by omega)).1]
        show cPm C = _
        omega
      have k3 := k379 (z := z) (h := h) (C := D) hst hcn (by omega) (fun i hi => by rw [hph i hi]; exact hR.2.2.2.2 i hi)
      rw [smF_congr (g := snC C (alb C + 4)) (cPm C).toNat (fun i hi => by unfold snC; rw [hph i (by omega)])] at k3
      have hAD : clA D := by have := hR.1; unfold clA at this ⊢; rw [k1.2.2.2]; exact this
      refine ⟨0, _, D, ?_, Or.inr (Or.inr ⟨e, c, rfl, rfl, k1⟩)⟩
      rw [oR_0 rfl]
      have hF := clF hAD (h := h)
      rw [hal] at hF
      simp (disch := omega) only [en377, e377_0, e377_1, e377_4, e377_5, e377_8, e377_9, e377_12, e377_13, e377_14, e377_15, e377_18, e377_21, e377_24, e377_25, e377_28, e377_31, e377_34, ↓reduceIte, Bool.false_eq_true, not_false_eq_true, not_true_eq_false, Nat.reduceLeDiff, Nat.reduceAdd, Nat.reduceEqDiff, Int.reduceToNat, Int.toNat_natCast, iB0, iB1, ru_klI, ru_klR, ru_klF, ru_klJ, ru_kl0, ru_cs0, ru_csI, ru_csR, ru_csF, ru_csJ, wI_add, wI_sub, wI_mul, wI_lt, wI_le, wI_inj, ru_fdE, ru_fdN, ru_iaN, ru_baN, ru_laN, ru_qaN, ru_pfN, ru_isN, ru_bsN, ru_jsN, ru_qsN, ru_set2, Nat.add_right_cancel_iff, if_true, if_false, ite_self, Int.reduceEq, and_self, Int.add_neg_cancel_right, Int.add_zero, Int.zero_add, cl_e0, cl_g0_7, clF hR.1, e1, e2, q6, k2, hF, k3]
    · rw [if_neg c, oR_n (by decide)] at e2
      refine ⟨2, 0, C, ?_, Or.inr (Or.inl ⟨e, c, rfl, rfl⟩)⟩
      rw [oR_n (by decide)]
      simp (disch := omega) only [en377, e377_0, e377_1, e377_4, e377_5, e377_8, e377_9, e377_12, e377_13, e377_14, e377_15, e377_18, e377_21, e377_24, e377_25, e377_28, e377_31, e377_34, ↓reduceIte, Bool.false_eq_true, not_false_eq_true, not_true_eq_false, Nat.reduceLeDiff, Nat.reduceAdd, Nat.reduceEqDiff, Int.reduceToNat, Int.toNat_natCast, iB0, iB1, ru_klI, ru_klR, ru_klF, ru_klJ, ru_kl0, ru_cs0, ru_csI, ru_csR, ru_csF, ru_csJ, wI_add, wI_sub, wI_mul, wI_lt, wI_le, wI_inj, ru_fdE, ru_fdN, ru_iaN, ru_baN, ru_laN, ru_qaN, ru_pfN, ru_isN, ru_bsN, ru_jsN, ru_qsN, ru_set2, Nat.add_right_cancel_iff, if_true, if_false, ite_self, Int.reduceEq, and_self, Int.add_neg_cancel_right, Int.add_zero, Int.zero_add, cl_e0, e1, e2]
      rfl
def svM (M : tMd) (s : Int) (b : Int) (M' : tMd) : Prop := (M.1 1 = 0 ∧ M' = mdT M 1) ∨ (M.1 1 = 1 ∧ ¬ (0 ≤ s ∧ s < 2) ∧ M' = mdT M 2) ∨ (M.1 1 = 1 ∧ (0 ≤ s ∧ s < 2) ∧ b = (smF (inM M) (M.1 25).toNat : Nat) ∧ M' = ((mdT M 0).1, upC (upC M.2 1 (lyF (M.2 1) (M.2 0) (7 + s.toNat) 270)) 2 (up1 (M.2 2) s.toNat 1)))
theorem p380 (hM : mdR M) {s : Int} (g : -2147483648 ≤ s ∧ s < 2147483648) : ∃ b M', ru_ev z 380 [.ref 1315, .int (wI s)] (mdPut h M) = some (.inl (some (.int (wI b))), mdPut h M') ∧ svM M s b M' := by
  have e := p118 (z := z) (h := h) hM
  have h1 := hM.2.1
  have h5 := hM.2.2.2.2.1
  by_cases a1 : M.1 1 = 0
  · simp only [a1, if_true] at e
    refine ⟨0, mdT M 1, ?_, Or.inl ⟨a1, rfl⟩⟩
    simp (disch := omega) only [en380, e380_0, e380_1, e380_4, e380_7, e380_8, e380_9, e380_10, e380_11, e380_14, e380_17, e380_18, e380_21, e380_22, e380_23, e380_26, e380_29, e380_30, e380_31, e380_32, e380_34, e380_35, e380_36, e380_39, e380_40, e380_43, e380_44, e380_45, e380_46, e380_47, e380_50, ↓reduceIte, Bool.false_eq_true, not_false_eq_true, not_true_eq_false, Nat.reduceLeDiff, Nat.reduceAdd, Nat.reduceEqDiff, Int.reduceToNat, Int.toNat_natCast, iB0, iB1, ru_klI, ru_klR, ru_klF, ru_klJ, ru_kl0, ru_cs0, ru_csI, ru_csR, ru_csF, ru_csJ, wI_add, wI_sub, wI_mul, wI_lt, wI_le, wI_inj, ru_fdE, ru_fdN, ru_iaN, ru_baN, ru_laN, ru_qaN, ru_pfN, ru_isN, ru_bsN, ru_jsN, ru_qsN, ru_set2, Nat.add_right_cancel_iff, if_true, if_false, ite_self, Int.reduceEq, and_self, Int.add_neg_cancel_right, Int.add_zero, Int.zero_add, md_e, e]
  · simp only [a1, if_false] at e
    by_cases c : 0 ≤ s ∧ s < 2
    · obtain ⟨n, rfl⟩ := Int.eq_ofNat_of_zero_le c.1
      have hn : n < 2 := by omega
      have ein : (0 ≤ (n : Int) ∧ (n : Int) ≤ 1) = True := eq_true (by omega)
      have e3 := p119 (z := z) (h := h) (M := mdT M 0) (st := 7 + n) (by omega)
      rw [show (((7 + n : Nat)) : Int) = 7 + (n : Int) by omega] at e3
      refine ⟨_, _, ?_, Or.inr (Or.inr ⟨by omega, c, rfl, rfl⟩)⟩
      rw [Int.toNat_natCast]
      have e4 := p381 (z := z) (h := h) (M := ((mdT M 0).1, upC (upC M.2 1 (lyF (M.2 1) (M.2 0) (7 + n) 270)) 2 (up1 (M.2 2) n 1))) (n := (M.1 25).toNat) (by show M.1 25 = _; omega) (by omega) (fun i hi => hM.2.2.2.2.2.2 i (by omega))
      have e5 : smF (inM ((mdT M 0).1, upC (upC M.2 1 (lyF (M.2 1) (M.2 0) (7 + n) 270)) 2 (up1 (M.2 2) n 1))) (M.1 25).toNat = smF (inM M) (M.1 25).toNat := smF_congr _ (fun i hi => rfl)
      rw [e5] at e4
      have w2 : am_bs (mdPut h ((mdT M 0).1, upC (mdT M 0).2 1 (lyF ((mdT M 0).2 1) ((mdT M 0).2 0) (7 + n) 270))) 1318 (wI (n : Int)) (wI 1) = some (mdPut h ((mdT M 0).1, upC (upC M.2 1 (lyF (M.2 1) (M.2 0) (7 + n) 270)) 2 (up1 (M.2 2) n 1))) := by
        rw [md_w2 (by omega) (by omega) (by decide) (by decide), up2_C]
        rfl
      simp (disch := omega) only [en380, e380_0, e380_1, e380_4, e380_7, e380_8, e380_9, e380_10, e380_11, e380_14, e380_17, e380_18, e380_21, e380_22, e380_23, e380_26, e380_29, e380_30, e380_31, e380_32, e380_34, e380_35, e380_36, e380_39, e380_40, e380_43, e380_44, e380_45, e380_46, e380_47, e380_50, ↓reduceIte, Bool.false_eq_true, not_false_eq_true, not_true_eq_false, Nat.reduceLeDiff, Nat.reduceAdd, Nat.reduceEqDiff, Int.reduceToNat, Int.toNat_natCast, iB0, iB1, ru_klI, ru_klR, ru_klF, ru_klJ, ru_kl0, ru_cs0, ru_csI, ru_csR, ru_csF, ru_csJ, wI_add, wI_sub, wI_mul, wI_lt, wI_le, wI_inj, ru_fdE, ru_fdN, ru_iaN, ru_baN, ru_laN, ru_qaN, ru_pfN, ru_isN, ru_bsN, ru_jsN, ru_qsN, ru_set2, Nat.add_right_cancel_iff, if_true, if_false, ite_self, Int.reduceEq, and_self, Int.add_neg_cancel_right, Int.add_zero, Int.zero_add, md_e, e, m53, ein, p54, not_true, if_true, md_f5, e3, w2, e4]
    · have ein : (0 ≤ s ∧ s ≤ 1) = False := eq_false (by omega)
      refine ⟨0, mdT M 2, ?_, Or.inr (Or.inl ⟨by omega, c, rfl⟩)⟩
      simp (disch := omega) only [en380, e380_0, e380_1, e380_4, e380_7, e380_8, e380_9, e380_10, e380_11, e380_14, e380_17, e380_18, e380_21, e380_22, e380_23, e380_26, e380_29, e380_30, e380_31, e380_32, e380_34, e380_35, e380_36, e380_39, e380_40, e380_43, e380_44, e380_45, e380_46, e380_47, e380_50, ↓reduceIte, Bool.false_eq_true, not_false_eq_true, not_true_eq_false, Nat.reduceLeDiff, Nat.reduceAdd, Nat.reduceEqDiff, Int.reduceToNat, Int.toNat_natCast, iB0, iB1, ru_klI, ru_klR, ru_klF, ru_klJ, ru_kl0, ru_cs0, ru_csI, ru_csR, ru_csF, ru_csJ, wI_add, wI_sub, wI_mul, wI_lt, wI_le, wI_inj, ru_fdE, ru_fdN, ru_iaN, ru_baN, ru_laN, ru_qaN, ru_pfN, ru_isN, ru_bsN, ru_jsN, ru_qsN, ru_set2, Nat.add_right_cancel_iff, if_true, if_false, ite_self, Int.reduceEq, and_self, Int.add_neg_cancel_right, Int.add_zero, Int.zero_add, md_e, e, m53, ein, p54, not_false_iff, if_false, if_true]
end SAV
