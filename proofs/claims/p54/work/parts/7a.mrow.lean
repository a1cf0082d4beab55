/-! ===== the reference's calls that look at rows ===== -/
/-- the first from k on, below k + d, that has P -/
def fnF (P : Nat → Bool) : Nat → Nat → Int
  | 0, _ => -1
  | d + 1, k => if P k = true then (k : Int) else fnF P d (k + 1)
theorem fnF_is {P : Nat → Bool} {i : Nat} : ∀ d k, k ≤ i → i < k + d → P i = true → (∀ j, k ≤ j → j < k + d → P j = true → j = i) → fnF P d k = (i : Int)
  | 0, k, h1, h2, _, _ => by omega
  | d + 1, k, h1, h2, h3, h4 => by
    unfold fnF
    by_cases e : P k = true
    · rw [if_pos e, h4 k (Nat.le_refl _) (by omega) e]
    · rw [if_neg e]
      have : k ≠ i := fun c => e (by rw [c]; exact h3)
      exact fnF_is d (k + 1) (by omega) (by omega) h3 (fun j j1 j2 j3 => h4 j (by omega) (by omega) j3)
theorem fnF_no {P : Nat → Bool} : ∀ d k, (∀ j, k ≤ j → j < k + d → ¬ P j = true) → fnF P d k = -1
  | 0, _, _ => rfl
  | d + 1, k, h => by
    unfold fnF
    rw [if_neg (h k (Nat.le_refl _) (by omega))]
    exact fnF_no d (k + 1) (fun j j1 j2 => h j (by omega) (by omega))
theorem fnF_sp (P : Nat → Bool) : ∀ d k, (fnF P d k = -1 ∧ ∀ j, k ≤ j → j < k + d → ¬ P j = true) ∨ ∃ i : Nat, fnF P d k = (i : Int) ∧ k ≤ i ∧ i < k + d ∧ P i = true
  | 0, _ => Or.inl ⟨rfl, fun j h1 h2 => by omega⟩
  | d + 1, k => by
    unfold fnF
    by_cases e : P k = true
    · rw [if_pos e]; exact Or.inr ⟨k, rfl, Nat.le_refl _, by omega, e⟩
    · rw [if_neg e]
      rcases fnF_sp P d (k + 1) with ⟨h1, h2⟩ | ⟨i, h1, h2, h3, h4⟩
      · refine Or.inl ⟨h1, fun j j1 j2 => ?_⟩
        by_cases c : j = k
        · subst c; exact e
        · exact h2 j (by omega) (by omega)
      · exact Or.inr ⟨i, h1, by omega, by omega, h4⟩
theorem fnF_rng (P : Nat → Bool) (d : Nat) : -1 ≤ fnF P d 0 ∧ fnF P d 0 < (d : Int) ∨ fnF P d 0 = -1 := by
  rcases fnF_sp P d 0 with ⟨h1, -⟩ | ⟨i, h1, h2, h3, -⟩
  · exact Or.inr h1
  · exact Or.inl (by omega)
/-- who stands at place i of an order, found by the rank -/
theorem enO_fn {S T : Nat → Bool} {key : Nat → Int} {n m i : Nat} {e : Nat → Nat} (h : enO S key n e) (hi : i < n) (hT : ∀ k, k < m → T k = S k) (hm : ∀ k, k < 12 → S k = true → k < m) (h12 : m ≤ 12) : fnF (fun k => T k && decide (rkN S key k = i)) m 0 = (e i : Int) := by
  have h1 := h.1 i hi
  have h2 := hm _ h1.1 h1.2
  refine fnF_is m 0 (by omega) (by omega) ?_ ?_
  · rw [hT _ h2, h1.2, enO_rk h hi]; simp
  · intro j _ hj hp
    simp only [Bool.and_eq_true, decide_eq_true_eq] at hp
    rw [hT j (by omega)] at hp
    have h3 := (enO_at h (show j < 12 by omega) hp.1).2
    rw [hp.2] at h3
    exact h3.symm
def stP (R L : Nat → Int) (r j : Int) (k : Nat) : Bool := decide (R k = r ∧ L k = j ∧ ¬ r = -1)
section MROW
variable {z : Bool} {h : am_H} {M : tMd} {f : Nat}
theorem p137l {rm : Int} {R L Q : Nat → Int} (hf : f < 5) {m : Nat} (hm : (mph M f).1 7 = (m : Int)) (h12 : m ≤ 12) (hR : ∀ k, k < 12 → -1 ≤ R k ∧ R k ≤ 12) (hL : ∀ k, k < 12 → -1 ≤ L k ∧ L k ≤ 12) {r j : Int} (gr : -2147483648 ≤ r ∧ r < 2147483648) (gj : -2147483648 ≤ j ∧ j < 2147483648) : ∀ d k, k + d = m →
    ru_n z 137 3 [some (.ref 1315), some (.int (wI f)), some (.int (wI r)), some (.int (wI j)), some (.int (wI k))] [] (mdPut h (mdQ M rm R L Q)) = some (.inl (some (.int (wI (fnF (stP R L r j) d k)))), mdPut h (mdQ M rm R L Q)) := by
  intro d
  induction d with
  | zero =>
    intro k hk
    obtain rfl : k = m := by omega
    have c : ((k : Int) ≤ (k : Int)) = True := eq_true (Int.le_refl _)
    simp (disch := omega) only [e137_0, e137_1, e137_3, e137_5, e137_6, e137_7, e137_10, e137_13, e137_14, e137_17, e137_19, e137_20, e137_21, e137_24, e137_25, e137_28, e137_30, e137_31, e137_32, e137_35, e137_36, e137_37, e137_40, e137_42, e137_43, e137_46, e137_49, e137_50, ↓reduceIte, Bool.false_eq_true, not_false_eq_true, not_true_eq_false, Nat.reduceLeDiff, Nat.reduceAdd, Nat.reduceEqDiff, Int.reduceToNat, Int.toNat_natCast, iB0, iB1, ru_klI, ru_klR, ru_klF, ru_klJ, ru_kl0, ru_cs0, ru_csI, ru_csR, ru_csF, ru_csJ, wI_add, wI_sub, wI_mul, wI_lt, wI_le, wI_inj, ru_fdE, ru_fdN, ru_iaN, ru_baN, ru_laN, ru_qaN, ru_pfN, ru_isN, ru_bsN, ru_jsN, ru_qsN, ru_set2, Nat.add_right_cancel_iff, if_true, if_false, ite_self, Int.reduceEq, and_self, Int.add_neg_cancel_right, Int.add_zero, Int.zero_add, md_e, p122, mph_Q, hm, c, fnF]
  | succ d ih =>
    intro k hk
    have ih1 := ih (k + 1) (by omega)
    simp only [Int.natCast_add, Int.natCast_one] at ih1
    have c : ((m : Int) ≤ (k : Int)) = False := eq_false (by omega)
    have r1 := hR k (by omega)
    have r2 := hL k (by omega)
    rw [e137_3]
    by_cases c1 : R k = r
    · by_cases c2 : L k = j
      · by_cases c3 : r = -1
        · have e : ¬ stP R L r j k = true := by simp [stP, c3]
          have d1 : (R k = r) = True := eq_true c1
          have d2 : (L k = j) = True := eq_true c2
          have d3 : (r = -1) = True := eq_true c3
          simp (disch := omega) only [e137_0, e137_1, e137_5, e137_6, e137_7, e137_10, e137_13, e137_14, e137_17, e137_19, e137_20, e137_21, e137_24, e137_25, e137_28, e137_30, e137_31, e137_32, e137_35, e137_36, e137_37, e137_40, e137_42, e137_43, e137_46, e137_49, e137_50, ↓reduceIte, Bool.false_eq_true, not_false_eq_true, not_true_eq_false, Nat.reduceLeDiff, Nat.reduceAdd, Nat.reduceEqDiff, Int.reduceToNat, Int.toNat_natCast, iB0, iB1, ru_klI, ru_klR, ru_klF, ru_klJ, ru_kl0, ru_cs0, ru_csI, ru_csR, ru_csF, ru_csJ, wI_add, wI_sub, wI_mul, wI_lt, wI_le, wI_inj, ru_fdE, ru_fdN, ru_iaN, ru_baN, ru_laN, ru_qaN, ru_pfN, ru_isN, ru_bsN, ru_jsN, ru_qsN, ru_set2, Nat.add_right_cancel_iff, if_true, if_false, ite_self, Int.reduceEq, and_self, Int.add_neg_cancel_right, Int.add_zero, Int.zero_add, md_e, md_f31, md_f32, lr_a11, lr_a12, p122, mph_Q, hm, c, d1, d2, d3, not_true, ih1]
          rw [fnF, if_neg e]
        · have e : stP R L r j k = true := by simp [stP, c1, c2, c3]
          have d1 : (R k = r) = True := eq_true c1
          have d2 : (L k = j) = True := eq_true c2
          have d3 : (r = -1) = False := eq_false c3
          simp (disch := omega) only [e137_0, e137_1, e137_5, e137_6, e137_7, e137_10, e137_13, e137_14, e137_17, e137_19, e137_20, e137_21, e137_24, e137_25, e137_28, e137_30, e137_31, e137_32, e137_35, e137_36, e137_37, e137_40, e137_42, e137_43, e137_46, e137_49, e137_50, ↓reduceIte, Bool.false_eq_true, not_false_eq_true, not_true_eq_false, Nat.reduceLeDiff, Nat.reduceAdd, Nat.reduceEqDiff, Int.reduceToNat, Int.toNat_natCast, iB0, iB1, ru_klI, ru_klR, ru_klF, ru_klJ, ru_kl0, ru_cs0, ru_csI, ru_csR, ru_csF, ru_csJ, wI_add, wI_sub, wI_mul, wI_lt, wI_le, wI_inj, ru_fdE, ru_fdN, ru_iaN, ru_baN, ru_laN, ru_qaN, ru_pfN, ru_isN, ru_bsN, ru_jsN, ru_qsN, ru_set2, Nat.add_right_cancel_iff, if_true, if_false, ite_self, Int.reduceEq, and_self, Int.add_neg_cancel_right, Int.add_zero, Int.zero_add, md_e, md_f31, md_f32, lr_a11, lr_a12, p122, mph_Q, hm, c, d1, d2, d3, not_true]
          rw [fnF, if_pos e]
      · have e : ¬ stP R L r j k = true := by simp [stP, c2]
        have d1 : (R k = r) = True := eq_true c1
        have d2 : (L k = j) = False := eq_false c2
        simp (disch := omega) only [e137_0, e137_1, e137_5, e137_6, e137_7, e137_10, e137_13, e137_14, e137_17, e137_19, e137_20, e137_21, e137_24, e137_25, e137_28, e137_30, e137_31, e137_32, e137_35, e137_36, e137_37, e137_40, e137_42, e137_43, e137_46, e137_49, e137_50, ↓reduceIte, Bool.false_eq_true, not_false_eq_true, not_true_eq_false, Nat.reduceLeDiff, Nat.reduceAdd, Nat.reduceEqDiff, Int.reduceToNat, Int.toNat_natCast, iB0, iB1, ru_klI, ru_klR, ru_klF, ru_klJ, ru_kl0, ru_cs0, ru_csI, ru_csR, ru_csF, ru_csJ, wI_add, wI_sub, wI_mul, wI_lt, wI_le, wI_inj, ru_fdE, ru_fdN, ru_iaN, ru_baN, ru_laN, ru_qaN, ru_pfN, ru_isN, ru_bsN, ru_jsN, ru_qsN, ru_set2, Nat.add_right_cancel_iff, if_true, if_false, ite_self, Int.reduceEq, and_self, Int.add_neg_cancel_right, Int.add_zero, Int.zero_add, md_e, md_f31, md_f32, lr_a11, lr_a12, p122, mph_Q, hm, c, d1, d2, not_true, not_false_iff, ih1]
        rw [fnF, if_neg e]
    · have e : ¬ stP R L r j k = true := by simp [stP, c1]
      have d1 : (R k = r) = False := eq_false c1
      simp (disch := omega) only [e137_0, e137_1, e137_5, e137_6, e137_7, e137_10, e137_13, e137_14, e137_17, e137_19, e137_20, e137_21, e137_24, e137_25, e137_28, e137_30, e137_31, e137_32, e137_35, e137_36, e137_37, e137_40, e137_42, e137_43, e137_46, e137_49, e137_50, ↓reduceIte, Bool.false_eq_true, not_false_eq_true, not_true_eq_false, Nat.reduceLeDiff, Nat.reduceAdd, Nat.reduceEqDiff, Int.reduceToNat, Int.toNat_natCast, iB0, iB1, ru_klI, ru_klR, ru_klF, ru_klJ, ru_kl0, ru_cs0, ru_csI, ru_csR, ru_csF, ru_csJ, wI_add, wI_sub, wI_mul, wI_lt, wI_le, wI_inj, ru_fdE, ru_fdN, ru_iaN, ru_baN, ru_laN, ru_qaN, ru_pfN, ru_isN, ru_bsN, ru_jsN, ru_qsN, ru_set2, Nat.add_right_cancel_iff, if_true, if_false, ite_self, Int.reduceEq, and_self, Int.add_neg_cancel_right, Int.add_zero, Int.zero_add, md_e, md_f31, md_f32, lr_a11, lr_a12, p122, mph_Q, hm, c, d1, not_false_iff, ih1]
      rw [fnF, if_neg e]
theorem p137 {rm : Int} {R L Q : Nat → Int} (hf : f < 5) {m : Nat} (hm : (mph M f).1 7 = (m : Int)) (h12 : m ≤ 12) (hR : ∀ k, k < 12 → -1 ≤ R k ∧ R k ≤ 12) (hL : ∀ k, k < 12 → -1 ≤ L k ∧ L k ≤ 12) {r j : Int} (gr : -2147483648 ≤ r ∧ r < 2147483648) (gj : -2147483648 ≤ j ∧ j < 2147483648) : ru_ev z 137 [.ref 1315, .int (wI f), .int (wI r), .int (wI j)] (mdPut h (mdQ M rm R L Q)) = some (.inl (some (.int (wI (fnF (stP R L r j) m 0)))), mdPut h (mdQ M rm R L Q)) := by
  have key := p137l (z := z) (h := h) (M := M) (rm := rm) (R := R) (L := L) (Q := Q) hf hm h12 hR hL gr gj m 0 (by omega)
  rw [show ((0 : Nat) : Int) = 0 from rfl] at key
  simp (disch := omega) only [en137, e137_0, e137_1, ↓reduceIte, Bool.false_eq_true, not_false_eq_true, not_true_eq_false, Nat.reduceLeDiff, Nat.reduceAdd, Nat.reduceEqDiff, Int.reduceToNat, Int.toNat_natCast, iB0, iB1, ru_klI, ru_klR, ru_klF, ru_klJ, ru_kl0, ru_cs0, ru_csI, ru_csR, ru_csF, ru_csJ, wI_add, wI_sub, wI_mul, wI_lt, wI_le, wI_inj, ru_fdE, ru_fdN, ru_iaN, ru_baN, ru_laN, ru_qaN, ru_pfN, ru_isN, ru_bsN, ru_jsN, ru_qsN, ru_set2, Nat.add_right_cancel_iff, if_true, if_false, ite_self, Int.reduceEq, and_self, Int.add_neg_cancel_right, Int.add_zero, Int.zero_add, md_e, key]
/-- the reference's order of all people -/
theorem p136 {a b : Nat} (hf : f < 5) (ha : a < 12) (hb : b < 12) (hr : phR (mph M f)) (sa : shS (mph M f) a = true) (sb : shS (mph M f) b = true) : ru_ev z 136 [.ref 1315, .int (wI f), .int (wI a), .int (wI b)] (mdPut h M) = some (.inl (some (.int (wI (if kyO (shX (mph M f)) (shY (mph M f)) a < kyO (shX (mph M f)) (shY (mph M f)) b then 1 else 0)))), mdPut h M) := by
  obtain ⟨s1, s2, -⟩ := shS_rng hr sa
  obtain ⟨t1, t2, -⟩ := shS_rng hr sb
  simp (disch := omega) only [en136, e136_0, e136_1, e136_2, e136_3, e136_6, e136_7, e136_8, e136_9, e136_12, e136_15, e136_16, e136_17, e136_18, e136_21, e136_22, e136_23, e136_24, e136_27, e136_30, e136_31, e136_34, e136_35, e136_36, e136_37, e136_38, e136_39, e136_42, e136_43, e136_44, e136_45, e136_48, e136_51, e136_52, e136_53, e136_54, e136_57, e136_58, e136_59, e136_60, e136_63, e136_66, e136_67, e136_70, e136_71, e136_74, e136_75, e136_76, e136_79, e136_80, e136_83, e136_84, ↓reduceIte, Bool.false_eq_true, not_false_eq_true, not_true_eq_false, Nat.reduceLeDiff, Nat.reduceAdd, Nat.reduceEqDiff, Int.reduceToNat, Int.toNat_natCast, iB0, iB1, ru_klI, ru_klR, ru_klF, ru_klJ, ru_kl0, ru_cs0, ru_csI, ru_csR, ru_csF, ru_csJ, wI_add, wI_sub, wI_mul, wI_lt, wI_le, wI_inj, ru_fdE, ru_fdN, ru_iaN, ru_baN, ru_laN, ru_qaN, ru_pfN, ru_isN, ru_bsN, ru_jsN, ru_qsN, ru_set2, Nat.add_right_cancel_iff, if_true, if_false, ite_self, Int.reduceEq, and_self, Int.add_neg_cancel_right, Int.add_zero, Int.zero_add, md_e, md_f0, md_s0, md_f1, md_s1, md_f2, md_f3, md_f4, md_s4, md_f5, md_f6, md_f7, md_s7, md_f8, md_s8, md_f9, md_s9, md_f10, md_s10, md_f11, md_s11, md_f12, md_s12, md_f13, md_s13, md_f14, md_f15, md_s15, md_f16, md_s16, md_f17, md_s17, md_f18, md_s18, md_f19, md_f20, md_s20, md_f21, md_f22, md_s22, md_f23, md_f24, md_s24, md_f25, md_s25, md_f26, md_f27, md_f28, md_s28, md_f29, md_s29, md_f30, md_f31, md_f32, md_f33, md_f34, md_s34, md_f35, md_s35, md_f36, md_f37, md_f38, md_s38, md_a0, md_w0, md_a1, md_w1, md_a2, md_w2, md_a3, md_w3, md_a4, md_w4, md_a5, md_w5, md_a6, md_w6, md_a7, md_w7, md_a8, md_w8, md_a9, md_w9, md_a10, md_w10, md_a11, md_w11, md_a12, md_w12, md_a13, md_w13, md_a14, md_w14, md_a15, md_w15, up1_e, up1_n, mdT_1, mdT_n, mdT_2, mdT_T, p129 (z := z) (h := h) (M := M) hf ha hr, p129 (z := z) (h := h) (M := M) hf hb hr, p127 (z := z) (h := h) (M := M) hf ha, p127 (z := z) (h := h) (M := M) hf hb, wI_and1]
  unfold kyO
  repeat' split
  all_goals first | rfl | (exfalso; omega)
theorem p135l {k : Nat} (hf : f < 5) (hk : k < 12) (hr : phR (mph M f)) (sk : shS (mph M f) k = true) {m : Nat} (hm : (mph M f).1 7 = (m : Int)) : ∀ d o, o + d = m →
    ru_n z 135 5 [some (.ref 1315), some (.int (wI f)), some (.int (wI k)), some (.int (wI (cnB (fun o => shS (mph M f) o && decide (kyO (shX (mph M f)) (shY (mph M f)) o < kyO (shX (mph M f)) (shY (mph M f)) k)) o : Nat))), some (.int (wI o))] [] (mdPut h M) = some (.inl (some (.int (wI (cnB (fun o => shS (mph M f) o && decide (kyO (shX (mph M f)) (shY (mph M f)) o < kyO (shX (mph M f)) (shY (mph M f)) k)) m : Nat)))), mdPut h M) := by
  have s := phR_s hr
  intro d
  induction d with
  | zero =>
    intro o ho
    obtain rfl : o = m := by omega
    have c : ((o : Int) ≤ (o : Int)) = True := eq_true (Int.le_refl _)
    simp (disch := omega) only [e135_0, e135_1, e135_2, e135_3, e135_5, e135_7, e135_8, e135_9, e135_12, e135_15, e135_16, e135_18, e135_19, e135_22, e135_23, e135_24, e135_26, e135_29, e135_32, e135_33, e135_34, e135_36, e135_37, e135_40, e135_43, e135_44, e135_47, e135_48, e135_49, e135_50, e135_53, e135_56, e135_57, ↓reduceIte, Bool.false_eq_true, not_false_eq_true, not_true_eq_false, Nat.reduceLeDiff, Nat.reduceAdd, Nat.reduceEqDiff, Int.reduceToNat, Int.toNat_natCast, iB0, iB1, ru_klI, ru_klR, ru_klF, ru_klJ, ru_kl0, ru_cs0, ru_csI, ru_csR, ru_csF, ru_csJ, wI_add, wI_sub, wI_mul, wI_lt, wI_le, wI_inj, ru_fdE, ru_fdN, ru_iaN, ru_baN, ru_laN, ru_qaN, ru_pfN, ru_isN, ru_bsN, ru_jsN, ru_qsN, ru_set2, Nat.add_right_cancel_iff, if_true, if_false, ite_self, Int.reduceEq, and_self, Int.add_neg_cancel_right, Int.add_zero, Int.zero_add, md_e, p122, hm, c]
  | succ d ih =>
    intro o ho
    rw [← ih (o + 1) (by omega), e135_5]
    have c : ((m : Int) ≤ (o : Int)) = False := eq_false (by omega)
    have hs := p124 (z := z) (h := h) (M := M) (f := f) (k := o) hf (by omega) hr
    have he : shS (mph M f) o = shw (mph M f) o := shS_of (by omega)
    have hle := cnB_le (fun o => shS (mph M f) o && decide (kyO (shX (mph M f)) (shY (mph M f)) o < kyO (shX (mph M f)) (shY (mph M f)) k)) o
    by_cases e1 : o = k
    · have ec : cnB (fun o => shS (mph M f) o && decide (kyO (shX (mph M f)) (shY (mph M f)) o < kyO (shX (mph M f)) (shY (mph M f)) k)) (o + 1) = cnB (fun o => shS (mph M f) o && decide (kyO (shX (mph M f)) (shY (mph M f)) o < kyO (shX (mph M f)) (shY (mph M f)) k)) o := by
        rw [cnB, e1, decide_eq_false (Int.lt_irrefl _), Bool.and_false]; rfl
      have d1 : ((o : Int) = (k : Int)) = True := eq_true (by omega)
      rw [ec]
      simp (disch := omega) only [e135_0, e135_1, e135_2, e135_3, e135_7, e135_8, e135_9, e135_12, e135_15, e135_16, e135_18, e135_19, e135_22, e135_23, e135_24, e135_26, e135_29, e135_32, e135_33, e135_34, e135_36, e135_37, e135_40, e135_43, e135_44, e135_47, e135_48, e135_49, e135_50, e135_53, e135_56, e135_57, ↓reduceIte, Bool.false_eq_true, not_false_eq_true, not_true_eq_false, Nat.reduceLeDiff, Nat.reduceAdd, Nat.reduceEqDiff, Int.reduceToNat, Int.toNat_natCast, iB0, iB1, ru_klI, ru_klR, ru_klF, ru_klJ, ru_kl0, ru_cs0, ru_csI, ru_csR, ru_csF, ru_csJ, wI_add, wI_sub, wI_mul, wI_lt, wI_le, wI_inj, ru_fdE, ru_fdN, ru_iaN, ru_baN, ru_laN, ru_qaN, ru_pfN, ru_isN, ru_bsN, ru_jsN, ru_qsN, ru_set2, Nat.add_right_cancel_iff, if_true, if_false, ite_self, Int.reduceEq, and_self, Int.add_neg_cancel_right, Int.add_zero, Int.zero_add, md_e, p122, hm, c, d1, Int.natCast_add, Int.natCast_one, Int.add_zero]
    · have d1 : ((o : Int) = (k : Int)) = False := eq_false (by omega)
      by_cases e2 : shw (mph M f) o = true
      · have hE := p136 (z := z) (h := h) (M := M) hf (show o < 12 by omega) hk hr (by rw [he]; exact e2) sk
        by_cases e3 : kyO (shX (mph M f)) (shY (mph M f)) o < kyO (shX (mph M f)) (shY (mph M f)) k
        · have ec : cnB (fun o => shS (mph M f) o && decide (kyO (shX (mph M f)) (shY (mph M f)) o < kyO (shX (mph M f)) (shY (mph M f)) k)) (o + 1) = cnB (fun o => shS (mph M f) o && decide (kyO (shX (mph M f)) (shY (mph M f)) o < kyO (shX (mph M f)) (shY (mph M f)) k)) o + 1 := by
            rw [cnB, he, e2, decide_eq_true e3]; rfl
          rw [ec]
          simp (disch := omega) only [e135_0, e135_1, e135_2, e135_3, e135_7, e135_8, e135_9, e135_12, e135_15, e135_16, e135_18, e135_19, e135_22, e135_23, e135_24, e135_26, e135_29, e135_32, e135_33, e135_34, e135_36, e135_37, e135_40, e135_43, e135_44, e135_47, e135_48, e135_49, e135_50, e135_53, e135_56, e135_57, ↓reduceIte, Bool.false_eq_true, not_false_eq_true, not_true_eq_false, Nat.reduceLeDiff, Nat.reduceAdd, Nat.reduceEqDiff, Int.reduceToNat, Int.toNat_natCast, iB0, iB1, ru_klI, ru_klR, ru_klF, ru_klJ, ru_kl0, ru_cs0, ru_csI, ru_csR, ru_csF, ru_csJ, wI_add, wI_sub, wI_mul, wI_lt, wI_le, wI_inj, ru_fdE, ru_fdN, ru_iaN, ru_baN, ru_laN, ru_qaN, ru_pfN, ru_isN, ru_bsN, ru_jsN, ru_qsN, ru_set2, Nat.add_right_cancel_iff, if_true, if_false, ite_self, Int.reduceEq, and_self, Int.add_neg_cancel_right, Int.add_zero, Int.zero_add, md_e, p122, hm, c, d1, hs, e2, hE, e3, wI_b0, not_true, not_false_iff, Int.natCast_add, Int.natCast_one]
        · have ec : cnB (fun o => shS (mph M f) o && decide (kyO (shX (mph M f)) (shY (mph M f)) o < kyO (shX (mph M f)) (shY (mph M f)) k)) (o + 1) = cnB (fun o => shS (mph M f) o && decide (kyO (shX (mph M f)) (shY (mph M f)) o < kyO (shX (mph M f)) (shY (mph M f)) k)) o := by
            rw [cnB, decide_eq_false e3, Bool.and_false]; rfl
          rw [ec]
          simp (disch := omega) only [e135_0, e135_1, e135_2, e135_3, e135_7, e135_8, e135_9, e135_12, e135_15, e135_16, e135_18, e135_19, e135_22, e135_23, e135_24, e135_26, e135_29, e135_32, e135_33, e135_34, e135_36, e135_37, e135_40, e135_43, e135_44, e135_47, e135_48, e135_49, e135_50, e135_53, e135_56, e135_57, ↓reduceIte, Bool.false_eq_true, not_false_eq_true, not_true_eq_false, Nat.reduceLeDiff, Nat.reduceAdd, Nat.reduceEqDiff, Int.reduceToNat, Int.toNat_natCast, iB0, iB1, ru_klI, ru_klR, ru_klF, ru_klJ, ru_kl0, ru_cs0, ru_csI, ru_csR, ru_csF, ru_csJ, wI_add, wI_sub, wI_mul, wI_lt, wI_le, wI_inj, ru_fdE, ru_fdN, ru_iaN, ru_baN, ru_laN, ru_qaN, ru_pfN, ru_isN, ru_bsN, ru_jsN, ru_qsN, ru_set2, Nat.add_right_cancel_iff, if_true, if_false, ite_self, Int.reduceEq, and_self, Int.add_neg_cancel_right, Int.add_zero, Int.zero_add, md_e, p122, hm, c, d1, hs, e2, hE, e3, wI_b0, not_true, not_false_iff, Int.natCast_add, Int.natCast_one, Int.add_zero]
      · have ec : cnB (fun o => shS (mph M f) o && decide (kyO (shX (mph M f)) (shY (mph M f)) o < kyO (shX (mph M f)) (shY (mph M f)) k)) (o + 1) = cnB (fun o => shS (mph M f) o && decide (kyO (shX (mph M f)) (shY (mph M f)) o < kyO (shX (mph M f)) (shY (mph M f)) k)) o := by
          rw [cnB, he]
          simp only [Bool.not_eq_true] at e2
          rw [e2]; rfl
        rw [ec]
        simp (disch := omega) only [e135_0, e135_1, e135_2, e135_3, e135_7, e135_8, e135_9, e135_12, e135_15, e135_16, e135_18, e135_19, e135_22, e135_23, e135_24, e135_26, e135_29, e135_32, e135_33, e135_34, e135_36, e135_37, e135_40, e135_43, e135_44, e135_47, e135_48, e135_49, e135_50, e135_53, e135_56, e135_57, ↓reduceIte, Bool.false_eq_true, not_false_eq_true, not_true_eq_false, Nat.reduceLeDiff, Nat.reduceAdd, Nat.reduceEqDiff, Int.reduceToNat, Int.toNat_natCast, iB0, iB1, ru_klI, ru_klR, ru_klF, ru_klJ, ru_kl0, ru_cs0, ru_csI, ru_csR, ru_csF, ru_csJ, wI_add, wI_sub, wI_mul, wI_lt, wI_le, wI_inj, ru_fdE, ru_fdN, ru_iaN, ru_baN, ru_laN, ru_qaN, ru_pfN, ru_isN, ru_bsN, ru_jsN, ru_qsN, ru_set2, Nat.add_right_cancel_iff, if_true, if_false, ite_self, Int.reduceEq, and_self, Int.add_neg_cancel_right, Int.add_zero, Int.zero_add, md_e, p122, hm, c, d1, hs, e2, wI_b0, not_false_iff, Int.natCast_add, Int.natCast_one, Int.add_zero]
theorem rkN_m {S : Nat → Bool} {key : Nat → Int} {k m : Nat} (h12 : m ≤ 12) (hm : ∀ o, o < 12 → S o = true → o < m) : cnB (fun o => S o && decide (key o < key k)) m = rkN S key k :=
  cnB_ext h12 (fun o _ => rfl) (fun o h1 h2 h3 => by
    simp only [Bool.and_eq_true] at h3
    have := hm o h2 h3.1
    omega)
theorem shS_m {q : tPh} {m : Nat} (hm : q.1 7 = (m : Int)) : ∀ o, o < 12 → shS q o = true → o < m := fun o _ h => by
  simp only [shS, Bool.and_eq_true, decide_eq_true_eq] at h
  omega
theorem p135 {k : Nat} (hf : f < 5) (hk : k < 12) (hr : phR (mph M f)) (sk : shS (mph M f) k = true) : ru_ev z 135 [.ref 1315, .int (wI f), .int (wI k)] (mdPut h M) = some (.inl (some (.int (wI (rkN (shS (mph M f)) (kyO (shX (mph M f)) (shY (mph M f))) k : Nat)))), mdPut h M) := by
  have s := phR_s hr
  obtain ⟨m, hm⟩ := Int.eq_ofNat_of_zero_le s.2.2.2.2.2.2.2.1
  have key := p135l (z := z) (h := h) (M := M) hf hk hr sk hm m 0 (by omega)
  rw [rkN_m (by omega) (shS_m hm)] at key
  have e0 : ((cnB (fun o => shS (mph M f) o && decide (kyO (shX (mph M f)) (shY (mph M f)) o < kyO (shX (mph M f)) (shY (mph M f)) k)) 0 : Nat) : Int) = 0 := rfl
  rw [e0, show ((0 : Nat) : Int) = 0 from rfl] at key
  simp (disch := omega) only [en135, e135_0, e135_1, e135_2, e135_3, ↓reduceIte, Bool.false_eq_true, not_false_eq_true, not_true_eq_false, Nat.reduceLeDiff, Nat.reduceAdd, Nat.reduceEqDiff, Int.reduceToNat, Int.toNat_natCast, iB0, iB1, ru_klI, ru_klR, ru_klF, ru_klJ, ru_kl0, ru_cs0, ru_csI, ru_csR, ru_csF, ru_csJ, wI_add, wI_sub, wI_mul, wI_lt, wI_le, wI_inj, ru_fdE, ru_fdN, ru_iaN, ru_baN, ru_laN, ru_qaN, ru_pfN, ru_isN, ru_bsN, ru_jsN, ru_qsN, ru_set2, Nat.add_right_cancel_iff, if_true, if_false, ite_self, Int.reduceEq, and_self, Int.add_neg_cancel_right, Int.add_zero, Int.zero_add, md_e, key]
theorem p134l (hf : f < 5) (hr : phR (mph M f)) {m j : Nat} (hm : (mph M f).1 7 = (m : Int)) (hj : j < 12) : ∀ d k, k + d = m →
    ru_n z 134 2 [some (.ref 1315), some (.int (wI f)), some (.int (wI j)), some (.int (wI k))] [] (mdPut h M) = some (.inl (some (.int (wI (fnF (fun k => shw (mph M f) k && decide (rkN (shS (mph M f)) (kyO (shX (mph M f)) (shY (mph M f))) k = j)) d k)))), mdPut h M) := by
  have s := phR_s hr
  intro d
  induction d with
  | zero =>
    intro k hk
    obtain rfl : k = m := by omega
    have c : ((k : Int) ≤ (k : Int)) = True := eq_true (Int.le_refl _)
    simp (disch := omega) only [e134_0, e134_1, e134_2, e134_3, e134_4, e134_5, e134_8, e134_11, e134_12, e134_13, e134_14, e134_17, e134_20, e134_21, e134_22, e134_23, e134_26, e134_27, e134_30, e134_31, e134_32, e134_35, e134_38, e134_39, ↓reduceIte, Bool.false_eq_true, not_false_eq_true, not_true_eq_false, Nat.reduceLeDiff, Nat.reduceAdd, Nat.reduceEqDiff, Int.reduceToNat, Int.toNat_natCast, iB0, iB1, ru_klI, ru_klR, ru_klF, ru_klJ, ru_kl0, ru_cs0, ru_csI, ru_csR, ru_csF, ru_csJ, wI_add, wI_sub, wI_mul, wI_lt, wI_le, wI_inj, ru_fdE, ru_fdN, ru_iaN, ru_baN, ru_laN, ru_qaN, ru_pfN, ru_isN, ru_bsN, ru_jsN, ru_qsN, ru_set2, Nat.add_right_cancel_iff, if_true, if_false, ite_self, Int.reduceEq, and_self, Int.add_neg_cancel_right, Int.add_zero, Int.zero_add, md_e, p122, hm, c, fnF]
  | succ d ih =>
    intro k hk
    have ih1 := ih (k + 1) (by omega)
    simp only [Int.natCast_add, Int.natCast_one] at ih1
    have c : ((m : Int) ≤ (k : Int)) = False := eq_false (by omega)
    have hs := p124 (z := z) (h := h) (M := M) (f := f) (k := k) hf (by omega) hr
    rw [e134_2, fnF]
    by_cases e1 : shw (mph M f) k = true
    · have hE := p135 (z := z) (h := h) (M := M) hf (show k < 12 by omega) hr (by rw [shS_of (by omega)]; exact e1)
      have hle := cnB_le (fun o => shS (mph M f) o && decide (kyO (shX (mph M f)) (shY (mph M f)) o < kyO (shX (mph M f)) (shY (mph M f)) k)) 12
      change rkN (shS (mph M f)) (kyO (shX (mph M f)) (shY (mph M f))) k ≤ 12 at hle
      by_cases e2 : rkN (shS (mph M f)) (kyO (shX (mph M f)) (shY (mph M f))) k = j
      · have d2 : (((rkN (shS (mph M f)) (kyO (shX (mph M f)) (shY (mph M f))) k : Nat) : Int) = (j : Int)) = True := eq_true (by omega)
        simp (disch := omega) only [e134_0, e134_1, e134_3, e134_4, e134_5, e134_8, e134_11, e134_12, e134_13, e134_14, e134_17, e134_20, e134_21, e134_22, e134_23, e134_26, e134_27, e134_30, e134_31, e134_32, e134_35, e134_38, e134_39, ↓reduceIte, Bool.false_eq_true, not_false_eq_true, not_true_eq_false, Nat.reduceLeDiff, Nat.reduceAdd, Nat.reduceEqDiff, Int.reduceToNat, Int.toNat_natCast, iB0, iB1, ru_klI, ru_klR, ru_klF, ru_klJ, ru_kl0, ru_cs0, ru_csI, ru_csR, ru_csF, ru_csJ, wI_add, wI_sub, wI_mul, wI_lt, wI_le, wI_inj, ru_fdE, ru_fdN, ru_iaN, ru_baN, ru_laN, ru_qaN, ru_pfN, ru_isN, ru_bsN, ru_jsN, ru_qsN, ru_set2, Nat.add_right_cancel_iff, if_true, if_false, ite_self, Int.reduceEq, and_self, Int.add_neg_cancel_right, Int.add_zero, Int.zero_add, md_e, p122, hm, c, hs, e1, hE, d2, e2, wI_b0, not_true, not_false_iff, decide_true, Bool.and_self]
      · have d2 : (((rkN (shS (mph M f)) (kyO (shX (mph M f)) (shY (mph M f))) k : Nat) : Int) = (j : Int)) = False := eq_false (by omega)
        simp (disch := omega) only [e134_0, e134_1, e134_3, e134_4, e134_5, e134_8, e134_11, e134_12, e134_13, e134_14, e134_17, e134_20, e134_21, e134_22, e134_23, e134_26, e134_27, e134_30, e134_31, e134_32, e134_35, e134_38, e134_39, ↓reduceIte, Bool.false_eq_true, not_false_eq_true, not_true_eq_false, Nat.reduceLeDiff, Nat.reduceAdd, Nat.reduceEqDiff, Int.reduceToNat, Int.toNat_natCast, iB0, iB1, ru_klI, ru_klR, ru_klF, ru_klJ, ru_kl0, ru_cs0, ru_csI, ru_csR, ru_csF, ru_csJ, wI_add, wI_sub, wI_mul, wI_lt, wI_le, wI_inj, ru_fdE, ru_fdN, ru_iaN, ru_baN, ru_laN, ru_qaN, ru_pfN, ru_isN, ru_bsN, ru_jsN, ru_qsN, ru_set2, Nat.add_right_cancel_iff, if_true, if_false, ite_self, Int.reduceEq, and_self, Int.add_neg_cancel_right, Int.add_zero, Int.zero_add, md_e, p122, hm, c, hs, e1, hE, d2, e2, wI_b0, not_true, not_false_iff, decide_false, Bool.and_false, ih1]
    · simp (disch := omega) only [e134_0, e134_1, e134_3, e134_4, e134_5, e134_8, e134_11, e134_12, e134_13, e134_14, e134_17, e134_20, e134_21, e134_22, e134_23, e134_26, e134_27, e134_30, e134_31, e134_32, e134_35, e134_38, e134_39, ↓reduceIte, Bool.false_eq_true, not_false_eq_true, not_true_eq_false, Nat.reduceLeDiff, Nat.reduceAdd, Nat.reduceEqDiff, Int.reduceToNat, Int.toNat_natCast, iB0, iB1, ru_klI, ru_klR, ru_klF, ru_klJ, ru_kl0, ru_cs0, ru_csI, ru_csR, ru_csF, ru_csJ, wI_add, wI_sub, wI_mul, wI_lt, wI_le, wI_inj, ru_fdE, ru_fdN, ru_iaN, ru_baN, ru_laN, ru_qaN, ru_pfN, ru_isN, ru_bsN, ru_jsN, ru_qsN, ru_set2, Nat.add_right_cancel_iff, if_true, if_false, ite_self, Int.reduceEq, and_self, Int.add_neg_cancel_right, Int.add_zero, Int.zero_add, md_e, p122, hm, c, hs, e1, wI_b0, not_false_iff, Bool.false_and, ih1]
theorem p134 (hf : f < 5) (hr : phR (mph M f)) {m j : Nat} (hm : (mph M f).1 7 = (m : Int)) (hj : j < 12) : ru_ev z 134 [.ref 1315, .int (wI f), .int (wI j)] (mdPut h M) = some (.inl (some (.int (wI (fnF (fun k => shw (mph M f) k && decide (rkN (shS (mph M f)) (kyO (shX (mph M f)) (shY (mph M f))) k = j)) m 0)))), mdPut h M) := by
  have key := p134l (z := z) (h := h) (M := M) hf hr hm hj m 0 (by omega)
  rw [show ((0 : Nat) : Int) = 0 from rfl] at key
  simp (disch := omega) only [en134, e134_0, e134_1, ↓reduceIte, Bool.false_eq_true, not_false_eq_true, not_true_eq_false, Nat.reduceLeDiff, Nat.reduceAdd, Nat.reduceEqDiff, Int.reduceToNat, Int.toNat_natCast, iB0, iB1, ru_klI, ru_klR, ru_klF, ru_klJ, ru_kl0, ru_cs0, ru_csI, ru_csR, ru_csF, ru_csJ, wI_add, wI_sub, wI_mul, wI_lt, wI_le, wI_inj, ru_fdE, ru_fdN, ru_iaN, ru_baN, ru_laN, ru_qaN, ru_pfN, ru_isN, ru_bsN, ru_jsN, ru_qsN, ru_set2, Nat.add_right_cancel_iff, if_true, if_false, ite_self, Int.reduceEq, and_self, Int.add_neg_cancel_right, Int.add_zero, Int.zero_add, md_e, key]
/-- the reference's refusal of a row -/
def rpM (M : tMd) (f : Int) (T : Int → (Nat → Int) → (Nat → Int) → (Nat → Int) → Int → Int → Prop) (b : Int) (M' : tMd) : Prop := (¬ rfP M f = 0 ∧ M' = mdT M (rfP M f)) ∨ (rfP M f = 0 ∧ ∃ rc R L Q t, M' = mdT (mdQ M rc R L Q) t ∧ lrOK M f.toNat rc R L Q ∧ T rc R L Q t b)
theorem lrOK_T {M : tMd} {f : Nat} {rc t : Int} {R L Q : Nat → Int} : lrOK (mdT M t) f rc R L Q = lrOK M f rc R L Q := rfl
theorem mdQ_T (M : tMd) (t rc : Int) (R L Q : Nat → Int) : mdQ (mdT M t) rc R L Q = mdT (mdQ M rc R L Q) t := by
  unfold mdQ mdT
  refine Prod.ext (funext fun k => ?_) rfl
  show up1 (up1 M.1 0 t) 34 rc k = up1 (up1 M.1 34 rc) 0 t k
  unfold up1
  by_cases e1 : k = 34
  · subst e1; rfl
  · rw [if_neg e1]
    by_cases e2 : k = 0
    · rw [if_pos e2, if_pos e2]
    · rw [if_neg e2, if_neg e2, if_neg e1]
theorem p188 (hM : mdR M) {f : Int} (g : -2147483648 ≤ f ∧ f < 2147483648) : ∃ b M', ru_ev z 188 [.ref 1315, .int (wI f)] (mdPut h M) = some (.inl (some (.int (wI b))), mdPut h M') ∧ rpM M f (fun rc R L Q t b => t = 0 ∧ b = rc) b M' := by
  have e := p117 (z := z) (h := h) hM g
  by_cases e1 : rfP M f = 0
  · obtain ⟨n, hn, rfl, hq⟩ := mph_at hM e1
    obtain ⟨rc, R, L, Q, q1, q2⟩ := p120 (z := z) (h := h) (M := mdT M 0) (f := n) hn hq hM.2.2.2.2.2.1
    rw [lrOK_T] at q1
    rw [mdQ_T] at q2
    refine ⟨rc, mdT (mdQ M rc R L Q) 0, ?_, Or.inr ⟨e1, rc, R, L, Q, 0, rfl, q1, rfl, rfl⟩⟩
    have ef : am_fd (mdPut h (mdT (mdQ M rc R L Q) 0)) 1315 10 34 = some (.int (wI rc)) := md_f34
    simp only [e1, if_true] at e
    simp (disch := omega) only [en188, e188_0, e188_1, e188_2, e188_5, e188_8, e188_9, e188_10, e188_11, e188_12, e188_15, e188_16, e188_19, ↓reduceIte, Bool.false_eq_true, not_false_eq_true, not_true_eq_false, Nat.reduceLeDiff, Nat.reduceAdd, Nat.reduceEqDiff, Int.reduceToNat, Int.toNat_natCast, iB0, iB1, ru_klI, ru_klR, ru_klF, ru_klJ, ru_kl0, ru_cs0, ru_csI, ru_csR, ru_csF, ru_csJ, wI_add, wI_sub, wI_mul, wI_lt, wI_le, wI_inj, ru_fdE, ru_fdN, ru_iaN, ru_baN, ru_laN, ru_qaN, ru_pfN, ru_isN, ru_bsN, ru_jsN, ru_qsN, ru_set2, Nat.add_right_cancel_iff, if_true, if_false, ite_self, Int.reduceEq, and_self, Int.add_neg_cancel_right, Int.add_zero, Int.zero_add, md_e, e, q2, ef]
  · refine ⟨0, mdT M (rfP M f), ?_, Or.inl ⟨e1, rfl⟩⟩
    simp only [e1, if_false] at e
    simp (disch := omega) only [en188, e188_0, e188_1, e188_2, e188_5, e188_8, e188_9, e188_10, e188_11, e188_12, e188_15, e188_16, e188_19, ↓reduceIte, Bool.false_eq_true, not_false_eq_true, not_true_eq_false, Nat.reduceLeDiff, Nat.reduceAdd, Nat.reduceEqDiff, Int.reduceToNat, Int.toNat_natCast, iB0, iB1, ru_klI, ru_klR, ru_klF, ru_klJ, ru_kl0, ru_cs0, ru_csI, ru_csR, ru_csF, ru_csJ, wI_add, wI_sub, wI_mul, wI_lt, wI_le, wI_inj, ru_fdE, ru_fdN, ru_iaN, ru_baN, ru_laN, ru_qaN, ru_pfN, ru_isN, ru_bsN, ru_jsN, ru_qsN, ru_set2, Nat.add_right_cancel_iff, if_true, if_false, ite_self, Int.reduceEq, and_self, Int.add_neg_cancel_right, Int.add_zero, Int.zero_add, md_e, e, Int.reduceEq]
theorem p193 (hM : mdR M) {f r : Int} (g : -2147483648 ≤ f ∧ f < 2147483648) (g2 : -2147483648 ≤ r ∧ r < 2147483648) (e1 : rfP M f = 0) : ∃ rc R L Q, lrOK M f.toNat rc R L Q ∧ (0 ≤ rc ∧ rc ≤ 12) ∧ ru_ev z 193 [.ref 1315, .int (wI f), .int (wI r)] (mdPut h M) = some (.inl (some (.int (wI (if 0 ≤ r ∧ r ≤ rc - 1 then 0 else 1)))), mdPut h (mdT (mdQ M rc R L Q) (if 0 ≤ r ∧ r ≤ rc - 1 then 0 else 2))) := by
  have e := p117 (z := z) (h := h) hM g
  obtain ⟨n, hn, rfl, hq⟩ := mph_at hM e1
  obtain ⟨rc, R, L, Q, q1, q2⟩ := p120 (z := z) (h := h) (M := mdT M 0) (f := n) hn hq hM.2.2.2.2.2.1
  rw [lrOK_T] at q1
  rw [mdQ_T] at q2
  have hrc := rwOK_rc q1.1
  refine ⟨rc, R, L, Q, q1, by omega, ?_⟩
  have ef : am_fd (mdPut h (mdT (mdQ M rc R L Q) 0)) 1315 10 34 = some (.int (wI rc)) := md_f34
  simp only [e1, if_true] at e
  simp (disch := omega) only [en193, e193_0, e193_1, e193_2, e193_5, e193_8, e193_9, e193_10, e193_11, e193_12, e193_15, e193_16, e193_17, e193_18, e193_19, e193_22, e193_23, e193_24, e193_27, e193_30, e193_31, e193_34, e193_35, e193_36, e193_39, ↓reduceIte, Bool.false_eq_true, not_false_eq_true, not_true_eq_false, Nat.reduceLeDiff, Nat.reduceAdd, Nat.reduceEqDiff, Int.reduceToNat, Int.toNat_natCast, iB0, iB1, ru_klI, ru_klR, ru_klF, ru_klJ, ru_kl0, ru_cs0, ru_csI, ru_csR, ru_csF, ru_csJ, wI_add, wI_sub, wI_mul, wI_lt, wI_le, wI_inj, ru_fdE, ru_fdN, ru_iaN, ru_baN, ru_laN, ru_qaN, ru_pfN, ru_isN, ru_bsN, ru_jsN, ru_qsN, ru_set2, Nat.add_right_cancel_iff, if_true, if_false, ite_self, Int.reduceEq, and_self, Int.add_neg_cancel_right, Int.add_zero, Int.zero_add, md_e, e, q2, ef, m53, p54, wI_and1, not_true, not_false_iff, Int.reduceEq]
  by_cases e2 : 0 ≤ r ∧ r ≤ rc - 1 <;> simp (disch := omega) only [e2, if_true, if_false, not_true, not_false_iff, Int.reduceEq, ↓reduceIte, Bool.false_eq_true, not_false_eq_true, not_true_eq_false, Nat.reduceLeDiff, Nat.reduceAdd, Nat.reduceEqDiff, Int.reduceToNat, Int.toNat_natCast, iB0, iB1, ru_klI, ru_klR, ru_klF, ru_klJ, ru_kl0, ru_cs0, ru_csI, ru_csR, ru_csF, ru_csJ, wI_add, wI_sub, wI_mul, wI_lt, wI_le, wI_inj, ru_fdE, ru_fdN, ru_iaN, ru_baN, ru_laN, ru_qaN, ru_pfN, ru_isN, ru_bsN, ru_jsN, ru_qsN, ru_set2, Nat.add_right_cancel_iff, if_true, if_false, ite_self, Int.reduceEq, and_self, Int.add_neg_cancel_right, Int.add_zero, Int.zero_add, p54, wI_and1, and_self]
theorem p193x (hM : mdR M) {f r : Int} (g : -2147483648 ≤ f ∧ f < 2147483648) (e1 : ¬ rfP M f = 0) : ru_ev z 193 [.ref 1315, .int (wI f), .int (wI r)] (mdPut h M) = some (.inl (some (.int (wI 1))), mdPut h (mdT M (rfP M f))) := by
  have e := p117 (z := z) (h := h) hM g
  simp only [e1, if_false] at e
  simp (disch := omega) only [en193, e193_0, e193_1, e193_2, e193_5, e193_8, e193_9, e193_10, e193_11, e193_12, e193_15, e193_16, e193_17, e193_18, e193_19, e193_22, e193_23, e193_24, e193_27, e193_30, e193_31, e193_34, e193_35, e193_36, e193_39, ↓reduceIte, Bool.false_eq_true, not_false_eq_true, not_true_eq_false, Nat.reduceLeDiff, Nat.reduceAdd, Nat.reduceEqDiff, Int.reduceToNat, Int.toNat_natCast, iB0, iB1, ru_klI, ru_klR, ru_klF, ru_klJ, ru_kl0, ru_cs0, ru_csI, ru_csR, ru_csF, ru_csJ, wI_add, wI_sub, wI_mul, wI_lt, wI_le, wI_inj, ru_fdE, ru_fdN, ru_iaN, ru_baN, ru_laN, ru_qaN, ru_pfN, ru_isN, ru_bsN, ru_jsN, ru_qsN, ru_set2, Nat.add_right_cancel_iff, if_true, if_false, ite_self, Int.reduceEq, and_self, Int.add_neg_cancel_right, Int.add_zero, Int.zero_add, md_e, e, wI_and1, Int.reduceEq]
theorem p192 (hM : mdR M) {f r : Int} (g : -2147483648 ≤ f ∧ f < 2147483648) (g2 : -2147483648 ≤ r ∧ r < 2147483648) : ∃ b M', ru_ev z 192 [.ref 1315, .int (wI f), .int (wI r)] (mdPut h M) = some (.inl (some (.int (wI b))), mdPut h M') ∧ rpM M f (fun rc R L Q t b => (0 ≤ r ∧ r < rc ∧ t = 0 ∧ b = Q r.toNat) ∨ (¬ (0 ≤ r ∧ r < rc) ∧ t = 2)) b M' := by
  by_cases e1 : rfP M f = 0
  · obtain ⟨rc, R, L, Q, q1, q2, q3⟩ := p193 (z := z) (h := h) hM g g2 e1
    by_cases c : 0 ≤ r ∧ r ≤ rc - 1
    · rw [if_pos c, if_pos c] at q3
      refine ⟨Q r.toNat, mdT (mdQ M rc R L Q) 0, ?_, Or.inr ⟨e1, rc, R, L, Q, 0, rfl, q1, Or.inl ⟨c.1, by omega, rfl, rfl⟩⟩⟩
      have ea : am_ia (mdPut h (mdT (mdQ M rc R L Q) 0)) 1329 (wI r) = some (wI (Q r.toNat)) := md_a13 (by omega) (by omega)
      simp (disch := omega) only [en192, e192_0, e192_1, e192_2, e192_3, e192_6, e192_9, e192_10, e192_13, e192_14, e192_17, e192_18, e192_19, ↓reduceIte, Bool.false_eq_true, not_false_eq_true, not_true_eq_false, Nat.reduceLeDiff, Nat.reduceAdd, Nat.reduceEqDiff, Int.reduceToNat, Int.toNat_natCast, iB0, iB1, ru_klI, ru_klR, ru_klF, ru_klJ, ru_kl0, ru_cs0, ru_csI, ru_csR, ru_csF, ru_csJ, wI_add, wI_sub, wI_mul, wI_lt, wI_le, wI_inj, ru_fdE, ru_fdN, ru_iaN, ru_baN, ru_laN, ru_qaN, ru_pfN, ru_isN, ru_bsN, ru_jsN, ru_qsN, ru_set2, Nat.add_right_cancel_iff, if_true, if_false, ite_self, Int.reduceEq, and_self, Int.add_neg_cancel_right, Int.add_zero, Int.zero_add, md_e, q3, md_f33, ea]
    · rw [if_neg c, if_neg c] at q3
      refine ⟨0, mdT (mdQ M rc R L Q) 2, ?_, Or.inr ⟨e1, rc, R, L, Q, 2, rfl, q1, Or.inr ⟨by omega, rfl⟩⟩⟩
      simp (disch := omega) only [en192, e192_0, e192_1, e192_2, e192_3, e192_6, e192_9, e192_10, e192_13, e192_14, e192_17, e192_18, e192_19, ↓reduceIte, Bool.false_eq_true, not_false_eq_true, not_true_eq_false, Nat.reduceLeDiff, Nat.reduceAdd, Nat.reduceEqDiff, Int.reduceToNat, Int.toNat_natCast, iB0, iB1, ru_klI, ru_klR, ru_klF, ru_klJ, ru_kl0, ru_cs0, ru_csI, ru_csR, ru_csF, ru_csJ, wI_add, wI_sub, wI_mul, wI_lt, wI_le, wI_inj, ru_fdE, ru_fdN, ru_iaN, ru_baN, ru_laN, ru_qaN, ru_pfN, ru_isN, ru_bsN, ru_jsN, ru_qsN, ru_set2, Nat.add_right_cancel_iff, if_true, if_false, ite_self, Int.reduceEq, and_self, Int.add_neg_cancel_right, Int.add_zero, Int.zero_add, md_e, q3, Int.reduceEq]
  · refine ⟨0, mdT M (rfP M f), ?_, Or.inl ⟨e1, rfl⟩⟩
    simp (disch := omega) only [en192, e192_0, e192_1, e192_2, e192_3, e192_6, e192_9, e192_10, e192_13, e192_14, e192_17, e192_18, e192_19, ↓reduceIte, Bool.false_eq_true, not_false_eq_true, not_true_eq_false, Nat.reduceLeDiff, Nat.reduceAdd, Nat.reduceEqDiff, Int.reduceToNat, Int.toNat_natCast, iB0, iB1, ru_klI, ru_klR, ru_klF, ru_klJ, ru_kl0, ru_cs0, ru_csI, ru_csR, ru_csF, ru_csJ, wI_add, wI_sub, wI_mul, wI_lt, wI_le, wI_inj, ru_fdE, ru_fdN, ru_iaN, ru_baN, ru_laN, ru_qaN, ru_pfN, ru_isN, ru_bsN, ru_jsN, ru_qsN, ru_set2, Nat.add_right_cancel_iff, if_true, if_false, ite_self, Int.reduceEq, and_self, Int.add_neg_cancel_right, Int.add_zero, Int.zero_add, md_e, p193x hM g e1, Int.reduceEq]
end MROW
