/-! ===== the class's sort of a picture's keys ===== -/
theorem shG_i (g : Nat → Int) (i : Nat) : shG g i i = g := by
  funext j; unfold shG; rw [if_neg (by omega)]
theorem shG_up {g : Nat → Int} {i r : Nat} (hr : r ≤ i) : up1 (shG g i r) r (g i) = insG g i r := by
  funext j
  unfold up1 shG insG
  by_cases e : j = r
  · subst e; rw [if_pos rfl, if_neg (by omega), if_pos rfl]
  · rw [if_neg e]
    by_cases e2 : j < r
    · rw [if_pos e2, if_neg (by omega)]
    · rw [if_neg e2, if_neg e]
      by_cases e3 : j ≤ i
      · rw [if_pos e3, if_pos (by omega)]
      · rw [if_neg e3, if_neg (by omega)]
theorem shG_dn {g : Nat → Int} {i r : Nat} (hr : r + 1 ≤ i) : up1 (shG g i (r + 1)) (r + 1) (g r) = shG g i r := by
  funext j
  unfold up1 shG
  by_cases e : j = r + 1
  · subst e; rw [if_pos rfl, if_pos (by omega), Nat.add_sub_cancel]
  · rw [if_neg e]
    by_cases e2 : r < j ∧ j ≤ i
    · rw [if_pos e2, if_pos (by omega)]
    · rw [if_neg e2, if_neg (by omega)]
section SRT
variable {z : Bool} {h : am_H} {C : tCl} {P : Nat}
theorem k86i (hP : isPi P) {p : tPi} {g : Nat → Int} {i : Nat} (hi : i < 12) (hg : ∀ j, j ≤ i → 0 ≤ g j ∧ g j < 2147483648) : ∀ r, r ≤ i → (∀ j, r ≤ j → j < i → g i < g j) → ∃ r', r' ≤ i ∧ (r' = 0 ∨ g (r' - 1) ≤ g i) ∧ (∀ j, r' ≤ j → j < i → g i < g j) ∧
    ru_n z 86 19 [some (.ref P), some (.int (wI i)), some (.int (wI (g i))), some (.int (wI r))] [] (clPut h (piPut C P (p.1, upC p.2 7 (shG g i r)))) = ru_n z 86 62 [some (.ref P), some (.int (wI i)), some (.int (wI (g i))), some (.int (wI r'))] [] (clPut h (piPut C P (p.1, upC p.2 7 (insG g i r')))) := by
  intro r
  induction r with
  | zero =>
    intro h1 h2
    refine ⟨0, by omega, Or.inl rfl, h2, ?_⟩
    have e0 := shG_up (g := g) h1
    simp (disch := omega) only [e86_19, e86_20, e86_23, e86_24, e86_27, e86_28, e86_29, e86_30, e86_31, e86_32, e86_35, e86_36, e86_39, e86_40, e86_41, e86_44, e86_45, e86_46, e86_47, e86_48, e86_49, e86_52, e86_55, e86_56, e86_59, e86_60, e86_61, ↓reduceIte, Bool.false_eq_true, not_false_eq_true, not_true_eq_false, Nat.reduceLeDiff, Nat.reduceAdd, Nat.reduceEqDiff, Int.reduceToNat, Int.toNat_natCast, iB0, iB1, ru_klI, ru_klR, ru_klF, ru_klJ, ru_kl0, ru_cs0, ru_csI, ru_csR, ru_csF, ru_csJ, wI_add, wI_sub, wI_mul, wI_lt, wI_le, wI_inj, ru_fdE, ru_fdN, ru_iaN, ru_baN, ru_laN, ru_qaN, ru_pfN, ru_isN, ru_bsN, ru_jsN, ru_qsN, ru_set2, Nat.add_right_cancel_iff, if_true, if_false, ite_self, pi_e hP, pi_f0 hP, pi_s0 hP, pi_f1 hP, pi_s1 hP, pi_f2 hP, pi_a0 hP, pi_w0 hP, pi_f3 hP, pi_a1 hP, pi_w1 hP, pi_f4 hP, pi_a2 hP, pi_w2 hP, pi_f5 hP, pi_a3 hP, pi_w3 hP, pi_f6 hP, pi_a4 hP, pi_w4 hP, pi_f7 hP, pi_a5 hP, pi_w5 hP, pi_f8 hP, pi_a6 hP, pi_w6 hP, pi_f9 hP, pi_a7 hP, pi_w7 hP, pi_f10 hP, pi_a8 hP, pi_w8 hP, pi_f11 hP, pi_a9 hP, pi_w9 hP, upC_e, upC_n, upC_up, up1_e, up1_n, Int.natCast_zero, Int.toNat_zero, Int.le_refl, e0]
  | succ r ih =>
    intro h1 h2
    have hgi := hg i (Nat.le_refl _)
    have hgr := hg r (by omega)
    have e1 : shG g i (r + 1) r = g r := by unfold shG; rw [if_neg (by omega)]
    have e2 : (((r : Nat) : Int) + 1).toNat = r + 1 := by omega
    have c1 : (((r : Nat) : Int) + 1 ≤ 0) = False := eq_false (by omega)
    by_cases hle : g r ≤ g i
    · refine ⟨r + 1, by omega, Or.inr hle, h2, ?_⟩
      have e0 := shG_up (g := g) h1
      have c : (g r ≤ g i) = True := eq_true hle
      simp (disch := omega) only [e86_19, e86_20, e86_23, e86_24, e86_27, e86_28, e86_29, e86_30, e86_31, e86_32, e86_35, e86_36, e86_39, e86_40, e86_41, e86_44, e86_45, e86_46, e86_47, e86_48, e86_49, e86_52, e86_55, e86_56, e86_59, e86_60, e86_61, ↓reduceIte, Bool.false_eq_true, not_false_eq_true, not_true_eq_false, Nat.reduceLeDiff, Nat.reduceAdd, Nat.reduceEqDiff, Int.reduceToNat, Int.toNat_natCast, iB0, iB1, ru_klI, ru_klR, ru_klF, ru_klJ, ru_kl0, ru_cs0, ru_csI, ru_csR, ru_csF, ru_csJ, wI_add, wI_sub, wI_mul, wI_lt, wI_le, wI_inj, ru_fdE, ru_fdN, ru_iaN, ru_baN, ru_laN, ru_qaN, ru_pfN, ru_isN, ru_bsN, ru_jsN, ru_qsN, ru_set2, Nat.add_right_cancel_iff, if_true, if_false, ite_self, pi_e hP, pi_f0 hP, pi_s0 hP, pi_f1 hP, pi_s1 hP, pi_f2 hP, pi_a0 hP, pi_w0 hP, pi_f3 hP, pi_a1 hP, pi_w1 hP, pi_f4 hP, pi_a2 hP, pi_w2 hP, pi_f5 hP, pi_a3 hP, pi_w3 hP, pi_f6 hP, pi_a4 hP, pi_w4 hP, pi_f7 hP, pi_a5 hP, pi_w5 hP, pi_f8 hP, pi_a6 hP, pi_w6 hP, pi_f9 hP, pi_a7 hP, pi_w7 hP, pi_f10 hP, pi_a8 hP, pi_w8 hP, pi_f11 hP, pi_a9 hP, pi_w9 hP, upC_e, upC_n, upC_up, up1_e, up1_n, Int.natCast_add, Int.natCast_one, c1, Int.add_sub_cancel, e1, c, e2, e0]
    · obtain ⟨r', k1, k2, k3, k4⟩ := ih (by omega) (fun j hj hji => by
        by_cases e : j = r
        · subst e; omega
        · exact h2 j (by omega) hji)
      refine ⟨r', k1, k2, k3, ?_⟩
      rw [← k4]
      have e0 := shG_dn (g := g) h1
      have c : (g r ≤ g i) = False := eq_false hle
      rw [e86_19]
      simp (disch := omega) only [e86_20, e86_23, e86_24, e86_27, e86_28, e86_29, e86_30, e86_31, e86_32, e86_35, e86_36, e86_39, e86_40, e86_41, e86_44, e86_45, e86_46, e86_47, e86_48, e86_49, e86_52, e86_55, e86_56, e86_59, e86_60, e86_61, ↓reduceIte, Bool.false_eq_true, not_false_eq_true, not_true_eq_false, Nat.reduceLeDiff, Nat.reduceAdd, Nat.reduceEqDiff, Int.reduceToNat, Int.toNat_natCast, iB0, iB1, ru_klI, ru_klR, ru_klF, ru_klJ, ru_kl0, ru_cs0, ru_csI, ru_csR, ru_csF, ru_csJ, wI_add, wI_sub, wI_mul, wI_lt, wI_le, wI_inj, ru_fdE, ru_fdN, ru_iaN, ru_baN, ru_laN, ru_qaN, ru_pfN, ru_isN, ru_bsN, ru_jsN, ru_qsN, ru_set2, Nat.add_right_cancel_iff, if_true, if_false, ite_self, pi_e hP, pi_f0 hP, pi_s0 hP, pi_f1 hP, pi_s1 hP, pi_f2 hP, pi_a0 hP, pi_w0 hP, pi_f3 hP, pi_a1 hP, pi_w1 hP, pi_f4 hP, pi_a2 hP, pi_w2 hP, pi_f5 hP, pi_a3 hP, pi_w3 hP, pi_f6 hP, pi_a4 hP, pi_w4 hP, pi_f7 hP, pi_a5 hP, pi_w5 hP, pi_f8 hP, pi_a6 hP, pi_w6 hP, pi_f9 hP, pi_a7 hP, pi_w7 hP, pi_f10 hP, pi_a8 hP, pi_w8 hP, pi_f11 hP, pi_a9 hP, pi_w9 hP, upC_e, upC_n, upC_up, up1_e, up1_n, Int.natCast_add, Int.natCast_one, c1, Int.add_sub_cancel, Int.add_neg_cancel_right, e1, c, e2, e0]
theorem k86l (hP : isPi P) {p : tPi} {f : Nat → Int} {n : Nat} (hn : n ≤ 12) (h0 : p.1 0 = (n : Int)) (hf : ∀ j, j < n → 0 ≤ f j ∧ f j < 2147483648) (hj : ∀ a b, a < n → b < n → f a = f b → a = b) : ∀ d i, i + d = n → ∀ (g : Nat → Int) (l2 l3 : Option Value), srtB f g i → (∀ j, i ≤ j → g j = f j) → ∃ g', srtB f g' n ∧
    ru_n z 86 2 [some (.ref P), some (.int (wI i)), l2, l3] [] (clPut h (piPut C P (p.1, upC p.2 7 g))) = some (.inl none, clPut h (piPut C P (p.1, upC p.2 7 g'))) := by
  intro d
  induction d with
  | zero =>
    intro i hi g l2 l3 hs hg
    obtain rfl : i = n := by omega
    refine ⟨g, hs, ?_⟩
    have c : ((i : Int) ≤ (i : Int)) = True := eq_true (Int.le_refl _)
    simp (disch := omega) only [e86_2, e86_3, e86_4, e86_7, e86_68, ↓reduceIte, Bool.false_eq_true, not_false_eq_true, not_true_eq_false, Nat.reduceLeDiff, Nat.reduceAdd, Nat.reduceEqDiff, Int.reduceToNat, Int.toNat_natCast, iB0, iB1, ru_klI, ru_klR, ru_klF, ru_klJ, ru_kl0, ru_cs0, ru_csI, ru_csR, ru_csF, ru_csJ, wI_add, wI_sub, wI_mul, wI_lt, wI_le, wI_inj, ru_fdE, ru_fdN, ru_iaN, ru_baN, ru_laN, ru_qaN, ru_pfN, ru_isN, ru_bsN, ru_jsN, ru_qsN, ru_set2, Nat.add_right_cancel_iff, if_true, if_false, ite_self, pi_e hP, pi_f0 hP, pi_s0 hP, pi_f1 hP, pi_s1 hP, pi_f2 hP, pi_a0 hP, pi_w0 hP, pi_f3 hP, pi_a1 hP, pi_w1 hP, pi_f4 hP, pi_a2 hP, pi_w2 hP, pi_f5 hP, pi_a3 hP, pi_w3 hP, pi_f6 hP, pi_a4 hP, pi_w4 hP, pi_f7 hP, pi_a5 hP, pi_w5 hP, pi_f8 hP, pi_a6 hP, pi_w6 hP, pi_f9 hP, pi_a7 hP, pi_w7 hP, pi_f10 hP, pi_a8 hP, pi_w8 hP, pi_f11 hP, pi_a9 hP, pi_w9 hP, upC_e, upC_n, upC_up, up1_e, up1_n, h0, c]
  | succ d ih =>
    intro i hi g l2 l3 hs hg
    have hr : ∀ j, j ≤ i → 0 ≤ g j ∧ g j < 2147483648 := by
      intro j hji
      by_cases e : j = i
      · subst e; rw [hg j (Nat.le_refl _)]; exact hf j (by omega)
      · obtain ⟨k, hk, e2⟩ := hs.2.1 j (by omega)
        rw [e2]; exact hf k (by omega)
    obtain ⟨r, k1, k2, k3, k4⟩ := k86i (z := z) (h := h) (C := C) hP (p := p) (g := g) (i := i) (by omega) hr i (Nat.le_refl _) (fun j h1 h2 => by omega)
    obtain ⟨s1, s2⟩ := ins_step hs hg (show i < n by omega) k1 k2 k3 hj
    obtain ⟨g', t1, t2⟩ := ih (i + 1) (by omega) (insG g i r) (some (.int (wI (g i)))) (some (.int (wI r))) s1 s2
    refine ⟨g', t1, ?_⟩
    rw [← t2]
    rw [shG_i] at k4
    have c : ((n : Int) ≤ (i : Int)) = False := eq_false (by omega)
    rw [e86_2]
    simp (disch := omega) only [e86_3, e86_4, e86_7, e86_10, e86_11, e86_14, e86_15, e86_16, e86_17, e86_18, ↓reduceIte, Bool.false_eq_true, not_false_eq_true, not_true_eq_false, Nat.reduceLeDiff, Nat.reduceAdd, Nat.reduceEqDiff, Int.reduceToNat, Int.toNat_natCast, iB0, iB1, ru_klI, ru_klR, ru_klF, ru_klJ, ru_kl0, ru_cs0, ru_csI, ru_csR, ru_csF, ru_csJ, wI_add, wI_sub, wI_mul, wI_lt, wI_le, wI_inj, ru_fdE, ru_fdN, ru_iaN, ru_baN, ru_laN, ru_qaN, ru_pfN, ru_isN, ru_bsN, ru_jsN, ru_qsN, ru_set2, Nat.add_right_cancel_iff, if_true, if_false, ite_self, pi_e hP, pi_f0 hP, pi_s0 hP, pi_f1 hP, pi_s1 hP, pi_f2 hP, pi_a0 hP, pi_w0 hP, pi_f3 hP, pi_a1 hP, pi_w1 hP, pi_f4 hP, pi_a2 hP, pi_w2 hP, pi_f5 hP, pi_a3 hP, pi_w3 hP, pi_f6 hP, pi_a4 hP, pi_w4 hP, pi_f7 hP, pi_a5 hP, pi_w5 hP, pi_f8 hP, pi_a6 hP, pi_w6 hP, pi_f9 hP, pi_a7 hP, pi_w7 hP, pi_f10 hP, pi_a8 hP, pi_w8 hP, pi_f11 hP, pi_a9 hP, pi_w9 hP, upC_e, upC_n, upC_up, up1_e, up1_n, h0, c, k4]
    simp (disch := omega) only [e86_62, e86_65, ↓reduceIte, Bool.false_eq_true, not_false_eq_true, not_true_eq_false, Nat.reduceLeDiff, Nat.reduceAdd, Nat.reduceEqDiff, Int.reduceToNat, Int.toNat_natCast, iB0, iB1, ru_klI, ru_klR, ru_klF, ru_klJ, ru_kl0, ru_cs0, ru_csI, ru_csR, ru_csF, ru_csJ, wI_add, wI_sub, wI_mul, wI_lt, wI_le, wI_inj, ru_fdE, ru_fdN, ru_iaN, ru_baN, ru_laN, ru_qaN, ru_pfN, ru_isN, ru_bsN, ru_jsN, ru_qsN, ru_set2, Nat.add_right_cancel_iff, if_true, if_false, ite_self, Int.natCast_add, Int.natCast_one]
theorem k86 (hP : isPi P) {p : tPi} {n : Nat} (hn : n ≤ 12) (h0 : p.1 0 = (n : Int)) (hf : ∀ j, j < n → 0 ≤ p.2 7 j ∧ p.2 7 j < 2147483648) (hj : ∀ a b, a < n → b < n → p.2 7 a = p.2 7 b → a = b) : ∃ g, srtB (p.2 7) g n ∧
    ru_ev z 86 [.ref P] (clPut h (piPut C P p)) = some (.inl none, clPut h (piPut C P (p.1, upC p.2 7 g))) := by
  by_cases e : n = 0
  · subst e
    refine ⟨p.2 7, ⟨fun i j _ h => by omega, fun i h => by omega, fun i h => by omega⟩, ?_⟩
    have c : ((0 : Int) ≤ 1) = True := eq_true (by omega)
    rw [upC_self]
    simp (disch := omega) only [en86, e86_0, e86_1, e86_2, e86_3, e86_4, e86_7, e86_68, ↓reduceIte, Bool.false_eq_true, not_false_eq_true, not_true_eq_false, Nat.reduceLeDiff, Nat.reduceAdd, Nat.reduceEqDiff, Int.reduceToNat, Int.toNat_natCast, iB0, iB1, ru_klI, ru_klR, ru_klF, ru_klJ, ru_kl0, ru_cs0, ru_csI, ru_csR, ru_csF, ru_csJ, wI_add, wI_sub, wI_mul, wI_lt, wI_le, wI_inj, ru_fdE, ru_fdN, ru_iaN, ru_baN, ru_laN, ru_qaN, ru_pfN, ru_isN, ru_bsN, ru_jsN, ru_qsN, ru_set2, Nat.add_right_cancel_iff, if_true, if_false, ite_self, pi_e hP, pi_f0 hP, pi_s0 hP, pi_f1 hP, pi_s1 hP, pi_f2 hP, pi_a0 hP, pi_w0 hP, pi_f3 hP, pi_a1 hP, pi_w1 hP, pi_f4 hP, pi_a2 hP, pi_w2 hP, pi_f5 hP, pi_a3 hP, pi_w3 hP, pi_f6 hP, pi_a4 hP, pi_w4 hP, pi_f7 hP, pi_a5 hP, pi_w5 hP, pi_f8 hP, pi_a6 hP, pi_w6 hP, pi_f9 hP, pi_a7 hP, pi_w7 hP, pi_f10 hP, pi_a8 hP, pi_w8 hP, pi_f11 hP, pi_a9 hP, pi_w9 hP, upC_e, upC_n, upC_up, up1_e, up1_n, h0, Int.natCast_zero, c]
  · obtain ⟨g, h1, h2⟩ := k86l (z := z) (h := h) (C := C) hP hn h0 hf hj (n - 1) 1 (by omega) (p.2 7) none none ⟨fun i j _ h => by omega, fun i h => ⟨0, by omega, by obtain rfl : i = 0 := (by omega); rfl⟩, fun i h => ⟨0, by omega, by obtain rfl : i = 0 := (by omega); rfl⟩⟩ (fun j _ => rfl)
    refine ⟨g, h1, ?_⟩
    rw [← h2, upC_self]
    simp (disch := omega) only [en86, e86_0, e86_1, ↓reduceIte, Bool.false_eq_true, not_false_eq_true, not_true_eq_false, Nat.reduceLeDiff, Nat.reduceAdd, Nat.reduceEqDiff, Int.reduceToNat, Int.toNat_natCast, iB0, iB1, ru_klI, ru_klR, ru_klF, ru_klJ, ru_kl0, ru_cs0, ru_csI, ru_csR, ru_csF, ru_csJ, wI_add, wI_sub, wI_mul, wI_lt, wI_le, wI_inj, ru_fdE, ru_fdN, ru_iaN, ru_baN, ru_laN, ru_qaN, ru_pfN, ru_isN, ru_bsN, ru_jsN, ru_qsN, ru_set2, Nat.add_right_cancel_iff, if_true, if_false, ite_self, pi_e hP, pi_f0 hP, pi_s0 hP, pi_f1 hP, pi_s1 hP, pi_f2 hP, pi_a0 hP, pi_w0 hP, pi_f3 hP, pi_a1 hP, pi_w1 hP, pi_f4 hP, pi_a2 hP, pi_w2 hP, pi_f5 hP, pi_a3 hP, pi_w3 hP, pi_f6 hP, pi_a4 hP, pi_w4 hP, pi_f7 hP, pi_a5 hP, pi_w5 hP, pi_f8 hP, pi_a6 hP, pi_w6 hP, pi_f9 hP, pi_a7 hP, pi_w7 hP, pi_f10 hP, pi_a8 hP, pi_w8 hP, pi_f11 hP, pi_a9 hP, pi_w9 hP, upC_e, upC_n, upC_up, up1_e, up1_n, Int.natCast_one]
end SRT
