/-! ===== the class arranges a picture: rows ===== -/
def ybF (y : Nat → Int) (e : Nat → Nat) : Nat → Int
  | 0 => 0
  | i + 1 => y (e i)
theorem kyY_rng {y : Nat → Int} {k : Nat} (h : 0 ≤ y k ∧ y k ≤ 999) (hk : k < 12) : 0 ≤ kyY y k ∧ kyY y k < 12000 ∧ kyY y k % 12 = (k : Int) := by
  unfold kyY; omega
theorem kyO_rng {x y : Nat → Int} {k : Nat} (h : 0 ≤ y k ∧ y k ≤ 999) (h2 : 0 ≤ x k ∧ x k ≤ 999) (hk : k < 12) : 0 ≤ kyO x y k ∧ kyO x y k < 20000000 ∧ kyO x y k % 12 = (k : Int) := by
  unfold kyO; omega
theorem kyR_rng {row x : Nat → Int} {k : Nat} (h : 0 ≤ row k ∧ row k ≤ 12) (h2 : 0 ≤ x k ∧ x k ≤ 999) (hk : k < 12) : 0 ≤ kyR row x k ∧ kyR row x k < 20000000 ∧ kyR row x k % 12 = (k : Int) := by
  unfold kyR; omega
section ARR
variable {z : Bool} {h : am_H} {C : tCl} {P : Nat}
theorem k85a (hP : isPi P) {p : tPi} {n : Nat} {o : Nat → Nat} {y : Nat → Int} {gap : Int} (hn : n ≤ 12) (h0 : p.1 0 = (n : Int)) (ho : ∀ i, i < n → p.2 2 i = (o i : Int) ∧ o i < 12 ∧ p.2 1 (o i) = y (o i) ∧ 0 ≤ y (o i) ∧ y (o i) ≤ 999) : ∀ d i, i + d = n → ∀ (f : Nat → Int) (l3 l4 : Option Value), (∀ j, j < i → f j = kyY y (o j)) → ∃ f' : Nat → Int, (∀ j, j < n → f' j = kyY y (o j)) ∧
    ru_n z 85 2 [some (.ref P), some (.int (wI gap)), some (.int (wI i)), l3, l4] [] (clPut h (piPut C P (p.1, upC p.2 7 f))) = ru_n z 85 47 [some (.ref P), some (.int (wI gap)), some (.int (wI n)), l3, l4] [] (clPut h (piPut C P (p.1, upC p.2 7 f'))) := by
  intro d
  induction d with
  | zero =>
    intro i hi f l3 l4 hf
    obtain rfl : i = n := by omega
    refine ⟨f, hf, ?_⟩
    have c : ((i : Int) ≤ (i : Int)) = True := eq_true (Int.le_refl _)
    simp (disch := omega) only [e85_2, e85_3, e85_4, e85_7, ↓reduceIte, Bool.false_eq_true, not_false_eq_true, not_true_eq_false, Nat.reduceLeDiff, Nat.reduceAdd, Nat.reduceEqDiff, Int.reduceToNat, Int.toNat_natCast, iB0, iB1, ru_klI, ru_klR, ru_klF, ru_klJ, ru_kl0, ru_cs0, ru_csI, ru_csR, ru_csF, ru_csJ, wI_add, wI_sub, wI_mul, wI_lt, wI_le, wI_inj, ru_fdE, ru_fdN, ru_iaN, ru_baN, ru_laN, ru_qaN, ru_pfN, ru_isN, ru_bsN, ru_jsN, ru_qsN, ru_set2, Nat.add_right_cancel_iff, if_true, if_false, ite_self, pi_e hP, pi_f0 hP, pi_s0 hP, pi_f1 hP, pi_s1 hP, pi_f2 hP, pi_a0 hP, pi_w0 hP, pi_f3 hP, pi_a1 hP, pi_w1 hP, pi_f4 hP, pi_a2 hP, pi_w2 hP, pi_f5 hP, pi_a3 hP, pi_w3 hP, pi_f6 hP, pi_a4 hP, pi_w4 hP, pi_f7 hP, pi_a5 hP, pi_w5 hP, pi_f8 hP, pi_a6 hP, pi_w6 hP, pi_f9 hP, pi_a7 hP, pi_w7 hP, pi_f10 hP, pi_a8 hP, pi_w8 hP, pi_f11 hP, pi_a9 hP, pi_w9 hP, ru_ctR, ru_ctI, upC_e, upC_n, upC_up, up1_e, up1_n, h0, c]
  | succ d ih =>
    intro i hi f l3 l4 hf
    obtain ⟨o1, o2, o3, o4, o5⟩ := ho i (by omega)
    obtain ⟨f', t1, t2⟩ := ih (i + 1) (by omega) (up1 f i (kyY y (o i))) l3 l4 (fun j hj => by
      unfold up1
      by_cases e : j = i
      · subst e; rw [if_pos rfl]
      · rw [if_neg e]; exact hf j (by omega))
    refine ⟨f', t1, ?_⟩
    rw [← t2]
    have c : ((n : Int) ≤ (i : Int)) = False := eq_false (by omega)
    have ek : (999 - y (o i)) * 12 + ((o i : Nat) : Int) = kyY y (o i) := rfl
    rw [e85_2]
    simp (disch := omega) only [e85_3, e85_4, e85_7, e85_10, e85_11, e85_14, e85_15, e85_18, e85_19, e85_22, e85_23, e85_26, e85_27, e85_28, e85_29, e85_30, e85_32, e85_33, e85_34, e85_37, e85_38, e85_39, e85_40, e85_41, e85_44, ↓reduceIte, Bool.false_eq_true, not_false_eq_true, not_true_eq_false, Nat.reduceLeDiff, Nat.reduceAdd, Nat.reduceEqDiff, Int.reduceToNat, Int.toNat_natCast, iB0, iB1, ru_klI, ru_klR, ru_klF, ru_klJ, ru_kl0, ru_cs0, ru_csI, ru_csR, ru_csF, ru_csJ, wI_add, wI_sub, wI_mul, wI_lt, wI_le, wI_inj, ru_fdE, ru_fdN, ru_iaN, ru_baN, ru_laN, ru_qaN, ru_pfN, ru_isN, ru_bsN, ru_jsN, ru_qsN, ru_set2, Nat.add_right_cancel_iff, if_true, if_false, ite_self, pi_e hP, pi_f0 hP, pi_s0 hP, pi_f1 hP, pi_s1 hP, pi_f2 hP, pi_a0 hP, pi_w0 hP, pi_f3 hP, pi_a1 hP, pi_w1 hP, pi_f4 hP, pi_a2 hP, pi_w2 hP, pi_f5 hP, pi_a3 hP, pi_w3 hP, pi_f6 hP, pi_a4 hP, pi_w4 hP, pi_f7 hP, pi_a5 hP, pi_w5 hP, pi_f8 hP, pi_a6 hP, pi_w6 hP, pi_f9 hP, pi_a7 hP, pi_w7 hP, pi_f10 hP, pi_a8 hP, pi_w8 hP, pi_f11 hP, pi_a9 hP, pi_w9 hP, ru_ctR, ru_ctI, upC_e, upC_n, upC_up, up1_e, up1_n, h0, c, o1, o3, ek, Int.natCast_add, Int.natCast_one]
theorem k85b (hP : isPi P) {p : tPi} {n : Nat} {e : Nat → Nat} {y : Nat → Int} {gap : Int} (hgap : 0 ≤ gap ∧ gap ≤ 99) (hn : n ≤ 12) (h0 : p.1 0 = (n : Int)) (he : ∀ i, i < n → p.2 7 i % 12 = (e i : Int) ∧ 0 ≤ p.2 7 i ∧ p.2 7 i < 2147483648 ∧ e i < 12 ∧ p.2 1 (e i) = y (e i) ∧ 0 ≤ y (e i) ∧ y (e i) ≤ 999) (hj : ∀ i j, i < n → j < n → e i = e j → i = j) : ∀ d i, i + d = n → ∀ (R : Nat → Int) (l4 : Option Value), (∀ j, j < i → R (e j) = (rwA y gap e j : Nat)) → (∀ k, k < 12 → (∀ j, j < i → e j ≠ k) → R k = -1) → ∃ R' : Nat → Int, (∀ j, j < n → R' (e j) = (rwA y gap e j : Nat)) ∧ (∀ k, k < 12 → (∀ j, j < n → e j ≠ k) → R' k = -1) ∧
    ru_n z 85 60 [some (.ref P), some (.int (wI gap)), some (.int (wI (ybF y e i))), some (.int (wI i)), l4] [] (clPut h (piPut C P (up1 p.1 1 (rwC y gap e i : Nat), upC p.2 3 R))) = some (.inl none, clPut h (piPut C P (up1 p.1 1 (rwC y gap e n : Nat), upC p.2 3 R'))) := by
  intro d
  induction d with
  | zero =>
    intro i hi R l4 h1 h2
    obtain rfl : i = n := by omega
    refine ⟨R, h1, h2, ?_⟩
    have c : ((i : Int) ≤ (i : Int)) = True := eq_true (Int.le_refl _)
    simp (disch := omega) only [e85_60, e85_61, e85_62, e85_65, e85_133, ↓reduceIte, Bool.false_eq_true, not_false_eq_true, not_true_eq_false, Nat.reduceLeDiff, Nat.reduceAdd, Nat.reduceEqDiff, Int.reduceToNat, Int.toNat_natCast, iB0, iB1, ru_klI, ru_klR, ru_klF, ru_klJ, ru_kl0, ru_cs0, ru_csI, ru_csR, ru_csF, ru_csJ, wI_add, wI_sub, wI_mul, wI_lt, wI_le, wI_inj, ru_fdE, ru_fdN, ru_iaN, ru_baN, ru_laN, ru_qaN, ru_pfN, ru_isN, ru_bsN, ru_jsN, ru_qsN, ru_set2, Nat.add_right_cancel_iff, if_true, if_false, ite_self, pi_e hP, pi_f0 hP, pi_s0 hP, pi_f1 hP, pi_s1 hP, pi_f2 hP, pi_a0 hP, pi_w0 hP, pi_f3 hP, pi_a1 hP, pi_w1 hP, pi_f4 hP, pi_a2 hP, pi_w2 hP, pi_f5 hP, pi_a3 hP, pi_w3 hP, pi_f6 hP, pi_a4 hP, pi_w4 hP, pi_f7 hP, pi_a5 hP, pi_w5 hP, pi_f8 hP, pi_a6 hP, pi_w6 hP, pi_f9 hP, pi_a7 hP, pi_w7 hP, pi_f10 hP, pi_a8 hP, pi_w8 hP, pi_f11 hP, pi_a9 hP, pi_w9 hP, ru_ctR, ru_ctI, upC_e, upC_n, upC_up, up1_e, up1_n, h0, c]
  | succ d ih =>
    intro i hi R l4 h1 h2
    obtain ⟨o1, o2, o3, o4, o5, o6, o7⟩ := he i (by omega)
    have hA := rwA_lt y gap e i
    obtain ⟨R', t1, t2, t3⟩ := ih (i + 1) (by omega) (up1 R (e i) (rwA y gap e i : Nat)) (some (.int (wI (e i)))) (fun j hji => by
      unfold up1
      by_cases c : e j = e i
      · have := hj j i (by omega) (by omega) c
        subst this; rw [if_pos rfl]
      · rw [if_neg c]
        by_cases c2 : j = i
        · subst c2; exact absurd rfl c
        · exact h1 j (by omega)) (fun k hk hne => by
      unfold up1
      rw [if_neg (fun c => hne i (by omega) c.symm)]
      exact h2 k hk (fun j hji => hne j (by omega)))
    refine ⟨R', t1, t2, ?_⟩
    rw [← t3]
    have c : ((n : Int) ≤ (i : Int)) = False := eq_false (by omega)
    have hC : rwC y gap e (i + 1) = rwA y gap e i + 1 := rfl
    have hY : ybF y e (i + 1) = y (e i) := rfl
    rw [e85_60, hC, hY]
    cases i with
    | zero =>
      have hA0 : rwA y gap e 0 = 0 := rfl
      have hC0 : rwC y gap e 0 = 0 := rfl
      have c0 : ((0 : Int) = 0) = True := eq_true rfl
      simp only [Int.natCast_zero] at c
      simp (disch := omega) only [e85_61, e85_62, e85_65, e85_68, e85_69, e85_72, e85_73, e85_74, e85_76, e85_77, e85_79, e85_80, e85_83, e85_84, e85_85, e85_88, e85_90, e85_91, e85_92, e85_93, e85_96, e85_97, e85_98, e85_101, e85_102, e85_103, e85_106, e85_107, e85_110, e85_112, e85_113, e85_116, e85_117, e85_118, e85_119, e85_120, e85_123, e85_125, e85_126, e85_127, e85_130, ↓reduceIte, Bool.false_eq_true, not_false_eq_true, not_true_eq_false, Nat.reduceLeDiff, Nat.reduceAdd, Nat.reduceEqDiff, Int.reduceToNat, Int.toNat_natCast, iB0, iB1, ru_klI, ru_klR, ru_klF, ru_klJ, ru_kl0, ru_cs0, ru_csI, ru_csR, ru_csF, ru_csJ, wI_add, wI_sub, wI_mul, wI_lt, wI_le, wI_inj, ru_fdE, ru_fdN, ru_iaN, ru_baN, ru_laN, ru_qaN, ru_pfN, ru_isN, ru_bsN, ru_jsN, ru_qsN, ru_set2, Nat.add_right_cancel_iff, if_true, if_false, ite_self, pi_e hP, pi_f0 hP, pi_s0 hP, pi_f1 hP, pi_s1 hP, pi_f2 hP, pi_a0 hP, pi_w0 hP, pi_f3 hP, pi_a1 hP, pi_w1 hP, pi_f4 hP, pi_a2 hP, pi_w2 hP, pi_f5 hP, pi_a3 hP, pi_w3 hP, pi_f6 hP, pi_a4 hP, pi_w4 hP, pi_f7 hP, pi_a5 hP, pi_w5 hP, pi_f8 hP, pi_a6 hP, pi_w6 hP, pi_f9 hP, pi_a7 hP, pi_w7 hP, pi_f10 hP, pi_a8 hP, pi_w8 hP, pi_f11 hP, pi_a9 hP, pi_w9 hP, ru_ctR, ru_ctI, upC_e, upC_n, upC_up, up1_e, up1_n, h0, c, o1, o5, wI_rem, wI_ne0, hA0, hC0, Int.natCast_zero, c0, up1_up1, Int.zero_add, Int.natCast_one, Int.sub_self, Nat.zero_add]
    | succ i =>
      obtain ⟨q1, q2, q3, q4, q5, q6, q7⟩ := he i (by omega)
      have hC0 : rwC y gap e (i + 1) = rwA y gap e i + 1 := rfl
      have hY0 : ybF y e (i + 1) = y (e i) := rfl
      have c1 : (((i : Int) + 1) = 0) = False := eq_false (by omega)
      have e1 : ((i : Int) + 1).toNat = i + 1 := by omega
      simp only [Int.natCast_add, Int.natCast_one] at c
      by_cases hg : y (e i) - y (e (i + 1)) > gap
      · have hA1 : rwA y gap e (i + 1) = rwA y gap e i + 1 := by rw [rwA, if_pos hg]
        have c2 : (y (e i) - y (e (i + 1)) ≤ gap) = False := eq_false (by omega)
        simp (disch := omega) only [e85_61, e85_62, e85_65, e85_68, e85_69, e85_72, e85_73, e85_74, e85_76, e85_77, e85_79, e85_80, e85_83, e85_84, e85_85, e85_88, e85_90, e85_91, e85_92, e85_93, e85_96, e85_97, e85_98, e85_101, e85_102, e85_103, e85_106, e85_107, e85_110, e85_112, e85_113, e85_116, e85_117, e85_118, e85_119, e85_120, e85_123, e85_125, e85_126, e85_127, e85_130, ↓reduceIte, Bool.false_eq_true, not_false_eq_true, not_true_eq_false, Nat.reduceLeDiff, Nat.reduceAdd, Nat.reduceEqDiff, Int.reduceToNat, Int.toNat_natCast, iB0, iB1, ru_klI, ru_klR, ru_klF, ru_klJ, ru_kl0, ru_cs0, ru_csI, ru_csR, ru_csF, ru_csJ, wI_add, wI_sub, wI_mul, wI_lt, wI_le, wI_inj, ru_fdE, ru_fdN, ru_iaN, ru_baN, ru_laN, ru_qaN, ru_pfN, ru_isN, ru_bsN, ru_jsN, ru_qsN, ru_set2, Nat.add_right_cancel_iff, if_true, if_false, ite_self, pi_e hP, pi_f0 hP, pi_s0 hP, pi_f1 hP, pi_s1 hP, pi_f2 hP, pi_a0 hP, pi_w0 hP, pi_f3 hP, pi_a1 hP, pi_w1 hP, pi_f4 hP, pi_a2 hP, pi_w2 hP, pi_f5 hP, pi_a3 hP, pi_w3 hP, pi_f6 hP, pi_a4 hP, pi_w4 hP, pi_f7 hP, pi_a5 hP, pi_w5 hP, pi_f8 hP, pi_a6 hP, pi_w6 hP, pi_f9 hP, pi_a7 hP, pi_w7 hP, pi_f10 hP, pi_a8 hP, pi_w8 hP, pi_f11 hP, pi_a9 hP, pi_w9 hP, ru_ctR, ru_ctI, upC_e, upC_n, upC_up, up1_e, up1_n, h0, c, c1, c2, e1, o1, o5, wI_rem, wI_ne0, hA1, hC0, hY0, up1_up1, Int.natCast_add, Int.natCast_one, Int.add_sub_cancel]
      · have hA1 : rwA y gap e (i + 1) = rwA y gap e i := by rw [rwA, if_neg hg]
        have c2 : (y (e i) - y (e (i + 1)) ≤ gap) = True := eq_true (by omega)
        simp (disch := omega) only [e85_61, e85_62, e85_65, e85_68, e85_69, e85_72, e85_73, e85_74, e85_76, e85_77, e85_79, e85_80, e85_83, e85_84, e85_85, e85_88, e85_90, e85_91, e85_92, e85_93, e85_96, e85_97, e85_98, e85_101, e85_102, e85_103, e85_106, e85_107, e85_110, e85_112, e85_113, e85_116, e85_117, e85_118, e85_119, e85_120, e85_123, e85_125, e85_126, e85_127, e85_130, ↓reduceIte, Bool.false_eq_true, not_false_eq_true, not_true_eq_false, Nat.reduceLeDiff, Nat.reduceAdd, Nat.reduceEqDiff, Int.reduceToNat, Int.toNat_natCast, iB0, iB1, ru_klI, ru_klR, ru_klF, ru_klJ, ru_kl0, ru_cs0, ru_csI, ru_csR, ru_csF, ru_csJ, wI_add, wI_sub, wI_mul, wI_lt, wI_le, wI_inj, ru_fdE, ru_fdN, ru_iaN, ru_baN, ru_laN, ru_qaN, ru_pfN, ru_isN, ru_bsN, ru_jsN, ru_qsN, ru_set2, Nat.add_right_cancel_iff, if_true, if_false, ite_self, pi_e hP, pi_f0 hP, pi_s0 hP, pi_f1 hP, pi_s1 hP, pi_f2 hP, pi_a0 hP, pi_w0 hP, pi_f3 hP, pi_a1 hP, pi_w1 hP, pi_f4 hP, pi_a2 hP, pi_w2 hP, pi_f5 hP, pi_a3 hP, pi_w3 hP, pi_f6 hP, pi_a4 hP, pi_w4 hP, pi_f7 hP, pi_a5 hP, pi_w5 hP, pi_f8 hP, pi_a6 hP, pi_w6 hP, pi_f9 hP, pi_a7 hP, pi_w7 hP, pi_f10 hP, pi_a8 hP, pi_w8 hP, pi_f11 hP, pi_a9 hP, pi_w9 hP, ru_ctR, ru_ctI, upC_e, upC_n, upC_up, up1_e, up1_n, h0, c, c1, c2, e1, o1, o5, wI_rem, wI_ne0, hA1, hC0, hY0, up1_up1, Int.natCast_add, Int.natCast_one, Int.add_sub_cancel]
theorem k85 (hP : isPi P) {p : tPi} {S : Nat → Bool} {y : Nat → Int} {gap : Int} {n : Nat} {o : Nat → Nat} (hgap : 0 ≤ gap ∧ gap ≤ 99) (hn : n ≤ 12) (h0 : p.1 0 = (n : Int)) (ho : enO S (fun k => (k : Int)) n o) (hp2 : ∀ i, i < n → p.2 2 i = (o i : Int)) (hy : ∀ k, k < 12 → S k = true → p.2 1 k = y k ∧ 0 ≤ y k ∧ y k ≤ 999) (hm : ∀ k, k < 12 → p.2 3 k = -1) : ∃ (R g : Nat → Int) (rc : Int), rwOK S y gap R rc ∧
    ru_ev z 85 [.ref P, .int (wI gap)] (clPut h (piPut C P p)) = some (.inl none, clPut h (piPut C P (up1 p.1 1 rc, upC (upC p.2 7 g) 3 R))) := by
  obtain ⟨f, f1, f2⟩ := k85a (z := z) (h := h) (C := C) hP (p := p) (o := o) (y := y) (gap := gap) hn h0 (fun i hi => by
    have h1 := ho.1 i hi
    have h2 := hy _ h1.1 h1.2
    exact ⟨hp2 i hi, h1.1, h2.1, h2.2⟩) n 0 (by omega) (p.2 7) none none (fun j hj => by omega)
  have fr : ∀ j, j < n → 0 ≤ f j ∧ f j < 2147483648 := fun j hj => by
    have h1 := ho.1 j hj
    have h2 := kyY_rng (hy _ h1.1 h1.2).2 h1.1
    rw [f1 j hj]; omega
  obtain ⟨g, g1, g2⟩ := k86 (z := z) (h := h) (C := C) hP (p := (p.1, upC p.2 7 f)) hn h0 (fun j hj => by dsimp only; rw [upC_e]; exact fr j hj) (fun a b ha hb hab => by
    dsimp only at hab; rw [upC_e, f1 a ha, f1 b hb] at hab
    have h1 := ho.1 a ha
    have h2 := ho.1 b hb
    have h3 := kyY_rng (hy _ h1.1 h1.2).2 h1.1
    have h4 := kyY_rng (hy _ h2.1 h2.2).2 h2.1
    exact enO_inj ho ha hb (by rw [hab] at h3; omega))
  dsimp only at g1
  rw [upC_e] at g1
  have g1' : srtB (fun i => kyY y (o i)) g n := ⟨g1.1, fun i hi => by
    obtain ⟨j, hj, e⟩ := g1.2.1 i hi
    exact ⟨j, hj, by rw [e, f1 j hj]⟩, fun j hj => by
    obtain ⟨i, hi, e⟩ := g1.2.2 j hj
    exact ⟨i, hi, by rw [e, f1 j hj]⟩⟩
  obtain ⟨s1, s2⟩ := srt_en' (S := S) (key := kyY y) (fun k hk hs => (kyY_rng (hy k hk hs).2 hk).2.2) ho.1 ho.2.2 g1'
  obtain ⟨R, r1, r2, r3⟩ := k85b (z := z) (h := h) (C := C) hP (p := (p.1, upC p.2 7 g)) (e := fun i => (g i % 12).toNat) (y := y) (gap := gap) hgap hn h0 (fun i hi => by
    have h1 := s1.1 i hi
    have h2 := hy _ h1.1 h1.2
    have h3 := s2 i hi
    have h4 := kyY_rng h2.2 h1.1
    rw [h3.1] at h4
    refine ⟨by dsimp only; rw [upC_e]; exact h3.2, by dsimp only; rw [upC_e]; omega, by dsimp only; rw [upC_e]; omega, h1.1, by dsimp only; rw [upC_n (by decide)]; exact h2.1, h2.2⟩) (fun i j hi hj he => enO_inj s1 hi hj he) n 0 (by omega) (p.2 3) none (fun j hj => by omega) (fun k hk _ => hm k hk)
  refine ⟨R, g, _, ⟨n, _, s1, r1, fun k hk hs => r2 k hk (fun j hj he => hs (by rw [← he]; exact (s1.1 j hj).2)), rfl⟩, ?_⟩
  rw [← r3]
  rw [upC_self] at f2
  simp (disch := omega) only [upC_up] at g2
  have e0 : rwC y gap (fun i => (g i % 12).toNat) 0 = 0 := rfl
  have e1 : ybF y (fun i => (g i % 12).toNat) 0 = 0 := rfl
  have e2 : upC (upC p.2 7 g) 3 (p.2 3) = upC p.2 7 g := by
    funext c j
    unfold upC
    by_cases e : c = 3
    · subst e; rfl
    · rw [if_neg e]
  rw [e0, e1, e2]
  simp (disch := omega) only [en85, e85_0, e85_1, ↓reduceIte, Bool.false_eq_true, not_false_eq_true, not_true_eq_false, Nat.reduceLeDiff, Nat.reduceAdd, Nat.reduceEqDiff, Int.reduceToNat, Int.toNat_natCast, iB0, iB1, ru_klI, ru_klR, ru_klF, ru_klJ, ru_kl0, ru_cs0, ru_csI, ru_csR, ru_csF, ru_csJ, wI_add, wI_sub, wI_mul, wI_lt, wI_le, wI_inj, ru_fdE, ru_fdN, ru_iaN, ru_baN, ru_laN, ru_qaN, ru_pfN, ru_isN, ru_bsN, ru_jsN, ru_qsN, ru_set2, Nat.add_right_cancel_iff, if_true, if_false, ite_self, pi_e hP, pi_f0 hP, pi_s0 hP, pi_f1 hP, pi_s1 hP, pi_f2 hP, pi_a0 hP, pi_w0 hP, pi_f3 hP, pi_a1 hP, pi_w1 hP, pi_f4 hP, pi_a2 hP, pi_w2 hP, pi_f5 hP, pi_a3 hP, pi_w3 hP, pi_f6 hP, pi_a4 hP, pi_w4 hP, pi_f7 hP, pi_a5 hP, pi_w5 hP, pi_f8 hP, pi_a6 hP, pi_w6 hP, pi_f9 hP, pi_a7 hP, pi_w7 hP, pi_f10 hP, pi_a8 hP, pi_w8 hP, pi_f11 hP, pi_a9 hP, pi_w9 hP, ru_ctR, ru_ctI, upC_e, upC_n, upC_up, up1_e, up1_n]
  rw [show ((0 : Nat) : Int) = 0 from rfl] at f2
  rw [f2]
  simp (disch := omega) only [e85_47, e85_48, e85_51, e85_52, e85_53, e85_56, e85_57, e85_58, e85_59, ↓reduceIte, Bool.false_eq_true, not_false_eq_true, not_true_eq_false, Nat.reduceLeDiff, Nat.reduceAdd, Nat.reduceEqDiff, Int.reduceToNat, Int.toNat_natCast, iB0, iB1, ru_klI, ru_klR, ru_klF, ru_klJ, ru_kl0, ru_cs0, ru_csI, ru_csR, ru_csF, ru_csJ, wI_add, wI_sub, wI_mul, wI_lt, wI_le, wI_inj, ru_fdE, ru_fdN, ru_iaN, ru_baN, ru_laN, ru_qaN, ru_pfN, ru_isN, ru_bsN, ru_jsN, ru_qsN, ru_set2, Nat.add_right_cancel_iff, if_true, if_false, ite_self, pi_e hP, pi_f0 hP, pi_s0 hP, pi_f1 hP, pi_s1 hP, pi_f2 hP, pi_a0 hP, pi_w0 hP, pi_f3 hP, pi_a1 hP, pi_w1 hP, pi_f4 hP, pi_a2 hP, pi_w2 hP, pi_f5 hP, pi_a3 hP, pi_w3 hP, pi_f6 hP, pi_a4 hP, pi_w4 hP, pi_f7 hP, pi_a5 hP, pi_w5 hP, pi_f8 hP, pi_a6 hP, pi_w6 hP, pi_f9 hP, pi_a7 hP, pi_w7 hP, pi_f10 hP, pi_a8 hP, pi_w8 hP, pi_f11 hP, pi_a9 hP, pi_w9 hP, ru_ctR, ru_ctI, upC_e, upC_n, upC_up, up1_e, up1_n, g2, Int.natCast_zero]
end ARR
