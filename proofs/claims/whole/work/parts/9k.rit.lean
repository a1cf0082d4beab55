/-! ===== the reference writes an item ===== -/
theorem agN_0 {f g : Nat → Int} : ∀ d k, agN f g d k = 0 ↔ ∀ i, k ≤ i → i < k + d → f i = g i
  | 0, k => by simp only [agN, true_iff]; intro i h1 h2; omega
  | d + 1, k => by
    show (if f k = g k then agN f g d (k + 1) else f k - g k) = 0 ↔ _
    by_cases e : f k = g k
    · rw [if_pos e, agN_0 d (k + 1)]
      exact ⟨fun h i h1 h2 => by
        by_cases c : i = k
        · rw [c]; exact e
        · exact h i (by omega) (by omega), fun h i h1 h2 => h i (by omega) (by omega)⟩
    · rw [if_neg e]
      exact ⟨fun h => by omega, fun h => absurd (h k (Nat.le_refl _) (by omega)) e⟩
section RIT
variable {z : Bool}
theorem p71l {X : am_H} {a b n1 n2 : Nat} {F G : Nat → Int} (h1 : X.1 a = some (.inl (0, n1, .inl (fun i => wI (F i))))) (h2 : X.1 b = some (.inl (0, n2, .inl (fun i => wI (G i))))) {i j : Nat} (hi : i + 8 ≤ n1) (hj : j + 8 ≤ n2) (hn1 : n1 ≤ 5000) (hn2 : n2 ≤ 5000) (hF : ∀ k, k < 8 → -1000 ≤ F (i + k) ∧ F (i + k) ≤ 1000) (hG : ∀ k, k < 8 → -1000 ≤ G (j + k) ∧ G (j + k) ≤ 1000) : ∀ d k : Nat, k + d = 8 → ru_n z 71 3 [some (.ref a), some (.int (wI i)), some (.ref b), some (.int (wI j)), some (.int (wI k))] [] X = some (.inl (some (.int (wI (if agN (fun k => F (i + k)) (fun k => G (j + k)) d k = 0 then 1 else 0)))), X) := by
  intro d
  induction d with
  | zero =>
    intro k hk
    obtain rfl : k = 8 := by omega
    simp (disch := omega) only [e71_3, e71_5, e71_7, e71_10, e71_11, e71_12, e71_14, e71_15, e71_16, e71_17, e71_18, e71_20, e71_21, e71_22, e71_25, e71_26, e71_27, e71_30, e71_33, e71_34, ↓reduceIte, Bool.false_eq_true, not_false_eq_true, not_true_eq_false, Nat.reduceLeDiff, Nat.reduceAdd, Nat.reduceEqDiff, Int.reduceToNat, Int.toNat_natCast, iB0, iB1, ru_klI, ru_klR, ru_klF, ru_klJ, ru_kl0, ru_cs0, ru_csI, ru_csR, ru_csF, ru_csJ, wI_add, wI_sub, wI_mul, wI_lt, wI_le, wI_inj, ru_fdE, ru_fdN, ru_iaN, ru_baN, ru_laN, ru_qaN, ru_pfN, ru_isN, ru_bsN, ru_jsN, ru_qsN, ru_set2, Nat.add_right_cancel_iff, if_true, if_false, ite_self, Int.reduceEq, and_self, Int.add_neg_cancel_right, Int.add_zero, Int.zero_add, show (((8 : Nat) : Int)) = 8 from rfl, Int.le_refl, wI_and1, agN]
  | succ d ih =>
    intro k hk
    have c : ((8 : Int) ≤ (k : Int)) = False := eq_false (by omega)
    have r1 := ru_ia (z := (i : Int) + (k : Int)) h1 (by omega) (by omega) (by omega)
    have r2 := ru_ia (z := (j : Int) + (k : Int)) h2 (by omega) (by omega) (by omega)
    rw [show ((i : Int) + (k : Int)).toNat = i + k by omega] at r1
    rw [show ((j : Int) + (k : Int)).toNat = j + k by omega] at r2
    have b1 := hF k (by omega)
    have b2 := hG k (by omega)
    have eA : agN (fun k => F (i + k)) (fun k => G (j + k)) (d + 1) k = if F (i + k) = G (j + k) then agN (fun k => F (i + k)) (fun k => G (j + k)) d (k + 1) else F (i + k) - G (j + k) := rfl
    rw [eA, e71_3]
    by_cases e : F (i + k) = G (j + k)
    · rw [if_pos e]
      have ih1 := ih (k + 1) (by omega)
      have d1 : (F (i + k) = G (j + k)) = True := eq_true e
      simp only [Int.natCast_add, Int.natCast_one] at ih1
      simp (disch := omega) only [e71_5, e71_7, e71_10, e71_11, e71_12, e71_14, e71_15, e71_16, e71_17, e71_18, e71_20, e71_21, e71_22, e71_25, e71_26, e71_27, e71_30, e71_33, e71_34, ↓reduceIte, Bool.false_eq_true, not_false_eq_true, not_true_eq_false, Nat.reduceLeDiff, Nat.reduceAdd, Nat.reduceEqDiff, Int.reduceToNat, Int.toNat_natCast, iB0, iB1, ru_klI, ru_klR, ru_klF, ru_klJ, ru_kl0, ru_cs0, ru_csI, ru_csR, ru_csF, ru_csJ, wI_add, wI_sub, wI_mul, wI_lt, wI_le, wI_inj, ru_fdE, ru_fdN, ru_iaN, ru_baN, ru_laN, ru_qaN, ru_pfN, ru_isN, ru_bsN, ru_jsN, ru_qsN, ru_set2, Nat.add_right_cancel_iff, if_true, if_false, ite_self, Int.reduceEq, and_self, Int.add_neg_cancel_right, Int.add_zero, Int.zero_add, c, r1, r2, d1]
      exact ih1
    · rw [if_neg e, if_neg (by omega)]
      have d1 : (F (i + k) = G (j + k)) = False := eq_false e
      simp (disch := omega) only [e71_5, e71_7, e71_10, e71_11, e71_12, e71_14, e71_15, e71_16, e71_17, e71_18, e71_20, e71_21, e71_22, e71_25, e71_26, e71_27, e71_30, e71_33, e71_34, ↓reduceIte, Bool.false_eq_true, not_false_eq_true, not_true_eq_false, Nat.reduceLeDiff, Nat.reduceAdd, Nat.reduceEqDiff, Int.reduceToNat, Int.toNat_natCast, iB0, iB1, ru_klI, ru_klR, ru_klF, ru_klJ, ru_kl0, ru_cs0, ru_csI, ru_csR, ru_csF, ru_csJ, wI_add, wI_sub, wI_mul, wI_lt, wI_le, wI_inj, ru_fdE, ru_fdN, ru_iaN, ru_baN, ru_laN, ru_qaN, ru_pfN, ru_isN, ru_bsN, ru_jsN, ru_qsN, ru_set2, Nat.add_right_cancel_iff, if_true, if_false, ite_self, Int.reduceEq, and_self, Int.add_neg_cancel_right, Int.add_zero, Int.zero_add, c, r1, r2, d1, wI_and1]
theorem p71 {X : am_H} {a b n1 n2 : Nat} {F G : Nat → Int} (h1 : X.1 a = some (.inl (0, n1, .inl (fun i => wI (F i))))) (h2 : X.1 b = some (.inl (0, n2, .inl (fun i => wI (G i))))) {i j : Nat} (hi : i + 8 ≤ n1) (hj : j + 8 ≤ n2) (hn1 : n1 ≤ 5000) (hn2 : n2 ≤ 5000) (hF : ∀ k, k < 8 → -1000 ≤ F (i + k) ∧ F (i + k) ≤ 1000) (hG : ∀ k, k < 8 → -1000 ≤ G (j + k) ∧ G (j + k) ≤ 1000) : ru_ev z 71 [.ref a, .int (wI i), .ref b, .int (wI j)] X = some (.inl (some (.int (wI (if agN (fun k => F (i + k)) (fun k => G (j + k)) 8 0 = 0 then 1 else 0)))), X) := by
  have k := p71l (z := z) h1 h2 hi hj hn1 hn2 hF hG 8 0 (by omega)
  rw [show ((0 : Nat) : Int) = 0 from rfl] at k
  simp (disch := omega) only [e71_0, e71_1, en71, ↓reduceIte, Bool.false_eq_true, not_false_eq_true, not_true_eq_false, Nat.reduceLeDiff, Nat.reduceAdd, Nat.reduceEqDiff, Int.reduceToNat, Int.toNat_natCast, iB0, iB1, ru_klI, ru_klR, ru_klF, ru_klJ, ru_kl0, ru_cs0, ru_csI, ru_csR, ru_csF, ru_csJ, wI_add, wI_sub, wI_mul, wI_lt, wI_le, wI_inj, ru_fdE, ru_fdN, ru_iaN, ru_baN, ru_laN, ru_qaN, ru_pfN, ru_isN, ru_bsN, ru_jsN, ru_qsN, ru_set2, Nat.add_right_cancel_iff, if_true, if_false, ite_self, Int.reduceEq, and_self, Int.add_neg_cancel_right, Int.add_zero, Int.zero_add]
  exact k
/-- a row of the reference is ready to be written -/
def wmP (M : tMd) (N f r len : Nat) (nm : Nat → Int) : Prop := f < 5 ∧ phR (mph M f) ∧ r < 12 ∧ M.2 13 r = (len : Int) ∧ len ≤ 12 ∧ (∀ x, x < 12 → -1 ≤ M.2 11 x ∧ M.2 11 x ≤ 12) ∧ (∀ x, x < 12 → -1 ≤ M.2 12 x ∧ M.2 12 x ≤ 12) ∧ True ∧ (N ≤ 20 ∧ nmW M N) ∧ ∀ j : Nat, j < len → ∃ k : Nat, k < 12 ∧ fnF (stP (M.2 11) (M.2 12) (r : Int) (j : Int)) ((mph M f).1 7).toNat 0 = (k : Int) ∧ nm j = (mph M f).2 3 k ∧ nmOK N (nm j)
variable {h : am_H} {M S : tMd} {l : List Nat} {N f r len : Nat} {nm : Nat → Int}
theorem wr_mph (hw : wrS M S l) (f : Nat) : mph S f = mph M f := by
  rw [mph_f, mph_f, hw.2.1 0 (by decide), hw.2.1 8 (by decide), hw.2.1 9 (by decide)]
theorem p332 (hp : wmP M N f r len nm) (hw : wrS M S l) {j : Nat} (hj : j ≤ len) : ru_ev z 332 [.ref 1315, .int (wI f), .int (wI r), .int (wI j)] (mdPut h S) = some (.inl (some (.int (wI (if j < len then nm j else 1000000000)))), mdPut h S) := by
  obtain ⟨a1, a2, a3, a4, a5, a6, a7, a8, a9, a10⟩ := hp
  have e13 : am_ia (mdPut h S) 1329 (wI (r : Nat)) = some (wI (len : Nat)) := by
    rw [md_a13 (by omega) (by omega), Int.toNat_natCast, hw.2.1 13 (by decide), a4]
  by_cases c : j < len
  · rw [if_pos c]
    obtain ⟨k, k1, k2, k3, k4⟩ := a10 j c
    have d1 : ((len : Int) ≤ (j : Int)) = False := eq_false (by omega)
    have s := phR_s a2
    obtain ⟨m, hm⟩ := Int.eq_ofNat_of_zero_le s.2.2.2.2.2.2.2.1
    have x := p137 (z := z) (h := h) (M := S) (rm := S.1 34) (R := S.2 11) (L := S.2 12) (Q := S.2 13) a1 (m := m) (by rw [wr_mph hw]; exact hm) (by omega) (by rw [hw.2.1 11 (by decide)]; exact a6) (by rw [hw.2.1 12 (by decide)]; exact a7) (r := (r : Int)) (j := (j : Int)) (by omega) (by omega)
    rw [← mdQ_of, hw.2.1 11 (by decide), hw.2.1 12 (by decide)] at x
    rw [hm, Int.toNat_natCast] at k2
    rw [k2] at x
    have y := p125 (z := z) (h := h) (M := S) (f := f) (k := k) a1 k1 (w := 3) (by omega) (by omega)
    have e3 := (mph_x (M := S) (f := f) (k := k) k1).2.2.2
    rw [wr_mph hw, ← k3] at e3
    have hb := (phR_i a2 k).2.2.2
    rw [show (54 * f + 6 + 4 * k + Int.toNat 3) = 54 * f + 6 + 4 * k + 3 from rfl, show S.2 0 (54 * f + 6 + 4 * k + 3) = nm j + 1 by omega] at y
    simp (disch := omega) only [en332, e332_0, e332_1, e332_2, e332_5, e332_6, e332_7, e332_10, e332_11, e332_12, e332_13, e332_14, e332_15, e332_16, e332_19, e332_20, e332_23, e332_24, e332_25, e332_28, e332_31, ↓reduceIte, Bool.false_eq_true, not_false_eq_true, not_true_eq_false, Nat.reduceLeDiff, Nat.reduceAdd, Nat.reduceEqDiff, Int.reduceToNat, Int.toNat_natCast, iB0, iB1, ru_klI, ru_klR, ru_klF, ru_klJ, ru_kl0, ru_cs0, ru_csI, ru_csR, ru_csF, ru_csJ, wI_add, wI_sub, wI_mul, wI_lt, wI_le, wI_inj, ru_fdE, ru_fdN, ru_iaN, ru_baN, ru_laN, ru_qaN, ru_pfN, ru_isN, ru_bsN, ru_jsN, ru_qsN, ru_set2, Nat.add_right_cancel_iff, if_true, if_false, ite_self, Int.reduceEq, and_self, Int.add_neg_cancel_right, Int.add_zero, Int.zero_add, md_e, md_f33, e13, d1, x, y, Int.add_sub_cancel]
  · rw [if_neg c]
    have d1 : ((len : Int) ≤ (j : Int)) = True := eq_true (by omega)
    simp (disch := omega) only [en332, e332_0, e332_1, e332_2, e332_5, e332_6, e332_7, e332_10, e332_11, e332_12, e332_13, e332_14, e332_15, e332_16, e332_19, e332_20, e332_23, e332_24, e332_25, e332_28, e332_31, ↓reduceIte, Bool.false_eq_true, not_false_eq_true, not_true_eq_false, Nat.reduceLeDiff, Nat.reduceAdd, Nat.reduceEqDiff, Int.reduceToNat, Int.toNat_natCast, iB0, iB1, ru_klI, ru_klR, ru_klF, ru_klJ, ru_kl0, ru_cs0, ru_csI, ru_csR, ru_csF, ru_csJ, wI_add, wI_sub, wI_mul, wI_lt, wI_le, wI_inj, ru_fdE, ru_fdN, ru_iaN, ru_baN, ru_laN, ru_qaN, ru_pfN, ru_isN, ru_bsN, ru_jsN, ru_qsN, ru_set2, Nat.add_right_cancel_iff, if_true, if_false, ite_self, Int.reduceEq, and_self, Int.add_neg_cancel_right, Int.add_zero, Int.zero_add, md_e, md_f33, e13, d1]
theorem p333 (hp : wmP M N f r len nm) (hw : wrS M S l) {n m : Int} (hn : nmOK N n) (hm : nmOK N m ∨ m = 1000000000) : ru_ev z 333 [.ref 1315, .int (wI n), .int (wI m)] (mdPut h S) = some (.inl (some (.int (wI (if m = 1000000000 then 0 else if oneB M n m = true then 1 else 0)))), mdPut h S) := by
  obtain ⟨a1, a2, a3, a4, a5, a6, a7, a8, a9, a10⟩ := hp
  have hn2 : -1 ≤ n ∧ n < 20 := by rcases hn with h | h <;> omega
  have d1 : (n = 1000000000) = False := eq_false (by omega)
  rcases hm with hm | rfl
  · have hm2 : -1 ≤ m ∧ m < 20 := by rcases hm with h | h <;> omega
    rw [if_neg (by omega)]
    have d2 : (m = 1000000000) = False := eq_false (by omega)
    unfold oneB
    by_cases c1 : n = -1
    · have d3 : (n = -1) = True := eq_true c1
      rw [if_pos (Or.inl c1)]
      by_cases c2 : m = -1
      · have d4 : (m = -1) = True := eq_true c2
        rw [decide_eq_true (show n = m by omega), if_pos rfl]
        simp (disch := omega) only [en333, e333_0, e333_1, e333_4, e333_7, e333_8, e333_11, e333_14, e333_15, e333_16, e333_19, e333_20, e333_21, e333_24, e333_25, e333_26, e333_29, e333_30, e333_31, e333_34, e333_35, e333_38, e333_39, e333_40, e333_41, e333_44, e333_46, e333_47, e333_48, e333_50, e333_51, e333_52, e333_55, e333_57, e333_58, e333_59, e333_61, e333_62, e333_65, ↓reduceIte, Bool.false_eq_true, not_false_eq_true, not_true_eq_false, Nat.reduceLeDiff, Nat.reduceAdd, Nat.reduceEqDiff, Int.reduceToNat, Int.toNat_natCast, iB0, iB1, ru_klI, ru_klR, ru_klF, ru_klJ, ru_kl0, ru_cs0, ru_csI, ru_csR, ru_csF, ru_csJ, wI_add, wI_sub, wI_mul, wI_lt, wI_le, wI_inj, ru_fdE, ru_fdN, ru_iaN, ru_baN, ru_laN, ru_qaN, ru_pfN, ru_isN, ru_bsN, ru_jsN, ru_qsN, ru_set2, Nat.add_right_cancel_iff, if_true, if_false, ite_self, Int.reduceEq, and_self, Int.add_neg_cancel_right, Int.add_zero, Int.zero_add, md_e, d1, d2, d3, d4, wI_and1, not_true]
      · have d4 : (m = -1) = False := eq_false c2
        rw [decide_eq_false (show ¬ n = m by omega), if_neg (by decide)]
        simp (disch := omega) only [en333, e333_0, e333_1, e333_4, e333_7, e333_8, e333_11, e333_14, e333_15, e333_16, e333_19, e333_20, e333_21, e333_24, e333_25, e333_26, e333_29, e333_30, e333_31, e333_34, e333_35, e333_38, e333_39, e333_40, e333_41, e333_44, e333_46, e333_47, e333_48, e333_50, e333_51, e333_52, e333_55, e333_57, e333_58, e333_59, e333_61, e333_62, e333_65, ↓reduceIte, Bool.false_eq_true, not_false_eq_true, not_true_eq_false, Nat.reduceLeDiff, Nat.reduceAdd, Nat.reduceEqDiff, Int.reduceToNat, Int.toNat_natCast, iB0, iB1, ru_klI, ru_klR, ru_klF, ru_klJ, ru_kl0, ru_cs0, ru_csI, ru_csR, ru_csF, ru_csJ, wI_add, wI_sub, wI_mul, wI_lt, wI_le, wI_inj, ru_fdE, ru_fdN, ru_iaN, ru_baN, ru_laN, ru_qaN, ru_pfN, ru_isN, ru_bsN, ru_jsN, ru_qsN, ru_set2, Nat.add_right_cancel_iff, if_true, if_false, ite_self, Int.reduceEq, and_self, Int.add_neg_cancel_right, Int.add_zero, Int.zero_add, md_e, d1, d2, d3, d4, wI_and1, not_true, not_false_iff]
    · have d3 : (n = -1) = False := eq_false c1
      by_cases c2 : m = -1
      · have d4 : (m = -1) = True := eq_true c2
        rw [if_pos (Or.inr c2), decide_eq_false (show ¬ n = m by omega), if_neg (by decide)]
        simp (disch := omega) only [en333, e333_0, e333_1, e333_4, e333_7, e333_8, e333_11, e333_14, e333_15, e333_16, e333_19, e333_20, e333_21, e333_24, e333_25, e333_26, e333_29, e333_30, e333_31, e333_34, e333_35, e333_38, e333_39, e333_40, e333_41, e333_44, e333_46, e333_47, e333_48, e333_50, e333_51, e333_52, e333_55, e333_57, e333_58, e333_59, e333_61, e333_62, e333_65, ↓reduceIte, Bool.false_eq_true, not_false_eq_true, not_true_eq_false, Nat.reduceLeDiff, Nat.reduceAdd, Nat.reduceEqDiff, Int.reduceToNat, Int.toNat_natCast, iB0, iB1, ru_klI, ru_klR, ru_klF, ru_klJ, ru_kl0, ru_cs0, ru_csI, ru_csR, ru_csF, ru_csJ, wI_add, wI_sub, wI_mul, wI_lt, wI_le, wI_inj, ru_fdE, ru_fdN, ru_iaN, ru_baN, ru_laN, ru_qaN, ru_pfN, ru_isN, ru_bsN, ru_jsN, ru_qsN, ru_set2, Nat.add_right_cancel_iff, if_true, if_false, ite_self, Int.reduceEq, and_self, Int.add_neg_cancel_right, Int.add_zero, Int.zero_add, md_e, d1, d2, d3, d4, wI_and1, not_true, not_false_iff]
      · have d4 : (m = -1) = False := eq_false c2
        rw [if_neg (show ¬ (n = -1 ∨ m = -1) by omega)]
        obtain ⟨a, rfl⟩ := Int.eq_ofNat_of_zero_le (show 0 ≤ n by omega)
        obtain ⟨b, rfl⟩ := Int.eq_ofNat_of_zero_le (show 0 ≤ m by omega)
        simp only [Int.toNat_natCast, decide_eq_true_eq]
        have hc5 : (mdPut h S).1 1321 = some (.inl (0, 320, .inl (fun i => wI (M.2 5 i)))) := by
          rw [← hw.2.1 5 (by decide)]; exact mdC5 (mdAt_put h S)
        have ha : a < 20 := by omega
        have hb : b < 20 := by omega
        have ta := (a9.2 a (by rcases hn with h | h <;> omega)).2.1.1
        have tb := (a9.2 b (by rcases hm with h | h <;> omega)).2.1.1
        have k := p71 (z := z) hc5 hc5 (i := 16 * a + 8) (j := 16 * b + 8) (by omega) (by omega) (by omega) (by omega) (fun k hk => by have t : M.2 5 (16 * a + 8 + k) = 0 ∨ (97 ≤ M.2 5 (16 * a + 8 + k) ∧ M.2 5 (16 * a + 8 + k) ≤ 122) := ta k hk; omega) (fun k hk => by have t : M.2 5 (16 * b + 8 + k) = 0 ∨ (97 ≤ M.2 5 (16 * b + 8 + k) ∧ M.2 5 (16 * b + 8 + k) ≤ 122) := tb k hk; omega)
        simp only [Int.natCast_add, Int.natCast_mul, show ((16 : Nat) : Int) = 16 from rfl, show ((8 : Nat) : Int) = 8 from rfl] at k
        have k : ru_ev z 71 [.ref 1321, .int (wI (16 * (a : Int) + 8)), .ref 1321, .int (wI (16 * (b : Int) + 8))] (mdPut h S) = some (.inl (some (.int (wI (if agN (wl M a) (wl M b) 8 0 = 0 then 1 else 0)))), mdPut h S) := k
        by_cases c4 : agN (wl M a) (wl M b) 8 0 = 0
        · rw [if_pos c4] at k ⊢
          simp (disch := omega) only [en333, e333_0, e333_1, e333_4, e333_7, e333_8, e333_11, e333_14, e333_15, e333_16, e333_19, e333_20, e333_21, e333_24, e333_25, e333_26, e333_29, e333_30, e333_31, e333_34, e333_35, e333_38, e333_39, e333_40, e333_41, e333_44, e333_46, e333_47, e333_48, e333_50, e333_51, e333_52, e333_55, e333_57, e333_58, e333_59, e333_61, e333_62, e333_65, ↓reduceIte, Bool.false_eq_true, not_false_eq_true, not_true_eq_false, Nat.reduceLeDiff, Nat.reduceAdd, Nat.reduceEqDiff, Int.reduceToNat, Int.toNat_natCast, iB0, iB1, ru_klI, ru_klR, ru_klF, ru_klJ, ru_kl0, ru_cs0, ru_csI, ru_csR, ru_csF, ru_csJ, wI_add, wI_sub, wI_mul, wI_lt, wI_le, wI_inj, ru_fdE, ru_fdN, ru_iaN, ru_baN, ru_laN, ru_qaN, ru_pfN, ru_isN, ru_bsN, ru_jsN, ru_qsN, ru_set2, Nat.add_right_cancel_iff, if_true, if_false, ite_self, Int.reduceEq, and_self, Int.add_neg_cancel_right, Int.add_zero, Int.zero_add, md_e, md_f19, d1, d2, d3, d4, k, wI_and1, not_false_iff]
        · rw [if_neg c4] at k ⊢
          simp (disch := omega) only [en333, e333_0, e333_1, e333_4, e333_7, e333_8, e333_11, e333_14, e333_15, e333_16, e333_19, e333_20, e333_21, e333_24, e333_25, e333_26, e333_29, e333_30, e333_31, e333_34, e333_35, e333_38, e333_39, e333_40, e333_41, e333_44, e333_46, e333_47, e333_48, e333_50, e333_51, e333_52, e333_55, e333_57, e333_58, e333_59, e333_61, e333_62, e333_65, ↓reduceIte, Bool.false_eq_true, not_false_eq_true, not_true_eq_false, Nat.reduceLeDiff, Nat.reduceAdd, Nat.reduceEqDiff, Int.reduceToNat, Int.toNat_natCast, iB0, iB1, ru_klI, ru_klR, ru_klF, ru_klJ, ru_kl0, ru_cs0, ru_csI, ru_csR, ru_csF, ru_csJ, wI_add, wI_sub, wI_mul, wI_lt, wI_le, wI_inj, ru_fdE, ru_fdN, ru_iaN, ru_baN, ru_laN, ru_qaN, ru_pfN, ru_isN, ru_bsN, ru_jsN, ru_qsN, ru_set2, Nat.add_right_cancel_iff, if_true, if_false, ite_self, Int.reduceEq, and_self, Int.add_neg_cancel_right, Int.add_zero, Int.zero_add, md_e, md_f19, d1, d2, d3, d4, k, wI_and1, not_false_iff]
  · rw [if_pos rfl]
    have d2 : ((1000000000 : Int) = 1000000000) = True := eq_true rfl
    have d5 : ((1000000000 : Int) = -1) = False := eq_false (by decide)
    by_cases c1 : n = -1
    · have d3 : (n = -1) = True := eq_true c1
      simp (disch := omega) only [en333, e333_0, e333_1, e333_4, e333_7, e333_8, e333_11, e333_14, e333_15, e333_16, e333_19, e333_20, e333_21, e333_24, e333_25, e333_26, e333_29, e333_30, e333_31, e333_34, e333_35, e333_38, e333_39, e333_40, e333_41, e333_44, e333_46, e333_47, e333_48, e333_50, e333_51, e333_52, e333_55, e333_57, e333_58, e333_59, e333_61, e333_62, e333_65, ↓reduceIte, Bool.false_eq_true, not_false_eq_true, not_true_eq_false, Nat.reduceLeDiff, Nat.reduceAdd, Nat.reduceEqDiff, Int.reduceToNat, Int.toNat_natCast, iB0, iB1, ru_klI, ru_klR, ru_klF, ru_klJ, ru_kl0, ru_cs0, ru_csI, ru_csR, ru_csF, ru_csJ, wI_add, wI_sub, wI_mul, wI_lt, wI_le, wI_inj, ru_fdE, ru_fdN, ru_iaN, ru_baN, ru_laN, ru_qaN, ru_pfN, ru_isN, ru_bsN, ru_jsN, ru_qsN, ru_set2, Nat.add_right_cancel_iff, if_true, if_false, ite_self, Int.reduceEq, and_self, Int.add_neg_cancel_right, Int.add_zero, Int.zero_add, md_e, d1, d2, d3, d5, wI_and1, not_true, not_false_iff]
    · have d3 : (n = -1) = False := eq_false c1
      simp (disch := omega) only [en333, e333_0, e333_1, e333_4, e333_7, e333_8, e333_11, e333_14, e333_15, e333_16, e333_19, e333_20, e333_21, e333_24, e333_25, e333_26, e333_29, e333_30, e333_31, e333_34, e333_35, e333_38, e333_39, e333_40, e333_41, e333_44, e333_46, e333_47, e333_48, e333_50, e333_51, e333_52, e333_55, e333_57, e333_58, e333_59, e333_61, e333_62, e333_65, ↓reduceIte, Bool.false_eq_true, not_false_eq_true, not_true_eq_false, Nat.reduceLeDiff, Nat.reduceAdd, Nat.reduceEqDiff, Int.reduceToNat, Int.toNat_natCast, iB0, iB1, ru_klI, ru_klR, ru_klF, ru_klJ, ru_kl0, ru_cs0, ru_csI, ru_csR, ru_csF, ru_csJ, wI_add, wI_sub, wI_mul, wI_lt, wI_le, wI_inj, ru_fdE, ru_fdN, ru_iaN, ru_baN, ru_laN, ru_qaN, ru_pfN, ru_isN, ru_bsN, ru_jsN, ru_qsN, ru_set2, Nat.add_right_cancel_iff, if_true, if_false, ite_self, Int.reduceEq, and_self, Int.add_neg_cancel_right, Int.add_zero, Int.zero_add, md_e, d1, d2, d3, d5, wI_and1, not_true, not_false_iff]
end RIT
