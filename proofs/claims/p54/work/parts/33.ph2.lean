/-! ===== a photo: its loops ===== -/
def inR (q : tPh) (x1 y1 x2 y2 : Int) (i : Nat) : Bool := shw q i && decide (x1 ≤ shX q i ∧ shX q i ≤ x2 ∧ y1 ≤ shY q i ∧ shY q i ≤ y2)
theorem shXY_rng {q : tPh} (hr : phR q) (i : Nat) : -1000 ≤ shX q i ∧ shX q i ≤ 1000 ∧ -1000 ≤ shY q i ∧ shY q i ≤ 999 := by
  have s := phR_s hr
  have s2 := phR_i hr i
  unfold shX shY
  split <;> omega
/-- the names of those in the picture, as bits -/
def nmN (q : tPh) : Nat → Nat
  | 0 => 0
  | k + 1 => if shw q k = true ∧ ¬ q.2 3 k = -1 then nmN q k ||| 2 ^ (q.2 3 k).toNat else nmN q k
theorem nmN_lt {q : tPh} (hr : phR q) : ∀ k, nmN q k < 1048576
  | 0 => by show 0 < 1048576; decide
  | k + 1 => by
    have h1 := nmN_lt hr k
    unfold nmN
    split
    · have h2 := phR_i hr k
      have h3 : 2 ^ (q.2 3 k).toNat < 2 ^ 20 := Nat.pow_lt_pow_right (by decide) (by omega)
      exact Nat.or_lt_two_pow (n := 20) h1 h3
    · exact h1
def hofF (f : Nat → Int) (nm : Int) : Nat → Nat → Int
  | 0, _ => -1
  | d + 1, k => if f k = nm then (k : Int) else hofF f nm d (k + 1)
def gvF (f : Nat → Int) (nm : Int) (n : Nat) : Nat → Int := fun i => if i < n ∧ f i = nm then -1 else f i
section PH2
variable {z : Bool} {h : am_H} {a : Nat} {q : tPh}
theorem m183l (hp : phAt h a q) (hr : phR q) {x1 y1 x2 y2 : Int} (g1 : -2147483648 ≤ x1 ∧ x1 < 2147483648) (g2 : -2147483648 ≤ y1 ∧ y1 < 2147483648) (g3 : -2147483648 ≤ x2 ∧ x2 < 2147483648) (g4 : -2147483648 ≤ y2 ∧ y2 < 2147483648) {n : Nat} (hn : q.1 7 = n) : ∀ d k, k + d = n →
    ru_n z 183 6 [some (.ref a), some (.int (wI x1)), some (.int (wI y1)), some (.int (wI x2)), some (.int (wI y2)), some (.int (wI (bsN (inR q x1 y1 x2 y2) k : Nat))), some (.int (wI k))] [] h = some (.inl (some (.int (wI (bsN (inR q x1 y1 x2 y2) n : Nat)))), h) := by
  have s := phR_s hr
  intro d
  induction d with
  | zero =>
    intro k hk
    obtain rfl : k = n := by omega
    have c : (q.1 7 ≤ (k : Int)) = True := eq_true (by omega)
    simp (disch := omega) only [e183_0, e183_1, e183_3, e183_4, e183_6, e183_8, e183_9, e183_12, e183_15, e183_16, e183_18, e183_21, e183_24, e183_25, e183_27, e183_30, e183_31, e183_34, e183_35, e183_37, e183_40, e183_41, e183_44, e183_45, e183_47, e183_50, e183_51, e183_54, e183_55, e183_57, e183_60, e183_62, e183_65, e183_67, e183_68, e183_70, e183_71, e183_72, e183_74, e183_77, e183_80, e183_82, ↓reduceIte, Bool.false_eq_true, not_false_eq_true, not_true_eq_false, Nat.reduceLeDiff, Nat.reduceAdd, Nat.reduceEqDiff, Int.reduceToNat, Int.toNat_natCast, iB0, iB1, ru_klI, ru_klR, ru_klF, ru_klJ, ru_kl0, ru_cs0, ru_csI, ru_csR, ru_csF, ru_csJ, wI_add, wI_sub, wI_mul, wI_lt, wI_le, wI_inj, ru_fdE, ru_fdN, ru_iaN, ru_baN, ru_laN, ru_qaN, ru_pfN, ru_isN, ru_bsN, ru_jsN, ru_qsN, ru_set2, Nat.add_right_cancel_iff, if_true, if_false, ite_self, phF hp, c]
  | succ d ih =>
    intro k hk
    have ih1 := ih (k + 1) (by omega)
    have s2 := shXY_rng hr k
    have b := bsN_b (P := inR q x1 y1 x2 y2) (k := k) (by omega)
    simp only [Int.natCast_add, Int.natCast_one] at ih1
    have c : (q.1 7 ≤ (k : Int)) = False := eq_false (by omega)
    rw [e183_6]
    simp (disch := omega) only [e183_0, e183_1, e183_3, e183_4, e183_8, e183_9, e183_12, e183_15, e183_16, e183_18, e183_21, e183_24, e183_25, e183_27, e183_30, e183_31, e183_34, e183_35, e183_37, e183_40, e183_41, e183_44, e183_45, e183_47, e183_50, e183_51, e183_54, e183_55, e183_57, e183_60, e183_62, e183_65, e183_67, e183_68, e183_70, e183_71, e183_72, e183_74, e183_77, e183_80, e183_82, ↓reduceIte, Bool.false_eq_true, not_false_eq_true, not_true_eq_false, Nat.reduceLeDiff, Nat.reduceAdd, Nat.reduceEqDiff, Int.reduceToNat, Int.toNat_natCast, iB0, iB1, ru_klI, ru_klR, ru_klF, ru_klJ, ru_kl0, ru_cs0, ru_csI, ru_csR, ru_csF, ru_csJ, wI_add, wI_sub, wI_mul, wI_lt, wI_le, wI_inj, ru_fdE, ru_fdN, ru_iaN, ru_baN, ru_laN, ru_qaN, ru_pfN, ru_isN, ru_bsN, ru_jsN, ru_qsN, ru_set2, Nat.add_right_cancel_iff, if_true, if_false, ite_self, phF hp, c, m82 hp hr, m83 hp hr, m84 hp, wI_shl1, wI_nat_or, wI_b0, Int.toNat_natCast]
    by_cases hP : inR q x1 y1 x2 y2 k = true
    · rw [bsN_t hP] at ih1
      simp only [inR, Bool.and_eq_true, decide_eq_true_eq] at hP
      rw [if_neg (by simp only [hP.1, not_true]; exact id), if_neg (by omega), if_neg (by omega), if_neg (by omega), if_neg (by omega)]
      exact ih1
    · rw [bsN_f hP] at ih1
      simp only [inR, Bool.and_eq_true, decide_eq_true_eq] at hP
      repeat' split
      all_goals first | exact ih1 | (exfalso; apply hP; refine ⟨by simp_all, by omega⟩)
theorem m183 (hp : phAt h a q) (hr : phR q) {x1 y1 x2 y2 : Int} (g1 : -2147483648 ≤ x1 ∧ x1 < 2147483648) (g2 : -2147483648 ≤ y1 ∧ y1 < 2147483648) (g3 : -2147483648 ≤ x2 ∧ x2 < 2147483648) (g4 : -2147483648 ≤ y2 ∧ y2 < 2147483648) : ru_ev z 183 [.ref a, .int (wI x1), .int (wI y1), .int (wI x2), .int (wI y2)] h = some (.inl (some (.int (wI (bsN (inR q x1 y1 x2 y2) (q.1 7).toNat : Nat)))), h) := by
  have s := phR_s hr
  have key := m183l (z := z) hp hr g1 g2 g3 g4 (n := (q.1 7).toNat) (by omega) (q.1 7).toNat 0 (by omega)
  simp (disch := omega) only [en183, hp.1, e183_0, e183_1, e183_3, e183_4, ↓reduceIte, Bool.false_eq_true, not_false_eq_true, not_true_eq_false, Nat.reduceLeDiff, Nat.reduceAdd, Nat.reduceEqDiff, Int.reduceToNat, Int.toNat_natCast, iB0, iB1, ru_klI, ru_klR, ru_klF, ru_klJ, ru_kl0, ru_cs0, ru_csI, ru_csR, ru_csF, ru_csJ, wI_add, wI_sub, wI_mul, wI_lt, wI_le, wI_inj, ru_fdE, ru_fdN, ru_iaN, ru_baN, ru_laN, ru_qaN, ru_pfN, ru_isN, ru_bsN, ru_jsN, ru_qsN, ru_set2, Nat.add_right_cancel_iff, if_true, if_false, ite_self]
  exact key
theorem m228l (hp : phAt h a q) (hr : phR q) {n : Nat} (hn : q.1 7 = n) : ∀ d k, k + d = n →
    ru_n z 228 4 [some (.ref a), some (.int (wI (nmN q k : Nat))), some (.int (wI k))] [] h = some (.inl (some (.int (wI (nmN q n : Nat)))), h) := by
  have s := phR_s hr
  intro d
  induction d with
  | zero =>
    intro k hk
    obtain rfl : k = n := by omega
    have c : (q.1 7 ≤ (k : Int)) = True := eq_true (by omega)
    simp (disch := omega) only [e228_0, e228_1, e228_2, e228_3, e228_4, e228_5, e228_6, e228_9, e228_12, e228_13, e228_14, e228_17, e228_20, e228_21, e228_24, e228_25, e228_26, e228_27, e228_30, e228_31, e228_32, e228_33, e228_36, e228_37, e228_38, e228_39, e228_40, e228_41, e228_44, e228_47, e228_48, ↓reduceIte, Bool.false_eq_true, not_false_eq_true, not_true_eq_false, Nat.reduceLeDiff, Nat.reduceAdd, Nat.reduceEqDiff, Int.reduceToNat, Int.toNat_natCast, iB0, iB1, ru_klI, ru_klR, ru_klF, ru_klJ, ru_kl0, ru_cs0, ru_csI, ru_csR, ru_csF, ru_csJ, wI_add, wI_sub, wI_mul, wI_lt, wI_le, wI_inj, ru_fdE, ru_fdN, ru_iaN, ru_baN, ru_laN, ru_qaN, ru_pfN, ru_isN, ru_bsN, ru_jsN, ru_qsN, ru_set2, Nat.add_right_cancel_iff, if_true, if_false, ite_self, phF hp, c]
  | succ d ih =>
    intro k hk
    have ih1 := ih (k + 1) (by omega)
    have s2 := phR_i hr k
    have b := nmN_lt hr k
    simp only [Int.natCast_add, Int.natCast_one] at ih1
    have c : (q.1 7 ≤ (k : Int)) = False := eq_false (by omega)
    rw [e228_4]
    by_cases hP : shw q k = true ∧ ¬ q.2 3 k = -1
    · have h3 : 2 ^ (q.2 3 k).toNat < 2 ^ 20 := Nat.pow_lt_pow_right (by decide) (by omega)
      simp (disch := omega) only [e228_0, e228_1, e228_2, e228_3, e228_5, e228_6, e228_9, e228_12, e228_13, e228_14, e228_17, e228_20, e228_21, e228_24, e228_25, e228_26, e228_27, e228_30, e228_31, e228_32, e228_33, e228_36, e228_37, e228_38, e228_39, e228_40, e228_41, e228_44, e228_47, e228_48, ↓reduceIte, Bool.false_eq_true, not_false_eq_true, not_true_eq_false, Nat.reduceLeDiff, Nat.reduceAdd, Nat.reduceEqDiff, Int.reduceToNat, Int.toNat_natCast, iB0, iB1, ru_klI, ru_klR, ru_klF, ru_klJ, ru_kl0, ru_cs0, ru_csI, ru_csR, ru_csF, ru_csJ, wI_add, wI_sub, wI_mul, wI_lt, wI_le, wI_inj, ru_fdE, ru_fdN, ru_iaN, ru_baN, ru_laN, ru_qaN, ru_pfN, ru_isN, ru_bsN, ru_jsN, ru_qsN, ru_set2, Nat.add_right_cancel_iff, if_true, if_false, ite_self, phF hp, c, m82 hp hr, phA3 hp, wI_shl1, wI_nat_or, wI_b0, Int.toNat_natCast, hP.1, hP.2, not_true]
      rw [nmN, if_pos hP] at ih1
      exact ih1
    · simp (disch := omega) only [e228_0, e228_1, e228_2, e228_3, e228_5, e228_6, e228_9, e228_12, e228_13, e228_14, e228_17, e228_20, e228_21, e228_24, e228_25, e228_26, e228_27, e228_30, e228_31, e228_32, e228_33, e228_36, e228_37, e228_38, e228_39, e228_40, e228_41, e228_44, e228_47, e228_48, ↓reduceIte, Bool.false_eq_true, not_false_eq_true, not_true_eq_false, Nat.reduceLeDiff, Nat.reduceAdd, Nat.reduceEqDiff, Int.reduceToNat, Int.toNat_natCast, iB0, iB1, ru_klI, ru_klR, ru_klF, ru_klJ, ru_kl0, ru_cs0, ru_csI, ru_csR, ru_csF, ru_csJ, wI_add, wI_sub, wI_mul, wI_lt, wI_le, wI_inj, ru_fdE, ru_fdN, ru_iaN, ru_baN, ru_laN, ru_qaN, ru_pfN, ru_isN, ru_bsN, ru_jsN, ru_qsN, ru_set2, Nat.add_right_cancel_iff, if_true, if_false, ite_self, phF hp, c, m82 hp hr, phA3 hp, wI_b0, Int.toNat_natCast]
      rw [nmN, if_neg hP] at ih1
      split
      · exact ih1
      · split
        · exact ih1
        · exact absurd ⟨by simp_all, by assumption⟩ hP
theorem m228 (hp : phAt h a q) (hr : phR q) : ru_ev z 228 [.ref a] h = some (.inl (some (.int (wI (nmN q (q.1 7).toNat : Nat)))), h) := by
  have s := phR_s hr
  have key := m228l (z := z) hp hr (n := (q.1 7).toNat) (by omega) (q.1 7).toNat 0 (by omega)
  simp (disch := omega) only [en228, hp.1, e228_0, e228_1, e228_2, e228_3, ↓reduceIte, Bool.false_eq_true, not_false_eq_true, not_true_eq_false, Nat.reduceLeDiff, Nat.reduceAdd, Nat.reduceEqDiff, Int.reduceToNat, Int.toNat_natCast, iB0, iB1, ru_klI, ru_klR, ru_klF, ru_klJ, ru_kl0, ru_cs0, ru_csI, ru_csR, ru_csF, ru_csJ, wI_add, wI_sub, wI_mul, wI_lt, wI_le, wI_inj, ru_fdE, ru_fdN, ru_iaN, ru_baN, ru_laN, ru_qaN, ru_pfN, ru_isN, ru_bsN, ru_jsN, ru_qsN, ru_set2, Nat.add_right_cancel_iff, if_true, if_false, ite_self]
  exact key
theorem m108l (hp : phAt h a q) (hr : phR q) {nm : Int} (g : -2147483648 ≤ nm ∧ nm < 2147483648) {n : Nat} (hn : q.1 7 = n) : ∀ d k, k + d = n →
    ru_n z 108 2 [some (.ref a), some (.int (wI nm)), some (.int (wI k))] [] h = some (.inl (some (.int (wI (hofF (q.2 3) nm d k)))), h) := by
  have s := phR_s hr
  intro d
  induction d with
  | zero =>
    intro k hk
    have c : (q.1 7 ≤ (k : Int)) = True := eq_true (by omega)
    simp (disch := omega) only [e108_0, e108_1, e108_2, e108_3, e108_4, e108_7, e108_10, e108_11, e108_14, e108_15, e108_16, e108_17, e108_20, e108_21, e108_22, e108_25, e108_28, e108_29, ↓reduceIte, Bool.false_eq_true, not_false_eq_true, not_true_eq_false, Nat.reduceLeDiff, Nat.reduceAdd, Nat.reduceEqDiff, Int.reduceToNat, Int.toNat_natCast, iB0, iB1, ru_klI, ru_klR, ru_klF, ru_klJ, ru_kl0, ru_cs0, ru_csI, ru_csR, ru_csF, ru_csJ, wI_add, wI_sub, wI_mul, wI_lt, wI_le, wI_inj, ru_fdE, ru_fdN, ru_iaN, ru_baN, ru_laN, ru_qaN, ru_pfN, ru_isN, ru_bsN, ru_jsN, ru_qsN, ru_set2, Nat.add_right_cancel_iff, if_true, if_false, ite_self, phF hp, c, hofF]
  | succ d ih =>
    intro k hk
    have ih1 := ih (k + 1) (by omega)
    have s2 := phR_i hr k
    simp only [Int.natCast_add, Int.natCast_one] at ih1
    have c : (q.1 7 ≤ (k : Int)) = False := eq_false (by omega)
    rw [e108_2]
    simp (disch := omega) only [e108_0, e108_1, e108_3, e108_4, e108_7, e108_10, e108_11, e108_14, e108_15, e108_16, e108_17, e108_20, e108_21, e108_22, e108_25, e108_28, e108_29, ↓reduceIte, Bool.false_eq_true, not_false_eq_true, not_true_eq_false, Nat.reduceLeDiff, Nat.reduceAdd, Nat.reduceEqDiff, Int.reduceToNat, Int.toNat_natCast, iB0, iB1, ru_klI, ru_klR, ru_klF, ru_klJ, ru_kl0, ru_cs0, ru_csI, ru_csR, ru_csF, ru_csJ, wI_add, wI_sub, wI_mul, wI_lt, wI_le, wI_inj, ru_fdE, ru_fdN, ru_iaN, ru_baN, ru_laN, ru_qaN, ru_pfN, ru_isN, ru_bsN, ru_jsN, ru_qsN, ru_set2, Nat.add_right_cancel_iff, if_true, if_false, ite_self, phF hp, c, phA3 hp, Int.toNat_natCast, hofF, ih1]
    split <;> simp_all
theorem m108 (hp : phAt h a q) (hr : phR q) {nm : Int} (g : -2147483648 ≤ nm ∧ nm < 2147483648) : ru_ev z 108 [.ref a, .int (wI nm)] h = some (.inl (some (.int (wI (hofF (q.2 3) nm (q.1 7).toNat 0)))), h) := by
  have s := phR_s hr
  have key := m108l (z := z) hp hr g (n := (q.1 7).toNat) (by omega) (q.1 7).toNat 0 (by omega)
  simp (disch := omega) only [en108, hp.1, e108_0, e108_1, ↓reduceIte, Bool.false_eq_true, not_false_eq_true, not_true_eq_false, Nat.reduceLeDiff, Nat.reduceAdd, Nat.reduceEqDiff, Int.reduceToNat, Int.toNat_natCast, iB0, iB1, ru_klI, ru_klR, ru_klF, ru_klJ, ru_kl0, ru_cs0, ru_csI, ru_csR, ru_csF, ru_csJ, wI_add, wI_sub, wI_mul, wI_lt, wI_le, wI_inj, ru_fdE, ru_fdN, ru_iaN, ru_baN, ru_laN, ru_qaN, ru_pfN, ru_isN, ru_bsN, ru_jsN, ru_qsN, ru_set2, Nat.add_right_cancel_iff, if_true, if_false, ite_self]
  exact key
theorem m101l (hp : phAt h a q) (hr : phR q) {p : Int} (gp : 0 ≤ p ∧ p < 12) {nm : Int} (g : -1 ≤ nm ∧ nm ≤ 19) {n : Nat} (hn : q.1 7 = n) : ∀ d k, k + d = n →
    ru_n z 101 2 [some (.ref a), some (.int (wI p)), some (.int (wI nm)), some (.int (wI k))] [] (am_set h (a + 4) (.inl (0, 12, .inl (fun i => wI (gvF (q.2 3) nm k i))))) = some (.inl none, am_set h (a + 4) (.inl (0, 12, .inl (fun i => wI (am_up (gvF (q.2 3) nm n) p.toNat nm i))))) := by
  have s := phR_s hr
  intro d
  induction d with
  | zero =>
    intro k hk
    obtain rfl : k = n := by omega
    have c : (q.1 7 ≤ (k : Int)) = True := eq_true (by omega)
    simp (disch := omega) only [e101_0, e101_1, e101_2, e101_3, e101_4, e101_7, e101_10, e101_11, e101_14, e101_15, e101_16, e101_17, e101_20, e101_21, e101_24, e101_25, e101_26, e101_27, e101_30, e101_33, e101_34, e101_37, e101_38, e101_39, e101_40, ↓reduceIte, Bool.false_eq_true, not_false_eq_true, not_true_eq_false, Nat.reduceLeDiff, Nat.reduceAdd, Nat.reduceEqDiff, Int.reduceToNat, Int.toNat_natCast, iB0, iB1, ru_klI, ru_klR, ru_klF, ru_klJ, ru_kl0, ru_cs0, ru_csI, ru_csR, ru_csF, ru_csJ, wI_add, wI_sub, wI_mul, wI_lt, wI_le, wI_inj, ru_fdE, ru_fdN, ru_iaN, ru_baN, ru_laN, ru_qaN, ru_pfN, ru_isN, ru_bsN, ru_jsN, ru_qsN, ru_set2, Nat.add_right_cancel_iff, if_true, if_false, ite_self, phF hp, c, ru_isE, ru_up_wI]
  | succ d ih =>
    intro k hk
    have ih1 := ih (k + 1) (by omega)
    have s2 := phR_i hr k
    simp only [Int.natCast_add, Int.natCast_one] at ih1
    have c : (q.1 7 ≤ (k : Int)) = False := eq_false (by omega)
    have e0 : gvF (q.2 3) nm k k = q.2 3 k := by unfold gvF; rw [if_neg (by omega)]
    rw [e101_2]
    simp (disch := omega) only [e101_0, e101_1, e101_3, e101_4, e101_7, e101_10, e101_11, e101_14, e101_15, e101_16, e101_17, e101_20, e101_21, e101_24, e101_25, e101_26, e101_27, e101_30, e101_33, e101_34, e101_37, e101_38, e101_39, e101_40, ↓reduceIte, Bool.false_eq_true, not_false_eq_true, not_true_eq_false, Nat.reduceLeDiff, Nat.reduceAdd, Nat.reduceEqDiff, Int.reduceToNat, Int.toNat_natCast, iB0, iB1, ru_klI, ru_klR, ru_klF, ru_klJ, ru_kl0, ru_cs0, ru_csI, ru_csR, ru_csF, ru_csJ, wI_add, wI_sub, wI_mul, wI_lt, wI_le, wI_inj, ru_fdE, ru_fdN, ru_iaN, ru_baN, ru_laN, ru_qaN, ru_pfN, ru_isN, ru_bsN, ru_jsN, ru_qsN, ru_set2, Nat.add_right_cancel_iff, if_true, if_false, ite_self, phF hp, c, ru_iaE, ru_isE, ru_up_wI, Int.toNat_natCast, e0]
    by_cases hc : q.2 3 k = nm
    · have e1 : (am_up (gvF (q.2 3) nm k) k (-1)) = gvF (q.2 3) nm (k + 1) := by
        funext i
        unfold am_up gvF
        by_cases hi : i = k
        · subst hi; rw [if_pos rfl, if_pos ⟨by omega, hc⟩]
        · rw [if_neg hi]
          have : (i < k + 1 ∧ q.2 3 i = nm) = (i < k ∧ q.2 3 i = nm) := propext ⟨fun h => ⟨by omega, h.2⟩, fun h => ⟨by omega, h.2⟩⟩
          simp only [this]
      rw [if_neg (by simp [hc]), e1]
      exact ih1
    · have e1 : gvF (q.2 3) nm (k + 1) = gvF (q.2 3) nm k := by
        funext i
        unfold gvF
        by_cases hi : i = k
        · subst hi; rw [if_neg (fun h => hc h.2), if_neg (fun h => hc h.2)]
        · have : (i < k + 1 ∧ q.2 3 i = nm) = (i < k ∧ q.2 3 i = nm) := propext ⟨fun h => ⟨by omega, h.2⟩, fun h => ⟨by omega, h.2⟩⟩
          simp only [this]
      rw [if_pos hc, ← e1]
      exact ih1
theorem m101 (hp : phAt h a q) (hr : phR q) {p : Int} (gp : 0 ≤ p ∧ p < 12) {nm : Int} (g : -1 ≤ nm ∧ nm ≤ 19) : ru_ev z 101 [.ref a, .int (wI p), .int (wI nm)] h = some (.inl none, am_set h (a + 4) (.inl (0, 12, .inl (fun i => wI (am_up (gvF (q.2 3) nm (q.1 7).toNat) p.toNat nm i))))) := by
  have s := phR_s hr
  have key := m101l (z := z) hp hr gp g (n := (q.1 7).toNat) (by omega) (q.1 7).toNat 0 (by omega)
  have e0 : gvF (q.2 3) nm 0 = q.2 3 := by funext i; unfold gvF; rw [if_neg (by omega)]
  rw [e0, ru_setself hp.2.2.2.2] at key
  simp (disch := omega) only [en101, hp.1, e101_0, e101_1, ↓reduceIte, Bool.false_eq_true, not_false_eq_true, not_true_eq_false, Nat.reduceLeDiff, Nat.reduceAdd, Nat.reduceEqDiff, Int.reduceToNat, Int.toNat_natCast, iB0, iB1, ru_klI, ru_klR, ru_klF, ru_klJ, ru_kl0, ru_cs0, ru_csI, ru_csR, ru_csF, ru_csJ, wI_add, wI_sub, wI_mul, wI_lt, wI_le, wI_inj, ru_fdE, ru_fdN, ru_iaN, ru_baN, ru_laN, ru_qaN, ru_pfN, ru_isN, ru_bsN, ru_jsN, ru_qsN, ru_set2, Nat.add_right_cancel_iff, if_true, if_false, ite_self]
  exact key
theorem m278 (hp : phAt h a q) : ru_ev z 278 [.ref a] h = some (.inl (some (.int (wI (q.1 4 - q.1 2 + 1)))), h) := by
  simp (disch := omega) only [en278, e278_0, e278_1, e278_4, e278_5, e278_8, e278_9, e278_10, e278_11, ↓reduceIte, Bool.false_eq_true, not_false_eq_true, not_true_eq_false, Nat.reduceLeDiff, Nat.reduceAdd, Nat.reduceEqDiff, Int.reduceToNat, Int.toNat_natCast, iB0, iB1, ru_klI, ru_klR, ru_klF, ru_klJ, ru_kl0, ru_cs0, ru_csI, ru_csR, ru_csF, ru_csJ, wI_add, wI_sub, wI_mul, wI_lt, wI_le, wI_inj, ru_fdE, ru_fdN, ru_iaN, ru_baN, ru_laN, ru_qaN, ru_pfN, ru_isN, ru_bsN, ru_jsN, ru_qsN, ru_set2, Nat.add_right_cancel_iff, if_true, if_false, ite_self, hp.1, phF hp]
theorem m279 (hp : phAt h a q) : ru_ev z 279 [.ref a] h = some (.inl (some (.int (wI (q.1 5 - q.1 3 + 1)))), h) := by
  simp (disch := omega) only [en279, e279_0, e279_1, e279_4, e279_5, e279_8, e279_9, e279_10, e279_11, ↓reduceIte, Bool.false_eq_true, not_false_eq_true, not_true_eq_false, Nat.reduceLeDiff, Nat.reduceAdd, Nat.reduceEqDiff, Int.reduceToNat, Int.toNat_natCast, iB0, iB1, ru_klI, ru_klR, ru_klF, ru_klJ, ru_kl0, ru_cs0, ru_csI, ru_csR, ru_csF, ru_csJ, wI_add, wI_sub, wI_mul, wI_lt, wI_le, wI_inj, ru_fdE, ru_fdN, ru_iaN, ru_baN, ru_laN, ru_qaN, ru_pfN, ru_isN, ru_bsN, ru_jsN, ru_qsN, ru_set2, Nat.add_right_cancel_iff, if_true, if_false, ite_self, hp.1, phF hp]
end PH2
