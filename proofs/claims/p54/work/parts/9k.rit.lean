section RIT
variable {z : Bool}
theorem p71l {X : am_H} {a b n1 n2 : Nat} {F G : Nat → Int} (h1 : X.1 a = some (.inl (0, n1, .inl (fun i => wI (F i))))) (h2 : X.1 b = some (.inl (0, n2, .inl (fun i => wI (G i))))) {i j : Nat} (hi : i + 8 ≤ n1) (hj : j + 8 ≤ n2) (hn1 : n1 ≤ 5000) (hn2 : n2 ≤ 5000) (hF : ∀ k, k < 8 → -1000 ≤ F (i + k) ∧ F (i + k) ≤ 1000) (hG : ∀ k, k < 8 → -1000 ≤ G (j + k) ∧ G (j + k) ≤ 1000) : ∀ d k : Nat, k + d = 8 → ru_n z 71 3 [some (.ref a), some (.int (wI i)), some (.ref b), some (.int (wI j)), some (.int (wI k))] [] X = some (.inl (some (.int (wI (if agN (fun k => F (i + k)) (fun k => G (j + k)) d k = 0 then 1 else 0)))), X) := by
  intro d
  induction d with
  | zero =>
    intro k hk
    obtain rfl : k = 8 := by omega
    simp (disch := omega) only [e71_3, e71_5, e71_7, e71_10, e71_11, e71_12, e71_14, e71_15, e71_16, e71_17, e71_18, e71_20, e71_21, e71_22, e71_25, e71_26, e71_27, e71_30, e71_33, e71_34, ↓reduceIte, Bool.false_eq_true, not_false_eq_true, not_true_eq_false, Nat.reduceLeDiff, Nat.reduceAdd, Nat.reduceEqDiff, Int.reduceToNat, Int.toNat_natCast, iB0, iB1, ru_klI, ru_klR, ru_klF, ru_klJ, ru_kl0, ru_cs0, ru_csI, ru_csR, ru_csF, ru_csJ, wI_add, wI_sub, wI_mul, wI_lt, wI_le, wI_inj, ru_fdE, ru_fdN, ru_iaN, ru_baN, ru_laN, ru_qaN, ru_pfN, ru_isN, ru_bsN, ru_jsN, ru_qsN, ru_set2, Nat.add_right_cancel_iff, if_true, if_false, ite_self, Int.reduceEq, and_self, Int.add_neg_cancel_right, Int.add_zero, Int.zero_add, show (((8 : Nat) : Int)) = 8 from rfl, Int.le_refl, wI_and1, agN]
  | succ d ih =>
    intro k hk
    have c : ((8 : Int) ≤ (k : Int)) = False := eq_false (by omega)
    have r1 := ru_ia (z := (i : Int) + (k : Int)) h1 (by omega) (by omega) (by omega)
    have r2 := ru_ia (z := (j : Int) + (k : Int)) h2 (by omega) (by omega) (by omega)
    rw [show ((i : Int) + (k : Int)).toNat = i + k by omega] at r1
    rw [show ((j : Int) + (k : Int)).toNat = j + k by omega] at r2
    have b1 := hF k (by omega)
    have b2 := hG k (by omega)
    have eA : agN (fun k => F (i + k)) (fun k => G (j + k)) (d + 1) k = if F (i + k) = G (j + k) then agN (fun k => F (i + k)) (fun k => G (j + k)) d (k + 1) else F (i + k) - G (j + k) := rfl
    rw [eA, e71_3]
    by_cases e : F (i + k) = G (j + k)
    · rw [if_pos e]
      have ih1 := ih (k + 1) (by omega)
      have d1 : (F (i + k) = G (j + k)) = True := eq_true e
      simp only [Int.natCast_add, Int.natCast_one] at ih1
      simp (disch := omega) only [e71_5, e71_7, e71_10, e71_11, e71_12, e71_14, e71_15, e71_16, e71_17, e71_18, e71_20, e71_21, e71_22, e71_25, e71_26, e71_27, e71_30, e71_33, e71_34, ↓reduceIte, Bool.false_eq_true, not_false_eq_true, not_true_eq_false, Nat.reduceLeDiff, Nat.reduceAdd, Nat.reduceEqDiff, Int.reduceToNat, Int.toNat_natCast, iB0, iB1, ru_klI, ru_klR, ru_klF, ru_klJ, ru_kl0, ru_cs0, ru_csI, ru_csR, ru_csF, ru_csJ, wI_add, wI_sub, wI_mul, wI_lt, wI_le, wI_inj, ru_fdE, ru_fdN, ru_iaN, ru_baN, ru_laN, ru_qaN, ru_pfN, ru_isN, ru_bsN, ru_jsN, ru_qsN, ru_set2, Nat.add_right_cancel_iff, if_true, if_false, ite_self, Int.reduceEq, and_self, Int.add_neg_cancel_right, Int.add_zero, Int.zero_add, c, r1, r2, d1]
      exact ih1
    · rw [if_neg e, if_neg (by omega)]
      have d1 : (F (i + k) = G (j + k)) = False := eq_false e
      simp (disch := omega) only [e71_5, e71_7, e71_10, e71_11, e71_12, e71_14, e71_15, e71_16, e71_17, e71_18, e71_20, e71_21, e71_22, e71_25, e71_26, e71_27, e71_30, e71_33, e71_34, ↓reduceIte, Bool.false_eq_true, not_false_eq_true, not_true_eq_false, Nat.reduceLeDiff, Nat.reduceAdd, Nat.reduceEqDiff, Int.reduceToNat, Int.toNat_natCast, iB0, iB1, ru_klI, ru_klR, ru_klF, ru_klJ, ru_kl0, ru_cs0, ru_csI, ru_csR, ru_csF, ru_csJ, wI_add, wI_sub, wI_mul, wI_lt, wI_le, wI_inj, ru_fdE, ru_fdN, ru_iaN, ru_baN, ru_laN, ru_qaN, ru_pfN, ru_isN, ru_bsN, ru_jsN, ru_qsN, ru_set2, Nat.add_right_cancel_iff, if_true, if_false, ite_self, Int.reduceEq, and_self, Int.add_neg_cancel_right, Int.add_zero, Int.zero_add, c, r1, r2, d1, wI_and1]
theorem p71 {X : am_H} {a b n1 n2 : Nat} {F G : Nat → Int} (h1 : X.1 a = some (.inl (0, n1, .inl (fun i => wI (F i))))) (h2 : X.1 b = some (.inl (0, n2, .inl (fun i => wI (G i))))) {i j : Nat} (hi : i + 8 ≤ n1) (hj : j + 8 ≤ n2) (hn1 : n1 ≤ 5000) (hn2 : n2 ≤ 5000) (hF : ∀ k, k < 8 → -1000 ≤ F (i + k) ∧ F (i + k) ≤ 1000) (hG : ∀ k, k < 8 → -1000 ≤ G (j + k) ∧ G (j + k) ≤ 1000) : ru_ev z 71 [.ref a, .int (wI i), .ref b, .int (wI j)] X = some (.inl (some (.int (wI (if agN (fun k => F (i + k)) (fun k => G (j + k)) 8 0 = 0 then 1 else 0)))), X) := by
  have k := p71l (z := z) h1 h2 hi hj hn1 hn2 hF hG 8 0 (by omega)
  rw [show ((0 : Nat) : Int) = 0 from rfl] at k
  simp (disch := omega) only [e71_0, e71_1, en71, ↓reduceIte, Bool.false_eq_true, not_false_eq_true, not_true_eq_false, Nat.reduceLeDiff, Nat.reduceAdd, Nat.reduceEqDiff, Int.reduceToNat, Int.toNat_natCast, iB0, iB1, ru_klI, ru_klR, ru_klF, ru_klJ, ru_kl0, ru_cs0, ru_csI, ru_csR, ru_csF, ru_csJ, wI_add, wI_sub, wI_mul, wI_lt, wI_le, wI_inj, ru_fdE, ru_fdN, ru_iaN, ru_baN, ru_laN, ru_qaN, ru_pfN, ru_isN, ru_bsN, ru_jsN, ru_qsN, ru_set2, Nat.add_right_cancel_iff, if_true, if_false, ite_self, Int.reduceEq, and_self, Int.add_neg_cancel_right, Int.add_zero, Int.zero_add]
  exact k
variable {h : am_H} {M S : tMd} {l : List Nat} {N f r len : Nat} {nm : Nat → Int}
end RIT
