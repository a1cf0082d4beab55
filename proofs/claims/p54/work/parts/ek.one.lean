/-! ===== the law writes a phrase of one: what it finds ===== -/
def ixF (w : Nat → Int) (who d0 : Int) : Nat → Int
  | 0 => d0
  | k + 1 => if w k = who then (k : Int) else ixF w who d0 k
theorem ixF_no {w : Nat → Int} {who d0 : Int} : ∀ N, (∀ i, i < N → ¬ w i = who) → ixF w who d0 N = d0
  | 0, _ => rfl
  | k + 1, h => by rw [ixF, if_neg (h k (by omega)), ixF_no k (fun i hi => h i (by omega))]
theorem ixF_at {w : Nat → Int} {who d0 : Int} {j : Nat} : ∀ N, j < N → w j = who → (∀ i, i < N → w i = who → i = j) → ixF w who d0 N = (j : Int)
  | 0, h, _, _ => by omega
  | k + 1, h, h1, h2 => by
    rw [ixF]
    by_cases c : w k = who
    · rw [if_pos c, h2 k (by omega) c]
    · rw [if_neg c]
      have : j ≠ k := fun e => c (by rw [← e]; exact h1)
      exact ixF_at k (by omega) h1 (fun i hi he => h2 i (by omega) he)
theorem ixF_b {w : Nat → Int} {who d0 : Int} (hd : -9 ≤ d0 ∧ d0 ≤ 0) : ∀ N, N ≤ 12 → -9 ≤ ixF w who d0 N ∧ ixF w who d0 N ≤ 12
  | 0, _ => by show -9 ≤ d0 ∧ d0 ≤ 12; omega
  | k + 1, h => by have := ixF_b (w := w) (who := who) hd k (by omega); rw [ixF]; split <;> omega
section ONE
variable {z : Bool} {X : am_H}
theorem d420a {N ha : Nat} {w : Nat → Int} {who : Int} (hx : X.1 ha = some (ylI 0 N w)) (hN : N ≤ 12) (hw : ∀ i, i < N → 0 ≤ w i ∧ w i < 12) (hwho : -1 ≤ who ∧ who < 12) {v0 v1 v3 v10 : Value} {a4 a5 a6 a8 a9 a13 : Int32} {f : Nat} (r0 : ∃ q, v0 = .ref q) (r1 : ∃ q, v1 = .ref q) (r3 : ∃ q, v3 = .ref q) (r10 : ∃ q, v10 = .ref q) : ∀ d k, k + d = N → ru_n z 420 107 [some v0, some v1, some (.int (wI f)), some v3, some (.int a4), some (.int a5), some (.int a6), some (.int (wI who)), some (.int a8), some (.int a9), some v10, some (.ref ha), some (.int (wI (ixF w who 0 k))), some (.int a13), some (.int (wI k))] [] X = ru_n z 420 140 [some v0, some v1, some (.int (wI f)), some v3, some (.int a4), some (.int a5), some (.int a6), some (.int (wI who)), some (.int a8), some (.int a9), some v10, some (.ref ha), some (.int (wI (ixF w who 0 N))), some (.int a13), some (.int (wI N))] [] X := by
  obtain ⟨q0, rfl⟩ := r0; obtain ⟨q1, rfl⟩ := r1; obtain ⟨q3, rfl⟩ := r3; obtain ⟨q10, rfl⟩ := r10
  have al : am_al X ha = some (wI N) := ru_al hx (by decide)
  intro d
  induction d with
  | zero =>
    intro k hk
    obtain rfl : k = N := by omega
    simp (disch := omega) only [e420_107, e420_109, e420_111, e420_112, ↓reduceIte, Bool.false_eq_true, not_false_eq_true, not_true_eq_false, Nat.reduceLeDiff, Nat.reduceAdd, Nat.reduceEqDiff, Int.reduceToNat, Int.toNat_natCast, iB0, iB1, ru_klI, ru_klR, ru_klF, ru_klJ, ru_kl0, ru_cs0, ru_csI, ru_csR, ru_csF, ru_csJ, wI_add, wI_sub, wI_mul, wI_lt, wI_le, wI_inj, ru_fdE, ru_fdN, ru_iaN, ru_baN, ru_laN, ru_qaN, ru_pfN, ru_isN, ru_bsN, ru_jsN, ru_qsN, ru_set2, Nat.add_right_cancel_iff, if_true, if_false, ite_self, Int.reduceEq, and_self, Int.add_neg_cancel_right, Int.add_zero, Int.zero_add, al, Int.le_refl]
  | succ d ih =>
    intro k hk
    have d1 : ((N : Int) ≤ (k : Int)) = False := eq_false (by omega)
    have i1 := yl_ia hx (k := (k : Int)) (by omega) (by omega) (by omega)
    rw [Int.toNat_natCast] at i1
    have wb := hw k (by omega)
    have i2 := ih (k + 1) (by omega)
    have e : ixF w who 0 (k + 1) = if w k = who then (k : Int) else ixF w who 0 k := rfl
    rw [e, show (((k + 1 : Nat)) : Int) = (k : Int) + 1 by omega] at i2
    rw [← i2, e420_107]
    by_cases c : w k = who
    · rw [if_pos c]
      simp (disch := omega) only [e420_109, e420_111, e420_112, e420_115, e420_117, e420_119, e420_120, e420_122, e420_125, e420_127, e420_130, e420_132, e420_134, e420_137, ↓reduceIte, Bool.false_eq_true, not_false_eq_true, not_true_eq_false, Nat.reduceLeDiff, Nat.reduceAdd, Nat.reduceEqDiff, Int.reduceToNat, Int.toNat_natCast, iB0, iB1, ru_klI, ru_klR, ru_klF, ru_klJ, ru_kl0, ru_cs0, ru_csI, ru_csR, ru_csF, ru_csJ, wI_add, wI_sub, wI_mul, wI_lt, wI_le, wI_inj, ru_fdE, ru_fdN, ru_iaN, ru_baN, ru_laN, ru_qaN, ru_pfN, ru_isN, ru_bsN, ru_jsN, ru_qsN, ru_set2, Nat.add_right_cancel_iff, if_true, if_false, ite_self, Int.reduceEq, and_self, Int.add_neg_cancel_right, Int.add_zero, Int.zero_add, al, d1, i1, c, not_true]
    · rw [if_neg c]
      simp (disch := omega) only [e420_109, e420_111, e420_112, e420_115, e420_117, e420_119, e420_120, e420_122, e420_125, e420_127, e420_130, e420_132, e420_134, e420_137, ↓reduceIte, Bool.false_eq_true, not_false_eq_true, not_true_eq_false, Nat.reduceLeDiff, Nat.reduceAdd, Nat.reduceEqDiff, Int.reduceToNat, Int.toNat_natCast, iB0, iB1, ru_klI, ru_klR, ru_klF, ru_klJ, ru_kl0, ru_cs0, ru_csI, ru_csR, ru_csF, ru_csJ, wI_add, wI_sub, wI_mul, wI_lt, wI_le, wI_inj, ru_fdE, ru_fdN, ru_iaN, ru_baN, ru_laN, ru_qaN, ru_pfN, ru_isN, ru_bsN, ru_jsN, ru_qsN, ru_set2, Nat.add_right_cancel_iff, if_true, if_false, ite_self, Int.reduceEq, and_self, Int.add_neg_cancel_right, Int.add_zero, Int.zero_add, al, d1, i1, c, not_false_iff]
theorem d420b {N ha : Nat} {w : Nat → Int} {who : Int} (hx : X.1 ha = some (ylI 0 N w)) (hN : N ≤ 12) (hw : ∀ i, i < N → 0 ≤ w i ∧ w i < 12) (hwho : -1 ≤ who ∧ who < 12) {v0 v1 v3 v10 : Value} {a4 a5 a6 a7 a9 a12 : Int32} {f : Nat} (r0 : ∃ q, v0 = .ref q) (r1 : ∃ q, v1 = .ref q) (r3 : ∃ q, v3 = .ref q) (r10 : ∃ q, v10 = .ref q) : ∀ d k, k + d = N → ru_n z 420 143 [some v0, some v1, some (.int (wI f)), some v3, some (.int a4), some (.int a5), some (.int a6), some (.int a7), some (.int (wI who)), some (.int a9), some v10, some (.ref ha), some (.int a12), some (.int (wI (ixF w who (-9) k))), some (.int (wI k))] [] X = ru_n z 420 176 [some v0, some v1, some (.int (wI f)), some v3, some (.int a4), some (.int a5), some (.int a6), some (.int a7), some (.int (wI who)), some (.int a9), some v10, some (.ref ha), some (.int a12), some (.int (wI (ixF w who (-9) N))), some (.int (wI N))] [] X := by
  obtain ⟨q0, rfl⟩ := r0; obtain ⟨q1, rfl⟩ := r1; obtain ⟨q3, rfl⟩ := r3; obtain ⟨q10, rfl⟩ := r10
  have al : am_al X ha = some (wI N) := ru_al hx (by decide)
  intro d
  induction d with
  | zero =>
    intro k hk
    obtain rfl : k = N := by omega
    simp (disch := omega) only [e420_143, e420_145, e420_147, e420_148, ↓reduceIte, Bool.false_eq_true, not_false_eq_true, not_true_eq_false, Nat.reduceLeDiff, Nat.reduceAdd, Nat.reduceEqDiff, Int.reduceToNat, Int.toNat_natCast, iB0, iB1, ru_klI, ru_klR, ru_klF, ru_klJ, ru_kl0, ru_cs0, ru_csI, ru_csR, ru_csF, ru_csJ, wI_add, wI_sub, wI_mul, wI_lt, wI_le, wI_inj, ru_fdE, ru_fdN, ru_iaN, ru_baN, ru_laN, ru_qaN, ru_pfN, ru_isN, ru_bsN, ru_jsN, ru_qsN, ru_set2, Nat.add_right_cancel_iff, if_true, if_false, ite_self, Int.reduceEq, and_self, Int.add_neg_cancel_right, Int.add_zero, Int.zero_add, al, Int.le_refl]
  | succ d ih =>
    intro k hk
    have d1 : ((N : Int) ≤ (k : Int)) = False := eq_false (by omega)
    have i1 := yl_ia hx (k := (k : Int)) (by omega) (by omega) (by omega)
    rw [Int.toNat_natCast] at i1
    have wb := hw k (by omega)
    have i2 := ih (k + 1) (by omega)
    have e : ixF w who (-9) (k + 1) = if w k = who then (k : Int) else ixF w who (-9) k := rfl
    rw [e, show (((k + 1 : Nat)) : Int) = (k : Int) + 1 by omega] at i2
    rw [← i2, e420_143]
    by_cases c : w k = who
    · rw [if_pos c]
      simp (disch := omega) only [e420_145, e420_147, e420_148, e420_151, e420_153, e420_155, e420_156, e420_158, e420_161, e420_163, e420_166, e420_168, e420_170, e420_173, ↓reduceIte, Bool.false_eq_true, not_false_eq_true, not_true_eq_false, Nat.reduceLeDiff, Nat.reduceAdd, Nat.reduceEqDiff, Int.reduceToNat, Int.toNat_natCast, iB0, iB1, ru_klI, ru_klR, ru_klF, ru_klJ, ru_kl0, ru_cs0, ru_csI, ru_csR, ru_csF, ru_csJ, wI_add, wI_sub, wI_mul, wI_lt, wI_le, wI_inj, ru_fdE, ru_fdN, ru_iaN, ru_baN, ru_laN, ru_qaN, ru_pfN, ru_isN, ru_bsN, ru_jsN, ru_qsN, ru_set2, Nat.add_right_cancel_iff, if_true, if_false, ite_self, Int.reduceEq, and_self, Int.add_neg_cancel_right, Int.add_zero, Int.zero_add, al, d1, i1, c, not_true]
    · rw [if_neg c]
      simp (disch := omega) only [e420_145, e420_147, e420_148, e420_151, e420_153, e420_155, e420_156, e420_158, e420_161, e420_163, e420_166, e420_168, e420_170, e420_173, ↓reduceIte, Bool.false_eq_true, not_false_eq_true, not_true_eq_false, Nat.reduceLeDiff, Nat.reduceAdd, Nat.reduceEqDiff, Int.reduceToNat, Int.toNat_natCast, iB0, iB1, ru_klI, ru_klR, ru_klF, ru_klJ, ru_kl0, ru_cs0, ru_csI, ru_csR, ru_csF, ru_csJ, wI_add, wI_sub, wI_mul, wI_lt, wI_le, wI_inj, ru_fdE, ru_fdN, ru_iaN, ru_baN, ru_laN, ru_qaN, ru_pfN, ru_isN, ru_bsN, ru_jsN, ru_qsN, ru_set2, Nat.add_right_cancel_iff, if_true, if_false, ite_self, Int.reduceEq, and_self, Int.add_neg_cancel_right, Int.add_zero, Int.zero_add, al, d1, i1, c, not_false_iff]
end ONE
