/-! ===== what the law draws ===== -/
theorem wI_31 (x : Int32) : ∃ k : Int, x &&& wI 2147483647 = wI k ∧ 0 ≤ k ∧ k < 2147483648 := by
  refine ⟨(x &&& wI 2147483647).toInt, wI_of _, ?_, (wI_rng _).2⟩
  show 0 ≤ (x &&& wI 2147483647).toBitVec.toInt
  have e : (x &&& wI 2147483647).toBitVec = x.toBitVec &&& (wI 2147483647).toBitVec := Int32.toBitVec_and ..
  rw [e, BitVec.toInt_eq_msb_cond, BitVec.msb_and]
  have m : (wI 2147483647).toBitVec.msb = false := by decide +kernel
  rw [m, Bool.and_false]
  simp
/-- what is drawn from, and how far -/
def dwC (at_ : Nat) : am_C := .inr (12, [.ref 1, .int (wI at_)])
def dwP (X : am_H) (B n : Nat) (g : Nat → Int32) (t : Nat) : Prop := X.1 1 = some (.inl (10, n, .inl g)) ∧ X.1 B = some (dwC t)
section DRAW
variable {z : Bool} {X : am_H} {B n t : Nat} {g : Nat → Int32}
theorem d390 (h : dwP X B n g t) (hn : n ≤ 1000) (ht : t ≤ 1000000) {lo hi : Int} (g1 : -1000 ≤ lo) (g2 : lo ≤ hi) (g3 : hi ≤ 100000) : ∃ v, lo ≤ v ∧ v ≤ hi ∧ ru_ev z 390 [.ref B, .int (wI lo), .int (wI hi)] X = some (.inl (some (.int (wI v))), am_set X B (dwC (t + 1))) := by
  have f0 : am_fd X B 12 0 = some (.ref 1) := ru_fd h.2 rfl
  have f1 : am_fd X B 12 1 = some (.int (wI t)) := ru_fd h.2 rfl
  have al : am_al X 1 = some (wI n) := ru_al h.1 (by decide)
  have pf : am_pf X B 12 1 0 (.int (wI ((t : Int) + 1))) = some (am_set X B (dwC (t + 1))) := by
    rw [ru_pf0 h.2 ⟨by decide, by show 1 < 2; decide⟩]
    rw [show (t : Int) + 1 = ((t + 1 : Nat) : Int) by omega]
    rfl
  have eo : ∃ fs, X.1 B = some (.inr (12, fs)) := ⟨_, h.2⟩
  have dp : 0 < hi - lo + 1 := by omega
  have key : ∀ k : Int, 0 ≤ k → k < 2147483648 → lo ≤ lo + k % (hi - lo + 1) ∧ lo + k % (hi - lo + 1) ≤ hi := fun k k1 k2 => by
    have a := Int.emod_nonneg k (show hi - lo + 1 ≠ 0 by omega)
    have b := Int.emod_lt_of_pos k dp
    omega
  obtain ⟨fs, eo⟩ := eo
  by_cases c : (t : Int) < (n : Int)
  · have c2 : ((n : Int) ≤ (t : Int)) = False := eq_false (by omega)
    obtain ⟨k, e, k1, k2⟩ := wI_31 (g t)
    have ia : am_ia X 1 (wI t) = some (g t) := (ru_ia10 (z := (t : Int)) h.1 (by omega) c (by omega)).trans (by rw [Int.toNat_natCast])
    refine ⟨lo + k % (hi - lo + 1), (key k k1 k2).1, (key k k1 k2).2, ?_⟩
    have r := wI_rem (a := k) (b := hi - lo + 1) k1 k2 dp (by omega)
    have n0 := wI_ne0 (a := hi - lo + 1) dp (by omega)
    simp (disch := omega) only [en390, e390_0, e390_1, e390_4, e390_5, e390_8, e390_9, e390_12, e390_13, e390_16, e390_17, e390_20, e390_21, e390_23, e390_24, e390_27, e390_28, e390_29, e390_30, e390_31, e390_34, e390_35, e390_36, e390_39, e390_40, e390_41, e390_42, e390_43, e390_44, e390_45, e390_46, e390_47, e390_48, ↓reduceIte, Bool.false_eq_true, not_false_eq_true, not_true_eq_false, Nat.reduceLeDiff, Nat.reduceAdd, Nat.reduceEqDiff, Int.reduceToNat, Int.toNat_natCast, iB0, iB1, ru_klI, ru_klR, ru_klF, ru_klJ, ru_kl0, ru_cs0, ru_csI, ru_csR, ru_csF, ru_csJ, wI_add, wI_sub, wI_mul, wI_lt, wI_le, wI_inj, ru_fdE, ru_fdN, ru_iaN, ru_baN, ru_laN, ru_qaN, ru_pfN, ru_isN, ru_bsN, ru_jsN, ru_qsN, ru_set2, Nat.add_right_cancel_iff, if_true, if_false, ite_self, Int.reduceEq, and_self, Int.add_neg_cancel_right, Int.add_zero, Int.zero_add, eo, f0, f1, al, c2, ia, e, ru_ctR, pf, n0, r]
  · have c2 : ((n : Int) ≤ (t : Int)) = True := eq_true (by omega)
    refine ⟨lo + 0 % (hi - lo + 1), (key 0 (by omega) (by omega)).1, (key 0 (by omega) (by omega)).2, ?_⟩
    have r := wI_rem (a := 0) (b := hi - lo + 1) (by omega) (by omega) dp (by omega)
    have n0 := wI_ne0 (a := hi - lo + 1) dp (by omega)
    simp (disch := omega) only [en390, e390_0, e390_1, e390_4, e390_5, e390_8, e390_9, e390_12, e390_13, e390_16, e390_17, e390_20, e390_21, e390_23, e390_24, e390_27, e390_28, e390_29, e390_30, e390_31, e390_34, e390_35, e390_36, e390_39, e390_40, e390_41, e390_42, e390_43, e390_44, e390_45, e390_46, e390_47, e390_48, ↓reduceIte, Bool.false_eq_true, not_false_eq_true, not_true_eq_false, Nat.reduceLeDiff, Nat.reduceAdd, Nat.reduceEqDiff, Int.reduceToNat, Int.toNat_natCast, iB0, iB1, ru_klI, ru_klR, ru_klF, ru_klJ, ru_kl0, ru_cs0, ru_csI, ru_csR, ru_csF, ru_csJ, wI_add, wI_sub, wI_mul, wI_lt, wI_le, wI_inj, ru_fdE, ru_fdN, ru_iaN, ru_baN, ru_laN, ru_qaN, ru_pfN, ru_isN, ru_bsN, ru_jsN, ru_qsN, ru_set2, Nat.add_right_cancel_iff, if_true, if_false, ite_self, Int.reduceEq, and_self, Int.add_neg_cancel_right, Int.add_zero, Int.zero_add, eo, f0, f1, al, c2, ru_ctR, pf, n0, r]
end DRAW
