/-! ===== the law's phrases, all of it ===== -/
section PHSA
variable {z : Bool} {B : Nat} {A : tLw} {n : Nat} {g : Nat → Int32} {F L : Nat → List Nat} {C : tCl} {NN P : Nat}
/-- what an act leaves -/
def acO (B : Nat) (n : Nat) (g : Nat → Int32) (F L : Nat → List Nat) (NN P : Nat) (X : am_H) (t : Nat) (X' : am_H) (dt c s : Nat) : Prop := ∃ (A' : tLw) (C' : tCl) (t' : Nat), acI X' B A' n g t' F L C' NN P ∧ (t ≤ t' ∧ t' ≤ t + dt) ∧ X'.2.1 ≤ X.2.1 + c ∧ X'.2.2 ≤ X.2.2 + s
theorem ac_at {X : am_H} {t : Nat} (h : acI X B A n g t F L C NN P) : ylP X B A := h.1.1
/-- nothing to name, or nobody -/
theorem d417e (hk : txK B n) {X : am_H} {t f : Nat} (h : acI X B A n g t F L C NN P) (hf : f < P) (hz : NN = 0 ∨ cnB (shw (A.2.1 f)) ((A.2.1 f).1 7).toNat = 0) : ∃ X', acO B n g F L NN P X t X' 0 4 39 ∧ ru_ev z 417 [.ref 1000, .ref (B + 1), .ref B, .int (wI f)] X = some (.inl (some (.int (wI 1))), X') := by
  obtain ⟨hl, hw, hc, hX, hI, hP, hb⟩ := h
  obtain ⟨w1, w2, w3, w4, w5, w6, w7⟩ := id hw
  have hf3 : f < 3 := by omega
  have hy := hl.1
  obtain ⟨C', H', k1, k2, k3, k4, k5, k6, k7⟩ := c77e (z := z) (C := C) (k := 0) (H := X) hI hP hf hb (by omega) hl.2.2.2.2.2 hX
  rw [← hc] at k1
  have k9 := t399 (z := z) (by decide) (t400_25 (c := wI 0) k1)
  have p1 := c154 (z := z) (h := H') (C := C')
  have p2 := c156 (z := z) (h := H') (C := C')
  rw [k6] at p1
  rw [k7] at p2
  refine ⟨clPut H' C', ⟨A, C', t, ⟨?_, hw, clI_put _ _, ?_, k3, k4, k5⟩, ⟨Nat.le_refl _, Nat.le_refl _⟩, k2.2.2.1, k2.2.2.2⟩, ?_⟩
  · have e : ∀ q, q < 1000 → (clPut H' C').1 q = X.1 q := fun q hq => by rw [clPut_o (by omega)]; exact k2.1 q (by omega)
    obtain ⟨b1, b2, b3⟩ := id hk
    exact laI_W hk hl (fun q hq _ => e q hq) (ylP_ag hy (fun q h1 h2 => e q (by omega))) (dwP_ag hl.2.1 (e 1 (by omega)) (e B (by omega))) rfl rfl
  · show 1315 ≤ H'.2.1
    have := k2.2.1
    omega
  · have f2 := yl_f2 hy
    rw [w1] at f2
    have a1 : wI 1 &&& 1 = wI 1 := by decide +kernel
    have d3 : ((2 : Nat) : Int) + 1 = 3 := rfl
    rw [d3] at k9
    by_cases c : NN = 0
    · subst c
      have e0 : (((0 : Nat) : Int) = 0) = True := eq_true rfl
      simp (disch := omega) only [en417, e417_0, e417_1, e417_4, e417_15, e417_16, e417_18, e417_19, e417_20, e417_21, e417_24, e417_25, e417_28, e417_29, e417_32, e417_33, e417_36, e417_37, e417_40, e417_43, e417_44, e417_47, e417_48, ↓reduceIte, Bool.false_eq_true, not_false_eq_true, not_true_eq_false, Nat.reduceLeDiff, Nat.reduceAdd, Nat.reduceEqDiff, Int.reduceToNat, Int.toNat_natCast, iB0, iB1, ru_klI, ru_klR, ru_klF, ru_klJ, ru_kl0, ru_cs0, ru_csI, ru_csR, ru_csF, ru_csJ, wI_add, wI_sub, wI_mul, wI_lt, wI_le, wI_inj, ru_fdE, ru_fdN, ru_iaN, ru_baN, ru_laN, ru_qaN, ru_pfN, ru_isN, ru_bsN, ru_jsN, ru_qsN, ru_set2, Nat.add_right_cancel_iff, if_true, if_false, ite_self, Int.reduceEq, and_self, Int.add_neg_cancel_right, Int.add_zero, Int.zero_add, yl_o hy, f2, e0, k9, p1, p2, a1, not_true, not_false_iff]
    · have e0 : ((NN : Int) = 0) = False := eq_false (by omega)
      have k407 := d407 (z := z) hy w6 (f := f) hf3
      rw [hz.resolve_left c] at k407
      have e1 : (((0 : Nat) : Int) = 0) = True := eq_true rfl
      simp (disch := omega) only [en417, e417_0, e417_1, e417_4, e417_7, e417_8, e417_9, e417_12, e417_15, e417_16, e417_18, e417_19, e417_20, e417_21, e417_24, e417_25, e417_28, e417_29, e417_32, e417_33, e417_36, e417_37, e417_40, e417_43, e417_44, e417_47, e417_48, ↓reduceIte, Bool.false_eq_true, not_false_eq_true, not_true_eq_false, Nat.reduceLeDiff, Nat.reduceAdd, Nat.reduceEqDiff, Int.reduceToNat, Int.toNat_natCast, iB0, iB1, ru_klI, ru_klR, ru_klF, ru_klJ, ru_kl0, ru_cs0, ru_csI, ru_csR, ru_csF, ru_csJ, wI_add, wI_sub, wI_mul, wI_lt, wI_le, wI_inj, ru_fdE, ru_fdN, ru_iaN, ru_baN, ru_laN, ru_qaN, ru_pfN, ru_isN, ru_bsN, ru_jsN, ru_qsN, ru_set2, Nat.add_right_cancel_iff, if_true, if_false, ite_self, Int.reduceEq, and_self, Int.add_neg_cancel_right, Int.add_zero, Int.zero_add, yl_o hy, f2, e0, e1, k407, k9, p1, p2, a1, not_true, not_false_iff]
end PHSA
