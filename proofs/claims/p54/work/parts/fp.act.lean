/-! ===== an act, whichever ===== -/
section ACT
variable {z : Bool} {B : Nat} {A : tLw} {n : Nat} {g : Nat → Int32} {F L : Nat → List Nat} {C : tCl} {NN P : Nat}
theorem act6 (hk : txK B n) {X : am_H} {t f : Nat} (h : acI X B A n g t F L C NN P) (hf : f < P) (hP : 1 < P) {wd hg hd : Int32} : ∃ X', acO B n g F L NN P X t X' 0 200 3000 ∧ ru_n z 412 71 [some (.ref 1000), some (.ref (B + 1)), some (.ref B), some (.int (wI 6)), some (.int (wI f)), some (.int wd), some (.int hg), some (.int hd), none, none, none, none, none, none, none, none] [] X = some (.inl (some (.int (wI 1))), X') := by
  have hw := h.2.1
  have hP3 := hw.2.2.2.1
  have ho : (f + 1) % P < P := Nat.mod_lt _ (by omega)
  have hne : (f + 1) % P ≠ f := fun e => by
    have : P = 2 ∨ P = 3 := by omega
    rcases this with rfl | rfl <;> omega
  obtain ⟨X', O, k⟩ := d415 (z := z) hk h hf ho hne
  refine ⟨X', O, ?_⟩
  have f3 := yl_f3 h.1.1
  rw [hw.2.2.1] at f3
  have w1 : wI 1 &&& 1 = wI 1 := by decide +kernel
  have d60 : ((6 : Int) = 0) = False := eq_false (by decide)
  have d61 : ((6 : Int) = 1) = False := eq_false (by decide)
  have d62 : ((6 : Int) = 2) = False := eq_false (by decide)
  have d63 : ((6 : Int) = 3) = False := eq_false (by decide)
  have d64 : ((6 : Int) = 4) = False := eq_false (by decide)
  have d65 : ((6 : Int) = 5) = False := eq_false (by decide)
  have dP : ((P : Int) ≤ 1) = False := eq_false (by omega)
  have dz : (wI (P : Int) = 0) = False := wI_ne0 (by omega) (by omega)
  have dr : wI ((f : Int) + 1) - wI ((f : Int) + 1) / wI (P : Int) * wI (P : Int) = wI (((f + 1) % P : Nat) : Int) := by
    rw [wI_rem (by omega) (by omega) (by omega) (by omega)]
    rfl
  simp (disch := omega) only [e412_71, e412_72, e412_324, e412_325, e412_326, e412_373, e412_374, e412_375, e412_458, e412_459, e412_460, e412_554, e412_555, e412_556, e412_672, e412_673, e412_674, e412_778, e412_779, e412_781, e412_784, e412_785, e412_788, e412_789, e412_792, e412_793, e412_794, e412_796, e412_798, e412_799, e412_800, e412_801, e412_804, e412_805, e412_808, ru_ctR, ru_ctI, yl_o h.1.1, f3, d60, d61, d62, d63, d64, d65, dP, dz, dr, k, w1, not_true, not_false_iff, ↓reduceIte, Bool.false_eq_true, not_false_eq_true, not_true_eq_false, Nat.reduceLeDiff, Nat.reduceAdd, Nat.reduceEqDiff, Int.reduceToNat, Int.toNat_natCast, iB0, iB1, ru_klI, ru_klR, ru_klF, ru_klJ, ru_kl0, ru_cs0, ru_csI, ru_csR, ru_csF, ru_csJ, wI_add, wI_sub, wI_mul, wI_lt, wI_le, wI_inj, ru_fdE, ru_fdN, ru_iaN, ru_baN, ru_laN, ru_qaN, ru_pfN, ru_isN, ru_bsN, ru_jsN, ru_qsN, ru_set2, Nat.add_right_cancel_iff, if_true, if_false, ite_self, Int.reduceEq, and_self, Int.add_neg_cancel_right, Int.add_zero, Int.zero_add]
/-- none of the others: phrases -/
theorem act7 {X : am_H} {t f w : Nat} (h : acI X B A n g t F L C NN P) (hf : f < P) (hw : (w = 3 ∧ (A.2.1 f).1 7 = 0) ∨ (w = 4 ∧ (A.2.1 f).1 7 = 12) ∨ (w = 5 ∧ (A.2.1 f).1 7 = 0) ∨ (w = 6 ∧ P = 1) ∨ (7 ≤ w ∧ w ≤ 9)) {wd hg hd : Int32} {Y : am_H} (k : ru_ev z 417 [.ref 1000, .ref (B + 1), .ref B, .int (wI f)] X = some (.inl (some (.int (wI 1))), Y)) : ru_n z 412 71 [some (.ref 1000), some (.ref (B + 1)), some (.ref B), some (.int (wI w)), some (.int (wI f)), some (.int wd), some (.int hg), some (.int hd), none, none, none, none, none, none, none, none] [] X = some (.inl (some (.int (wI 1))), Y) := by
  have hwl := h.2.1
  obtain ⟨m8, m8'⟩ := ac_m h hf
  have f3 := yl_f3 h.1.1
  rw [hwl.2.2.1] at f3
  have w1 : wI 1 &&& 1 = wI 1 := by decide +kernel
  have d0 : ((w : Int) = 0) = False := eq_false (by omega)
  have d1 : ((w : Int) = 1) = False := eq_false (by omega)
  have d2 : ((w : Int) = 2) = False := eq_false (by omega)
  have z0 : ((0 : Int) ≤ 0) = True := eq_true (by decide)
  have z1 : ((12 : Int) ≤ 12) = True := eq_true (by decide)
  have z2 : ((1 : Int) ≤ 1) = True := eq_true (by decide)
  rcases hw with ⟨rfl, e⟩ | ⟨rfl, e⟩ | ⟨rfl, e⟩ | ⟨rfl, e⟩ | hw
  · rw [e] at m8'
    have d3 : (((3 : Nat) : Int) = 3) = True := eq_true rfl
    have d4 : (((3 : Nat) : Int) = 4) = False := eq_false (by decide)
    have d5 : (((3 : Nat) : Int) = 5) = False := eq_false (by decide)
    have d6 : (((3 : Nat) : Int) = 6) = False := eq_false (by decide)
    simp (disch := omega) only [e412_71, e412_72, e412_324, e412_325, e412_326, e412_373, e412_374, e412_375, e412_458, e412_459, e412_460, e412_463, e412_464, e412_467, e412_469, e412_470, e412_554, e412_555, e412_556, e412_672, e412_673, e412_674, e412_778, e412_779, e412_781, e412_809, e412_810, e412_811, e412_812, e412_814, e412_817, ↓reduceIte, Bool.false_eq_true, not_false_eq_true, not_true_eq_false, Nat.reduceLeDiff, Nat.reduceAdd, Nat.reduceEqDiff, Int.reduceToNat, Int.toNat_natCast, iB0, iB1, ru_klI, ru_klR, ru_klF, ru_klJ, ru_kl0, ru_cs0, ru_csI, ru_csR, ru_csF, ru_csJ, wI_add, wI_sub, wI_mul, wI_lt, wI_le, wI_inj, ru_fdE, ru_fdN, ru_iaN, ru_baN, ru_laN, ru_qaN, ru_pfN, ru_isN, ru_bsN, ru_jsN, ru_qsN, ru_set2, Nat.add_right_cancel_iff, if_true, if_false, ite_self, Int.reduceEq, and_self, Int.add_neg_cancel_right, Int.add_zero, Int.zero_add, yl_o h.1.1, m8, m8', d0, d1, d2, d3, d4, d5, d6, z0, k, w1, not_true, not_false_iff]
  · rw [e] at m8'
    have d3 : (((4 : Nat) : Int) = 3) = False := eq_false (by decide)
    have d4 : (((4 : Nat) : Int) = 4) = True := eq_true rfl
    have d5 : (((4 : Nat) : Int) = 5) = False := eq_false (by decide)
    have d6 : (((4 : Nat) : Int) = 6) = False := eq_false (by decide)
    simp (disch := omega) only [e412_71, e412_72, e412_324, e412_325, e412_326, e412_373, e412_374, e412_375, e412_458, e412_459, e412_460, e412_554, e412_555, e412_556, e412_559, e412_560, e412_563, e412_565, e412_566, e412_568, e412_672, e412_673, e412_674, e412_778, e412_779, e412_781, e412_809, e412_810, e412_811, e412_812, e412_814, e412_817, ↓reduceIte, Bool.false_eq_true, not_false_eq_true, not_true_eq_false, Nat.reduceLeDiff, Nat.reduceAdd, Nat.reduceEqDiff, Int.reduceToNat, Int.toNat_natCast, iB0, iB1, ru_klI, ru_klR, ru_klF, ru_klJ, ru_kl0, ru_cs0, ru_csI, ru_csR, ru_csF, ru_csJ, wI_add, wI_sub, wI_mul, wI_lt, wI_le, wI_inj, ru_fdE, ru_fdN, ru_iaN, ru_baN, ru_laN, ru_qaN, ru_pfN, ru_isN, ru_bsN, ru_jsN, ru_qsN, ru_set2, Nat.add_right_cancel_iff, if_true, if_false, ite_self, Int.reduceEq, and_self, Int.add_neg_cancel_right, Int.add_zero, Int.zero_add, yl_o h.1.1, m8, m8', d0, d1, d2, d3, d4, d5, d6, z1, k, w1, not_true, not_false_iff]
  · rw [e] at m8'
    have d3 : (((5 : Nat) : Int) = 3) = False := eq_false (by decide)
    have d4 : (((5 : Nat) : Int) = 4) = False := eq_false (by decide)
    have d5 : (((5 : Nat) : Int) = 5) = True := eq_true rfl
    have d6 : (((5 : Nat) : Int) = 6) = False := eq_false (by decide)
    simp (disch := omega) only [e412_71, e412_72, e412_324, e412_325, e412_326, e412_373, e412_374, e412_375, e412_458, e412_459, e412_460, e412_554, e412_555, e412_556, e412_672, e412_673, e412_674, e412_677, e412_678, e412_681, e412_683, e412_684, e412_778, e412_779, e412_781, e412_809, e412_810, e412_811, e412_812, e412_814, e412_817, ↓reduceIte, Bool.false_eq_true, not_false_eq_true, not_true_eq_false, Nat.reduceLeDiff, Nat.reduceAdd, Nat.reduceEqDiff, Int.reduceToNat, Int.toNat_natCast, iB0, iB1, ru_klI, ru_klR, ru_klF, ru_klJ, ru_kl0, ru_cs0, ru_csI, ru_csR, ru_csF, ru_csJ, wI_add, wI_sub, wI_mul, wI_lt, wI_le, wI_inj, ru_fdE, ru_fdN, ru_iaN, ru_baN, ru_laN, ru_qaN, ru_pfN, ru_isN, ru_bsN, ru_jsN, ru_qsN, ru_set2, Nat.add_right_cancel_iff, if_true, if_false, ite_self, Int.reduceEq, and_self, Int.add_neg_cancel_right, Int.add_zero, Int.zero_add, yl_o h.1.1, m8, m8', d0, d1, d2, d3, d4, d5, d6, z0, k, w1, not_true, not_false_iff]
  · subst e
    have f3' : am_fd X (B + 1) 13 3 = some (.int (wI 1)) := f3
    have d3 : (((6 : Nat) : Int) = 3) = False := eq_false (by decide)
    have d4 : (((6 : Nat) : Int) = 4) = False := eq_false (by decide)
    have d5 : (((6 : Nat) : Int) = 5) = False := eq_false (by decide)
    have d6 : (((6 : Nat) : Int) = 6) = True := eq_true rfl
    simp (disch := omega) only [e412_71, e412_72, e412_324, e412_325, e412_326, e412_373, e412_374, e412_375, e412_458, e412_459, e412_460, e412_554, e412_555, e412_556, e412_672, e412_673, e412_674, e412_778, e412_779, e412_781, e412_784, e412_785, e412_788, e412_789, e412_809, e412_810, e412_811, e412_812, e412_814, e412_817, ↓reduceIte, Bool.false_eq_true, not_false_eq_true, not_true_eq_false, Nat.reduceLeDiff, Nat.reduceAdd, Nat.reduceEqDiff, Int.reduceToNat, Int.toNat_natCast, iB0, iB1, ru_klI, ru_klR, ru_klF, ru_klJ, ru_kl0, ru_cs0, ru_csI, ru_csR, ru_csF, ru_csJ, wI_add, wI_sub, wI_mul, wI_lt, wI_le, wI_inj, ru_fdE, ru_fdN, ru_iaN, ru_baN, ru_laN, ru_qaN, ru_pfN, ru_isN, ru_bsN, ru_jsN, ru_qsN, ru_set2, Nat.add_right_cancel_iff, if_true, if_false, ite_self, Int.reduceEq, and_self, Int.add_neg_cancel_right, Int.add_zero, Int.zero_add, yl_o h.1.1, f3', d0, d1, d2, d3, d4, d5, d6, z2, k, w1, not_true, not_false_iff]
  · have d3 : ((w : Int) = 3) = False := eq_false (by omega)
    have d4 : ((w : Int) = 4) = False := eq_false (by omega)
    have d5 : ((w : Int) = 5) = False := eq_false (by omega)
    have d6 : ((w : Int) = 6) = False := eq_false (by omega)
    simp (disch := omega) only [e412_71, e412_72, e412_324, e412_325, e412_326, e412_373, e412_374, e412_375, e412_458, e412_459, e412_460, e412_554, e412_555, e412_556, e412_672, e412_673, e412_674, e412_778, e412_779, e412_781, e412_809, e412_810, e412_811, e412_812, e412_814, e412_817, ↓reduceIte, Bool.false_eq_true, not_false_eq_true, not_true_eq_false, Nat.reduceLeDiff, Nat.reduceAdd, Nat.reduceEqDiff, Int.reduceToNat, Int.toNat_natCast, iB0, iB1, ru_klI, ru_klR, ru_klF, ru_klJ, ru_kl0, ru_cs0, ru_csI, ru_csR, ru_csF, ru_csJ, wI_add, wI_sub, wI_mul, wI_lt, wI_le, wI_inj, ru_fdE, ru_fdN, ru_iaN, ru_baN, ru_laN, ru_qaN, ru_pfN, ru_isN, ru_bsN, ru_jsN, ru_qsN, ru_set2, Nat.add_right_cancel_iff, if_true, if_false, ite_self, Int.reduceEq, and_self, Int.add_neg_cancel_right, Int.add_zero, Int.zero_add, yl_o h.1.1, d0, d1, d2, d3, d4, d5, d6, k, w1, not_true, not_false_iff]
theorem d412 (hk : txK B n) {X : am_H} {t : Nat} (h : acI X B A n g t F L C NN P) (ht : t ≤ 500000) : ∃ X', acO B n g F L NN P X t X' 70 45000 140000 ∧ ru_ev z 412 [.ref 1000, .ref (B + 1), .ref B] X = some (.inl (some (.int (wI 1))), X') := by
  obtain ⟨w, f, X2, hw, hf, h2, e2, run⟩ := d412s (z := z) hk h (by omega)
  rw [run]
  obtain ⟨-, -, -, hf3, rp⟩ := ac_rc h2 hf
  have s := phR_s rp
  have fin : ∀ {X' : am_H} {dt c s : Nat}, dt ≤ 68 → c ≤ 45000 → s ≤ 140000 → acO B n g F L NN P X2 (t + 2) X' dt c s → acO B n g F L NN P X t X' 70 45000 140000 := fun h1 h2 h3 O => acO_m (acO_t (X := X) (t := t) (dt' := 2) (c' := 0) (s' := 0) (by omega) (by rw [e2]; omega) (by rw [e2]; omega) O) (by omega) (by omega) (by omega)
  have phr : ((w = 3 ∧ (A.2.1 f).1 7 = 0) ∨ (w = 4 ∧ (A.2.1 f).1 7 = 12) ∨ (w = 5 ∧ (A.2.1 f).1 7 = 0) ∨ (w = 6 ∧ P = 1) ∨ (7 ≤ w ∧ w ≤ 9)) → ∃ X', acO B n g F L NN P X t X' 70 45000 140000 ∧ ru_n z 412 71 [some (.ref 1000), some (.ref (B + 1)), some (.ref B), some (.int (wI w)), some (.int (wI f)), some (.int (wI ((A.2.1 f).1 4 - (A.2.1 f).1 2))), some (.int (wI ((A.2.1 f).1 5 - (A.2.1 f).1 3))), some (.int (wI (cnB (shw (A.2.1 f)) ((A.2.1 f).1 7).toNat : Nat))), none, none, none, none, none, none, none, none] [] X2 = some (.inl (some (.int (wI 1))), X') := fun c => by
    obtain ⟨X', O, k⟩ := d417 (z := z) hk h2 hf (by omega)
    exact ⟨X', fin (by omega) (by omega) (by omega) O, act7 h2 hf c k⟩
  have hP := h2.2.1.2.2.2.1
  have : w = 0 ∨ w = 1 ∨ w = 2 ∨ w = 3 ∨ w = 4 ∨ w = 5 ∨ w = 6 ∨ 7 ≤ w := by omega
  rcases this with rfl | rfl | rfl | rfl | rfl | rfl | rfl | c
  · obtain ⟨X', O, k⟩ := act0 (z := z) hk h2 hf (by omega)
    exact ⟨X', fin (by omega) (by omega) (by omega) O, k⟩
  · obtain ⟨X', O, k⟩ := act1 (z := z) hk h2 hf
    exact ⟨X', fin (by omega) (by omega) (by omega) O, k⟩
  · obtain ⟨X', O, k⟩ := act2 (z := z) hk h2 hf
    exact ⟨X', fin (by omega) (by omega) (by omega) O, k⟩
  · by_cases c : 0 < (A.2.1 f).1 7
    · obtain ⟨X', O, k⟩ := act3 (z := z) hk h2 hf (by omega) c
      exact ⟨X', fin (by omega) (by omega) (by omega) O, k⟩
    · exact phr (by omega)
  · by_cases c : (A.2.1 f).1 7 < 12
    · obtain ⟨X', O, k⟩ := act4 (z := z) hk h2 hf (by omega) c
      exact ⟨X', fin (by omega) (by omega) (by omega) O, k⟩
    · exact phr (by omega)
  · by_cases c : 0 < (A.2.1 f).1 7
    · obtain ⟨X', O, k⟩ := act5 (z := z) hk h2 hf (by omega) c
      exact ⟨X', fin (by omega) (by omega) (by omega) O, k⟩
    · exact phr (by omega)
  · by_cases c : 1 < P
    · obtain ⟨X', O, k⟩ := act6 (z := z) hk h2 hf c
      exact ⟨X', fin (by omega) (by omega) (by omega) O, k⟩
    · exact phr (by omega)
  · exact phr (by omega)
end ACT
