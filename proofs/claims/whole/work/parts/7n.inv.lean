/-! ===== inversions: the class ===== -/
/-- the place in the other order of the one who has a name -/
def onF (q : tPh) (e : Nat → Nat) (n : Nat) (nm : Int) : Int := fnF (fun i => decide (¬ nm = -1 ∧ q.2 3 (e i) = nm)) n 0
def ivA (L : Nat → Int) (i j : Nat) : Bool := decide (i < j ∧ ¬ L j = -1 ∧ L j < L i)
def ivT (L : Nat → Int) (n : Nat) : Nat → Nat
  | 0 => 0
  | i + 1 => ivT L n i + cnB (ivA L i) n
theorem ivT_le (L : Nat → Int) (n : Nat) : ∀ i, ivT L n i ≤ i * n
  | 0 => by simp [ivT]
  | i + 1 => by
    have h1 := ivT_le L n i
    have h2 := cnB_le (ivA L i) n
    rw [ivT, Nat.succ_mul]
    omega
theorem onF_rng (q : tPh) (e : Nat → Nat) (n : Nat) (nm : Int) : -1 ≤ onF q e n nm ∧ onF q e n nm < (n : Int) ∨ onF q e n nm = -1 := fnF_rng _ n
theorem piPut_comm {C : tCl} {p r : tPi} : piPut (piPut C 1070 p) 1081 r = piPut (piPut C 1081 r) 1070 p := by
  refine Prod.ext (funext fun q => ?_) (Prod.ext (funext fun q => ?_) rfl)
  · simp only [piPut]
    by_cases e1 : q = 1081
    · subst e1; rfl
    · rw [if_neg e1, if_neg e1]
  · simp only [piPut]
    by_cases e1 : 1081 + 1 ≤ q ∧ q ≤ 1081 + 10
    · rw [if_pos e1, if_neg (by omega), if_pos e1]
    · rw [if_neg e1, if_neg e1]
section INV
variable {z : Bool} {h : am_H} {C : tCl} {P : Nat}
theorem k251l (hP : isPi P) {p : tPi} {a : Nat} {q : tPh} (hp : phAt (clPut h (piPut C P p)) a q) (hr : phR q) {n : Nat} {e : Nat → Nat} (hn : n ≤ 12) (h0 : p.1 0 = (n : Int)) (he : ∀ i, i < n → p.2 2 i = (e i : Int) ∧ e i < 12) {nm : Int} (g : -1 ≤ nm ∧ nm ≤ 19) : ∀ d k, k + d = n →
    ru_n z 251 2 [some (.ref P), some (.ref a), some (.int (wI nm)), some (.int (wI k))] [] (clPut h (piPut C P p)) = some (.inl (some (.int (wI (fnF (fun i => decide (¬ nm = -1 ∧ q.2 3 (e i) = nm)) d k)))), clPut h (piPut C P p)) := by
  intro d
  induction d with
  | zero =>
    intro k hk
    obtain rfl : k = n := by omega
    have c : ((k : Int) ≤ (k : Int)) = True := eq_true (Int.le_refl _)
    simp (disch := omega) only [e251_0, e251_1, e251_2, e251_3, e251_4, e251_7, e251_10, e251_11, e251_12, e251_15, e251_16, e251_19, e251_20, e251_23, e251_24, e251_25, e251_26, e251_27, e251_30, e251_31, e251_32, e251_35, e251_38, e251_39, ↓reduceIte, Bool.false_eq_true, not_false_eq_true, not_true_eq_false, Nat.reduceLeDiff, Nat.reduceAdd, Nat.reduceEqDiff, Int.reduceToNat, Int.toNat_natCast, iB0, iB1, ru_klI, ru_klR, ru_klF, ru_klJ, ru_kl0, ru_cs0, ru_csI, ru_csR, ru_csF, ru_csJ, wI_add, wI_sub, wI_mul, wI_lt, wI_le, wI_inj, ru_fdE, ru_fdN, ru_iaN, ru_baN, ru_laN, ru_qaN, ru_pfN, ru_isN, ru_bsN, ru_jsN, ru_qsN, ru_set2, Nat.add_right_cancel_iff, if_true, if_false, ite_self, Int.reduceEq, and_self, Int.add_neg_cancel_right, Int.add_zero, Int.zero_add, pi_e hP, pi_f0 hP, pi_s0 hP, pi_f1 hP, pi_s1 hP, pi_f2 hP, pi_a0 hP, pi_w0 hP, pi_f3 hP, pi_a1 hP, pi_w1 hP, pi_f4 hP, pi_a2 hP, pi_w2 hP, pi_f5 hP, pi_a3 hP, pi_w3 hP, pi_f6 hP, pi_a4 hP, pi_w4 hP, pi_f7 hP, pi_a5 hP, pi_w5 hP, pi_f8 hP, pi_a6 hP, pi_w6 hP, pi_f9 hP, pi_a7 hP, pi_w7 hP, pi_f10 hP, pi_a8 hP, pi_w8 hP, pi_f11 hP, pi_a9 hP, pi_w9 hP, Int.reduceEq, ru_ctR, ru_ctI, upC_e, upC_n, upC_up, up1_e, up1_n, h0, c, fnF]
  | succ d ih =>
    intro k hk
    have ih1 := ih (k + 1) (by omega)
    simp only [Int.natCast_add, Int.natCast_one] at ih1
    have c : ((n : Int) ≤ (k : Int)) = False := eq_false (by omega)
    obtain ⟨e1, e2⟩ := he k (by omega)
    have s2 := phR_i hr (e k)
    rw [e251_2, fnF]
    by_cases c1 : nm = -1
    · have d1 : (nm = -1) = True := eq_true c1
      rw [if_neg (fun h => (of_decide_eq_true h).1 c1)]
      simp (disch := omega) only [e251_0, e251_1, e251_3, e251_4, e251_7, e251_10, e251_11, e251_12, e251_15, e251_16, e251_19, e251_20, e251_23, e251_24, e251_25, e251_26, e251_27, e251_30, e251_31, e251_32, e251_35, e251_38, e251_39, ↓reduceIte, Bool.false_eq_true, not_false_eq_true, not_true_eq_false, Nat.reduceLeDiff, Nat.reduceAdd, Nat.reduceEqDiff, Int.reduceToNat, Int.toNat_natCast, iB0, iB1, ru_klI, ru_klR, ru_klF, ru_klJ, ru_kl0, ru_cs0, ru_csI, ru_csR, ru_csF, ru_csJ, wI_add, wI_sub, wI_mul, wI_lt, wI_le, wI_inj, ru_fdE, ru_fdN, ru_iaN, ru_baN, ru_laN, ru_qaN, ru_pfN, ru_isN, ru_bsN, ru_jsN, ru_qsN, ru_set2, Nat.add_right_cancel_iff, if_true, if_false, ite_self, Int.reduceEq, and_self, Int.add_neg_cancel_right, Int.add_zero, Int.zero_add, pi_e hP, pi_f0 hP, pi_s0 hP, pi_f1 hP, pi_s1 hP, pi_f2 hP, pi_a0 hP, pi_w0 hP, pi_f3 hP, pi_a1 hP, pi_w1 hP, pi_f4 hP, pi_a2 hP, pi_w2 hP, pi_f5 hP, pi_a3 hP, pi_w3 hP, pi_f6 hP, pi_a4 hP, pi_w4 hP, pi_f7 hP, pi_a5 hP, pi_w5 hP, pi_f8 hP, pi_a6 hP, pi_w6 hP, pi_f9 hP, pi_a7 hP, pi_w7 hP, pi_f10 hP, pi_a8 hP, pi_w8 hP, pi_f11 hP, pi_a9 hP, pi_w9 hP, Int.reduceEq, ru_ctR, ru_ctI, upC_e, upC_n, upC_up, up1_e, up1_n, h0, c, d1, ih1]
    · have d1 : (nm = -1) = False := eq_false c1
      by_cases c2 : q.2 3 (e k) = nm
      · have d2 : (q.2 3 (e k) = nm) = True := eq_true c2
        rw [if_pos (decide_eq_true ⟨c1, c2⟩)]
        simp (disch := omega) only [e251_0, e251_1, e251_3, e251_4, e251_7, e251_10, e251_11, e251_12, e251_15, e251_16, e251_19, e251_20, e251_23, e251_24, e251_25, e251_26, e251_27, e251_30, e251_31, e251_32, e251_35, e251_38, e251_39, ↓reduceIte, Bool.false_eq_true, not_false_eq_true, not_true_eq_false, Nat.reduceLeDiff, Nat.reduceAdd, Nat.reduceEqDiff, Int.reduceToNat, Int.toNat_natCast, iB0, iB1, ru_klI, ru_klR, ru_klF, ru_klJ, ru_kl0, ru_cs0, ru_csI, ru_csR, ru_csF, ru_csJ, wI_add, wI_sub, wI_mul, wI_lt, wI_le, wI_inj, ru_fdE, ru_fdN, ru_iaN, ru_baN, ru_laN, ru_qaN, ru_pfN, ru_isN, ru_bsN, ru_jsN, ru_qsN, ru_set2, Nat.add_right_cancel_iff, if_true, if_false, ite_self, Int.reduceEq, and_self, Int.add_neg_cancel_right, Int.add_zero, Int.zero_add, pi_e hP, pi_f0 hP, pi_s0 hP, pi_f1 hP, pi_s1 hP, pi_f2 hP, pi_a0 hP, pi_w0 hP, pi_f3 hP, pi_a1 hP, pi_w1 hP, pi_f4 hP, pi_a2 hP, pi_w2 hP, pi_f5 hP, pi_a3 hP, pi_w3 hP, pi_f6 hP, pi_a4 hP, pi_w4 hP, pi_f7 hP, pi_a5 hP, pi_w5 hP, pi_f8 hP, pi_a6 hP, pi_w6 hP, pi_f9 hP, pi_a7 hP, pi_w7 hP, pi_f10 hP, pi_a8 hP, pi_w8 hP, pi_f11 hP, pi_a9 hP, pi_w9 hP, Int.reduceEq, ru_ctR, ru_ctI, upC_e, upC_n, upC_up, up1_e, up1_n, h0, c, d1, d2, e1, phF hp, phA3 hp, not_true]
      · have d2 : (q.2 3 (e k) = nm) = False := eq_false c2
        rw [if_neg (fun h => c2 (of_decide_eq_true h).2)]
        simp (disch := omega) only [e251_0, e251_1, e251_3, e251_4, e251_7, e251_10, e251_11, e251_12, e251_15, e251_16, e251_19, e251_20, e251_23, e251_24, e251_25, e251_26, e251_27, e251_30, e251_31, e251_32, e251_35, e251_38, e251_39, ↓reduceIte, Bool.false_eq_true, not_false_eq_true, not_true_eq_false, Nat.reduceLeDiff, Nat.reduceAdd, Nat.reduceEqDiff, Int.reduceToNat, Int.toNat_natCast, iB0, iB1, ru_klI, ru_klR, ru_klF, ru_klJ, ru_kl0, ru_cs0, ru_csI, ru_csR, ru_csF, ru_csJ, wI_add, wI_sub, wI_mul, wI_lt, wI_le, wI_inj, ru_fdE, ru_fdN, ru_iaN, ru_baN, ru_laN, ru_qaN, ru_pfN, ru_isN, ru_bsN, ru_jsN, ru_qsN, ru_set2, Nat.add_right_cancel_iff, if_true, if_false, ite_self, Int.reduceEq, and_self, Int.add_neg_cancel_right, Int.add_zero, Int.zero_add, pi_e hP, pi_f0 hP, pi_s0 hP, pi_f1 hP, pi_s1 hP, pi_f2 hP, pi_a0 hP, pi_w0 hP, pi_f3 hP, pi_a1 hP, pi_w1 hP, pi_f4 hP, pi_a2 hP, pi_w2 hP, pi_f5 hP, pi_a3 hP, pi_w3 hP, pi_f6 hP, pi_a4 hP, pi_w4 hP, pi_f7 hP, pi_a5 hP, pi_w5 hP, pi_f8 hP, pi_a6 hP, pi_w6 hP, pi_f9 hP, pi_a7 hP, pi_w7 hP, pi_f10 hP, pi_a8 hP, pi_w8 hP, pi_f11 hP, pi_a9 hP, pi_w9 hP, Int.reduceEq, ru_ctR, ru_ctI, upC_e, upC_n, upC_up, up1_e, up1_n, h0, c, d1, d2, e1, phF hp, phA3 hp, not_false_iff, ih1]
theorem k251 (hP : isPi P) {p : tPi} {a : Nat} {q : tPh} (hp : phAt (clPut h (piPut C P p)) a q) (hr : phR q) {n : Nat} {e : Nat → Nat} (hn : n ≤ 12) (h0 : p.1 0 = (n : Int)) (he : ∀ i, i < n → p.2 2 i = (e i : Int) ∧ e i < 12) {nm : Int} (g : -1 ≤ nm ∧ nm ≤ 19) : ru_ev z 251 [.ref P, .ref a, .int (wI nm)] (clPut h (piPut C P p)) = some (.inl (some (.int (wI (onF q e n nm)))), clPut h (piPut C P p)) := by
  have key := k251l (z := z) hP hp hr hn h0 he g n 0 (by omega)
  rw [show ((0 : Nat) : Int) = 0 from rfl] at key
  simp (disch := omega) only [en251, e251_0, e251_1, ↓reduceIte, Bool.false_eq_true, not_false_eq_true, not_true_eq_false, Nat.reduceLeDiff, Nat.reduceAdd, Nat.reduceEqDiff, Int.reduceToNat, Int.toNat_natCast, iB0, iB1, ru_klI, ru_klR, ru_klF, ru_klJ, ru_kl0, ru_cs0, ru_csI, ru_csR, ru_csF, ru_csJ, wI_add, wI_sub, wI_mul, wI_lt, wI_le, wI_inj, ru_fdE, ru_fdN, ru_iaN, ru_baN, ru_laN, ru_qaN, ru_pfN, ru_isN, ru_bsN, ru_jsN, ru_qsN, ru_set2, Nat.add_right_cancel_iff, if_true, if_false, ite_self, Int.reduceEq, and_self, Int.add_neg_cancel_right, Int.add_zero, Int.zero_add, pi_e hP, key]
  rfl
/-- the loops, on a heap that stays -/
theorem c250i {H : am_H} {P O a1 a2 : Nat} {q1 : tPh} {L : Nat → Int} {n : Nat} {e1 : Nat → Nat} (hn : n ≤ 12) (g0 : H.1 1000 = some (.inr (0, clL0 C 1000))) (g4 : am_fd H 1000 0 4 = some (.ref P)) (g5 : am_fd H 1000 0 5 = some (.ref O)) (f0 : am_fd H P 4 0 = some (.int (wI n))) (f4 : am_fd H P 4 4 = some (.ref (P + 3))) (ha : ∀ i : Nat, i < n → am_ia H (P + 3) (wI (i : Nat)) = some (wI (e1 i : Nat))) (he : ∀ i, i < n → e1 i < 12) (hp : phAt H a1 q1) (hL : ∀ i, i < n → ru_ev z 251 [.ref O, .ref a2, .int (wI (q1.2 3 (e1 i)))] H = some (.inl (some (.int (wI (L i)))), H)) (hLr : ∀ i, i < n → -1 ≤ L i ∧ L i ≤ 12) {i : Nat} (hi : i < n) : ∀ d j, j + d = n → i < j → ∀ (T : Nat) (l7 : Option Value), T ≤ 1000 → ∃ l7',
    ru_n z 250 78 [some (.ref 1000), some (.ref a1), some (.ref a2), some (.int (wI ((T + cnB (ivA L i) j : Nat) : Int))), some (.int (wI i)), some (.int (wI (L i))), some (.int (wI j)), l7] [] H = ru_n z 250 137 [some (.ref 1000), some (.ref a1), some (.ref a2), some (.int (wI ((T + cnB (ivA L i) n : Nat) : Int))), some (.int (wI i)), some (.int (wI (L i))), some (.int (wI n)), l7'] [] H := by
  intro d
  induction d with
  | zero =>
    intro j hj hij T l7 hT
    obtain rfl : j = n := by omega
    refine ⟨l7, ?_⟩
    have c : ((j : Int) ≤ (j : Int)) = True := eq_true (Int.le_refl _)
    simp (disch := omega) only [e250_78, e250_80, e250_81, e250_84, e250_87, ↓reduceIte, Bool.false_eq_true, not_false_eq_true, not_true_eq_false, Nat.reduceLeDiff, Nat.reduceAdd, Nat.reduceEqDiff, Int.reduceToNat, Int.toNat_natCast, iB0, iB1, ru_klI, ru_klR, ru_klF, ru_klJ, ru_kl0, ru_cs0, ru_csI, ru_csR, ru_csF, ru_csJ, wI_add, wI_sub, wI_mul, wI_lt, wI_le, wI_inj, ru_fdE, ru_fdN, ru_iaN, ru_baN, ru_laN, ru_qaN, ru_pfN, ru_isN, ru_bsN, ru_jsN, ru_qsN, ru_set2, Nat.add_right_cancel_iff, if_true, if_false, ite_self, Int.reduceEq, and_self, Int.add_neg_cancel_right, Int.add_zero, Int.zero_add, g0, g4, f0, c]
  | succ d ih =>
    intro j hj hij T l7 hT
    obtain ⟨l7', ih1⟩ := ih (j + 1) (by omega) (by omega) T (some (.int (wI (L j)))) hT
    refine ⟨l7', ?_⟩
    have c : ((n : Int) ≤ (j : Int)) = False := eq_false (by omega)
    have r1 := hLr i hi
    have r2 := hLr j (by omega)
    have hle := cnB_le (ivA L i) j
    have k1 := hL j (by omega)
    have k2 := ha j (by omega)
    have k3 := he j (by omega)
    rw [← ih1, e250_78]
    by_cases c1 : L j = -1
    · have d1 : (L j = -1) = True := eq_true c1
      have ec : cnB (ivA L i) (j + 1) = cnB (ivA L i) j := by rw [cnB, if_neg (fun h => (of_decide_eq_true h).2.1 c1), Nat.add_zero]
      rw [ec]
      simp (disch := omega) only [e250_80, e250_81, e250_84, e250_87, e250_90, e250_91, e250_94, e250_95, e250_96, e250_99, e250_100, e250_103, e250_106, e250_108, e250_109, e250_110, e250_113, e250_115, e250_117, e250_118, e250_121, e250_123, e250_125, e250_128, e250_131, e250_134, ↓reduceIte, Bool.false_eq_true, not_false_eq_true, not_true_eq_false, Nat.reduceLeDiff, Nat.reduceAdd, Nat.reduceEqDiff, Int.reduceToNat, Int.toNat_natCast, iB0, iB1, ru_klI, ru_klR, ru_klF, ru_klJ, ru_kl0, ru_cs0, ru_csI, ru_csR, ru_csF, ru_csJ, wI_add, wI_sub, wI_mul, wI_lt, wI_le, wI_inj, ru_fdE, ru_fdN, ru_iaN, ru_baN, ru_laN, ru_qaN, ru_pfN, ru_isN, ru_bsN, ru_jsN, ru_qsN, ru_set2, Nat.add_right_cancel_iff, if_true, if_false, ite_self, Int.reduceEq, and_self, Int.add_neg_cancel_right, Int.add_zero, Int.zero_add, g0, g4, g5, f0, f4, c, k1, k2, phF hp, phA3 hp, d1, Int.natCast_add, Int.natCast_one]
    · have d1 : (L j = -1) = False := eq_false c1
      by_cases c2 : L j < L i
      · have d2 : (L i ≤ L j) = False := eq_false (by omega)
        have ec : cnB (ivA L i) (j + 1) = cnB (ivA L i) j + 1 := by rw [cnB, if_pos (show ivA L i j = true from decide_eq_true ⟨hij, c1, c2⟩)]
        rw [ec]
        simp (disch := omega) only [e250_80, e250_81, e250_84, e250_87, e250_90, e250_91, e250_94, e250_95, e250_96, e250_99, e250_100, e250_103, e250_106, e250_108, e250_109, e250_110, e250_113, e250_115, e250_117, e250_118, e250_121, e250_123, e250_125, e250_128, e250_131, e250_134, ↓reduceIte, Bool.false_eq_true, not_false_eq_true, not_true_eq_false, Nat.reduceLeDiff, Nat.reduceAdd, Nat.reduceEqDiff, Int.reduceToNat, Int.toNat_natCast, iB0, iB1, ru_klI, ru_klR, ru_klF, ru_klJ, ru_kl0, ru_cs0, ru_csI, ru_csR, ru_csF, ru_csJ, wI_add, wI_sub, wI_mul, wI_lt, wI_le, wI_inj, ru_fdE, ru_fdN, ru_iaN, ru_baN, ru_laN, ru_qaN, ru_pfN, ru_isN, ru_bsN, ru_jsN, ru_qsN, ru_set2, Nat.add_right_cancel_iff, if_true, if_false, ite_self, Int.reduceEq, and_self, Int.add_neg_cancel_right, Int.add_zero, Int.zero_add, g0, g4, g5, f0, f4, c, k1, k2, phF hp, phA3 hp, d1, d2, Int.natCast_add, Int.natCast_one, Int.add_assoc]
      · have d2 : (L i ≤ L j) = True := eq_true (by omega)
        have ec : cnB (ivA L i) (j + 1) = cnB (ivA L i) j := by rw [cnB, if_neg (fun h => c2 (of_decide_eq_true h).2.2), Nat.add_zero]
        rw [ec]
        simp (disch := omega) only [e250_80, e250_81, e250_84, e250_87, e250_90, e250_91, e250_94, e250_95, e250_96, e250_99, e250_100, e250_103, e250_106, e250_108, e250_109, e250_110, e250_113, e250_115, e250_117, e250_118, e250_121, e250_123, e250_125, e250_128, e250_131, e250_134, ↓reduceIte, Bool.false_eq_true, not_false_eq_true, not_true_eq_false, Nat.reduceLeDiff, Nat.reduceAdd, Nat.reduceEqDiff, Int.reduceToNat, Int.toNat_natCast, iB0, iB1, ru_klI, ru_klR, ru_klF, ru_klJ, ru_kl0, ru_cs0, ru_csI, ru_csR, ru_csF, ru_csJ, wI_add, wI_sub, wI_mul, wI_lt, wI_le, wI_inj, ru_fdE, ru_fdN, ru_iaN, ru_baN, ru_laN, ru_qaN, ru_pfN, ru_isN, ru_bsN, ru_jsN, ru_qsN, ru_set2, Nat.add_right_cancel_iff, if_true, if_false, ite_self, Int.reduceEq, and_self, Int.add_neg_cancel_right, Int.add_zero, Int.zero_add, g0, g4, g5, f0, f4, c, k1, k2, phF hp, phA3 hp, d1, d2, Int.natCast_add, Int.natCast_one]
theorem c250o {H : am_H} {P O a1 a2 : Nat} {q1 : tPh} {L : Nat → Int} {n : Nat} {e1 : Nat → Nat} (hn : n ≤ 12) (g0 : H.1 1000 = some (.inr (0, clL0 C 1000))) (g4 : am_fd H 1000 0 4 = some (.ref P)) (g5 : am_fd H 1000 0 5 = some (.ref O)) (f0 : am_fd H P 4 0 = some (.int (wI n))) (f4 : am_fd H P 4 4 = some (.ref (P + 3))) (ha : ∀ i : Nat, i < n → am_ia H (P + 3) (wI (i : Nat)) = some (wI (e1 i : Nat))) (he : ∀ i, i < n → e1 i < 12) (hp : phAt H a1 q1) (hL : ∀ i, i < n → ru_ev z 251 [.ref O, .ref a2, .int (wI (q1.2 3 (e1 i)))] H = some (.inl (some (.int (wI (L i)))), H)) (hLr : ∀ i, i < n → -1 ≤ L i ∧ L i ≤ 12) : ∀ d i, i + d = n → ∀ (l5 l6 l7 : Option Value),
    ru_n z 250 35 [some (.ref 1000), some (.ref a1), some (.ref a2), some (.int (wI (ivT L n i : Nat))), some (.int (wI i)), l5, l6, l7] [] H = some (.inl (some (.int (wI (ivT L n n : Nat)))), H) := by
  intro d
  induction d with
  | zero =>
    intro i hi l5 l6 l7
    obtain rfl : i = n := by omega
    have c : ((i : Int) ≤ (i : Int)) = True := eq_true (Int.le_refl _)
    simp (disch := omega) only [e250_35, e250_37, e250_38, e250_41, e250_44, e250_143, e250_144, ↓reduceIte, Bool.false_eq_true, not_false_eq_true, not_true_eq_false, Nat.reduceLeDiff, Nat.reduceAdd, Nat.reduceEqDiff, Int.reduceToNat, Int.toNat_natCast, iB0, iB1, ru_klI, ru_klR, ru_klF, ru_klJ, ru_kl0, ru_cs0, ru_csI, ru_csR, ru_csF, ru_csJ, wI_add, wI_sub, wI_mul, wI_lt, wI_le, wI_inj, ru_fdE, ru_fdN, ru_iaN, ru_baN, ru_laN, ru_qaN, ru_pfN, ru_isN, ru_bsN, ru_jsN, ru_qsN, ru_set2, Nat.add_right_cancel_iff, if_true, if_false, ite_self, Int.reduceEq, and_self, Int.add_neg_cancel_right, Int.add_zero, Int.zero_add, g0, g4, f0, c]
  | succ d ih =>
    intro i hi l5 l6 l7
    have c : ((n : Int) ≤ (i : Int)) = False := eq_false (by omega)
    have h9 := ivT_le L n i
    have h8 : i * n ≤ 12 * 12 := Nat.mul_le_mul (by omega) hn
    obtain ⟨l7', hin⟩ := c250i (z := z) (C := C) (H := H) hn g0 g4 g5 f0 f4 ha he hp hL hLr (show i < n by omega) (n - (i + 1)) (i + 1) (by omega) (by omega) (ivT L n i) l7 (by omega)
    have e0 : cnB (ivA L i) (i + 1) = 0 := cnB_none _ (fun o ho h => by have := (of_decide_eq_true h).1; omega)
    rw [e0, Nat.add_zero, show ((i + 1 : Nat) : Int) = (i : Int) + 1 by omega] at hin
    have k1 := hL i (by omega)
    have k2 := ha i (by omega)
    have k3 := he i (by omega)
    rw [← ih (i + 1) (by omega) (some (.int (wI (L i)))) (some (.int (wI n))) l7', e250_35]
    have eT : ivT L n (i + 1) = ivT L n i + cnB (ivA L i) n := rfl
    rw [eT]
    simp (disch := omega) only [e250_37, e250_38, e250_41, e250_44, e250_47, e250_48, e250_51, e250_52, e250_53, e250_56, e250_57, e250_60, e250_63, e250_65, e250_66, e250_67, e250_70, e250_72, e250_74, e250_75, e250_76, ↓reduceIte, Bool.false_eq_true, not_false_eq_true, not_true_eq_false, Nat.reduceLeDiff, Nat.reduceAdd, Nat.reduceEqDiff, Int.reduceToNat, Int.toNat_natCast, iB0, iB1, ru_klI, ru_klR, ru_klF, ru_klJ, ru_kl0, ru_cs0, ru_csI, ru_csR, ru_csF, ru_csJ, wI_add, wI_sub, wI_mul, wI_lt, wI_le, wI_inj, ru_fdE, ru_fdN, ru_iaN, ru_baN, ru_laN, ru_qaN, ru_pfN, ru_isN, ru_bsN, ru_jsN, ru_qsN, ru_set2, Nat.add_right_cancel_iff, if_true, if_false, ite_self, Int.reduceEq, and_self, Int.add_neg_cancel_right, Int.add_zero, Int.zero_add, g0, g4, g5, f0, f4, c, k1, k2, phF hp, phA3 hp, hin]
    simp (disch := omega) only [e250_137, e250_140, ↓reduceIte, Bool.false_eq_true, not_false_eq_true, not_true_eq_false, Nat.reduceLeDiff, Nat.reduceAdd, Nat.reduceEqDiff, Int.reduceToNat, Int.toNat_natCast, iB0, iB1, ru_klI, ru_klR, ru_klF, ru_klJ, ru_kl0, ru_cs0, ru_csI, ru_csR, ru_csF, ru_csJ, wI_add, wI_sub, wI_mul, wI_lt, wI_le, wI_inj, ru_fdE, ru_fdN, ru_iaN, ru_baN, ru_laN, ru_qaN, ru_pfN, ru_isN, ru_bsN, ru_jsN, ru_qsN, ru_set2, Nat.add_right_cancel_iff, if_true, if_false, ite_self, Int.reduceEq, and_self, Int.add_neg_cancel_right, Int.add_zero, Int.zero_add, Int.natCast_add, Int.natCast_one]
/-- both pictures arranged, and the pairs counted -/
def ivI (q1 q2 : tPh) (v : Int) : Prop := ∃ (n1 n2 : Nat) (e1 e2 : Nat → Nat), enO (shS q1) (kyO (shX q1) (shY q1)) n1 e1 ∧ enO (shS q2) (kyO (shX q2) (shY q2)) n2 e2 ∧ v = (ivT (fun i => onF q2 e2 n2 (q1.2 3 (e1 i))) n1 n1 : Nat)
theorem c250 (hR : clR C) {i j : Nat} (hi : i < 5) (hj : j < 5) : ∃ v C', clE C C' ∧ ivI (cph C (cAp C i)) (cph C (cAp C j)) v ∧ (0 ≤ v ∧ v ≤ 144) ∧ ru_ev z 250 [.ref 1000, .ref (cAp C i), .ref (cAp C j)] (clPut h C) = some (.inl (some (.int (wI v))), clPut h C') := by
  obtain ⟨-, -, -, -, -, -, -, b1, b2⟩ := clA_k hR.1
  have hq1 := hR.2.2.2.2 i hi
  have hq2 := hR.2.2.2.2 j hj
  obtain ⟨p, k1, k2⟩ := k81 (z := z) (h := h) (C := C) (P := 1070) (Or.inl rfl) (cAp_ph hR.1 hi) (by unfold cAp; omega) rfl hq1 hR.2.2.2.1 (piGet C 1070)
  rw [piPut_get] at k2
  obtain ⟨r1, r2, r3, r4, r5, r6, r7, r8⟩ := clR_pi (p := p) (Or.inl rfl : isPi 1070) hR
  obtain ⟨r, s1, s2⟩ := k81 (z := z) (h := h) (C := piPut C 1070 p) (P := 1081) (Or.inr rfl) (cAp_ph hR.1 hj) (by unfold cAp; omega) (r6 j hj) hq2 (by have := hR.2.2.2.1; rw [← r7] at this; exact this) (piGet (piPut C 1070 p) 1081)
  rw [piPut_get, r7] at s2
  have hcF := clF (h := h) r1.1
  rw [r2, r7] at hcF
  obtain ⟨n1, e1, er1, m1, m2, m3, m4, -⟩ := k1
  obtain ⟨n2, e2, er2, o1, o2, o3, o4, -⟩ := s1
  have hn1 := enO_12 m3
  have hn2 := enO_12 o3
  have g4 : am_fd (clPut h (piPut (piPut C 1070 p) 1081 r)) 1000 0 4 = some (.ref 1070) := cl_g0_4
  have g5 : am_fd (clPut h (piPut (piPut C 1070 p) 1081 r)) 1000 0 5 = some (.ref 1081) := cl_g0_5
  have f0 : am_fd (clPut h (piPut (piPut C 1070 p) 1081 r)) 1070 4 0 = some (.int (wI n1)) := by
    rw [piPut_comm, pi_f0 (Or.inl rfl), m1]
  have f4 : am_fd (clPut h (piPut (piPut C 1070 p) 1081 r)) 1070 4 4 = some (.ref (1070 + 3)) := by
    rw [piPut_comm]; exact pi_f4 (Or.inl rfl)
  have ha : ∀ x : Nat, x < n1 → am_ia (clPut h (piPut (piPut C 1070 p) 1081 r)) (1070 + 3) (wI (x : Nat)) = some (wI (e1 x : Nat)) := fun x hx => by
    rw [piPut_comm, pi_a2 (Or.inl rfl) (by omega) (by omega), Int.toNat_natCast, m4 x hx]
  have hp1 : phAt (clPut h (piPut (piPut C 1070 p) 1081 r)) (cAp C i) (cph C (cAp C i)) := by
    have := cl_ph (h := h) (C := piPut (piPut C 1070 p) 1081 r) (cAp_ph hR.1 hi)
    rw [piPut_ph (by unfold cAp; omega), piPut_ph (by unfold cAp; omega)] at this
    exact this
  have hp2 : phAt (clPut h (piPut (piPut C 1070 p) 1081 r)) (cAp C j) (cph C (cAp C j)) := by
    have := cl_ph (h := h) (C := piPut (piPut C 1070 p) 1081 r) (cAp_ph hR.1 hj)
    rw [piPut_ph (by unfold cAp; omega), piPut_ph (by unfold cAp; omega)] at this
    exact this
  have hL : ∀ x, x < n1 → ru_ev z 251 [.ref 1081, .ref (cAp C j), .int (wI ((cph C (cAp C i)).2 3 (e1 x)))] (clPut h (piPut (piPut C 1070 p) 1081 r)) = some (.inl (some (.int (wI (onF (cph C (cAp C j)) e2 n2 ((cph C (cAp C i)).2 3 (e1 x)))))), clPut h (piPut (piPut C 1070 p) 1081 r)) := fun x hx => by
    have := (phR_i hq1 (e1 x)).2.2.2
    exact k251 (Or.inr rfl) hp2 hq2 hn2 o1 (fun y hy => ⟨o4 y hy, (o3.1 y hy).1⟩) (by omega)
  have hLr : ∀ x, x < n1 → -1 ≤ onF (cph C (cAp C j)) e2 n2 ((cph C (cAp C i)).2 3 (e1 x)) ∧ onF (cph C (cAp C j)) e2 n2 ((cph C (cAp C i)).2 3 (e1 x)) ≤ 12 := fun x hx => by
    rcases onF_rng (cph C (cAp C j)) e2 n2 ((cph C (cAp C i)).2 3 (e1 x)) with c | c <;> omega
  have key := c250o (z := z) (C := piPut (piPut C 1070 p) 1081 r) hn1 cl_e0 g4 g5 f0 f4 ha (fun x hx => (m3.1 x hx).1) hp1 hL hLr n1 0 (by omega) none none none
  have e00 : ((ivT (fun x => onF (cph C (cAp C j)) e2 n2 ((cph C (cAp C i)).2 3 (e1 x))) n1 0 : Nat) : Int) = 0 := rfl
  rw [e00, show ((0 : Nat) : Int) = 0 from rfl] at key
  have hb := ivT_le (fun x => onF (cph C (cAp C j)) e2 n2 ((cph C (cAp C i)).2 3 (e1 x))) n1 n1
  have hb2 : n1 * n1 ≤ 12 * 12 := Nat.mul_le_mul hn1 hn1
  refine ⟨_, piPut (piPut C 1070 p) 1081 r, ⟨p, r, rfl⟩, ⟨n1, n2, e1, e2, m3, o3, rfl⟩, by omega, ?_⟩
  simp (disch := omega) only [en250, e250_0, e250_1, e250_4, e250_5, e250_6, e250_9, e250_12, e250_15, e250_16, e250_19, e250_20, e250_21, e250_24, e250_27, e250_30, e250_31, e250_32, e250_33, ↓reduceIte, Bool.false_eq_true, not_false_eq_true, not_true_eq_false, Nat.reduceLeDiff, Nat.reduceAdd, Nat.reduceEqDiff, Int.reduceToNat, Int.toNat_natCast, iB0, iB1, ru_klI, ru_klR, ru_klF, ru_klJ, ru_kl0, ru_cs0, ru_csI, ru_csR, ru_csF, ru_csJ, wI_add, wI_sub, wI_mul, wI_lt, wI_le, wI_inj, ru_fdE, ru_fdN, ru_iaN, ru_baN, ru_laN, ru_qaN, ru_pfN, ru_isN, ru_bsN, ru_jsN, ru_qsN, ru_set2, Nat.add_right_cancel_iff, if_true, if_false, ite_self, Int.reduceEq, and_self, Int.add_neg_cancel_right, Int.add_zero, Int.zero_add, cl_e0, cl_g0_4, cl_g0_5, clF hR.1, hcF, k2, s2, key]
end INV
