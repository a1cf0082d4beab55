/-! ===== who in a picture has no name ===== -/
/-- how many below n have P -/
def cnB (P : Nat → Bool) : Nat → Nat
  | 0 => 0
  | n + 1 => cnB P n + (if P n = true then 1 else 0)
theorem cnB_le (P : Nat → Bool) : ∀ n, cnB P n ≤ n
  | 0 => Nat.le_refl _
  | n + 1 => by
    have := cnB_le P n
    unfold cnB
    split <;> omega
theorem cnB_congr {P Q : Nat → Bool} {n : Nat} (h : ∀ i, i < n → P i = Q i) : cnB P n = cnB Q n := by
  induction n with
  | zero => rfl
  | succ n ih => simp only [cnB, h n (by omega), ih (fun i hi => h i (by omega))]
theorem pcN_or {s b : Nat} (hb : s.testBit b = false) : ∀ k, pcN (s ||| 2 ^ b) k = pcN s k + (if b < k then 1 else 0)
  | 0 => rfl
  | k + 1 => by
    have ih := pcN_or hb k
    unfold pcN
    rw [ih, Nat.testBit_or, Nat.testBit_two_pow]
    by_cases e : b = k
    · subst e
      rw [hb, decide_eq_true rfl, if_neg (by omega), if_pos (by rfl), if_neg (by decide), if_pos (by omega)]
    · rw [decide_eq_false e, Bool.or_false]
      by_cases e2 : b < k
      · rw [if_pos e2, if_pos (show b < k + 1 by omega)]; omega
      · rw [if_neg e2, if_neg (show ¬ b < k + 1 by omega)]; omega
theorem pcN_0 : ∀ k, pcN 0 k = 0
  | 0 => rfl
  | k + 1 => by unfold pcN; rw [pcN_0 k, Nat.zero_testBit]; rfl
theorem pcN_bs (P : Nat → Bool) (m : Nat) : ∀ n, n ≤ m → pcN (bsN P n) m = cnB P n
  | 0, _ => pcN_0 m
  | n + 1, h => by
    have ih := pcN_bs P m n (by omega)
    unfold bsN cnB
    split
    · rw [pcN_or (by rw [bsN_bit, decide_eq_false (by omega)]; rfl), ih, if_pos (by omega)]
    · rw [ih]; rfl
def hsB (q : tPh) (i : Nat) : Bool := shw q i && decide (¬ q.2 3 i = -1)
def unB (q : tPh) (i : Nat) : Bool := shw q i && decide (q.2 3 i = -1)
theorem pcN_nm {q : tPh} {N : Int} (hr : phR q) (hN : phN q N) : ∀ n : Nat, (n : Int) ≤ q.1 7 → pcN (nmN q n) 20 = cnB (hsB q) n
  | 0, _ => pcN_0 20
  | n + 1, h => by
    have ih := pcN_nm hr hN n (by omega)
    have s2 := phR_i hr n
    unfold nmN cnB
    by_cases hP : shw q n = true ∧ ¬ q.2 3 n = -1
    · have e1 : hsB q n = true := by unfold hsB; rw [hP.1, decide_eq_true hP.2]; rfl
      have e2 : (nmN q n).testBit (q.2 3 n).toNat = false := by
        apply Bool.eq_false_iff.mpr
        intro hb
        obtain ⟨i, h1, h2, h3⟩ := (nmN_bit hr _ n).mp hb
        have := hN.2.1 i n (by omega) (by omega) (by omega) (by omega)
        omega
      rw [if_pos hP, if_pos e1, pcN_or e2, ih, if_pos (by omega)]
    · have e1 : ¬ hsB q n = true := by
        unfold hsB
        rw [Bool.and_eq_true, decide_eq_true_eq]
        exact hP
      rw [if_neg hP, if_neg e1, ih]; rfl
theorem cn_un (q : tPh) : ∀ n, cnB (shw q) n = cnB (hsB q) n + cnB (unB q) n
  | 0 => rfl
  | n + 1 => by
    have ih := cn_un q n
    have e : (if shw q n = true then 1 else 0) = (if hsB q n = true then 1 else 0) + (if unB q n = true then 1 else 0) := by
      unfold hsB unB
      by_cases h1 : shw q n = true
      · by_cases h2 : q.2 3 n = -1
        · simp [h1, h2]
        · simp [h1, h2]
      · simp [h1]
    show cnB (shw q) n + (if shw q n = true then 1 else 0) = (cnB (hsB q) n + (if hsB q n = true then 1 else 0)) + (cnB (unB q) n + (if unB q n = true then 1 else 0))
    omega
section UN
variable {z : Bool} {h : am_H} {C : tCl} {M : tMd}
theorem c232 (hR : clR C) {f : Int} (g : -2147483648 ≤ f ∧ f < 2147483648) : ru_ev z 232 [.ref 1000, .int (wI f)] (clPut h C) = oR (rcP C f) (some (.int (wI ((pcN (bsN (shw (cph C (cAp C f.toNat))) ((cph C (cAp C f.toNat)).1 7).toNat) 20 : Nat) - (pcN (nmN (cph C (cAp C f.toNat)) ((cph C (cAp C f.toNat)).1 7).toNat) 20 : Nat))))) (clPut h C) (clPut (thr h) C) := by
  have e1 := d78 (z := z) (h := h) hR g
  by_cases e : rcP C f = 0
  · obtain ⟨hp, hr⟩ := dph (h := h) hR e
    have s := phR_s hr
    have b1 := bsN_b (P := shw (cph C (cAp C f.toNat))) (k := ((cph C (cAp C f.toNat)).1 7).toNat) (by omega)
    have b2 := nmN_lt hr ((cph C (cAp C f.toNat)).1 7).toNat
    rw [oR_0 e] at e1 ⊢
    simp (disch := omega) only [en232, e232_0, e232_1, e232_2, e232_5, e232_6, e232_7, e232_10, e232_13, e232_14, e232_17, e232_20, e232_21, ↓reduceIte, Bool.false_eq_true, not_false_eq_true, not_true_eq_false, Nat.reduceLeDiff, Nat.reduceAdd, Nat.reduceEqDiff, Int.reduceToNat, Int.toNat_natCast, iB0, iB1, ru_klI, ru_klR, ru_klF, ru_klJ, ru_kl0, ru_cs0, ru_csI, ru_csR, ru_csF, ru_csJ, wI_add, wI_sub, wI_mul, wI_lt, wI_le, wI_inj, ru_fdE, ru_fdN, ru_iaN, ru_baN, ru_laN, ru_qaN, ru_pfN, ru_isN, ru_bsN, ru_jsN, ru_qsN, ru_set2, Nat.add_right_cancel_iff, if_true, if_false, ite_self, cl_e0, e1, m182 hp hr, m228 hp hr, m233]
  · rw [oR_n e] at e1 ⊢
    simp (disch := omega) only [en232, e232_0, e232_1, e232_2, e232_5, e232_6, e232_7, e232_10, e232_13, e232_14, e232_17, e232_20, e232_21, ↓reduceIte, Bool.false_eq_true, not_false_eq_true, not_true_eq_false, Nat.reduceLeDiff, Nat.reduceAdd, Nat.reduceEqDiff, Int.reduceToNat, Int.toNat_natCast, iB0, iB1, ru_klI, ru_klR, ru_klF, ru_klJ, ru_kl0, ru_cs0, ru_csI, ru_csR, ru_csF, ru_csJ, wI_add, wI_sub, wI_mul, wI_lt, wI_le, wI_inj, ru_fdE, ru_fdN, ru_iaN, ru_baN, ru_laN, ru_qaN, ru_pfN, ru_isN, ru_bsN, ru_jsN, ru_qsN, ru_set2, Nat.add_right_cancel_iff, if_true, if_false, ite_self, cl_e0, e1]
theorem p234l {f : Nat} (hf : f < 5) (hr : phR (mph M f)) {n : Nat} (hn : (mph M f).1 7 = n) : ∀ d k, k + d = n →
    ru_n z 234 14 [some (.ref 1315), some (.int (wI f)), some (.int (wI (cnB (unB (mph M f)) k : Nat))), some (.int (wI k))] [] (mdPut h M) = some (.inl (some (.int (wI (cnB (unB (mph M f)) n : Nat)))), mdPut h M) := by
  have s := phR_s hr
  intro d
  induction d with
  | zero =>
    intro k hk
    obtain rfl : k = n := by omega
    have c : ((mph M f).1 7 ≤ (k : Int)) = True := eq_true (by omega)
    simp (disch := omega) only [e234_0, e234_1, e234_2, e234_5, e234_8, e234_9, e234_10, e234_11, e234_12, e234_13, e234_14, e234_15, e234_16, e234_17, e234_20, e234_23, e234_24, e234_25, e234_26, e234_27, e234_30, e234_33, e234_34, e234_35, e234_36, e234_37, e234_40, e234_43, e234_44, e234_47, e234_48, e234_49, e234_50, e234_53, e234_56, e234_57, ↓reduceIte, Bool.false_eq_true, not_false_eq_true, not_true_eq_false, Nat.reduceLeDiff, Nat.reduceAdd, Nat.reduceEqDiff, Int.reduceToNat, Int.toNat_natCast, iB0, iB1, ru_klI, ru_klR, ru_klF, ru_klJ, ru_kl0, ru_cs0, ru_csI, ru_csR, ru_csF, ru_csJ, wI_add, wI_sub, wI_mul, wI_lt, wI_le, wI_inj, ru_fdE, ru_fdN, ru_iaN, ru_baN, ru_laN, ru_qaN, ru_pfN, ru_isN, ru_bsN, ru_jsN, ru_qsN, ru_set2, Nat.add_right_cancel_iff, if_true, if_false, ite_self, md_e, md_f0, md_s0, md_f1, md_s1, md_f2, md_f3, md_f4, md_s4, md_f5, md_f6, md_f7, md_s7, md_f8, md_s8, md_f9, md_s9, md_f10, md_s10, md_f11, md_s11, md_f12, md_s12, md_f13, md_s13, md_f14, md_f15, md_s15, md_f16, md_s16, md_f17, md_s17, md_f18, md_s18, md_f19, md_f20, md_s20, md_f21, md_f22, md_s22, md_f23, md_f24, md_s24, md_f25, md_s25, md_f26, md_f27, md_f28, md_s28, md_f29, md_s29, md_f30, md_f31, md_f32, md_f33, md_f34, md_s34, md_f35, md_s35, md_f36, md_f37, md_f38, md_s38, md_a0, md_w0, md_a1, md_w1, md_a2, md_w2, md_a3, md_w3, md_a4, md_w4, md_a5, md_w5, md_a6, md_w6, md_a7, md_w7, md_a8, md_w8, md_a9, md_w9, md_a10, md_w10, md_a11, md_w11, md_a12, md_w12, md_a13, md_w13, md_a14, md_w14, md_a15, md_w15, up1_e, up1_n, mdT_1, mdT_n, mdT_2, mdT_T, p122, c]
  | succ d ih =>
    intro k hk
    have ih1 := ih (k + 1) (by omega)
    have b := cnB_le (unB (mph M f)) k
    have s2 := phR_i hr k
    have c : ((mph M f).1 7 ≤ (k : Int)) = False := eq_false (by omega)
    have e4 := p124 (z := z) (h := h) hf (show k < 12 by omega) hr
    have e3 : M.2 0 (54 * f + 6 + 4 * k + 3) = (mph M f).2 3 k + 1 := by have := (mph_x (M := M) (f := f) (k := k) (by omega)).2.2.2; omega
    have e5 : ((mph M f).2 3 k + 1 = 0) = ((mph M f).2 3 k = -1) := propext ⟨fun h => by omega, fun h => by omega⟩
    rw [e234_14]
    by_cases h1 : shw (mph M f) k = true
    · by_cases h2 : (mph M f).2 3 k = -1
      · have hu : unB (mph M f) k = true := by unfold unB; rw [h1, decide_eq_true h2]; rfl
        rw [cnB, if_pos hu] at ih1
        simp only [Int.natCast_add, Int.natCast_one] at ih1
        simp (disch := omega) only [e234_0, e234_1, e234_2, e234_5, e234_8, e234_9, e234_10, e234_11, e234_12, e234_13, e234_15, e234_16, e234_17, e234_20, e234_23, e234_24, e234_25, e234_26, e234_27, e234_30, e234_33, e234_34, e234_35, e234_36, e234_37, e234_40, e234_43, e234_44, e234_47, e234_48, e234_49, e234_50, e234_53, e234_56, e234_57, ↓reduceIte, Bool.false_eq_true, not_false_eq_true, not_true_eq_false, Nat.reduceLeDiff, Nat.reduceAdd, Nat.reduceEqDiff, Int.reduceToNat, Int.toNat_natCast, iB0, iB1, ru_klI, ru_klR, ru_klF, ru_klJ, ru_kl0, ru_cs0, ru_csI, ru_csR, ru_csF, ru_csJ, wI_add, wI_sub, wI_mul, wI_lt, wI_le, wI_inj, ru_fdE, ru_fdN, ru_iaN, ru_baN, ru_laN, ru_qaN, ru_pfN, ru_isN, ru_bsN, ru_jsN, ru_qsN, ru_set2, Nat.add_right_cancel_iff, if_true, if_false, ite_self, md_e, md_f0, md_s0, md_f1, md_s1, md_f2, md_f3, md_f4, md_s4, md_f5, md_f6, md_f7, md_s7, md_f8, md_s8, md_f9, md_s9, md_f10, md_s10, md_f11, md_s11, md_f12, md_s12, md_f13, md_s13, md_f14, md_f15, md_s15, md_f16, md_s16, md_f17, md_s17, md_f18, md_s18, md_f19, md_f20, md_s20, md_f21, md_f22, md_s22, md_f23, md_f24, md_s24, md_f25, md_s25, md_f26, md_f27, md_f28, md_s28, md_f29, md_s29, md_f30, md_f31, md_f32, md_f33, md_f34, md_s34, md_f35, md_s35, md_f36, md_f37, md_f38, md_s38, md_a0, md_w0, md_a1, md_w1, md_a2, md_w2, md_a3, md_w3, md_a4, md_w4, md_a5, md_w5, md_a6, md_w6, md_a7, md_w7, md_a8, md_w8, md_a9, md_w9, md_a10, md_w10, md_a11, md_w11, md_a12, md_w12, md_a13, md_w13, md_a14, md_w14, md_a15, md_w15, up1_e, up1_n, mdT_1, mdT_n, mdT_2, mdT_T, p122, c, e4, p125 (h := h) (z := z) (M := M) hf (show k < 12 by omega), e3, e5, h1, h2, not_true, if_true]
        exact ih1
      · have hu : ¬ unB (mph M f) k = true := by unfold unB; rw [h1, decide_eq_false h2]; decide
        rw [cnB, if_neg hu] at ih1
        simp only [Int.natCast_add, Int.natCast_one, Nat.add_zero] at ih1
        simp (disch := omega) only [e234_0, e234_1, e234_2, e234_5, e234_8, e234_9, e234_10, e234_11, e234_12, e234_13, e234_15, e234_16, e234_17, e234_20, e234_23, e234_24, e234_25, e234_26, e234_27, e234_30, e234_33, e234_34, e234_35, e234_36, e234_37, e234_40, e234_43, e234_44, e234_47, e234_48, e234_49, e234_50, e234_53, e234_56, e234_57, ↓reduceIte, Bool.false_eq_true, not_false_eq_true, not_true_eq_false, Nat.reduceLeDiff, Nat.reduceAdd, Nat.reduceEqDiff, Int.reduceToNat, Int.toNat_natCast, iB0, iB1, ru_klI, ru_klR, ru_klF, ru_klJ, ru_kl0, ru_cs0, ru_csI, ru_csR, ru_csF, ru_csJ, wI_add, wI_sub, wI_mul, wI_lt, wI_le, wI_inj, ru_fdE, ru_fdN, ru_iaN, ru_baN, ru_laN, ru_qaN, ru_pfN, ru_isN, ru_bsN, ru_jsN, ru_qsN, ru_set2, Nat.add_right_cancel_iff, if_true, if_false, ite_self, md_e, md_f0, md_s0, md_f1, md_s1, md_f2, md_f3, md_f4, md_s4, md_f5, md_f6, md_f7, md_s7, md_f8, md_s8, md_f9, md_s9, md_f10, md_s10, md_f11, md_s11, md_f12, md_s12, md_f13, md_s13, md_f14, md_f15, md_s15, md_f16, md_s16, md_f17, md_s17, md_f18, md_s18, md_f19, md_f20, md_s20, md_f21, md_f22, md_s22, md_f23, md_f24, md_s24, md_f25, md_s25, md_f26, md_f27, md_f28, md_s28, md_f29, md_s29, md_f30, md_f31, md_f32, md_f33, md_f34, md_s34, md_f35, md_s35, md_f36, md_f37, md_f38, md_s38, md_a0, md_w0, md_a1, md_w1, md_a2, md_w2, md_a3, md_w3, md_a4, md_w4, md_a5, md_w5, md_a6, md_w6, md_a7, md_w7, md_a8, md_w8, md_a9, md_w9, md_a10, md_w10, md_a11, md_w11, md_a12, md_w12, md_a13, md_w13, md_a14, md_w14, md_a15, md_w15, up1_e, up1_n, mdT_1, mdT_n, mdT_2, mdT_T, p122, c, e4, p125 (h := h) (z := z) (M := M) hf (show k < 12 by omega), e3, e5, h1, h2, not_true, not_false_iff, if_true, Int.add_zero]
        exact ih1
    · have hu : ¬ unB (mph M f) k = true := by unfold unB; simp only [h1, Bool.false_and]; decide
      rw [cnB, if_neg hu] at ih1
      simp only [Int.natCast_add, Int.natCast_one, Nat.add_zero] at ih1
      simp (disch := omega) only [e234_0, e234_1, e234_2, e234_5, e234_8, e234_9, e234_10, e234_11, e234_12, e234_13, e234_15, e234_16, e234_17, e234_20, e234_23, e234_24, e234_25, e234_26, e234_27, e234_30, e234_33, e234_34, e234_35, e234_36, e234_37, e234_40, e234_43, e234_44, e234_47, e234_48, e234_49, e234_50, e234_53, e234_56, e234_57, ↓reduceIte, Bool.false_eq_true, not_false_eq_true, not_true_eq_false, Nat.reduceLeDiff, Nat.reduceAdd, Nat.reduceEqDiff, Int.reduceToNat, Int.toNat_natCast, iB0, iB1, ru_klI, ru_klR, ru_klF, ru_klJ, ru_kl0, ru_cs0, ru_csI, ru_csR, ru_csF, ru_csJ, wI_add, wI_sub, wI_mul, wI_lt, wI_le, wI_inj, ru_fdE, ru_fdN, ru_iaN, ru_baN, ru_laN, ru_qaN, ru_pfN, ru_isN, ru_bsN, ru_jsN, ru_qsN, ru_set2, Nat.add_right_cancel_iff, if_true, if_false, ite_self, md_e, md_f0, md_s0, md_f1, md_s1, md_f2, md_f3, md_f4, md_s4, md_f5, md_f6, md_f7, md_s7, md_f8, md_s8, md_f9, md_s9, md_f10, md_s10, md_f11, md_s11, md_f12, md_s12, md_f13, md_s13, md_f14, md_f15, md_s15, md_f16, md_s16, md_f17, md_s17, md_f18, md_s18, md_f19, md_f20, md_s20, md_f21, md_f22, md_s22, md_f23, md_f24, md_s24, md_f25, md_s25, md_f26, md_f27, md_f28, md_s28, md_f29, md_s29, md_f30, md_f31, md_f32, md_f33, md_f34, md_s34, md_f35, md_s35, md_f36, md_f37, md_f38, md_s38, md_a0, md_w0, md_a1, md_w1, md_a2, md_w2, md_a3, md_w3, md_a4, md_w4, md_a5, md_w5, md_a6, md_w6, md_a7, md_w7, md_a8, md_w8, md_a9, md_w9, md_a10, md_w10, md_a11, md_w11, md_a12, md_w12, md_a13, md_w13, md_a14, md_w14, md_a15, md_w15, up1_e, up1_n, mdT_1, mdT_n, mdT_2, mdT_T, p122, c, e4, h1, not_true, not_false_iff, if_false, Int.add_zero]
      exact ih1
theorem p234 (hR : mdR M) {f : Int} (g : -2147483648 ≤ f ∧ f < 2147483648) : ru_ev z 234 [.ref 1315, .int (wI f)] (mdPut h M) = some (.inl (some (.int (wI (if rfP M f = 0 then (cnB (unB (mph M f.toNat)) ((mph M f.toNat).1 7).toNat : Nat) else 0)))), mdPut h (mdT M (rfP M f))) := by
  have e1 := p117 (z := z) (h := h) hR g
  by_cases e : rfP M f = 0
  · obtain ⟨m, hm, rfl, hq⟩ := mph_at hR e
    have s := phR_s hq
    have key := p234l (z := z) (h := h) (M := mdT M 0) hm hq (n := ((mph M m).1 7).toNat) (by rw [mph_T]; omega) ((mph M m).1 7).toNat 0 (by omega)
    simp only [e, if_true] at e1 ⊢
    simp (disch := omega) only [en234, md_e, e234_0, e234_1, e234_2, e234_5, e234_10, e234_11, e234_12, e234_13, ↓reduceIte, Bool.false_eq_true, not_false_eq_true, not_true_eq_false, Nat.reduceLeDiff, Nat.reduceAdd, Nat.reduceEqDiff, Int.reduceToNat, Int.toNat_natCast, iB0, iB1, ru_klI, ru_klR, ru_klF, ru_klJ, ru_kl0, ru_cs0, ru_csI, ru_csR, ru_csF, ru_csJ, wI_add, wI_sub, wI_mul, wI_lt, wI_le, wI_inj, ru_fdE, ru_fdN, ru_iaN, ru_baN, ru_laN, ru_qaN, ru_pfN, ru_isN, ru_bsN, ru_jsN, ru_qsN, ru_set2, Nat.add_right_cancel_iff, if_true, if_false, ite_self, e1]
    exact key
  · simp only [e, if_false] at e1 ⊢
    simp (disch := omega) only [en234, e234_0, e234_1, e234_2, e234_5, e234_8, e234_9, e234_10, e234_11, e234_12, e234_13, e234_14, e234_15, e234_16, e234_17, e234_20, e234_23, e234_24, e234_25, e234_26, e234_27, e234_30, e234_33, e234_34, e234_35, e234_36, e234_37, e234_40, e234_43, e234_44, e234_47, e234_48, e234_49, e234_50, e234_53, e234_56, e234_57, ↓reduceIte, Bool.false_eq_true, not_false_eq_true, not_true_eq_false, Nat.reduceLeDiff, Nat.reduceAdd, Nat.reduceEqDiff, Int.reduceToNat, Int.toNat_natCast, iB0, iB1, ru_klI, ru_klR, ru_klF, ru_klJ, ru_kl0, ru_cs0, ru_csI, ru_csR, ru_csF, ru_csJ, wI_add, wI_sub, wI_mul, wI_lt, wI_le, wI_inj, ru_fdE, ru_fdN, ru_iaN, ru_baN, ru_laN, ru_qaN, ru_pfN, ru_isN, ru_bsN, ru_jsN, ru_qsN, ru_set2, Nat.add_right_cancel_iff, if_true, if_false, ite_self, md_e, md_f0, md_s0, md_f1, md_s1, md_f2, md_f3, md_f4, md_s4, md_f5, md_f6, md_f7, md_s7, md_f8, md_s8, md_f9, md_s9, md_f10, md_s10, md_f11, md_s11, md_f12, md_s12, md_f13, md_s13, md_f14, md_f15, md_s15, md_f16, md_s16, md_f17, md_s17, md_f18, md_s18, md_f19, md_f20, md_s20, md_f21, md_f22, md_s22, md_f23, md_f24, md_s24, md_f25, md_s25, md_f26, md_f27, md_f28, md_s28, md_f29, md_s29, md_f30, md_f31, md_f32, md_f33, md_f34, md_s34, md_f35, md_s35, md_f36, md_f37, md_f38, md_s38, md_a0, md_w0, md_a1, md_w1, md_a2, md_w2, md_a3, md_w3, md_a4, md_w4, md_a5, md_w5, md_a6, md_w6, md_a7, md_w7, md_a8, md_w8, md_a9, md_w9, md_a10, md_w10, md_a11, md_w11, md_a12, md_w12, md_a13, md_w13, md_a14, md_w14, md_a15, md_w15, up1_e, up1_n, mdT_1, mdT_n, mdT_2, mdT_T, e1, Int.reduceEq]
end UN
theorem st25 {C : tCl} {M : tMd} (hR : clR C) (hM : mdR M) (h : relA C M) (hn : relN M) {f : Int} (e : rcP C f = 0) : ((pcN (bsN (shw (cph C (cAp C f.toNat))) ((cph C (cAp C f.toNat)).1 7).toNat) 20 : Nat) : Int) - (pcN (nmN (cph C (cAp C f.toNat)) ((cph C (cAp C f.toNat)).1 7).toNat) 20 : Nat) = if rfP M f = 0 then ((cnB (unB (mph M f.toNat)) ((mph M f.toNat).1 7).toNat : Nat) : Int) else 0 := by
  have e2 : rfP M f = 0 := by rw [← rel_rcP hM h f, e]; rfl
  obtain ⟨c1, c2, c3⟩ := rfP_0 e2
  have r := hM.2.2.2.2.1
  have hr := hM.2.2.2.2.2.2 f.toNat (by omega)
  have s := phR_s hr
  have hc := (dph (h := (fun _ => none, 0, 0)) hR e).2
  have hp := rel_ph h e
  rw [if_pos e2, pheq_set hp (hc.1 7).1, pheq_nm hp (hc.1 7).1, pcN_bs _ 20 _ (by omega), pcN_nm hr (hn f.toNat (by omega)) _ (by omega), cn_un]
  omega
