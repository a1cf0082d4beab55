/-! ===== in which photos a name is ===== -/
def pwB (C : tCl) (nm k : Nat) : Bool := (nmN (cph C (cAp C k)) ((cph C (cAp C k)).1 7).toNat).testBit nm
def pwM (M : tMd) (nm k : Nat) : Bool := nmB (mph M k) nm
section PW
variable {z : Bool} {h : am_H} {C : tCl} {M : tMd}
theorem c227l (hR : clR C) {nm : Nat} (hnm : nm < 20) {n : Nat} (hn : cPm C = n) : ∀ d k, k + d = n →
    ru_n z 227 9 [some (.ref 1000), some (.int (wI nm)), some (.int (wI (bsN (pwB C nm) k : Nat))), some (.int (wI k))] [] (clPut h C) = some (.inl (some (.int (wI (bsN (pwB C nm) n : Nat)))), clPut h C) := by
  have r := hR.2.1
  obtain ⟨s1, s2, s3, s4⟩ := isSt_k (clA_k hR.1).2.2.2.2.1
  intro d
  induction d with
  | zero =>
    intro k hk
    obtain rfl : k = n := by omega
    have c : (cPm C ≤ (k : Int)) = True := eq_true (by omega)
    simp (disch := omega) only [e227_0, e227_1, e227_2, e227_5, e227_6, e227_7, e227_8, e227_9, e227_10, e227_11, e227_14, e227_17, e227_20, e227_23, e227_24, e227_27, e227_30, e227_33, e227_34, e227_35, e227_38, e227_39, e227_40, e227_41, e227_42, e227_43, e227_46, e227_47, e227_48, e227_49, e227_50, e227_51, e227_52, e227_55, e227_58, e227_59, ↓reduceIte, Bool.false_eq_true, not_false_eq_true, not_true_eq_false, Nat.reduceLeDiff, Nat.reduceAdd, Nat.reduceEqDiff, Int.reduceToNat, Int.toNat_natCast, iB0, iB1, ru_klI, ru_klR, ru_klF, ru_klJ, ru_kl0, ru_cs0, ru_csI, ru_csR, ru_csF, ru_csJ, wI_add, wI_sub, wI_mul, wI_lt, wI_le, wI_inj, ru_fdE, ru_fdN, ru_iaN, ru_baN, ru_laN, ru_qaN, ru_pfN, ru_isN, ru_bsN, ru_jsN, ru_qsN, ru_set2, Nat.add_right_cancel_iff, if_true, if_false, ite_self, cl_e0, clF hR.1, c]
  | succ d ih =>
    intro k hk
    have ih1 := ih (k + 1) (by omega)
    have b := bsN_b (P := pwB C nm) (k := k) (by omega)
    simp only [Int.natCast_add, Int.natCast_one] at ih1
    have c : (cPm C ≤ (k : Int)) = False := eq_false (by omega)
    have q5 := cl_q5 (h := h) (C := C) (i := (k : Int)) s2 (by omega) (by omega) (by omega)
    rw [show alb C + 4 + 1 + 1 + 5 * (k : Int).toNat = cAp C k by unfold cAp; omega] at q5
    have hp := cl_ph (h := h) (C := C) (cAp_ph hR.1 (i := k) (by omega))
    have hq := hR.2.2.2.2 k (by omega)
    have b2 := nmN_lt hq ((cph C (cAp C k)).1 7).toNat
    rw [e227_9]
    by_cases hP : pwB C nm k = true
    · rw [bsN_t hP] at ih1
      have hP2 : (nmN (cph C (cAp C k)) ((cph C (cAp C k)).1 7).toNat).testBit nm = true := hP
      simp (disch := omega) only [e227_0, e227_1, e227_2, e227_5, e227_6, e227_7, e227_8, e227_10, e227_11, e227_14, e227_17, e227_20, e227_23, e227_24, e227_27, e227_30, e227_33, e227_34, e227_35, e227_38, e227_39, e227_40, e227_41, e227_42, e227_43, e227_46, e227_47, e227_48, e227_49, e227_50, e227_51, e227_52, e227_55, e227_58, e227_59, ↓reduceIte, Bool.false_eq_true, not_false_eq_true, not_true_eq_false, Nat.reduceLeDiff, Nat.reduceAdd, Nat.reduceEqDiff, Int.reduceToNat, Int.toNat_natCast, iB0, iB1, ru_klI, ru_klR, ru_klF, ru_klJ, ru_kl0, ru_cs0, ru_csI, ru_csR, ru_csF, ru_csJ, wI_add, wI_sub, wI_mul, wI_lt, wI_le, wI_inj, ru_fdE, ru_fdN, ru_iaN, ru_baN, ru_laN, ru_qaN, ru_pfN, ru_isN, ru_bsN, ru_jsN, ru_qsN, ru_set2, Nat.add_right_cancel_iff, if_true, if_false, ite_self, cl_e0, clF hR.1, c, q5, m228 hp hq, wI_bit, Int.toNat_natCast, hP2, if_true, not_true, wI_shl1, wI_nat_or]
      exact ih1
    · rw [bsN_f hP] at ih1
      have hP2 : ¬ (nmN (cph C (cAp C k)) ((cph C (cAp C k)).1 7).toNat).testBit nm = true := hP
      simp (disch := omega) only [e227_0, e227_1, e227_2, e227_5, e227_6, e227_7, e227_8, e227_10, e227_11, e227_14, e227_17, e227_20, e227_23, e227_24, e227_27, e227_30, e227_33, e227_34, e227_35, e227_38, e227_39, e227_40, e227_41, e227_42, e227_43, e227_46, e227_47, e227_48, e227_49, e227_50, e227_51, e227_52, e227_55, e227_58, e227_59, ↓reduceIte, Bool.false_eq_true, not_false_eq_true, not_true_eq_false, Nat.reduceLeDiff, Nat.reduceAdd, Nat.reduceEqDiff, Int.reduceToNat, Int.toNat_natCast, iB0, iB1, ru_klI, ru_klR, ru_klF, ru_klJ, ru_kl0, ru_cs0, ru_csI, ru_csR, ru_csF, ru_csJ, wI_add, wI_sub, wI_mul, wI_lt, wI_le, wI_inj, ru_fdE, ru_fdN, ru_iaN, ru_baN, ru_laN, ru_qaN, ru_pfN, ru_isN, ru_bsN, ru_jsN, ru_qsN, ru_set2, Nat.add_right_cancel_iff, if_true, if_false, ite_self, cl_e0, clF hR.1, c, q5, m228 hp hq, wI_bit, Int.toNat_natCast, hP2, if_false, not_true, not_false_iff, Int.reduceEq]
      exact ih1
theorem c227 (hR : clR C) {n : Int} (g : -2147483648 ≤ n ∧ n < 2147483648) : ru_ev z 227 [.ref 1000, .int (wI n)] (clPut h C) = oR (rcN C n) (some (.int (wI (bsN (pwB C n.toNat) (cPm C).toNat : Nat)))) (clPut h C) (clPut (thr h) C) := by
  have e1 := c214 (z := z) (h := h) hR g
  have r := hR.2.1
  have r2 := hR.2.2.1
  by_cases e : rcN C n = 0
  · rw [oR_0 e] at e1 ⊢
    have hc : 0 ≤ n ∧ n < cNm C := by
      unfold rcN at e
      split at e
      · omega
      · split at e
        · assumption
        · omega
    obtain ⟨m, rfl⟩ := Int.eq_ofNat_of_zero_le hc.1
    have key := c227l (z := z) (h := h) hR (nm := m) (by omega) (n := (cPm C).toNat) (by omega) (cPm C).toNat 0 (by omega)
    simp (disch := omega) only [en227, cl_e0, e227_0, e227_1, e227_2, e227_5, e227_6, e227_7, e227_8, ↓reduceIte, Bool.false_eq_true, not_false_eq_true, not_true_eq_false, Nat.reduceLeDiff, Nat.reduceAdd, Nat.reduceEqDiff, Int.reduceToNat, Int.toNat_natCast, iB0, iB1, ru_klI, ru_klR, ru_klF, ru_klJ, ru_kl0, ru_cs0, ru_csI, ru_csR, ru_csF, ru_csJ, wI_add, wI_sub, wI_mul, wI_lt, wI_le, wI_inj, ru_fdE, ru_fdN, ru_iaN, ru_baN, ru_laN, ru_qaN, ru_pfN, ru_isN, ru_bsN, ru_jsN, ru_qsN, ru_set2, Nat.add_right_cancel_iff, if_true, if_false, ite_self, e1]
    exact key
  · rw [oR_n e] at e1 ⊢
    simp (disch := omega) only [en227, cl_e0, e227_0, e227_1, e227_2, ↓reduceIte, Bool.false_eq_true, not_false_eq_true, not_true_eq_false, Nat.reduceLeDiff, Nat.reduceAdd, Nat.reduceEqDiff, Int.reduceToNat, Int.toNat_natCast, iB0, iB1, ru_klI, ru_klR, ru_klF, ru_klJ, ru_kl0, ru_cs0, ru_csI, ru_csR, ru_csF, ru_csJ, wI_add, wI_sub, wI_mul, wI_lt, wI_le, wI_inj, ru_fdE, ru_fdN, ru_iaN, ru_baN, ru_laN, ru_qaN, ru_pfN, ru_isN, ru_bsN, ru_jsN, ru_qsN, ru_set2, Nat.add_right_cancel_iff, if_true, if_false, ite_self, e1]
theorem p230l (hR : mdR M) {nm : Nat} (hnm : nm < 20) {n : Nat} (hn : M.1 25 = n) : ∀ d k, k + d = n →
    ru_n z 230 4 [some (.ref 1315), some (.int (wI nm)), some (.int (wI (bsN (pwM M nm) k : Nat))), some (.int (wI k))] [] (mdPut h M) = some (.inl (some (.int (wI (bsN (pwM M nm) n : Nat)))), mdPut h M) := by
  have r2 := hR.2.2.2.2.1
  intro d
  induction d with
  | zero =>
    intro k hk
    obtain rfl : k = n := by omega
    have c : (M.1 25 ≤ (k : Int)) = True := eq_true (by omega)
    simp (disch := omega) only [e230_0, e230_1, e230_2, e230_3, e230_4, e230_5, e230_6, e230_9, e230_12, e230_13, e230_14, e230_15, e230_16, e230_19, e230_20, e230_23, e230_24, e230_25, e230_26, e230_29, e230_30, e230_31, e230_32, e230_35, e230_38, e230_39, ↓reduceIte, Bool.false_eq_true, not_false_eq_true, not_true_eq_false, Nat.reduceLeDiff, Nat.reduceAdd, Nat.reduceEqDiff, Int.reduceToNat, Int.toNat_natCast, iB0, iB1, ru_klI, ru_klR, ru_klF, ru_klJ, ru_kl0, ru_cs0, ru_csI, ru_csR, ru_csF, ru_csJ, wI_add, wI_sub, wI_mul, wI_lt, wI_le, wI_inj, ru_fdE, ru_fdN, ru_iaN, ru_baN, ru_laN, ru_qaN, ru_pfN, ru_isN, ru_bsN, ru_jsN, ru_qsN, ru_set2, Nat.add_right_cancel_iff, if_true, if_false, ite_self, md_e, md_f0, md_s0, md_f1, md_s1, md_f2, md_f3, md_f4, md_s4, md_f5, md_f6, md_f7, md_s7, md_f8, md_s8, md_f9, md_s9, md_f10, md_s10, md_f11, md_s11, md_f12, md_s12, md_f13, md_s13, md_f14, md_f15, md_s15, md_f16, md_s16, md_f17, md_s17, md_f18, md_s18, md_f19, md_f20, md_s20, md_f21, md_f22, md_s22, md_f23, md_f24, md_s24, md_f25, md_s25, md_f26, md_f27, md_f28, md_s28, md_f29, md_s29, md_f30, md_f31, md_f32, md_f33, md_f34, md_s34, md_f35, md_s35, md_f36, md_f37, md_f38, md_s38, md_a0, md_w0, md_a1, md_w1, md_a2, md_w2, md_a3, md_w3, md_a4, md_w4, md_a5, md_w5, md_a6, md_w6, md_a7, md_w7, md_a8, md_w8, md_a9, md_w9, md_a10, md_w10, md_a11, md_w11, md_a12, md_w12, md_a13, md_w13, md_a14, md_w14, md_a15, md_w15, up1_e, up1_n, mdT_1, mdT_n, mdT_2, mdT_T, c]
  | succ d ih =>
    intro k hk
    have ih1 := ih (k + 1) (by omega)
    have b := bsN_b (P := pwM M nm) (k := k) (by omega)
    have hr := hR.2.2.2.2.2.2 k (by omega)
    have b3 := shH_rng hr nm
    simp only [Int.natCast_add, Int.natCast_one] at ih1
    have c : (M.1 25 ≤ (k : Int)) = False := eq_false (by omega)
    have e1 := p149 (z := z) (h := h) (f := k) (by omega) hr (nm := nm) (by omega)
    rw [e230_4]
    simp (disch := omega) only [e230_0, e230_1, e230_2, e230_3, e230_5, e230_6, e230_9, e230_12, e230_13, e230_14, e230_15, e230_16, e230_19, e230_20, e230_23, e230_24, e230_25, e230_26, e230_29, e230_30, e230_31, e230_32, e230_35, e230_38, e230_39, ↓reduceIte, Bool.false_eq_true, not_false_eq_true, not_true_eq_false, Nat.reduceLeDiff, Nat.reduceAdd, Nat.reduceEqDiff, Int.reduceToNat, Int.toNat_natCast, iB0, iB1, ru_klI, ru_klR, ru_klF, ru_klJ, ru_kl0, ru_cs0, ru_csI, ru_csR, ru_csF, ru_csJ, wI_add, wI_sub, wI_mul, wI_lt, wI_le, wI_inj, ru_fdE, ru_fdN, ru_iaN, ru_baN, ru_laN, ru_qaN, ru_pfN, ru_isN, ru_bsN, ru_jsN, ru_qsN, ru_set2, Nat.add_right_cancel_iff, if_true, if_false, ite_self, md_e, md_f0, md_s0, md_f1, md_s1, md_f2, md_f3, md_f4, md_s4, md_f5, md_f6, md_f7, md_s7, md_f8, md_s8, md_f9, md_s9, md_f10, md_s10, md_f11, md_s11, md_f12, md_s12, md_f13, md_s13, md_f14, md_f15, md_s15, md_f16, md_s16, md_f17, md_s17, md_f18, md_s18, md_f19, md_f20, md_s20, md_f21, md_f22, md_s22, md_f23, md_f24, md_s24, md_f25, md_s25, md_f26, md_f27, md_f28, md_s28, md_f29, md_s29, md_f30, md_f31, md_f32, md_f33, md_f34, md_s34, md_f35, md_s35, md_f36, md_f37, md_f38, md_s38, md_a0, md_w0, md_a1, md_w1, md_a2, md_w2, md_a3, md_w3, md_a4, md_w4, md_a5, md_w5, md_a6, md_w6, md_a7, md_w7, md_a8, md_w8, md_a9, md_w9, md_a10, md_w10, md_a11, md_w11, md_a12, md_w12, md_a13, md_w13, md_a14, md_w14, md_a15, md_w15, up1_e, up1_n, mdT_1, mdT_n, mdT_2, mdT_T, c, e1]
    by_cases hP : shH (mph M k) nm = -1
    · have hb : ¬ pwM M nm k = true := by simp [pwM, nmB, hP]
      rw [bsN_f hb] at ih1
      rw [hP]
      simp (disch := omega) only [e230_0, e230_1, e230_2, e230_3, e230_5, e230_6, e230_9, e230_12, e230_13, e230_14, e230_15, e230_16, e230_19, e230_20, e230_23, e230_24, e230_25, e230_26, e230_29, e230_30, e230_31, e230_32, e230_35, e230_38, e230_39, ↓reduceIte, Bool.false_eq_true, not_false_eq_true, not_true_eq_false, Nat.reduceLeDiff, Nat.reduceAdd, Nat.reduceEqDiff, Int.reduceToNat, Int.toNat_natCast, iB0, iB1, ru_klI, ru_klR, ru_klF, ru_klJ, ru_kl0, ru_cs0, ru_csI, ru_csR, ru_csF, ru_csJ, wI_add, wI_sub, wI_mul, wI_lt, wI_le, wI_inj, ru_fdE, ru_fdN, ru_iaN, ru_baN, ru_laN, ru_qaN, ru_pfN, ru_isN, ru_bsN, ru_jsN, ru_qsN, ru_set2, Nat.add_right_cancel_iff, if_true, if_false, ite_self, md_e, md_f0, md_s0, md_f1, md_s1, md_f2, md_f3, md_f4, md_s4, md_f5, md_f6, md_f7, md_s7, md_f8, md_s8, md_f9, md_s9, md_f10, md_s10, md_f11, md_s11, md_f12, md_s12, md_f13, md_s13, md_f14, md_f15, md_s15, md_f16, md_s16, md_f17, md_s17, md_f18, md_s18, md_f19, md_f20, md_s20, md_f21, md_f22, md_s22, md_f23, md_f24, md_s24, md_f25, md_s25, md_f26, md_f27, md_f28, md_s28, md_f29, md_s29, md_f30, md_f31, md_f32, md_f33, md_f34, md_s34, md_f35, md_s35, md_f36, md_f37, md_f38, md_s38, md_a0, md_w0, md_a1, md_w1, md_a2, md_w2, md_a3, md_w3, md_a4, md_w4, md_a5, md_w5, md_a6, md_w6, md_a7, md_w7, md_a8, md_w8, md_a9, md_w9, md_a10, md_w10, md_a11, md_w11, md_a12, md_w12, md_a13, md_w13, md_a14, md_w14, md_a15, md_w15, up1_e, up1_n, mdT_1, mdT_n, mdT_2, mdT_T, wI_or0]
      exact ih1
    · have hb : pwM M nm k = true := by simp [pwM, nmB, hP]
      rw [bsN_t hb] at ih1
      rw [if_neg hP]
      simp (disch := omega) only [e230_0, e230_1, e230_2, e230_3, e230_5, e230_6, e230_9, e230_12, e230_13, e230_14, e230_15, e230_16, e230_19, e230_20, e230_23, e230_24, e230_25, e230_26, e230_29, e230_30, e230_31, e230_32, e230_35, e230_38, e230_39, ↓reduceIte, Bool.false_eq_true, not_false_eq_true, not_true_eq_false, Nat.reduceLeDiff, Nat.reduceAdd, Nat.reduceEqDiff, Int.reduceToNat, Int.toNat_natCast, iB0, iB1, ru_klI, ru_klR, ru_klF, ru_klJ, ru_kl0, ru_cs0, ru_csI, ru_csR, ru_csF, ru_csJ, wI_add, wI_sub, wI_mul, wI_lt, wI_le, wI_inj, ru_fdE, ru_fdN, ru_iaN, ru_baN, ru_laN, ru_qaN, ru_pfN, ru_isN, ru_bsN, ru_jsN, ru_qsN, ru_set2, Nat.add_right_cancel_iff, if_true, if_false, ite_self, md_e, md_f0, md_s0, md_f1, md_s1, md_f2, md_f3, md_f4, md_s4, md_f5, md_f6, md_f7, md_s7, md_f8, md_s8, md_f9, md_s9, md_f10, md_s10, md_f11, md_s11, md_f12, md_s12, md_f13, md_s13, md_f14, md_f15, md_s15, md_f16, md_s16, md_f17, md_s17, md_f18, md_s18, md_f19, md_f20, md_s20, md_f21, md_f22, md_s22, md_f23, md_f24, md_s24, md_f25, md_s25, md_f26, md_f27, md_f28, md_s28, md_f29, md_s29, md_f30, md_f31, md_f32, md_f33, md_f34, md_s34, md_f35, md_s35, md_f36, md_f37, md_f38, md_s38, md_a0, md_w0, md_a1, md_w1, md_a2, md_w2, md_a3, md_w3, md_a4, md_w4, md_a5, md_w5, md_a6, md_w6, md_a7, md_w7, md_a8, md_w8, md_a9, md_w9, md_a10, md_w10, md_a11, md_w11, md_a12, md_w12, md_a13, md_w13, md_a14, md_w14, md_a15, md_w15, up1_e, up1_n, mdT_1, mdT_n, mdT_2, mdT_T, wI_shl1, wI_nat_or]
      exact ih1
theorem p230 (hR : mdR M) {nm : Nat} (hnm : nm < 20) : ru_ev z 230 [.ref 1315, .int (wI nm)] (mdPut h M) = some (.inl (some (.int (wI (bsN (pwM M nm) (M.1 25).toNat : Nat)))), mdPut h M) := by
  have r2 := hR.2.2.2.2.1
  have key := p230l (z := z) (h := h) hR hnm (n := (M.1 25).toNat) (by omega) (M.1 25).toNat 0 (by omega)
  simp (disch := omega) only [en230, md_e, e230_0, e230_1, e230_2, e230_3, ↓reduceIte, Bool.false_eq_true, not_false_eq_true, not_true_eq_false, Nat.reduceLeDiff, Nat.reduceAdd, Nat.reduceEqDiff, Int.reduceToNat, Int.toNat_natCast, iB0, iB1, ru_klI, ru_klR, ru_klF, ru_klJ, ru_kl0, ru_cs0, ru_csI, ru_csR, ru_csF, ru_csJ, wI_add, wI_sub, wI_mul, wI_lt, wI_le, wI_inj, ru_fdE, ru_fdN, ru_iaN, ru_baN, ru_laN, ru_qaN, ru_pfN, ru_isN, ru_bsN, ru_jsN, ru_qsN, ru_set2, Nat.add_right_cancel_iff, if_true, if_false, ite_self]
  exact key
/-- what a name's number is refused for -/
def rfN1 (M : tMd) (n : Int) : Int := if M.1 1 = 0 then 1 else if 0 ≤ n ∧ n ≤ M.1 20 - 1 then 0 else 2
theorem p229 (hR : mdR M) {n : Int} (g : -2147483648 ≤ n ∧ n < 2147483648) : ru_ev z 229 [.ref 1315, .int (wI n)] (mdPut h M) = some (.inl (some (.int (wI (if rfN1 M n = 0 then (bsN (pwM M n.toNat) (M.1 25).toNat : Nat) else 0)))), mdPut h (mdT M (rfN1 M n))) := by
  have r2 := hR.2.2.2.1
  have e1 := p118 (z := z) (h := h) hR
  have e2 := p218 (z := z) (h := h) hR g
  unfold rfN1
  by_cases e : M.1 1 = 0
  · simp only [e, if_true] at e1 ⊢
    simp (disch := omega) only [en229, e229_0, e229_1, e229_4, e229_7, e229_8, e229_9, e229_12, e229_15, e229_16, e229_19, e229_20, e229_21, e229_24, ↓reduceIte, Bool.false_eq_true, not_false_eq_true, not_true_eq_false, Nat.reduceLeDiff, Nat.reduceAdd, Nat.reduceEqDiff, Int.reduceToNat, Int.toNat_natCast, iB0, iB1, ru_klI, ru_klR, ru_klF, ru_klJ, ru_kl0, ru_cs0, ru_csI, ru_csR, ru_csF, ru_csJ, wI_add, wI_sub, wI_mul, wI_lt, wI_le, wI_inj, ru_fdE, ru_fdN, ru_iaN, ru_baN, ru_laN, ru_qaN, ru_pfN, ru_isN, ru_bsN, ru_jsN, ru_qsN, ru_set2, Nat.add_right_cancel_iff, if_true, if_false, ite_self, md_e, md_f0, md_s0, md_f1, md_s1, md_f2, md_f3, md_f4, md_s4, md_f5, md_f6, md_f7, md_s7, md_f8, md_s8, md_f9, md_s9, md_f10, md_s10, md_f11, md_s11, md_f12, md_s12, md_f13, md_s13, md_f14, md_f15, md_s15, md_f16, md_s16, md_f17, md_s17, md_f18, md_s18, md_f19, md_f20, md_s20, md_f21, md_f22, md_s22, md_f23, md_f24, md_s24, md_f25, md_s25, md_f26, md_f27, md_f28, md_s28, md_f29, md_s29, md_f30, md_f31, md_f32, md_f33, md_f34, md_s34, md_f35, md_s35, md_f36, md_f37, md_f38, md_s38, md_a0, md_w0, md_a1, md_w1, md_a2, md_w2, md_a3, md_w3, md_a4, md_w4, md_a5, md_w5, md_a6, md_w6, md_a7, md_w7, md_a8, md_w8, md_a9, md_w9, md_a10, md_w10, md_a11, md_w11, md_a12, md_w12, md_a13, md_w13, md_a14, md_w14, md_a15, md_w15, up1_e, up1_n, mdT_1, mdT_n, mdT_2, mdT_T, e1, Int.reduceEq]
  · simp only [e, if_false] at e1 ⊢
    by_cases e3 : 0 ≤ n ∧ n ≤ M.1 20 - 1
    · obtain ⟨m, rfl⟩ := Int.eq_ofNat_of_zero_le e3.1
      have e4 := p230 (z := z) (h := h) (M := mdT M 0) (mdR_T hR (by omega)) (nm := m) (by omega)
      simp only [e3, and_self, if_true, Int.toNat_natCast] at e2 ⊢
      simp (disch := omega) only [en229, e229_0, e229_1, e229_4, e229_7, e229_8, e229_9, e229_12, e229_15, e229_16, e229_19, e229_20, e229_21, e229_24, ↓reduceIte, Bool.false_eq_true, not_false_eq_true, not_true_eq_false, Nat.reduceLeDiff, Nat.reduceAdd, Nat.reduceEqDiff, Int.reduceToNat, Int.toNat_natCast, iB0, iB1, ru_klI, ru_klR, ru_klF, ru_klJ, ru_kl0, ru_cs0, ru_csI, ru_csR, ru_csF, ru_csJ, wI_add, wI_sub, wI_mul, wI_lt, wI_le, wI_inj, ru_fdE, ru_fdN, ru_iaN, ru_baN, ru_laN, ru_qaN, ru_pfN, ru_isN, ru_bsN, ru_jsN, ru_qsN, ru_set2, Nat.add_right_cancel_iff, if_true, if_false, ite_self, md_e, md_f0, md_s0, md_f1, md_s1, md_f2, md_f3, md_f4, md_s4, md_f5, md_f6, md_f7, md_s7, md_f8, md_s8, md_f9, md_s9, md_f10, md_s10, md_f11, md_s11, md_f12, md_s12, md_f13, md_s13, md_f14, md_f15, md_s15, md_f16, md_s16, md_f17, md_s17, md_f18, md_s18, md_f19, md_f20, md_s20, md_f21, md_f22, md_s22, md_f23, md_f24, md_s24, md_f25, md_s25, md_f26, md_f27, md_f28, md_s28, md_f29, md_s29, md_f30, md_f31, md_f32, md_f33, md_f34, md_s34, md_f35, md_s35, md_f36, md_f37, md_f38, md_s38, md_a0, md_w0, md_a1, md_w1, md_a2, md_w2, md_a3, md_w3, md_a4, md_w4, md_a5, md_w5, md_a6, md_w6, md_a7, md_w7, md_a8, md_w8, md_a9, md_w9, md_a10, md_w10, md_a11, md_w11, md_a12, md_w12, md_a13, md_w13, md_a14, md_w14, md_a15, md_w15, up1_e, up1_n, mdT_1, mdT_n, mdT_2, mdT_T, e1, e2, e4, Int.reduceEq]
      rfl
    · simp only [e3, if_false] at e2 ⊢
      simp (disch := omega) only [en229, e229_0, e229_1, e229_4, e229_7, e229_8, e229_9, e229_12, e229_15, e229_16, e229_19, e229_20, e229_21, e229_24, ↓reduceIte, Bool.false_eq_true, not_false_eq_true, not_true_eq_false, Nat.reduceLeDiff, Nat.reduceAdd, Nat.reduceEqDiff, Int.reduceToNat, Int.toNat_natCast, iB0, iB1, ru_klI, ru_klR, ru_klF, ru_klJ, ru_kl0, ru_cs0, ru_csI, ru_csR, ru_csF, ru_csJ, wI_add, wI_sub, wI_mul, wI_lt, wI_le, wI_inj, ru_fdE, ru_fdN, ru_iaN, ru_baN, ru_laN, ru_qaN, ru_pfN, ru_isN, ru_bsN, ru_jsN, ru_qsN, ru_set2, Nat.add_right_cancel_iff, if_true, if_false, ite_self, md_e, md_f0, md_s0, md_f1, md_s1, md_f2, md_f3, md_f4, md_s4, md_f5, md_f6, md_f7, md_s7, md_f8, md_s8, md_f9, md_s9, md_f10, md_s10, md_f11, md_s11, md_f12, md_s12, md_f13, md_s13, md_f14, md_f15, md_s15, md_f16, md_s16, md_f17, md_s17, md_f18, md_s18, md_f19, md_f20, md_s20, md_f21, md_f22, md_s22, md_f23, md_f24, md_s24, md_f25, md_s25, md_f26, md_f27, md_f28, md_s28, md_f29, md_s29, md_f30, md_f31, md_f32, md_f33, md_f34, md_s34, md_f35, md_s35, md_f36, md_f37, md_f38, md_s38, md_a0, md_w0, md_a1, md_w1, md_a2, md_w2, md_a3, md_w3, md_a4, md_w4, md_a5, md_w5, md_a6, md_w6, md_a7, md_w7, md_a8, md_w8, md_a9, md_w9, md_a10, md_w10, md_a11, md_w11, md_a12, md_w12, md_a13, md_w13, md_a14, md_w14, md_a15, md_w15, up1_e, up1_n, mdT_1, mdT_n, mdT_2, mdT_T, e1, e2, Int.reduceEq]
end PW
theorem rel_rcN1 {C : tCl} {M : tMd} (hM : mdR M) (h : relA C M) (n : Int) : ((rcN C n : Nat) : Int) = rfN1 M n := by
  obtain ⟨h1, h2, h3, -⟩ := h
  have r := hM.2.1
  unfold rcN rfN1
  rw [h1, h2]
  by_cases e : M.1 1 = 0
  · simp only [e, if_true]; rfl
  · have := h3 (by omega)
    simp only [e, if_false]
    rw [if_neg (by omega)]
    by_cases e3 : 0 ≤ n ∧ n < M.1 20
    · rw [if_pos e3, if_pos (by omega)]; rfl
    · rw [if_neg e3, if_neg (by omega)]; rfl
theorem rel_pw {C : tCl} {M : tMd} (hR : clR C) (hM : mdR M) (h : relA C M) (hn : relN M) {nm : Nat} (hnm : (nm : Int) < M.1 20) {k : Nat} (hk : (k : Int) < cPm C) : pwB C nm k = pwM M nm k := by
  have e : rcP C (k : Int) = 0 := by
    unfold rcP
    rw [if_neg (by omega), if_pos (by omega)]
  have h1 := rel_nm hR hM h hn e
  simp only [Int.toNat_natCast] at h1
  unfold pwB pwM
  rw [h1, bsN_bit, decide_eq_true (by omega), Bool.true_and]
theorem st24 {C : tCl} {M : tMd} (hR : clR C) (hM : mdR M) (h : relA C M) (hn : relN M) {n : Int} (e : rcN C n = 0) : ((bsN (pwB C n.toNat) (cPm C).toNat : Nat) : Int) = if rfN1 M n = 0 then ((bsN (pwM M n.toNat) (M.1 25).toNat : Nat) : Int) else 0 := by
  have e1 : rfN1 M n = 0 := by rw [← rel_rcN1 hM h, e]; rfl
  rw [if_pos e1]
  unfold rfN1 at e1
  by_cases e2 : M.1 1 = 0
  · rw [if_pos e2] at e1; omega
  · rw [if_neg e2] at e1
    have e3 : 0 ≤ n ∧ n ≤ M.1 20 - 1 := by
      split at e1
      · assumption
      · omega
    have h1 := h.1
    rw [if_neg e2] at h1
    rw [← h1, bsN_congr fun i hi => rel_pw hR hM h hn (show ((n.toNat : Nat) : Int) < M.1 20 by omega) (show (i : Int) < cPm C by omega)]
