/-! ===== the reference's methods, 2: who is where ===== -/
theorem wI_or0 (a : Int) : wI a ||| wI 0 = wI a := by rw [← wI_0]; exact Int32.or_zero
/-- how many bits below k -/
def pcN (s : Nat) : Nat → Nat
  | 0 => 0
  | k + 1 => pcN s k + (if s.testBit k then 1 else 0)
theorem pcN_le (s : Nat) : ∀ k, pcN s k ≤ k
  | 0 => Nat.le_refl _
  | k + 1 => by
    have := pcN_le s k
    unfold pcN
    split <;> omega
section MDM2
variable {z : Bool} {h : am_H} {M : tMd} {f k : Nat}
theorem p129 (hf : f < 5) (hk : k < 12) (hr : phR (mph M f)) : ru_ev z 129 [.ref 1315, .int (wI f), .int (wI k)] (mdPut h M) = some (.inl (some (.int (wI (shX (mph M f) k)))), mdPut h M) := by
  have s := phR_s hr
  have s2 := phR_i hr k
  have e0 : M.2 0 (54 * f + 6 + 4 * k + 0) = (mph M f).2 0 k := (mph_x hk).1
  have f0 : M.2 0 (54 * f + 0) = (mph M f).1 2 := rfl
  have f2 : M.2 0 (54 * f + 2) = (mph M f).1 4 := rfl
  have f4 : M.2 0 (54 * f + 4) = (mph M f).1 6 := rfl
  simp (disch := omega) only [en129, e129_0, e129_1, e129_2, e129_3, e129_6, e129_7, e129_10, e129_11, e129_12, e129_13, e129_16, e129_17, e129_18, e129_19, e129_20, e129_23, e129_24, e129_27, e129_28, e129_29, e129_30, e129_31, e129_34, e129_35, e129_36, e129_37, e129_40, e129_41, ↓reduceIte, Bool.false_eq_true, not_false_eq_true, not_true_eq_false, Nat.reduceLeDiff, Nat.reduceAdd, Nat.reduceEqDiff, Int.reduceToNat, Int.toNat_natCast, iB0, iB1, ru_klI, ru_klR, ru_klF, ru_klJ, ru_kl0, ru_cs0, ru_csI, ru_csR, ru_csF, ru_csJ, wI_add, wI_sub, wI_mul, wI_lt, wI_le, wI_inj, ru_fdE, ru_fdN, ru_iaN, ru_baN, ru_laN, ru_qaN, ru_pfN, ru_isN, ru_bsN, ru_jsN, ru_qsN, ru_set2, Nat.add_right_cancel_iff, if_true, if_false, ite_self, md_e, md_f0, md_s0, md_f1, md_s1, md_f2, md_f3, md_f4, md_s4, md_f5, md_f6, md_f7, md_s7, md_f8, md_s8, md_f9, md_s9, md_f10, md_s10, md_f11, md_s11, md_f12, md_s12, md_f13, md_s13, md_f14, md_f15, md_s15, md_f16, md_s16, md_f17, md_s17, md_f18, md_s18, md_f19, md_f20, md_s20, md_f21, md_f22, md_s22, md_f23, md_f24, md_s24, md_f25, md_s25, md_f26, md_f27, md_f28, md_s28, md_f29, md_s29, md_f30, md_f31, md_f32, md_f33, md_f34, md_s34, md_f35, md_s35, md_f36, md_f37, md_f38, md_s38, md_a0, md_w0, md_a1, md_w1, md_a2, md_w2, md_a3, md_w3, md_a4, md_w4, md_a5, md_w5, md_a6, md_w6, md_a7, md_w7, md_a8, md_w8, md_a9, md_w9, md_a10, md_w10, md_a11, md_w11, md_a12, md_w12, md_a13, md_w13, md_a14, md_w14, md_a15, md_w15, up1_e, up1_n, mdT_1, mdT_n, mdT_2, mdT_T, p123, p125, e0, f0, f2, f4]
  unfold shX
  repeat' split
  all_goals first | rfl | (exfalso; omega)
theorem p127 (hf : f < 5) (hk : k < 12) : ru_ev z 127 [.ref 1315, .int (wI f), .int (wI k)] (mdPut h M) = some (.inl (some (.int (wI (shY (mph M f) k)))), mdPut h M) := by
  have e1 : M.2 0 (54 * f + 6 + 4 * k + 1) = (mph M f).2 1 k := (mph_x hk).2.1
  have f1 : M.2 0 (54 * f + 1) = (mph M f).1 3 := rfl
  simp (disch := omega) only [en127, e127_0, e127_1, e127_2, e127_3, e127_4, e127_7, e127_8, e127_9, e127_10, e127_13, e127_14, ↓reduceIte, Bool.false_eq_true, not_false_eq_true, not_true_eq_false, Nat.reduceLeDiff, Nat.reduceAdd, Nat.reduceEqDiff, Int.reduceToNat, Int.toNat_natCast, iB0, iB1, ru_klI, ru_klR, ru_klF, ru_klJ, ru_kl0, ru_cs0, ru_csI, ru_csR, ru_csF, ru_csJ, wI_add, wI_sub, wI_mul, wI_lt, wI_le, wI_inj, ru_fdE, ru_fdN, ru_iaN, ru_baN, ru_laN, ru_qaN, ru_pfN, ru_isN, ru_bsN, ru_jsN, ru_qsN, ru_set2, Nat.add_right_cancel_iff, if_true, if_false, ite_self, md_e, md_f0, md_s0, md_f1, md_s1, md_f2, md_f3, md_f4, md_s4, md_f5, md_f6, md_f7, md_s7, md_f8, md_s8, md_f9, md_s9, md_f10, md_s10, md_f11, md_s11, md_f12, md_s12, md_f13, md_s13, md_f14, md_f15, md_s15, md_f16, md_s16, md_f17, md_s17, md_f18, md_s18, md_f19, md_f20, md_s20, md_f21, md_f22, md_s22, md_f23, md_f24, md_s24, md_f25, md_s25, md_f26, md_f27, md_f28, md_s28, md_f29, md_s29, md_f30, md_f31, md_f32, md_f33, md_f34, md_s34, md_f35, md_s35, md_f36, md_f37, md_f38, md_s38, md_a0, md_w0, md_a1, md_w1, md_a2, md_w2, md_a3, md_w3, md_a4, md_w4, md_a5, md_w5, md_a6, md_w6, md_a7, md_w7, md_a8, md_w8, md_a9, md_w9, md_a10, md_w10, md_a11, md_w11, md_a12, md_w12, md_a13, md_w13, md_a14, md_w14, md_a15, md_w15, up1_e, up1_n, mdT_1, mdT_n, mdT_2, mdT_T, p123, p125, e1, f1]
  rfl
theorem p121l (hf : f < 5) (hr : phR (mph M f)) {n : Nat} (hn : (mph M f).1 7 = n) : ∀ d k, k + d = n →
    ru_n z 121 4 [some (.ref 1315), some (.int (wI f)), some (.int (wI (bsN (shw (mph M f)) k : Nat))), some (.int (wI k))] [] (mdPut h M) = some (.inl (some (.int (wI (bsN (shw (mph M f)) n : Nat)))), mdPut h M) := by
  have s := phR_s hr
  intro d
  induction d with
  | zero =>
    intro k hk
    obtain rfl : k = n := by omega
    have c : ((mph M f).1 7 ≤ (k : Int)) = True := eq_true (by omega)
    simp (disch := omega) only [e121_0, e121_1, e121_2, e121_3, e121_4, e121_5, e121_6, e121_7, e121_10, e121_13, e121_14, e121_15, e121_16, e121_17, e121_20, e121_23, e121_24, e121_25, e121_26, e121_29, e121_30, e121_31, e121_32, e121_35, e121_38, e121_39, ↓reduceIte, Bool.false_eq_true, not_false_eq_true, not_true_eq_false, Nat.reduceLeDiff, Nat.reduceAdd, Nat.reduceEqDiff, Int.reduceToNat, Int.toNat_natCast, iB0, iB1, ru_klI, ru_klR, ru_klF, ru_klJ, ru_kl0, ru_cs0, ru_csI, ru_csR, ru_csF, ru_csJ, wI_add, wI_sub, wI_mul, wI_lt, wI_le, wI_inj, ru_fdE, ru_fdN, ru_iaN, ru_baN, ru_laN, ru_qaN, ru_pfN, ru_isN, ru_bsN, ru_jsN, ru_qsN, ru_set2, Nat.add_right_cancel_iff, if_true, if_false, ite_self, md_e, md_f0, md_s0, md_f1, md_s1, md_f2, md_f3, md_f4, md_s4, md_f5, md_f6, md_f7, md_s7, md_f8, md_s8, md_f9, md_s9, md_f10, md_s10, md_f11, md_s11, md_f12, md_s12, md_f13, md_s13, md_f14, md_f15, md_s15, md_f16, md_s16, md_f17, md_s17, md_f18, md_s18, md_f19, md_f20, md_s20, md_f21, md_f22, md_s22, md_f23, md_f24, md_s24, md_f25, md_s25, md_f26, md_f27, md_f28, md_s28, md_f29, md_s29, md_f30, md_f31, md_f32, md_f33, md_f34, md_s34, md_f35, md_s35, md_f36, md_f37, md_f38, md_s38, md_a0, md_w0, md_a1, md_w1, md_a2, md_w2, md_a3, md_w3, md_a4, md_w4, md_a5, md_w5, md_a6, md_w6, md_a7, md_w7, md_a8, md_w8, md_a9, md_w9, md_a10, md_w10, md_a11, md_w11, md_a12, md_w12, md_a13, md_w13, md_a14, md_w14, md_a15, md_w15, up1_e, up1_n, mdT_1, mdT_n, mdT_2, mdT_T, p122, c]
  | succ d ih =>
    intro k hk
    have ih1 := ih (k + 1) (by omega)
    have b := bsN_b (P := shw (mph M f)) (k := k) (by omega)
    simp only [Int.natCast_add, Int.natCast_one] at ih1
    have c : ((mph M f).1 7 ≤ (k : Int)) = False := eq_false (by omega)
    rw [e121_4]
    by_cases hP : shw (mph M f) k = true
    · rw [bsN_t hP] at ih1
      simp (disch := omega) only [e121_0, e121_1, e121_2, e121_3, e121_5, e121_6, e121_7, e121_10, e121_13, e121_14, e121_15, e121_16, e121_17, e121_20, e121_23, e121_24, e121_25, e121_26, e121_29, e121_30, e121_31, e121_32, e121_35, e121_38, e121_39, ↓reduceIte, Bool.false_eq_true, not_false_eq_true, not_true_eq_false, Nat.reduceLeDiff, Nat.reduceAdd, Nat.reduceEqDiff, Int.reduceToNat, Int.toNat_natCast, iB0, iB1, ru_klI, ru_klR, ru_klF, ru_klJ, ru_kl0, ru_cs0, ru_csI, ru_csR, ru_csF, ru_csJ, wI_add, wI_sub, wI_mul, wI_lt, wI_le, wI_inj, ru_fdE, ru_fdN, ru_iaN, ru_baN, ru_laN, ru_qaN, ru_pfN, ru_isN, ru_bsN, ru_jsN, ru_qsN, ru_set2, Nat.add_right_cancel_iff, if_true, if_false, ite_self, md_e, md_f0, md_s0, md_f1, md_s1, md_f2, md_f3, md_f4, md_s4, md_f5, md_f6, md_f7, md_s7, md_f8, md_s8, md_f9, md_s9, md_f10, md_s10, md_f11, md_s11, md_f12, md_s12, md_f13, md_s13, md_f14, md_f15, md_s15, md_f16, md_s16, md_f17, md_s17, md_f18, md_s18, md_f19, md_f20, md_s20, md_f21, md_f22, md_s22, md_f23, md_f24, md_s24, md_f25, md_s25, md_f26, md_f27, md_f28, md_s28, md_f29, md_s29, md_f30, md_f31, md_f32, md_f33, md_f34, md_s34, md_f35, md_s35, md_f36, md_f37, md_f38, md_s38, md_a0, md_w0, md_a1, md_w1, md_a2, md_w2, md_a3, md_w3, md_a4, md_w4, md_a5, md_w5, md_a6, md_w6, md_a7, md_w7, md_a8, md_w8, md_a9, md_w9, md_a10, md_w10, md_a11, md_w11, md_a12, md_w12, md_a13, md_w13, md_a14, md_w14, md_a15, md_w15, up1_e, up1_n, mdT_1, mdT_n, mdT_2, mdT_T, p122, p124 (h := h) (z := z) hf (show k < 12 by omega) hr, c, wI_shl1, wI_nat_or, hP, not_true]
      exact ih1
    · rw [bsN_f hP] at ih1
      simp (disch := omega) only [e121_0, e121_1, e121_2, e121_3, e121_5, e121_6, e121_7, e121_10, e121_13, e121_14, e121_15, e121_16, e121_17, e121_20, e121_23, e121_24, e121_25, e121_26, e121_29, e121_30, e121_31, e121_32, e121_35, e121_38, e121_39, ↓reduceIte, Bool.false_eq_true, not_false_eq_true, not_true_eq_false, Nat.reduceLeDiff, Nat.reduceAdd, Nat.reduceEqDiff, Int.reduceToNat, Int.toNat_natCast, iB0, iB1, ru_klI, ru_klR, ru_klF, ru_klJ, ru_kl0, ru_cs0, ru_csI, ru_csR, ru_csF, ru_csJ, wI_add, wI_sub, wI_mul, wI_lt, wI_le, wI_inj, ru_fdE, ru_fdN, ru_iaN, ru_baN, ru_laN, ru_qaN, ru_pfN, ru_isN, ru_bsN, ru_jsN, ru_qsN, ru_set2, Nat.add_right_cancel_iff, if_true, if_false, ite_self, md_e, md_f0, md_s0, md_f1, md_s1, md_f2, md_f3, md_f4, md_s4, md_f5, md_f6, md_f7, md_s7, md_f8, md_s8, md_f9, md_s9, md_f10, md_s10, md_f11, md_s11, md_f12, md_s12, md_f13, md_s13, md_f14, md_f15, md_s15, md_f16, md_s16, md_f17, md_s17, md_f18, md_s18, md_f19, md_f20, md_s20, md_f21, md_f22, md_s22, md_f23, md_f24, md_s24, md_f25, md_s25, md_f26, md_f27, md_f28, md_s28, md_f29, md_s29, md_f30, md_f31, md_f32, md_f33, md_f34, md_s34, md_f35, md_s35, md_f36, md_f37, md_f38, md_s38, md_a0, md_w0, md_a1, md_w1, md_a2, md_w2, md_a3, md_w3, md_a4, md_w4, md_a5, md_w5, md_a6, md_w6, md_a7, md_w7, md_a8, md_w8, md_a9, md_w9, md_a10, md_w10, md_a11, md_w11, md_a12, md_w12, md_a13, md_w13, md_a14, md_w14, md_a15, md_w15, up1_e, up1_n, mdT_1, mdT_n, mdT_2, mdT_T, p122, p124 (h := h) (z := z) hf (show k < 12 by omega) hr, c, wI_or0, hP, not_false_iff]
      exact ih1
theorem p121 (hf : f < 5) (hr : phR (mph M f)) : ru_ev z 121 [.ref 1315, .int (wI f)] (mdPut h M) = some (.inl (some (.int (wI (bsN (shw (mph M f)) ((mph M f).1 7).toNat : Nat)))), mdPut h M) := by
  have s := phR_s hr
  have key := p121l (z := z) (h := h) hf hr (n := ((mph M f).1 7).toNat) (by omega) ((mph M f).1 7).toNat 0 (by omega)
  simp (disch := omega) only [en121, md_e, e121_0, e121_1, e121_2, e121_3, ↓reduceIte, Bool.false_eq_true, not_false_eq_true, not_true_eq_false, Nat.reduceLeDiff, Nat.reduceAdd, Nat.reduceEqDiff, Int.reduceToNat, Int.toNat_natCast, iB0, iB1, ru_klI, ru_klR, ru_klF, ru_klJ, ru_kl0, ru_cs0, ru_csI, ru_csR, ru_csF, ru_csJ, wI_add, wI_sub, wI_mul, wI_lt, wI_le, wI_inj, ru_fdE, ru_fdN, ru_iaN, ru_baN, ru_laN, ru_qaN, ru_pfN, ru_isN, ru_bsN, ru_jsN, ru_qsN, ru_set2, Nat.add_right_cancel_iff, if_true, if_false, ite_self]
  exact key
theorem p126l {s : Nat} (hs : s < 2147483648) : ∀ d k, k + d = 12 →
    ru_n z 126 4 [some (.int (wI s)), some (.int (wI (pcN s k : Nat))), some (.int (wI k))] [] h = some (.inl (some (.int (wI (pcN s 12 : Nat)))), h) := by
  intro d
  induction d with
  | zero =>
    intro k hk
    obtain rfl : k = 12 := by omega
    have c : ((12 : Int) ≤ ((12 : Nat) : Int)) = True := eq_true (by omega)
    simp (disch := omega) only [e126_0, e126_1, e126_2, e126_3, e126_4, e126_5, e126_7, e126_10, e126_11, e126_12, e126_13, e126_14, e126_15, e126_16, e126_17, e126_18, e126_21, e126_24, e126_25, ↓reduceIte, Bool.false_eq_true, not_false_eq_true, not_true_eq_false, Nat.reduceLeDiff, Nat.reduceAdd, Nat.reduceEqDiff, Int.reduceToNat, Int.toNat_natCast, iB0, iB1, ru_klI, ru_klR, ru_klF, ru_klJ, ru_kl0, ru_cs0, ru_csI, ru_csR, ru_csF, ru_csJ, wI_add, wI_sub, wI_mul, wI_lt, wI_le, wI_inj, ru_fdE, ru_fdN, ru_iaN, ru_baN, ru_laN, ru_qaN, ru_pfN, ru_isN, ru_bsN, ru_jsN, ru_qsN, ru_set2, Nat.add_right_cancel_iff, if_true, if_false, ite_self, c]
  | succ d ih =>
    intro k hk
    have ih1 := ih (k + 1) (by omega)
    have b := pcN_le s k
    simp only [Int.natCast_add, Int.natCast_one] at ih1
    have c : ((12 : Int) ≤ (k : Int)) = False := eq_false (by omega)
    rw [e126_4]
    simp (disch := omega) only [e126_0, e126_1, e126_2, e126_3, e126_5, e126_7, e126_10, e126_11, e126_12, e126_13, e126_14, e126_15, e126_16, e126_17, e126_18, e126_21, e126_24, e126_25, ↓reduceIte, Bool.false_eq_true, not_false_eq_true, not_true_eq_false, Nat.reduceLeDiff, Nat.reduceAdd, Nat.reduceEqDiff, Int.reduceToNat, Int.toNat_natCast, iB0, iB1, ru_klI, ru_klR, ru_klF, ru_klJ, ru_kl0, ru_cs0, ru_csI, ru_csR, ru_csF, ru_csJ, wI_add, wI_sub, wI_mul, wI_lt, wI_le, wI_inj, ru_fdE, ru_fdN, ru_iaN, ru_baN, ru_laN, ru_qaN, ru_pfN, ru_isN, ru_bsN, ru_jsN, ru_qsN, ru_set2, Nat.add_right_cancel_iff, if_true, if_false, ite_self, c, wI_bit]
    rw [pcN] at ih1
    by_cases hb : s.testBit k = true
    · simp only [hb, if_true] at ih1 ⊢; exact ih1
    · simp only [hb, if_false] at ih1 ⊢; exact ih1
theorem p126 {s : Nat} (hs : s < 2147483648) : ru_ev z 126 [.int (wI s)] h = some (.inl (some (.int (wI (pcN s 12 : Nat)))), h) := by
  have key := p126l (z := z) (h := h) hs 12 0 rfl
  simp (disch := omega) only [en126, e126_0, e126_1, e126_2, e126_3, ↓reduceIte, Bool.false_eq_true, not_false_eq_true, not_true_eq_false, Nat.reduceLeDiff, Nat.reduceAdd, Nat.reduceEqDiff, Int.reduceToNat, Int.toNat_natCast, iB0, iB1, ru_klI, ru_klR, ru_klF, ru_klJ, ru_kl0, ru_cs0, ru_csI, ru_csR, ru_csF, ru_csJ, wI_add, wI_sub, wI_mul, wI_lt, wI_le, wI_inj, ru_fdE, ru_fdN, ru_iaN, ru_baN, ru_laN, ru_qaN, ru_pfN, ru_isN, ru_bsN, ru_jsN, ru_qsN, ru_set2, Nat.add_right_cancel_iff, if_true, if_false, ite_self]
  exact key
theorem p257l {s : Nat} (hs : s < 2147483648) : ∀ d k, k + d = 20 →
    ru_n z 257 4 [some (.ref 1315), some (.int (wI s)), some (.int (wI (pcN s k : Nat))), some (.int (wI k))] [] h = some (.inl (some (.int (wI (pcN s 20 : Nat)))), h) := by
  intro d
  induction d with
  | zero =>
    intro k hk
    obtain rfl : k = 20 := by omega
    have c : ((20 : Int) ≤ ((20 : Nat) : Int)) = True := eq_true (by omega)
    simp (disch := omega) only [e257_0, e257_1, e257_2, e257_3, e257_4, e257_5, e257_7, e257_10, e257_11, e257_12, e257_13, e257_14, e257_15, e257_16, e257_17, e257_18, e257_21, e257_24, e257_25, ↓reduceIte, Bool.false_eq_true, not_false_eq_true, not_true_eq_false, Nat.reduceLeDiff, Nat.reduceAdd, Nat.reduceEqDiff, Int.reduceToNat, Int.toNat_natCast, iB0, iB1, ru_klI, ru_klR, ru_klF, ru_klJ, ru_kl0, ru_cs0, ru_csI, ru_csR, ru_csF, ru_csJ, wI_add, wI_sub, wI_mul, wI_lt, wI_le, wI_inj, ru_fdE, ru_fdN, ru_iaN, ru_baN, ru_laN, ru_qaN, ru_pfN, ru_isN, ru_bsN, ru_jsN, ru_qsN, ru_set2, Nat.add_right_cancel_iff, if_true, if_false, ite_self, c]
  | succ d ih =>
    intro k hk
    have ih1 := ih (k + 1) (by omega)
    have b := pcN_le s k
    simp only [Int.natCast_add, Int.natCast_one] at ih1
    have c : ((20 : Int) ≤ (k : Int)) = False := eq_false (by omega)
    rw [e257_4]
    simp (disch := omega) only [e257_0, e257_1, e257_2, e257_3, e257_5, e257_7, e257_10, e257_11, e257_12, e257_13, e257_14, e257_15, e257_16, e257_17, e257_18, e257_21, e257_24, e257_25, ↓reduceIte, Bool.false_eq_true, not_false_eq_true, not_true_eq_false, Nat.reduceLeDiff, Nat.reduceAdd, Nat.reduceEqDiff, Int.reduceToNat, Int.toNat_natCast, iB0, iB1, ru_klI, ru_klR, ru_klF, ru_klJ, ru_kl0, ru_cs0, ru_csI, ru_csR, ru_csF, ru_csJ, wI_add, wI_sub, wI_mul, wI_lt, wI_le, wI_inj, ru_fdE, ru_fdN, ru_iaN, ru_baN, ru_laN, ru_qaN, ru_pfN, ru_isN, ru_bsN, ru_jsN, ru_qsN, ru_set2, Nat.add_right_cancel_iff, if_true, if_false, ite_self, c, wI_bit]
    rw [pcN] at ih1
    by_cases hb : s.testBit k = true
    · simp only [hb, if_true] at ih1 ⊢; exact ih1
    · simp only [hb, if_false] at ih1 ⊢; exact ih1
theorem p257 {s : Nat} (hs : s < 2147483648) : ru_ev z 257 [.ref 1315, .int (wI s)] (mdPut h M) = some (.inl (some (.int (wI (pcN s 20 : Nat)))), mdPut h M) := by
  have key := p257l (z := z) (h := mdPut h M) hs 20 0 rfl
  simp (disch := omega) only [en257, md_e, e257_0, e257_1, e257_2, e257_3, ↓reduceIte, Bool.false_eq_true, not_false_eq_true, not_true_eq_false, Nat.reduceLeDiff, Nat.reduceAdd, Nat.reduceEqDiff, Int.reduceToNat, Int.toNat_natCast, iB0, iB1, ru_klI, ru_klR, ru_klF, ru_klJ, ru_kl0, ru_cs0, ru_csI, ru_csR, ru_csF, ru_csJ, wI_add, wI_sub, wI_mul, wI_lt, wI_le, wI_inj, ru_fdE, ru_fdN, ru_iaN, ru_baN, ru_laN, ru_qaN, ru_pfN, ru_isN, ru_bsN, ru_jsN, ru_qsN, ru_set2, Nat.add_right_cancel_iff, if_true, if_false, ite_self]
  exact key
theorem p140l (hf : f < 5) (hr : phR (mph M f)) {nm : Int} (g : -1 ≤ nm ∧ nm < 1000) {n : Nat} (hn : (mph M f).1 7 = n) : ∀ d k, k + d = n →
    ru_n z 140 2 [some (.ref 1315), some (.int (wI f)), some (.int (wI nm)), some (.int (wI k))] [] (mdPut h M) = some (.inl (some (.int (wI (hofF ((mph M f).2 3) nm d k)))), mdPut h M) := by
  have s := phR_s hr
  intro d
  induction d with
  | zero =>
    intro k hk
    have c : ((mph M f).1 7 ≤ (k : Int)) = True := eq_true (by omega)
    simp (disch := omega) only [e140_0, e140_1, e140_2, e140_3, e140_4, e140_5, e140_8, e140_11, e140_12, e140_13, e140_14, e140_15, e140_18, e140_19, e140_20, e140_21, e140_24, e140_25, e140_26, e140_29, e140_32, e140_33, ↓reduceIte, Bool.false_eq_true, not_false_eq_true, not_true_eq_false, Nat.reduceLeDiff, Nat.reduceAdd, Nat.reduceEqDiff, Int.reduceToNat, Int.toNat_natCast, iB0, iB1, ru_klI, ru_klR, ru_klF, ru_klJ, ru_kl0, ru_cs0, ru_csI, ru_csR, ru_csF, ru_csJ, wI_add, wI_sub, wI_mul, wI_lt, wI_le, wI_inj, ru_fdE, ru_fdN, ru_iaN, ru_baN, ru_laN, ru_qaN, ru_pfN, ru_isN, ru_bsN, ru_jsN, ru_qsN, ru_set2, Nat.add_right_cancel_iff, if_true, if_false, ite_self, md_e, md_f0, md_s0, md_f1, md_s1, md_f2, md_f3, md_f4, md_s4, md_f5, md_f6, md_f7, md_s7, md_f8, md_s8, md_f9, md_s9, md_f10, md_s10, md_f11, md_s11, md_f12, md_s12, md_f13, md_s13, md_f14, md_f15, md_s15, md_f16, md_s16, md_f17, md_s17, md_f18, md_s18, md_f19, md_f20, md_s20, md_f21, md_f22, md_s22, md_f23, md_f24, md_s24, md_f25, md_s25, md_f26, md_f27, md_f28, md_s28, md_f29, md_s29, md_f30, md_f31, md_f32, md_f33, md_f34, md_s34, md_f35, md_s35, md_f36, md_f37, md_f38, md_s38, md_a0, md_w0, md_a1, md_w1, md_a2, md_w2, md_a3, md_w3, md_a4, md_w4, md_a5, md_w5, md_a6, md_w6, md_a7, md_w7, md_a8, md_w8, md_a9, md_w9, md_a10, md_w10, md_a11, md_w11, md_a12, md_w12, md_a13, md_w13, md_a14, md_w14, md_a15, md_w15, up1_e, up1_n, mdT_1, mdT_n, mdT_2, mdT_T, p122, c, hofF]
  | succ d ih =>
    intro k hk
    have ih1 := ih (k + 1) (by omega)
    have s2 := phR_i hr k
    simp only [Int.natCast_add, Int.natCast_one] at ih1
    have c : ((mph M f).1 7 ≤ (k : Int)) = False := eq_false (by omega)
    have e3 : M.2 0 (54 * f + 6 + 4 * k + 3) = (mph M f).2 3 k + 1 := by have := (mph_x (M := M) (f := f) (k := k) (by omega)).2.2.2; omega
    have e4 : ((mph M f).2 3 k + 1 = nm + 1) = ((mph M f).2 3 k = nm) := propext ⟨fun h => by omega, fun h => by omega⟩
    rw [e140_2]
    simp (disch := omega) only [e140_0, e140_1, e140_3, e140_4, e140_5, e140_8, e140_11, e140_12, e140_13, e140_14, e140_15, e140_18, e140_19, e140_20, e140_21, e140_24, e140_25, e140_26, e140_29, e140_32, e140_33, ↓reduceIte, Bool.false_eq_true, not_false_eq_true, not_true_eq_false, Nat.reduceLeDiff, Nat.reduceAdd, Nat.reduceEqDiff, Int.reduceToNat, Int.toNat_natCast, iB0, iB1, ru_klI, ru_klR, ru_klF, ru_klJ, ru_kl0, ru_cs0, ru_csI, ru_csR, ru_csF, ru_csJ, wI_add, wI_sub, wI_mul, wI_lt, wI_le, wI_inj, ru_fdE, ru_fdN, ru_iaN, ru_baN, ru_laN, ru_qaN, ru_pfN, ru_isN, ru_bsN, ru_jsN, ru_qsN, ru_set2, Nat.add_right_cancel_iff, if_true, if_false, ite_self, md_e, md_f0, md_s0, md_f1, md_s1, md_f2, md_f3, md_f4, md_s4, md_f5, md_f6, md_f7, md_s7, md_f8, md_s8, md_f9, md_s9, md_f10, md_s10, md_f11, md_s11, md_f12, md_s12, md_f13, md_s13, md_f14, md_f15, md_s15, md_f16, md_s16, md_f17, md_s17, md_f18, md_s18, md_f19, md_f20, md_s20, md_f21, md_f22, md_s22, md_f23, md_f24, md_s24, md_f25, md_s25, md_f26, md_f27, md_f28, md_s28, md_f29, md_s29, md_f30, md_f31, md_f32, md_f33, md_f34, md_s34, md_f35, md_s35, md_f36, md_f37, md_f38, md_s38, md_a0, md_w0, md_a1, md_w1, md_a2, md_w2, md_a3, md_w3, md_a4, md_w4, md_a5, md_w5, md_a6, md_w6, md_a7, md_w7, md_a8, md_w8, md_a9, md_w9, md_a10, md_w10, md_a11, md_w11, md_a12, md_w12, md_a13, md_w13, md_a14, md_w14, md_a15, md_w15, up1_e, up1_n, mdT_1, mdT_n, mdT_2, mdT_T, p122, c, p125 (h := h) (z := z) (M := M) hf (show k < 12 by omega), e3, e4, hofF, ih1]
    split <;> simp_all
theorem p140 (hf : f < 5) (hr : phR (mph M f)) {nm : Int} (g : -1 ≤ nm ∧ nm < 1000) : ru_ev z 140 [.ref 1315, .int (wI f), .int (wI nm)] (mdPut h M) = some (.inl (some (.int (wI (hofF ((mph M f).2 3) nm ((mph M f).1 7).toNat 0)))), mdPut h M) := by
  have s := phR_s hr
  have key := p140l (z := z) (h := h) hf hr g (n := ((mph M f).1 7).toNat) (by omega) ((mph M f).1 7).toNat 0 (by omega)
  simp (disch := omega) only [en140, md_e, e140_0, e140_1, ↓reduceIte, Bool.false_eq_true, not_false_eq_true, not_true_eq_false, Nat.reduceLeDiff, Nat.reduceAdd, Nat.reduceEqDiff, Int.reduceToNat, Int.toNat_natCast, iB0, iB1, ru_klI, ru_klR, ru_klF, ru_klJ, ru_kl0, ru_cs0, ru_csI, ru_csR, ru_csF, ru_csJ, wI_add, wI_sub, wI_mul, wI_lt, wI_le, wI_inj, ru_fdE, ru_fdN, ru_iaN, ru_baN, ru_laN, ru_qaN, ru_pfN, ru_isN, ru_bsN, ru_jsN, ru_qsN, ru_set2, Nat.add_right_cancel_iff, if_true, if_false, ite_self]
  exact key
end MDM2
