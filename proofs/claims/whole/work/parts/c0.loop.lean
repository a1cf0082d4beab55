/-! ===== the law's loop (printed by wip/gen/genc0.py) ===== -/
/-- a case's step, wherever the loop stands -/
def stpP (z : Bool) (pc : Nat) : Prop := ∀ (g : am_H) (C : tCl) (M : tMd) (xs : Nat → Int32) (L i cap : Nat), fuI g C M cap → gI g L xs → i + 6 ≤ L → L ≤ 3072 → stF z pc g C M i cap L xs
def swL : List Nat := [264, 337, 393, 461, 474, 487, 500, 513, 569, 637, 700, 775, 843, 899, 955, 1023, 1103, 1171, 1239, 1307, 1399, 1412, 1468, 1536, 1604, 1660, 1716, 1772, 1840, 1908, 1983, 2051, 2107, 2197, 2275, 2379, 2459, 2527, 2583, 2639, 2695, 2799, 2862, 2918, 3021, 3101, 3181, 3249, 3293, 3306, 3362, 3418]
theorem sw_k : ∀ k : Fin 64, am_sw 45 3373 0 50 #[219, 292, 348, 416, 429, 442, 455, 468, 524, 592, 655, 730, 798, 854, 910, 978, 1058, 1126, 1194, 1262, 1354, 1367, 1423, 1491, 1559, 1615, 1671, 1727, 1795, 1863, 1938, 2006, 2062, 2152, 2230, 2334, 2414, 2482, 2538, 2594, 2650, 2754, 2817, 2873, 2976, 3056, 3136, 3204, 3248, 3261, 3317] (wI ((k.val : Nat) : Int)) ∈ swL := by decide +kernel
theorem wI_a63 (a : Int32) : ∃ k : Fin 64, a &&& wI 63 = wI ((k.val : Nat) : Int) := by
  have h : a.toBitVec.toNat &&& 63 ≤ 63 := Nat.and_le_right
  refine ⟨⟨a.toBitVec.toNat &&& 63, by omega⟩, ?_⟩
  apply Int32.toBitVec_inj.mp
  rw [Int32.toBitVec_and]
  simp only [wI, Int32.toBitVec_ofInt]
  rw [BitVec.ofInt_natCast]
  apply BitVec.eq_of_toNat_eq
  rw [BitVec.toNat_and, BitVec.toNat_ofNat, Nat.mod_eq_of_lt (by omega)]
  rfl
theorem st_dflt {z : Bool} : stpP z 3418 := by
  intro g C M xs L i cap h hg hi hL l6 l7
  refine ⟨g, C, M, l6, l7, cap, ?_, hg, h, by omega, by omega⟩
  have e : wI (i : Nat) + wI 6 = wI ((i + 6 : Nat) : Int) := by rw [wI_add]; rfl
  rw [e0_3418, e0_3421, e]
  rfl
theorem st_all {z : Bool} (h1 : stpP z 337) (h2 : stpP z 393) : ∀ p ∈ swL, stpP z p := by
  intro p hp
  simp only [swL, List.mem_cons, List.not_mem_nil, or_false] at hp
  rcases hp with rfl | rfl | rfl | rfl | rfl | rfl | rfl | rfl | rfl | rfl | rfl | rfl | rfl | rfl | rfl | rfl | rfl | rfl | rfl | rfl | rfl | rfl | rfl | rfl | rfl | rfl | rfl | rfl | rfl | rfl | rfl | rfl | rfl | rfl | rfl | rfl | rfl | rfl | rfl | rfl | rfl | rfl | rfl | rfl | rfl | rfl | rfl | rfl | rfl | rfl | rfl | rfl
  · exact fun g C M xs L i cap h hg hi hL => st_0 h hg hi hL
  · exact h1
  · exact h2
  · exact fun g C M xs L i cap h hg hi hL => stC_F h hg (stRO_C h.1 (st_3 h.1.1 h.1.2.2.1 h.1.2.2.2.1 hg hi hL))
  · exact fun g C M xs L i cap h hg hi hL => stC_F h hg (stRO_C h.1 (st_4 h.1.1 h.1.2.2.1 h.1.2.2.2.1 hg hi hL))
  · exact fun g C M xs L i cap h hg hi hL => stC_F h hg (stRO_C h.1 (st_5 h.1.1 h.1.2.2.1 h.1.2.2.2.1 hg hi hL))
  · exact fun g C M xs L i cap h hg hi hL => stC_F h hg (stRO_C h.1 (st_6 h.1.1 h.1.2.2.1 h.1.2.2.2.1 hg hi hL))
  · exact fun g C M xs L i cap h hg hi hL => stC_F h hg (stRO_C h.1 (st_7 h.1.1 h.1.2.2.1 h.1.2.2.2.1 hg hi hL))
  · exact fun g C M xs L i cap h hg hi hL => stC_F h hg (stRO_C h.1 (st_8 h.1.1 h.1.2.2.1 h.1.2.2.2.1 h.1.2.2.2.2.1 hg hi hL))
  · exact fun g C M xs L i cap h hg hi hL => stC_F h hg (stRO_C h.1 (st_9 h.1.1 h.1.2.2.1 h.1.2.2.2.1 hg hi hL))
  · exact fun g C M xs L i cap h hg hi hL => stC_F h hg (stRO_C h.1 (st_10 h.1.1 h.1.2.2.1 h.1.2.2.2.1 hg hi hL))
  · exact fun g C M xs L i cap h hg hi hL => stC_F h hg (stRO_C h.1 (st_11 h.1.1 h.1.2.2.1 h.1.2.2.2.1 hg hi hL))
  · exact fun g C M xs L i cap h hg hi hL => stC_F h hg (stRO_C h.1 (st_12 h.1.1 h.1.2.2.1 h.1.2.2.2.1 hg hi hL))
  · exact fun g C M xs L i cap h hg hi hL => stC_F h hg (stE_C h.1 (st_13 h.1.1 h.1.2.2.1 h.1.2.2.2.1 h.1.2.2.2.2.1 h.1.2.2.2.2.2.1 hg hi hL))
  · exact fun g C M xs L i cap h hg hi hL => stC_F h hg (stE_C h.1 (st_14 h.1.1 h.1.2.2.1 h.1.2.2.2.1 h.1.2.2.2.2.1 h.1.2.2.2.2.2.1 hg hi hL))
  · exact fun g C M xs L i cap h hg hi hL => stC_F h hg (stE_C h.1 (st_15 h.1.1 h.1.2.2.1 h.1.2.2.2.1 h.1.2.2.2.2.1 h.1.2.2.2.2.2.1 hg hi hL))
  · exact fun g C M xs L i cap h hg hi hL => stC_F h hg (stE_C h.1 (st_16 h.1.1 h.1.2.2.1 h.1.2.2.2.1 h.1.2.2.2.2.1 h.1.2.2.2.2.2.1 hg hi hL))
  · exact fun g C M xs L i cap h hg hi hL => stC_F h hg (stE_C h.1 (st_17 h.1.1 h.1.2.2.1 h.1.2.2.2.1 h.1.2.2.2.2.1 h.1.2.2.2.2.2.1 hg hi hL))
  · exact fun g C M xs L i cap h hg hi hL => stC_F h hg (stE_C h.1 (st_18 h.1.1 h.1.2.2.1 h.1.2.2.2.1 h.1.2.2.2.2.1 h.1.2.2.2.2.2.1 hg hi hL))
  · exact fun g C M xs L i cap h hg hi hL => stC_F h hg (stE_C h.1 (st_19 h.1.1 h.1.2.2.1 h.1.2.2.2.1 h.1.2.2.2.2.1 h.1.2.2.2.2.2.1 hg hi hL))
  · exact fun g C M xs L i cap h hg hi hL => stC_F h hg (stRO_C h.1 (st_20 h.1.1 h.1.2.2.1 h.1.2.2.2.1 hg hi hL))
  · exact fun g C M xs L i cap h hg hi hL => stC_F h hg (stRO_C h.1 (st_21 h.1 h.2.1 hg hi hL))
  · exact fun g C M xs L i cap h hg hi hL => stC_F h hg (stRO_C h.1 (st_22 h.1.1 h.1.2.2.1 h.1.2.2.2.1 hg hi hL))
  · exact fun g C M xs L i cap h hg hi hL => stC_F h hg (stRO_C h.1 (st_23 h.1.1 h.1.2.2.1 h.1.2.2.2.1 h.1.2.2.2.2.1 hg hi hL))
  · exact fun g C M xs L i cap h hg hi hL => stC_F h hg (stRO_C h.1 (st_24 h.1.1 h.1.2.2.1 h.1.2.2.2.1 h.1.2.2.2.2.1 hg hi hL))
  · exact fun g C M xs L i cap h hg hi hL => stC_F h hg (stRO_C h.1 (st_25 h.1.1 h.1.2.2.1 h.1.2.2.2.1 h.1.2.2.2.2.1 hg hi hL))
  · exact fun g C M xs L i cap h hg hi hL => stC_F h hg (st_26 h.1 h.2.1 hg hi hL)
  · exact fun g C M xs L i cap h hg hi hL => stC_F h hg (stRO_C h.1 (st_27 h.1.1 h.1.2.2.1 h.1.2.2.2.1 h.1.2.2.2.2.1 hg hi hL))
  · exact fun g C M xs L i cap h hg hi hL => stC_F h hg (stE_C h.1 (st_28 h.1.1 h.1.2.2.1 h.1.2.2.2.1 h.1.2.2.2.2.1 h.1.2.2.2.2.2.1 hg hi hL))
  · exact fun g C M xs L i cap h hg hi hL => stC_F h hg (stE_C h.1 (st_29 h.1.1 h.1.2.2.1 h.1.2.2.2.1 h.1.2.2.2.2.1 h.1.2.2.2.2.2.1 hg hi hL))
  · exact fun g C M xs L i cap h hg hi hL => stC_F h hg (stE_C h.1 (st_30 h.1.1 h.1.2.2.1 h.1.2.2.2.1 h.1.2.2.2.2.1 h.1.2.2.2.2.2.1 hg hi hL))
  · exact fun g C M xs L i cap h hg hi hL => stC_F h hg (stE_C h.1 (st_31 h.1.1 h.1.2.2.1 h.1.2.2.2.1 h.1.2.2.2.2.1 h.1.2.2.2.2.2.1 hg hi hL))
  · exact fun g C M xs L i cap h hg hi hL => stC_F h hg (st_32 h.1 hg hi hL)
  · exact fun g C M xs L i cap h hg hi hL => stC_F h hg (st_33 h.1 hg hi hL)
  · exact fun g C M xs L i cap h hg hi hL => stC_F h hg (stRO_C h.1 (st_34 h.1.1 h.1.2.2.1 h.1.2.2.2.1 h.1.2.2.2.2.1 hg hi hL))
  · exact fun g C M xs L i cap h hg hi hL => stC_F h hg (stRO_C h.1 (st_35 h.1.1 h.1.2.2.1 h.1.2.2.2.1 h.1.2.2.2.2.1 hg hi hL))
  · exact fun g C M xs L i cap h hg hi hL => stC_F h hg (stE_C h.1 (st_36 h.1.1 h.1.2.2.1 h.1.2.2.2.1 h.1.2.2.2.2.1 h.1.2.2.2.2.2.1 hg hi hL))
  · exact fun g C M xs L i cap h hg hi hL => st_37 h hg hi hL
  · exact fun g C M xs L i cap h hg hi hL => st_38 h hg hi hL
  · exact fun g C M xs L i cap h hg hi hL => st_39 h hg hi hL
  · exact fun g C M xs L i cap h hg hi hL => stC_F h hg (st_40 h.1 hg hi hL)
  · exact fun g C M xs L i cap h hg hi hL => stC_F h hg (st_41 h.1 hg hi hL)
  · exact fun g C M xs L i cap h hg hi hL => stC_F h hg (st_42 h.1 hg hi hL)
  · exact fun g C M xs L i cap h hg hi hL => stC_F h hg (st_43 h.1 hg hi hL)
  · exact fun g C M xs L i cap h hg hi hL => stC_F h hg (st_44 h.1 hg hi hL)
  · exact fun g C M xs L i cap h hg hi hL => stC_F h hg (st_45 h.1 hg hi hL)
  · exact fun g C M xs L i cap h hg hi hL => stC_F h hg (st_46 h.1 hg hi hL)
  · exact fun g C M xs L i cap h hg hi hL => stC_F h hg (st_47 h.1 hg hi hL)
  · exact fun g C M xs L i cap h hg hi hL => stC_F h hg (stRO_C h.1 (st_48 h.1.1 h.1.2.2.1 h.1.2.2.2.1 hg hi hL))
  · exact fun g C M xs L i cap h hg hi hL => stC_F h hg (st_49 h.1 hg hi hL)
  · exact fun g C M xs L i cap h hg hi hL => stC_F h hg (st_50 h.1 hg hi hL)
  · exact st_dflt
theorem lp_ia {X : am_H} {L : Nat} {xs : Nat → Int32} (h : X.1 1 = some (.inl (10, L, .inl xs))) {i : Nat} (hi : i < L) (hL : L ≤ 3072) : am_ia X 1 (wI i) = some (xs i) := by
  have k := ru_ia10 (z := (i : Int)) h (by omega) (by omega) (by omega)
  rw [Int.toNat_natCast] at k
  exact k
theorem lp_go {z : Bool} (h1 : stpP z 337) (h2 : stpP z 393) {L : Nat} {xs : Nat → Int32} (hL : L ≤ 3072) : ∀ d i : Nat, L ≤ i + 6 * d + 5 → i ≤ L → ∀ (g : am_H) (C : tCl) (M : tMd) (cap : Nat) (l6 l7 : Option Value), fuI g C M cap → gI g L xs → ∃ h' : am_H, ru_n z 0 28 [some (.ref 1), some (.ref 1000), some (.ref 1315), some (.ref 1332), some (.ref 1333), some (.int (wI i)), l6, l7] [] (clPut (mdPut g M) C) = some (.inl (some (.int 1)), h') ∧ h'.2.1 + cap ≤ g.2.1 + 10 * d + 1002 ∧ h'.2.2 + 2 * cap ≤ g.2.2 + 100 * d + 2004 := by
  intro d
  induction d with
  | zero =>
    intro i hi hiL g C M cap l6 l7 h hg
    have hcap : cap ≤ 1002 := by obtain ⟨n, -, -, ⟨-, -, -, b4, -⟩, -⟩ := h.2.2.2.1; exact b4
    refine ⟨clPut (mdPut g M) C, ?_, by show g.2.1 + cap ≤ _; omega, by show g.2.2 + 2 * cap ≤ _; omega⟩
    have al : am_al (clPut (mdPut g M) C) 1 = some (wI (L : Nat)) := ru_al (gI_x hg) (by omega)
    have c : ((L : Int) - 6 < (i : Int)) = True := eq_true (by omega)
    have e1 : wI 1 &&& 1 = 1 := by decide +kernel
    simp (disch := omega) only [e0_28, e0_30, e0_31, e0_32, e0_34, e0_35, e0_3424, e0_3425, ↓reduceIte, Bool.false_eq_true, not_false_eq_true, not_true_eq_false, Nat.reduceLeDiff, Nat.reduceAdd, Nat.reduceEqDiff, Int.reduceToNat, Int.toNat_natCast, iB0, iB1, ru_klI, ru_klR, ru_klF, ru_klJ, ru_kl0, ru_cs0, ru_csI, ru_csR, ru_csF, ru_csJ, wI_add, wI_sub, wI_mul, wI_lt, wI_le, wI_inj, ru_fdE, ru_fdN, ru_iaN, ru_baN, ru_laN, ru_qaN, ru_pfN, ru_isN, ru_bsN, ru_jsN, ru_qsN, ru_set2, Nat.add_right_cancel_iff, if_true, if_false, ite_self, Int.reduceEq, and_self, Int.add_neg_cancel_right, Int.add_zero, Int.zero_add, al, c, e1]
  | succ d ih =>
    intro i hi hiL g C M cap l6 l7 h hg
    have hcap : cap ≤ 1002 := by obtain ⟨n, -, -, ⟨-, -, -, b4, -⟩, -⟩ := h.2.2.2.1; exact b4
    have al : am_al (clPut (mdPut g M) C) 1 = some (wI (L : Nat)) := ru_al (gI_x hg) (by omega)
    by_cases c0 : L < i + 6
    · refine ⟨clPut (mdPut g M) C, ?_, by show g.2.1 + cap ≤ _; omega, by show g.2.2 + 2 * cap ≤ _; omega⟩
      have c : ((L : Int) - 6 < (i : Int)) = True := eq_true (by omega)
      have e1 : wI 1 &&& 1 = 1 := by decide +kernel
      simp (disch := omega) only [e0_28, e0_30, e0_31, e0_32, e0_34, e0_35, e0_3424, e0_3425, ↓reduceIte, Bool.false_eq_true, not_false_eq_true, not_true_eq_false, Nat.reduceLeDiff, Nat.reduceAdd, Nat.reduceEqDiff, Int.reduceToNat, Int.toNat_natCast, iB0, iB1, ru_klI, ru_klR, ru_klF, ru_klJ, ru_kl0, ru_cs0, ru_csI, ru_csR, ru_csF, ru_csJ, wI_add, wI_sub, wI_mul, wI_lt, wI_le, wI_inj, ru_fdE, ru_fdN, ru_iaN, ru_baN, ru_laN, ru_qaN, ru_pfN, ru_isN, ru_bsN, ru_jsN, ru_qsN, ru_set2, Nat.add_right_cancel_iff, if_true, if_false, ite_self, Int.reduceEq, and_self, Int.add_neg_cancel_right, Int.add_zero, Int.zero_add, al, c, e1]
    · have c : ((L : Int) - 6 < (i : Int)) = False := eq_false (by omega)
      obtain ⟨k, hk⟩ := wI_a63 (xs i)
      have rd : am_ia (clPut (mdPut g M) C) 1 (wI (i : Nat)) = some (xs i) := lp_ia (gI_x hg) (by omega) hL
      obtain ⟨g', C', M', m6, m7, cap', q1, q2, q3, q4, q5⟩ := st_all h1 h2 _ (sw_k k) g C M xs L i cap h hg (by omega) hL l6 l7
      obtain ⟨h', r1, r2, r3⟩ := ih (i + 6) (by omega) (by omega) g' C' M' cap' m6 m7 q3 q2
      refine ⟨h', ?_, by omega, by omega⟩
      rw [show ((i + 6 : Nat) : Int) = (i : Int) + 6 by omega] at r1
      rw [← r1, ← q1]
      simp (disch := omega) only [e0_28, e0_30, e0_31, e0_32, e0_34, e0_35, e0_38, e0_39, e0_41, e0_42, e0_44, e0_45, ↓reduceIte, Bool.false_eq_true, not_false_eq_true, not_true_eq_false, Nat.reduceLeDiff, Nat.reduceAdd, Nat.reduceEqDiff, Int.reduceToNat, Int.toNat_natCast, iB0, iB1, ru_klI, ru_klR, ru_klF, ru_klJ, ru_kl0, ru_cs0, ru_csI, ru_csR, ru_csF, ru_csJ, wI_add, wI_sub, wI_mul, wI_lt, wI_le, wI_inj, ru_fdE, ru_fdN, ru_iaN, ru_baN, ru_laN, ru_qaN, ru_pfN, ru_isN, ru_bsN, ru_jsN, ru_qsN, ru_set2, Nat.add_right_cancel_iff, if_true, if_false, ite_self, Int.reduceEq, and_self, Int.add_neg_cancel_right, Int.add_zero, Int.zero_add, al, c, rd, hk]
