/-! ===== floats' answers: the law's own calls and cases ===== -/
/-- a float as a whole number -/
def fI (v : Int) : UInt32 := UInt32.ofNat v.toNat
def flV (a b : Int) : Int := ((flQ a.toNat b.toNat).toNat : Nat)
theorem fI_0 : fI 0 = FP.fconst0 := by decide +kernel
theorem fI_V (a b : Int) : fI (flV a b) = flQ a.toNat b.toNat := by
  unfold fI flV
  rw [Int.toNat_natCast, UInt32.ofNat_toNat]
def okF (v : Int) : Prop := (fI v).toNat ≤ 2139095040
theorem okF_0 : okF 0 := by unfold okF; decide +kernel
theorem okF_V {a b : Int} (ha : a ≤ 1000) (hb : 1 ≤ b) (hb2 : b ≤ 1000) : okF (flV a b) := by
  unfold okF
  rw [fI_V]
  exact flQ_n (by omega) (by omega) (by omega)
theorem ru_dsE {h : am_H} {a n : Nat} {f : Nat → UInt64} {i : Int} {v : UInt64} (e : h.1 a = some (.inl (4, n, .inr (.inr (.inr (.inl f)))))) (h1 : 0 ≤ i) (h2 : i < n) (h3 : i < 2147483648) : am_ds h a (wI i) v = some (am_set h a (.inl (4, n, .inr (.inr (.inr (.inl (am_up f i.toNat v))))))) := ru_ds e h1 h2 h3
section HPD
variable {z : Bool} {H G : am_H} {o : Nat → UInt64} {v : Int}
theorem hp273 {x0 x1 : Int32} (hv : okF v) (hc : ru_ev z 274 [.ref 1000, .int x0, .int x1] H = some (.inl (some (.float (fI v))), G)) (ho : G.1 1333 = some (ouD o)) : ru_ev z 273 [.ref 1000, .int x0, .int x1, .ref 1333] H = some (.inl (some (.int (wI 0))), am_set G 1333 (ouD (am_up o 0 (FP.f2d (fI v))))) := by
  have c : (FP.f2d (fI v) &&& 0x7fffffffffffffff ≤ 0x7ff0000000000000) = True := eq_true (fl_and64 (fl_d_n hv))
  unfold ouD at ho ⊢
  simp (disch := omega) only [en273, e273_0, e273_1, e273_2, e273_3, e273_4, e273_5, e273_8, e273_9, e273_10, e273_13, e273_15, e273_16, e273_17, e273_19, e273_20, e273_21, e273_22, ↓reduceIte, Bool.false_eq_true, not_false_eq_true, not_true_eq_false, Nat.reduceLeDiff, Nat.reduceAdd, Nat.reduceEqDiff, Int.reduceToNat, Int.toNat_natCast, iB0, iB1, ru_klI, ru_klR, ru_klF, ru_klJ, ru_kl0, ru_cs0, ru_csI, ru_csR, ru_csF, ru_csJ, wI_add, wI_sub, wI_mul, wI_lt, wI_le, wI_inj, ru_fdE, ru_fdN, ru_iaN, ru_baN, ru_laN, ru_qaN, ru_pfN, ru_isN, ru_bsN, ru_jsN, ru_qsN, ru_set2, Nat.add_right_cancel_iff, if_true, if_false, ite_self, Int.reduceEq, and_self, Int.add_neg_cancel_right, Int.add_zero, Int.zero_add, hc, c, ru_dsE ho]
theorem hx273_0 {x0 x1 : Int32} (hc : ru_ev z 274 [.ref 1000, .int x0, .int x1] H = some (.inr 0, G)) : ru_ev z 273 [.ref 1000, .int x0, .int x1, .ref 1333] H = some (.inl (some (.int (wI 1))), G) := by
  simp (disch := omega) only [en273, e273_0, e273_1, e273_2, e273_3, e273_4, e273_5, e273_8, e273_9, e273_10, e273_13, e273_15, e273_16, e273_17, e273_19, e273_20, e273_21, e273_22, ↓reduceIte, Bool.false_eq_true, not_false_eq_true, not_true_eq_false, Nat.reduceLeDiff, Nat.reduceAdd, Nat.reduceEqDiff, Int.reduceToNat, Int.toNat_natCast, iB0, iB1, ru_klI, ru_klR, ru_klF, ru_klJ, ru_kl0, ru_cs0, ru_csI, ru_csR, ru_csF, ru_csJ, wI_add, wI_sub, wI_mul, wI_lt, wI_le, wI_inj, ru_fdE, ru_fdN, ru_iaN, ru_baN, ru_laN, ru_qaN, ru_pfN, ru_isN, ru_bsN, ru_jsN, ru_qsN, ru_set2, Nat.add_right_cancel_iff, if_true, if_false, ite_self, Int.reduceEq, and_self, Int.add_neg_cancel_right, Int.add_zero, Int.zero_add, hc]
theorem hx273_1 {x0 x1 : Int32} (hc : ru_ev z 274 [.ref 1000, .int x0, .int x1] H = some (.inr 1, G)) : ru_ev z 273 [.ref 1000, .int x0, .int x1, .ref 1333] H = some (.inl (some (.int (wI 2))), G) := by
  simp (disch := omega) only [en273, e273_0, e273_1, e273_2, e273_3, e273_4, e273_5, e273_8, e273_9, e273_10, e273_13, e273_15, e273_16, e273_17, e273_19, e273_20, e273_21, e273_22, ↓reduceIte, Bool.false_eq_true, not_false_eq_true, not_true_eq_false, Nat.reduceLeDiff, Nat.reduceAdd, Nat.reduceEqDiff, Int.reduceToNat, Int.toNat_natCast, iB0, iB1, ru_klI, ru_klR, ru_klF, ru_klJ, ru_kl0, ru_cs0, ru_csI, ru_csR, ru_csF, ru_csJ, wI_add, wI_sub, wI_mul, wI_lt, wI_le, wI_inj, ru_fdE, ru_fdN, ru_iaN, ru_baN, ru_laN, ru_qaN, ru_pfN, ru_isN, ru_bsN, ru_jsN, ru_qsN, ru_set2, Nat.add_right_cancel_iff, if_true, if_false, ite_self, Int.reduceEq, and_self, Int.add_neg_cancel_right, Int.add_zero, Int.zero_add, hc]
theorem hp276 {x0 : Int32} (hv : okF v) (hc : ru_ev z 277 [.ref 1000, .int x0] H = some (.inl (some (.float (fI v))), G)) (ho : G.1 1333 = some (ouD o)) : ru_ev z 276 [.ref 1000, .int x0, .ref 1333] H = some (.inl (some (.int (wI 0))), am_set G 1333 (ouD (am_up o 0 (FP.f2d (fI v))))) := by
  have c : (FP.f2d (fI v) &&& 0x7fffffffffffffff ≤ 0x7ff0000000000000) = True := eq_true (fl_and64 (fl_d_n hv))
  unfold ouD at ho ⊢
  simp (disch := omega) only [en276, e276_0, e276_1, e276_2, e276_3, e276_4, e276_7, e276_8, e276_9, e276_12, e276_13, e276_14, e276_15, e276_16, e276_17, e276_18, e276_19, ↓reduceIte, Bool.false_eq_true, not_false_eq_true, not_true_eq_false, Nat.reduceLeDiff, Nat.reduceAdd, Nat.reduceEqDiff, Int.reduceToNat, Int.toNat_natCast, iB0, iB1, ru_klI, ru_klR, ru_klF, ru_klJ, ru_kl0, ru_cs0, ru_csI, ru_csR, ru_csF, ru_csJ, wI_add, wI_sub, wI_mul, wI_lt, wI_le, wI_inj, ru_fdE, ru_fdN, ru_iaN, ru_baN, ru_laN, ru_qaN, ru_pfN, ru_isN, ru_bsN, ru_jsN, ru_qsN, ru_set2, Nat.add_right_cancel_iff, if_true, if_false, ite_self, Int.reduceEq, and_self, Int.add_neg_cancel_right, Int.add_zero, Int.zero_add, hc, c, ru_dsE ho]
theorem hx276_0 {x0 : Int32} (hc : ru_ev z 277 [.ref 1000, .int x0] H = some (.inr 0, G)) : ru_ev z 276 [.ref 1000, .int x0, .ref 1333] H = some (.inl (some (.int (wI 1))), G) := by
  simp (disch := omega) only [en276, e276_0, e276_1, e276_2, e276_3, e276_4, e276_7, e276_8, e276_9, e276_12, e276_13, e276_14, e276_15, e276_16, e276_17, e276_18, e276_19, ↓reduceIte, Bool.false_eq_true, not_false_eq_true, not_true_eq_false, Nat.reduceLeDiff, Nat.reduceAdd, Nat.reduceEqDiff, Int.reduceToNat, Int.toNat_natCast, iB0, iB1, ru_klI, ru_klR, ru_klF, ru_klJ, ru_kl0, ru_cs0, ru_csI, ru_csR, ru_csF, ru_csJ, wI_add, wI_sub, wI_mul, wI_lt, wI_le, wI_inj, ru_fdE, ru_fdN, ru_iaN, ru_baN, ru_laN, ru_qaN, ru_pfN, ru_isN, ru_bsN, ru_jsN, ru_qsN, ru_set2, Nat.add_right_cancel_iff, if_true, if_false, ite_self, Int.reduceEq, and_self, Int.add_neg_cancel_right, Int.add_zero, Int.zero_add, hc]
theorem hx276_1 {x0 : Int32} (hc : ru_ev z 277 [.ref 1000, .int x0] H = some (.inr 1, G)) : ru_ev z 276 [.ref 1000, .int x0, .ref 1333] H = some (.inl (some (.int (wI 2))), G) := by
  simp (disch := omega) only [en276, e276_0, e276_1, e276_2, e276_3, e276_4, e276_7, e276_8, e276_9, e276_12, e276_13, e276_14, e276_15, e276_16, e276_17, e276_18, e276_19, ↓reduceIte, Bool.false_eq_true, not_false_eq_true, not_true_eq_false, Nat.reduceLeDiff, Nat.reduceAdd, Nat.reduceEqDiff, Int.reduceToNat, Int.toNat_natCast, iB0, iB1, ru_klI, ru_klR, ru_klF, ru_klJ, ru_kl0, ru_cs0, ru_csI, ru_csR, ru_csF, ru_csJ, wI_add, wI_sub, wI_mul, wI_lt, wI_le, wI_inj, ru_fdE, ru_fdN, ru_iaN, ru_baN, ru_laN, ru_qaN, ru_pfN, ru_isN, ru_bsN, ru_jsN, ru_qsN, ru_set2, Nat.add_right_cancel_iff, if_true, if_false, ite_self, Int.reduceEq, and_self, Int.add_neg_cancel_right, Int.add_zero, Int.zero_add, hc]
end HPD
section LWD
variable {z : Bool} {H H1 H2 : am_H} {xs : Nat → Int32} {L i : Nat} {l6 l7 : Option Value} {t b : Int}
theorem lw_32 (hx : H.1 1 = some (.inl (10, L, .inl xs))) (hx1 : H1.1 1 = some (.inl (10, L, .inl xs))) (hi : i + 6 ≤ L) (hL : L ≤ 3072) (g : 0 ≤ t ∧ t ≤ 9) (hb : t = 0 → okF b) (hc : ru_ev z 273 [.ref 1000, .int (xs (i + 1)), .int (xs (i + 2)), .ref 1333] H = some (.inl (some (.int (wI t))), H1)) (hm : ru_ev z 275 [.ref 1315, .int (xs (i + 1)), .int (xs (i + 2))] H1 = some (.inl (some (.float (fI b))), H2)) (ht : ru_ev z 75 [.ref 1315] H2 = some (.inl (some (.int (wI t))), H2)) (ho : t = 0 → am_da H2 1333 (wI 0) = some (FP.f2d (fI b))) :
    ru_n z 0 2107 [some (.ref 1), some (.ref 1000), some (.ref 1315), some (.ref 1332), some (.ref 1333), some (.int (wI i)), l6, l7] [] H = ru_n z 0 28 [some (.ref 1), some (.ref 1000), some (.ref 1315), some (.ref 1332), some (.ref 1333), some (.int (wI (i + 6))), some (.int (wI t)), some (.float (fI b))] [] H2 := by
  have i1 : ((i : Int) + 1).toNat = i + 1 := by omega
  have i2 : ((i : Int) + 2).toNat = i + 2 := by omega
  by_cases e : t = 0
  · subst e
    have ho := ho rfl
    have c : (FP.f2d (fI b) &&& 0x7fffffffffffffff ≤ 0x7ff0000000000000) = True := eq_true (fl_and64 (fl_d_n (hb rfl)))
    have cm := fl_cmp (fl_d_n (hb rfl)) .l
    simp (disch := omega) only [e0_2107, e0_2108, e0_2109, e0_2111, e0_2112, e0_2113, e0_2114, e0_2115, e0_2117, e0_2118, e0_2119, e0_2120, e0_2122, e0_2125, e0_2127, e0_2128, e0_2129, e0_2131, e0_2132, e0_2133, e0_2134, e0_2135, e0_2137, e0_2138, e0_2139, e0_2140, e0_2143, e0_2145, e0_2146, e0_2149, e0_2151, e0_2154, e0_2155, e0_2156, e0_2158, e0_2161, e0_2163, e0_2164, e0_2165, e0_2167, e0_2168, e0_2169, e0_2172, e0_2174, e0_2175, e0_2176, e0_2178, e0_2179, e0_2180, e0_2181, e0_2184, e0_2186, e0_2188, e0_2189, e0_2192, e0_2193, e0_2194, e0_3418, e0_3421, ↓reduceIte, Bool.false_eq_true, not_false_eq_true, not_true_eq_false, Nat.reduceLeDiff, Nat.reduceAdd, Nat.reduceEqDiff, Int.reduceToNat, Int.toNat_natCast, iB0, iB1, ru_klI, ru_klR, ru_klF, ru_klJ, ru_kl0, ru_cs0, ru_csI, ru_csR, ru_csF, ru_csJ, wI_add, wI_sub, wI_mul, wI_lt, wI_le, wI_inj, ru_fdE, ru_fdN, ru_iaN, ru_baN, ru_laN, ru_qaN, ru_pfN, ru_isN, ru_bsN, ru_jsN, ru_qsN, ru_set2, Nat.add_right_cancel_iff, if_true, if_false, ite_self, Int.reduceEq, and_self, Int.add_neg_cancel_right, Int.add_zero, Int.zero_add, ru_ia10 hx, ru_ia10 hx1, i1, i2, hc, hm, ht, ho, c, cm]
  · simp (disch := omega) only [e0_2107, e0_2108, e0_2109, e0_2111, e0_2112, e0_2113, e0_2114, e0_2115, e0_2117, e0_2118, e0_2119, e0_2120, e0_2122, e0_2125, e0_2127, e0_2128, e0_2129, e0_2131, e0_2132, e0_2133, e0_2134, e0_2135, e0_2137, e0_2138, e0_2139, e0_2140, e0_2143, e0_2145, e0_2146, e0_2149, e0_2151, e0_2154, e0_2155, e0_2156, e0_2158, e0_2161, e0_2163, e0_2164, e0_2165, e0_2167, e0_2168, e0_2169, e0_2172, e0_2174, e0_2175, e0_2176, e0_2178, e0_2179, e0_2180, e0_2181, e0_2184, e0_2186, e0_2188, e0_2189, e0_2192, e0_2193, e0_2194, e0_3418, e0_3421, ↓reduceIte, Bool.false_eq_true, not_false_eq_true, not_true_eq_false, Nat.reduceLeDiff, Nat.reduceAdd, Nat.reduceEqDiff, Int.reduceToNat, Int.toNat_natCast, iB0, iB1, ru_klI, ru_klR, ru_klF, ru_klJ, ru_kl0, ru_cs0, ru_csI, ru_csR, ru_csF, ru_csJ, wI_add, wI_sub, wI_mul, wI_lt, wI_le, wI_inj, ru_fdE, ru_fdN, ru_iaN, ru_baN, ru_laN, ru_qaN, ru_pfN, ru_isN, ru_bsN, ru_jsN, ru_qsN, ru_set2, Nat.add_right_cancel_iff, if_true, if_false, ite_self, Int.reduceEq, and_self, Int.add_neg_cancel_right, Int.add_zero, Int.zero_add, ru_ia10 hx, ru_ia10 hx1, i1, i2, hc, hm, ht, e]
theorem lw_33 (hx : H.1 1 = some (.inl (10, L, .inl xs))) (hx1 : H1.1 1 = some (.inl (10, L, .inl xs))) (hi : i + 6 ≤ L) (hL : L ≤ 3072) (g : 0 ≤ t ∧ t ≤ 9) (hb : t = 0 → okF b) (hc : ru_ev z 276 [.ref 1000, .int (xs (i + 1)), .ref 1333] H = some (.inl (some (.int (wI t))), H1)) (hm : ru_ev z 280 [.ref 1315, .int (xs (i + 1))] H1 = some (.inl (some (.float (fI b))), H2)) (ht : ru_ev z 75 [.ref 1315] H2 = some (.inl (some (.int (wI t))), H2)) (ho : t = 0 → am_da H2 1333 (wI 0) = some (FP.f2d (fI b))) :
    ru_n z 0 2197 [some (.ref 1), some (.ref 1000), some (.ref 1315), some (.ref 1332), some (.ref 1333), some (.int (wI i)), l6, l7] [] H = ru_n z 0 28 [some (.ref 1), some (.ref 1000), some (.ref 1315), some (.ref 1332), some (.ref 1333), some (.int (wI (i + 6))), some (.int (wI t)), some (.float (fI b))] [] H2 := by
  have i1 : ((i : Int) + 1).toNat = i + 1 := by omega
  by_cases e : t = 0
  · subst e
    have ho := ho rfl
    have c : (FP.f2d (fI b) &&& 0x7fffffffffffffff ≤ 0x7ff0000000000000) = True := eq_true (fl_and64 (fl_d_n (hb rfl)))
    have cm := fl_cmp (fl_d_n (hb rfl)) .l
    simp (disch := omega) only [e0_2197, e0_2198, e0_2199, e0_2201, e0_2202, e0_2203, e0_2204, e0_2206, e0_2209, e0_2211, e0_2212, e0_2213, e0_2215, e0_2216, e0_2217, e0_2218, e0_2221, e0_2223, e0_2224, e0_2227, e0_2229, e0_2232, e0_2233, e0_2234, e0_2236, e0_2239, e0_2241, e0_2242, e0_2243, e0_2245, e0_2246, e0_2247, e0_2250, e0_2252, e0_2253, e0_2254, e0_2256, e0_2257, e0_2258, e0_2259, e0_2262, e0_2264, e0_2266, e0_2267, e0_2270, e0_2271, e0_2272, e0_3418, e0_3421, ↓reduceIte, Bool.false_eq_true, not_false_eq_true, not_true_eq_false, Nat.reduceLeDiff, Nat.reduceAdd, Nat.reduceEqDiff, Int.reduceToNat, Int.toNat_natCast, iB0, iB1, ru_klI, ru_klR, ru_klF, ru_klJ, ru_kl0, ru_cs0, ru_csI, ru_csR, ru_csF, ru_csJ, wI_add, wI_sub, wI_mul, wI_lt, wI_le, wI_inj, ru_fdE, ru_fdN, ru_iaN, ru_baN, ru_laN, ru_qaN, ru_pfN, ru_isN, ru_bsN, ru_jsN, ru_qsN, ru_set2, Nat.add_right_cancel_iff, if_true, if_false, ite_self, Int.reduceEq, and_self, Int.add_neg_cancel_right, Int.add_zero, Int.zero_add, ru_ia10 hx, ru_ia10 hx1, i1, hc, hm, ht, ho, c, cm]
  · simp (disch := omega) only [e0_2197, e0_2198, e0_2199, e0_2201, e0_2202, e0_2203, e0_2204, e0_2206, e0_2209, e0_2211, e0_2212, e0_2213, e0_2215, e0_2216, e0_2217, e0_2218, e0_2221, e0_2223, e0_2224, e0_2227, e0_2229, e0_2232, e0_2233, e0_2234, e0_2236, e0_2239, e0_2241, e0_2242, e0_2243, e0_2245, e0_2246, e0_2247, e0_2250, e0_2252, e0_2253, e0_2254, e0_2256, e0_2257, e0_2258, e0_2259, e0_2262, e0_2264, e0_2266, e0_2267, e0_2270, e0_2271, e0_2272, e0_3418, e0_3421, ↓reduceIte, Bool.false_eq_true, not_false_eq_true, not_true_eq_false, Nat.reduceLeDiff, Nat.reduceAdd, Nat.reduceEqDiff, Int.reduceToNat, Int.toNat_natCast, iB0, iB1, ru_klI, ru_klR, ru_klF, ru_klJ, ru_kl0, ru_cs0, ru_csI, ru_csR, ru_csF, ru_csJ, wI_add, wI_sub, wI_mul, wI_lt, wI_le, wI_inj, ru_fdE, ru_fdN, ru_iaN, ru_baN, ru_laN, ru_qaN, ru_pfN, ru_isN, ru_bsN, ru_jsN, ru_qsN, ru_set2, Nat.add_right_cancel_iff, if_true, if_false, ite_self, Int.reduceEq, and_self, Int.add_neg_cancel_right, Int.add_zero, Int.zero_add, ru_ia10 hx, ru_ia10 hx1, i1, hc, hm, ht, e]
end LWD
theorem gn_stepD {z : Bool} {g : am_H} {C : tCl} {M : tMd} {jc jh jm : Nat} {cargs margs : List Value} {R : Nat → Int → tCl → Prop} {Q : Int → tMd → Prop} {X : tCl → tMd → Prop} {nE : Nat} {o : Nat → UInt64} {o2 : Nat → Int64}
    (hcl : ∀ h, ∃ t v C', ru_ev z jc cargs (clPut h C) = oR t (some (.float (fI v))) (clPut h C') (clPut (thr h) C') ∧ R t v C')
    (hmd : ∀ h, ∃ b M', ru_ev z jm margs (mdPut h M) = some (.inl (some (.float (fI b))), mdPut h M') ∧ Q b M')
    (hvb : ∀ t v C' b M', R t v C' → Q b M' → t ≤ nE ∧ M'.1 0 = (t : Int) ∧ (t = 0 → v = b ∧ okF b) ∧ X C' M')
    (hp : ∀ (H G : am_H) (o : Nat → UInt64) (v : Int), okF v → ru_ev z jc cargs H = some (.inl (some (.float (fI v))), G) → G.1 1333 = some (ouD o) → ru_ev z jh (cargs ++ [.ref 1333]) H = some (.inl (some (.int (wI 0))), am_set G 1333 (ouD (am_up o 0 (FP.f2d (fI v))))))
    (hx : ∀ (H G : am_H) (E : Nat), E < nE → ru_ev z jc cargs H = some (.inr E, G) → ru_ev z jh (cargs ++ [.ref 1333]) H = some (.inl (some (.int (wI ((E + 1 : Nat) : Int)))), G))
    (ho : g.1 1333 = some (ouD o)) (ho2 : g.1 1332 = some (ouC o2)) :
    ∃ g' C' M' t b, t ≤ nE ∧ (t = 0 → okF b) ∧ X C' M' ∧ ru_ev z jh (cargs ++ [.ref 1333]) (clPut (mdPut g M) C) = some (.inl (some (.int (wI ((t : Nat) : Int)))), clPut (mdPut g' M) C') ∧ ru_ev z jm margs (clPut (mdPut g' M) C') = some (.inl (some (.float (fI b))), clPut (mdPut g' M') C') ∧
      ru_ev z 75 [.ref 1315] (clPut (mdPut g' M') C') = some (.inl (some (.int (wI ((t : Nat) : Int)))), clPut (mdPut g' M') C') ∧ (t = 0 → am_da (clPut (mdPut g' M') C') 1333 (wI 0) = some (FP.f2d (fI b))) ∧ gOn g g' 1 6 := by
  obtain ⟨t, v, C', h1, hR⟩ := hcl (mdPut g M)
  by_cases e : t = 0
  · rw [oR_0 e] at h1
    have hG : (clPut (mdPut g M) C').1 1333 = some (ouD o) := by rw [clPut_o (by omega), mdPut_o (by omega), ho]
    obtain ⟨b, M', m1, m2⟩ := hmd (clPut (am_set g 1333 (ouD (am_up o 0 (FP.f2d (fI v))))) C')
    obtain ⟨k1, k2, k3, k5⟩ := hvb t v C' b M' hR m2
    have h2 := hp _ _ o v (by rw [(k3 e).1]; exact (k3 e).2) h1 hG
    rw [cl_seto (by omega), md_seto (by omega)] at h2
    refine ⟨am_set g 1333 (ouD (am_up o 0 (FP.f2d (fI v)))), C', M', t, b, k1, fun e => (k3 e).2, k5, ?_, ?_, ?_, fun _ => ?_, ?_, ⟨o2, by rw [ru_setN (by decide)]; exact ho2⟩, fun _ => ⟨_, ru_setE _ _ _⟩, Nat.le_refl _, Nat.le_succ _, Nat.le_add_right _ _⟩
    · rw [h2, e]; rfl
    · rw [clPM, m1, ← clPM]
    · rw [clPM, p75, k2]
    · rw [← (k3 e).1]
      have e9 : (clPut (mdPut (am_set g 1333 (ouD (am_up o 0 (FP.f2d (fI v))))) M') C').1 1333 = some (ouD (am_up o 0 (FP.f2d (fI v)))) := by
        rw [clPut_o (by omega), mdPut_o (by omega)]; exact ru_setE _ _ _
      rw [ru_da e9 (by omega) (by omega) (by omega)]
      rfl
    · intro q _ _ hq; exact ru_setN hq
  · rw [oR_n e, md_thr] at h1
    obtain ⟨b, M', m1, m2⟩ := hmd (clPut (thr g) C')
    obtain ⟨k1, k2, k3, k5⟩ := hvb t v C' b M' hR m2
    have h2 := hx _ _ (t - 1) (by omega) h1
    rw [show t - 1 + 1 = t by omega] at h2
    refine ⟨thr g, C', M', t, b, k1, fun e => (k3 e).2, k5, h2, ?_, ?_, fun h => absurd h e, fun q _ _ _ => rfl, ⟨o2, ho2⟩, fun h => h, Nat.le_succ _, Nat.le_refl _, Nat.le_refl _⟩
    · rw [clPM, m1, ← clPM]
    · rw [clPM, p75, k2]
