/-! ===== inversions: the reference ===== -/
/-- who has a name -/
def hoF (q : tPh) (a : Nat) : Nat := (hofF (q.2 3) a (q.1 7).toNat 0).toNat
def tnA (q p : tPh) (s a b : Nat) : Bool := s.testBit a && s.testBit b && decide (decide (kyO (shX q) (shY q) (hoF q a) < kyO (shX q) (shY q) (hoF q b)) ≠ decide (kyO (shX p) (shY p) (hoF p a) < kyO (shX p) (shY p) (hoF p b)))
def tnT (q p : tPh) (s : Nat) : Nat → Nat
  | 0 => 0
  | a + 1 => tnT q p s a + cnB (tnA q p s a) a
theorem tnT_le (q p : tPh) (s : Nat) : ∀ a, a ≤ 20 → tnT q p s a ≤ 20 * a
  | 0, _ => by simp [tnT]
  | a + 1, h => by
    have h1 := tnT_le q p s a (by omega)
    have h2 := cnB_le (tnA q p s a) a
    rw [tnT]
    omega
theorem nmB_ho {q : tPh} {N : Int} (hr : phR q) (hN : phN q N) {a : Nat} (h : nmB q a = true) : shS q (hoF q a) = true ∧ q.2 3 (hoF q a) = (a : Int) ∧ hofF (q.2 3) a (q.1 7).toNat 0 = (hoF q a : Nat) ∧ hoF q a < 12 := by
  have s := phR_s hr
  obtain ⟨i, h1, h2, h3⟩ := (nmB_iff hr hN a).mp h
  rcases hofF_sp (q.2 3) a (q.1 7).toNat 0 with ⟨k1, k2⟩ | ⟨k, k1, k2, k3, k4⟩
  · exact absurd h3 (k2 i (by omega) (by omega))
  · have e : k = i := hN.2.1 k i (by omega) (by omega) (by rw [k4, h3]) (by omega)
    subst e
    have eh : hoF q a = k := by unfold hoF; rw [k1]; rfl
    rw [eh]
    refine ⟨by rw [shS_of (by omega)]; exact h2, h3, k1, by omega⟩
section INV2
variable {z : Bool} {h : am_H} {M : tMd} {f k : Nat}
theorem p253i (hM : mdR M) (hf : f < 5) (hk : k < 5) (n1 : phN (mph M f) (M.1 20)) (n2 : phN (mph M k) (M.1 20)) {s : Nat} (hs : s < 1048576) (hsb : ∀ a, s.testBit a = true → nmB (mph M f) a = true ∧ nmB (mph M k) a = true) {a : Nat} (ha : a < 20) : ∀ d b, b + d = a → ∀ (T : Nat) (l7 : Option Value), T ≤ 1000 → ∃ l7',
    ru_n z 253 30 [some (.ref 1315), some (.int (wI f)), some (.int (wI k)), some (.int (wI s)), some (.int (wI ((T + cnB (tnA (mph M f) (mph M k) s a) b : Nat) : Int))), some (.int (wI a)), some (.int (wI b)), l7] [] (mdPut h M) = ru_n z 253 119 [some (.ref 1315), some (.int (wI f)), some (.int (wI k)), some (.int (wI s)), some (.int (wI ((T + cnB (tnA (mph M f) (mph M k) s a) a : Nat) : Int))), some (.int (wI a)), some (.int (wI a)), l7'] [] (mdPut h M) := by
  have hq1 := hM.2.2.2.2.2.2 f hf
  have hq2 := hM.2.2.2.2.2.2 k hk
  intro d
  induction d with
  | zero =>
    intro b hb T l7 hT
    obtain rfl : b = a := by omega
    refine ⟨l7, ?_⟩
    have c : ((b : Int) ≤ (b : Int)) = True := eq_true (Int.le_refl _)
    simp (disch := omega) only [e253_30, e253_32, e253_34, ↓reduceIte, Bool.false_eq_true, not_false_eq_true, not_true_eq_false, Nat.reduceLeDiff, Nat.reduceAdd, Nat.reduceEqDiff, Int.reduceToNat, Int.toNat_natCast, iB0, iB1, ru_klI, ru_klR, ru_klF, ru_klJ, ru_kl0, ru_cs0, ru_csI, ru_csR, ru_csF, ru_csJ, wI_add, wI_sub, wI_mul, wI_lt, wI_le, wI_inj, ru_fdE, ru_fdN, ru_iaN, ru_baN, ru_laN, ru_qaN, ru_pfN, ru_isN, ru_bsN, ru_jsN, ru_qsN, ru_set2, Nat.add_right_cancel_iff, if_true, if_false, ite_self, Int.reduceEq, and_self, Int.add_neg_cancel_right, Int.add_zero, Int.zero_add, c]
  | succ d ih =>
    intro b hb T l7 hT
    have c : ((a : Int) ≤ (b : Int)) = False := eq_false (by omega)
    have hle := cnB_le (tnA (mph M f) (mph M k) s a) b
    by_cases ea : s.testBit a = true
    · by_cases eb : s.testBit b = true
      · obtain ⟨a1, a2, a3, a4⟩ := nmB_ho hq1 n1 (hsb a ea).1
        obtain ⟨b1, b2, b3, b4⟩ := nmB_ho hq1 n1 (hsb b eb).1
        obtain ⟨c1, c2, c3, c4⟩ := nmB_ho hq2 n2 (hsb a ea).2
        obtain ⟨d1, d2, d3, d4⟩ := nmB_ho hq2 n2 (hsb b eb).2
        have h1 := p140 (z := z) (h := h) (M := M) (f := f) hf hq1 (nm := (a : Int)) (by omega)
        have h2 := p140 (z := z) (h := h) (M := M) (f := f) hf hq1 (nm := (b : Int)) (by omega)
        have h3 := p140 (z := z) (h := h) (M := M) (f := k) hk hq2 (nm := (a : Int)) (by omega)
        have h4 := p140 (z := z) (h := h) (M := M) (f := k) hk hq2 (nm := (b : Int)) (by omega)
        rw [a3] at h1
        rw [b3] at h2
        rw [c3] at h3
        rw [d3] at h4
        have g1 := p136 (z := z) (h := h) (M := M) (f := f) hf a4 b4 hq1 a1 b1
        have g2 := p136 (z := z) (h := h) (M := M) (f := k) hk c4 d4 hq2 c1 d1
        obtain ⟨l7', ih1⟩ := ih (b + 1) (by omega) T (some (.int (wI (if kyO (shX (mph M f)) (shY (mph M f)) (hoF (mph M f) a) < kyO (shX (mph M f)) (shY (mph M f)) (hoF (mph M f) b) then 1 else 0)))) hT
        refine ⟨l7', ?_⟩
        rw [← ih1, e253_30]
        by_cases x1 : kyO (shX (mph M f)) (shY (mph M f)) (hoF (mph M f) a) < kyO (shX (mph M f)) (shY (mph M f)) (hoF (mph M f) b)
        · by_cases x2 : kyO (shX (mph M k)) (shY (mph M k)) (hoF (mph M k) a) < kyO (shX (mph M k)) (shY (mph M k)) (hoF (mph M k) b)
          · have ec : cnB (tnA (mph M f) (mph M k) s a) (b + 1) = cnB (tnA (mph M f) (mph M k) s a) b := by rw [cnB, if_neg (by simp [tnA, x1, x2]), Nat.add_zero]
            rw [ec]
            simp (disch := omega) only [e253_32, e253_34, e253_37, e253_38, e253_40, e253_41, e253_42, e253_43, e253_46, e253_47, e253_49, e253_50, e253_51, e253_52, e253_55, e253_58, e253_59, e253_60, e253_61, e253_62, e253_64, e253_67, e253_68, e253_69, e253_71, e253_74, e253_77, e253_79, e253_81, e253_83, e253_84, e253_85, e253_86, e253_87, e253_89, e253_92, e253_93, e253_94, e253_96, e253_99, e253_102, e253_105, e253_106, e253_109, e253_110, e253_111, e253_113, e253_116, ↓reduceIte, Bool.false_eq_true, not_false_eq_true, not_true_eq_false, Nat.reduceLeDiff, Nat.reduceAdd, Nat.reduceEqDiff, Int.reduceToNat, Int.toNat_natCast, iB0, iB1, ru_klI, ru_klR, ru_klF, ru_klJ, ru_kl0, ru_cs0, ru_csI, ru_csR, ru_csF, ru_csJ, wI_add, wI_sub, wI_mul, wI_lt, wI_le, wI_inj, ru_fdE, ru_fdN, ru_iaN, ru_baN, ru_laN, ru_qaN, ru_pfN, ru_isN, ru_bsN, ru_jsN, ru_qsN, ru_set2, Nat.add_right_cancel_iff, if_true, if_false, ite_self, Int.reduceEq, and_self, Int.add_neg_cancel_right, Int.add_zero, Int.zero_add, md_e, c, wI_bit, ea, eb, h1, h2, h3, h4, g1, g2, x1, x2, not_true, not_false_iff, Int.natCast_add, Int.natCast_one]
          · have ec : cnB (tnA (mph M f) (mph M k) s a) (b + 1) = cnB (tnA (mph M f) (mph M k) s a) b + 1 := by rw [cnB, if_pos (by simp [tnA, x1, x2, ea, eb])]
            rw [ec]
            simp (disch := omega) only [e253_32, e253_34, e253_37, e253_38, e253_40, e253_41, e253_42, e253_43, e253_46, e253_47, e253_49, e253_50, e253_51, e253_52, e253_55, e253_58, e253_59, e253_60, e253_61, e253_62, e253_64, e253_67, e253_68, e253_69, e253_71, e253_74, e253_77, e253_79, e253_81, e253_83, e253_84, e253_85, e253_86, e253_87, e253_89, e253_92, e253_93, e253_94, e253_96, e253_99, e253_102, e253_105, e253_106, e253_109, e253_110, e253_111, e253_113, e253_116, ↓reduceIte, Bool.false_eq_true, not_false_eq_true, not_true_eq_false, Nat.reduceLeDiff, Nat.reduceAdd, Nat.reduceEqDiff, Int.reduceToNat, Int.toNat_natCast, iB0, iB1, ru_klI, ru_klR, ru_klF, ru_klJ, ru_kl0, ru_cs0, ru_csI, ru_csR, ru_csF, ru_csJ, wI_add, wI_sub, wI_mul, wI_lt, wI_le, wI_inj, ru_fdE, ru_fdN, ru_iaN, ru_baN, ru_laN, ru_qaN, ru_pfN, ru_isN, ru_bsN, ru_jsN, ru_qsN, ru_set2, Nat.add_right_cancel_iff, if_true, if_false, ite_self, Int.reduceEq, and_self, Int.add_neg_cancel_right, Int.add_zero, Int.zero_add, md_e, c, wI_bit, ea, eb, h1, h2, h3, h4, g1, g2, x1, x2, not_true, not_false_iff, Int.natCast_add, Int.natCast_one, Int.add_assoc]
        · by_cases x2 : kyO (shX (mph M k)) (shY (mph M k)) (hoF (mph M k) a) < kyO (shX (mph M k)) (shY (mph M k)) (hoF (mph M k) b)
          · have ec : cnB (tnA (mph M f) (mph M k) s a) (b + 1) = cnB (tnA (mph M f) (mph M k) s a) b + 1 := by rw [cnB, if_pos (by simp [tnA, x1, x2, ea, eb])]
            rw [ec]
            simp (disch := omega) only [e253_32, e253_34, e253_37, e253_38, e253_40, e253_41, e253_42, e253_43, e253_46, e253_47, e253_49, e253_50, e253_51, e253_52, e253_55, e253_58, e253_59, e253_60, e253_61, e253_62, e253_64, e253_67, e253_68, e253_69, e253_71, e253_74, e253_77, e253_79, e253_81, e253_83, e253_84, e253_85, e253_86, e253_87, e253_89, e253_92, e253_93, e253_94, e253_96, e253_99, e253_102, e253_105, e253_106, e253_109, e253_110, e253_111, e253_113, e253_116, ↓reduceIte, Bool.false_eq_true, not_false_eq_true, not_true_eq_false, Nat.reduceLeDiff, Nat.reduceAdd, Nat.reduceEqDiff, Int.reduceToNat, Int.toNat_natCast, iB0, iB1, ru_klI, ru_klR, ru_klF, ru_klJ, ru_kl0, ru_cs0, ru_csI, ru_csR, ru_csF, ru_csJ, wI_add, wI_sub, wI_mul, wI_lt, wI_le, wI_inj, ru_fdE, ru_fdN, ru_iaN, ru_baN, ru_laN, ru_qaN, ru_pfN, ru_isN, ru_bsN, ru_jsN, ru_qsN, ru_set2, Nat.add_right_cancel_iff, if_true, if_false, ite_self, Int.reduceEq, and_self, Int.add_neg_cancel_right, Int.add_zero, Int.zero_add, md_e, c, wI_bit, ea, eb, h1, h2, h3, h4, g1, g2, x1, x2, not_true, not_false_iff, Int.natCast_add, Int.natCast_one, Int.add_assoc]
          · have ec : cnB (tnA (mph M f) (mph M k) s a) (b + 1) = cnB (tnA (mph M f) (mph M k) s a) b := by rw [cnB, if_neg (by simp [tnA, x1, x2]), Nat.add_zero]
            rw [ec]
            simp (disch := omega) only [e253_32, e253_34, e253_37, e253_38, e253_40, e253_41, e253_42, e253_43, e253_46, e253_47, e253_49, e253_50, e253_51, e253_52, e253_55, e253_58, e253_59, e253_60, e253_61, e253_62, e253_64, e253_67, e253_68, e253_69, e253_71, e253_74, e253_77, e253_79, e253_81, e253_83, e253_84, e253_85, e253_86, e253_87, e253_89, e253_92, e253_93, e253_94, e253_96, e253_99, e253_102, e253_105, e253_106, e253_109, e253_110, e253_111, e253_113, e253_116, ↓reduceIte, Bool.false_eq_true, not_false_eq_true, not_true_eq_false, Nat.reduceLeDiff, Nat.reduceAdd, Nat.reduceEqDiff, Int.reduceToNat, Int.toNat_natCast, iB0, iB1, ru_klI, ru_klR, ru_klF, ru_klJ, ru_kl0, ru_cs0, ru_csI, ru_csR, ru_csF, ru_csJ, wI_add, wI_sub, wI_mul, wI_lt, wI_le, wI_inj, ru_fdE, ru_fdN, ru_iaN, ru_baN, ru_laN, ru_qaN, ru_pfN, ru_isN, ru_bsN, ru_jsN, ru_qsN, ru_set2, Nat.add_right_cancel_iff, if_true, if_false, ite_self, Int.reduceEq, and_self, Int.add_neg_cancel_right, Int.add_zero, Int.zero_add, md_e, c, wI_bit, ea, eb, h1, h2, h3, h4, g1, g2, x1, x2, not_true, not_false_iff, Int.natCast_add, Int.natCast_one]
      · obtain ⟨l7', ih1⟩ := ih (b + 1) (by omega) T l7 hT
        refine ⟨l7', ?_⟩
        have ec : cnB (tnA (mph M f) (mph M k) s a) (b + 1) = cnB (tnA (mph M f) (mph M k) s a) b := by rw [cnB, if_neg (by simp [tnA, eb]), Nat.add_zero]
        rw [← ih1, e253_30, ec]
        simp (disch := omega) only [e253_32, e253_34, e253_37, e253_38, e253_40, e253_41, e253_42, e253_43, e253_46, e253_47, e253_49, e253_50, e253_51, e253_52, e253_55, e253_58, e253_59, e253_60, e253_61, e253_62, e253_64, e253_67, e253_68, e253_69, e253_71, e253_74, e253_77, e253_79, e253_81, e253_83, e253_84, e253_85, e253_86, e253_87, e253_89, e253_92, e253_93, e253_94, e253_96, e253_99, e253_102, e253_105, e253_106, e253_109, e253_110, e253_111, e253_113, e253_116, ↓reduceIte, Bool.false_eq_true, not_false_eq_true, not_true_eq_false, Nat.reduceLeDiff, Nat.reduceAdd, Nat.reduceEqDiff, Int.reduceToNat, Int.toNat_natCast, iB0, iB1, ru_klI, ru_klR, ru_klF, ru_klJ, ru_kl0, ru_cs0, ru_csI, ru_csR, ru_csF, ru_csJ, wI_add, wI_sub, wI_mul, wI_lt, wI_le, wI_inj, ru_fdE, ru_fdN, ru_iaN, ru_baN, ru_laN, ru_qaN, ru_pfN, ru_isN, ru_bsN, ru_jsN, ru_qsN, ru_set2, Nat.add_right_cancel_iff, if_true, if_false, ite_self, Int.reduceEq, and_self, Int.add_neg_cancel_right, Int.add_zero, Int.zero_add, md_e, c, wI_bit, ea, eb, not_true, not_false_iff, Int.natCast_add, Int.natCast_one]
    · obtain ⟨l7', ih1⟩ := ih (b + 1) (by omega) T l7 hT
      refine ⟨l7', ?_⟩
      have ec : cnB (tnA (mph M f) (mph M k) s a) (b + 1) = cnB (tnA (mph M f) (mph M k) s a) b := by rw [cnB, if_neg (by simp [tnA, ea]), Nat.add_zero]
      rw [← ih1, e253_30, ec]
      simp (disch := omega) only [e253_32, e253_34, e253_37, e253_38, e253_40, e253_41, e253_42, e253_43, e253_46, e253_47, e253_49, e253_50, e253_51, e253_52, e253_55, e253_58, e253_59, e253_60, e253_61, e253_62, e253_64, e253_67, e253_68, e253_69, e253_71, e253_74, e253_77, e253_79, e253_81, e253_83, e253_84, e253_85, e253_86, e253_87, e253_89, e253_92, e253_93, e253_94, e253_96, e253_99, e253_102, e253_105, e253_106, e253_109, e253_110, e253_111, e253_113, e253_116, ↓reduceIte, Bool.false_eq_true, not_false_eq_true, not_true_eq_false, Nat.reduceLeDiff, Nat.reduceAdd, Nat.reduceEqDiff, Int.reduceToNat, Int.toNat_natCast, iB0, iB1, ru_klI, ru_klR, ru_klF, ru_klJ, ru_kl0, ru_cs0, ru_csI, ru_csR, ru_csF, ru_csJ, wI_add, wI_sub, wI_mul, wI_lt, wI_le, wI_inj, ru_fdE, ru_fdN, ru_iaN, ru_baN, ru_laN, ru_qaN, ru_pfN, ru_isN, ru_bsN, ru_jsN, ru_qsN, ru_set2, Nat.add_right_cancel_iff, if_true, if_false, ite_self, Int.reduceEq, and_self, Int.add_neg_cancel_right, Int.add_zero, Int.zero_add, md_e, c, wI_bit, ea, not_true, not_false_iff, Int.natCast_add, Int.natCast_one]
theorem p253 (hM : mdR M) (hf : f < 5) (hk : k < 5) (n1 : phN (mph M f) (M.1 20)) (n2 : phN (mph M k) (M.1 20)) : ru_ev z 253 [.ref 1315, .int (wI f), .int (wI k)] (mdPut h M) = some (.inl (some (.int (wI (tnT (mph M f) (mph M k) (bsN (nmB (mph M f)) (M.1 20).toNat &&& bsN (nmB (mph M k)) (M.1 20).toNat) (M.1 20).toNat : Nat)))), mdPut h M) := by
  have hN := hM.2.2.2.1
  obtain ⟨N, hNN⟩ := Int.eq_ofNat_of_zero_le hN.1
  rw [hNN, Int.toNat_natCast]
  have q1 := p247 (z := z) (h := h) hM hf
  have q2 := p247 (z := z) (h := h) hM hk
  rw [hNN, Int.toNat_natCast] at q1 q2
  have r1 : bsN (nmB (mph M f)) N < 1048576 := by
    have h1 := bsN_lt (nmB (mph M f)) N
    have h2 : 2 ^ N ≤ 2 ^ 20 := Nat.pow_le_pow_right (by decide) (by omega)
    omega
  have r2 : bsN (nmB (mph M k)) N < 1048576 := by
    have h1 := bsN_lt (nmB (mph M k)) N
    have h2 : 2 ^ N ≤ 2 ^ 20 := Nat.pow_le_pow_right (by decide) (by omega)
    omega
  have hs : bsN (nmB (mph M f)) N &&& bsN (nmB (mph M k)) N < 1048576 := by
    have := @Nat.and_le_left (bsN (nmB (mph M f)) N) (bsN (nmB (mph M k)) N)
    omega
  have hsb : ∀ a, (bsN (nmB (mph M f)) N &&& bsN (nmB (mph M k)) N).testBit a = true → nmB (mph M f) a = true ∧ nmB (mph M k) a = true := fun a ha => by
    rw [Nat.testBit_and, bsN_bit, bsN_bit] at ha
    simp only [Bool.and_eq_true] at ha
    exact ⟨ha.1.2, ha.2.2⟩
  have key : ∀ d a, a + d = N → ∀ (l6 l7 : Option Value), ru_n z 253 18 [some (.ref 1315), some (.int (wI f)), some (.int (wI k)), some (.int (wI (bsN (nmB (mph M f)) N &&& bsN (nmB (mph M k)) N : Nat))), some (.int (wI (tnT (mph M f) (mph M k) (bsN (nmB (mph M f)) N &&& bsN (nmB (mph M k)) N) a : Nat))), some (.int (wI a)), l6, l7] [] (mdPut h M) = some (.inl (some (.int (wI (tnT (mph M f) (mph M k) (bsN (nmB (mph M f)) N &&& bsN (nmB (mph M k)) N) N : Nat)))), mdPut h M) := by
    intro d
    induction d with
    | zero =>
      intro a ha l6 l7
      obtain rfl : a = N := by omega
      have c : ((a : Int) ≤ (a : Int)) = True := eq_true (Int.le_refl _)
      simp (disch := omega) only [e253_18, e253_20, e253_21, e253_24, e253_125, e253_127, ↓reduceIte, Bool.false_eq_true, not_false_eq_true, not_true_eq_false, Nat.reduceLeDiff, Nat.reduceAdd, Nat.reduceEqDiff, Int.reduceToNat, Int.toNat_natCast, iB0, iB1, ru_klI, ru_klR, ru_klF, ru_klJ, ru_kl0, ru_cs0, ru_csI, ru_csR, ru_csF, ru_csJ, wI_add, wI_sub, wI_mul, wI_lt, wI_le, wI_inj, ru_fdE, ru_fdN, ru_iaN, ru_baN, ru_laN, ru_qaN, ru_pfN, ru_isN, ru_bsN, ru_jsN, ru_qsN, ru_set2, Nat.add_right_cancel_iff, if_true, if_false, ite_self, Int.reduceEq, and_self, Int.add_neg_cancel_right, Int.add_zero, Int.zero_add, md_e, md_f0, md_s0, md_f1, md_s1, md_f2, md_f3, md_f4, md_s4, md_f5, md_f6, md_f7, md_s7, md_f8, md_s8, md_f9, md_s9, md_f10, md_s10, md_f11, md_s11, md_f12, md_s12, md_f13, md_s13, md_f14, md_f15, md_s15, md_f16, md_s16, md_f17, md_s17, md_f18, md_s18, md_f19, md_f20, md_s20, md_f21, md_f22, md_s22, md_f23, md_f24, md_s24, md_f25, md_s25, md_f26, md_f27, md_f28, md_s28, md_f29, md_s29, md_f30, md_f31, md_f32, md_f33, md_f34, md_s34, md_f35, md_s35, md_f36, md_f37, md_f38, md_s38, md_a0, md_w0, md_a1, md_w1, md_a2, md_w2, md_a3, md_w3, md_a4, md_w4, md_a5, md_w5, md_a6, md_w6, md_a7, md_w7, md_a8, md_w8, md_a9, md_w9, md_a10, md_w10, md_a11, md_w11, md_a12, md_w12, md_a13, md_w13, md_a14, md_w14, md_a15, md_w15, up1_e, up1_n, mdT_1, mdT_n, mdT_2, mdT_T, hNN, c]
    | succ d ih =>
      intro a ha l6 l7
      have c : ((N : Int) ≤ (a : Int)) = False := eq_false (by omega)
      have hT := tnT_le (mph M f) (mph M k) (bsN (nmB (mph M f)) N &&& bsN (nmB (mph M k)) N) a (by omega)
      obtain ⟨l7', hin⟩ := p253i (z := z) (h := h) hM hf hk n1 n2 hs hsb (show a < 20 by omega) a 0 (by omega) (tnT (mph M f) (mph M k) (bsN (nmB (mph M f)) N &&& bsN (nmB (mph M k)) N) a) l7 (by omega)
      have e0 : cnB (tnA (mph M f) (mph M k) (bsN (nmB (mph M f)) N &&& bsN (nmB (mph M k)) N) a) 0 = 0 := rfl
      rw [e0, Nat.add_zero, show ((0 : Nat) : Int) = 0 from rfl] at hin
      rw [← ih (a + 1) (by omega) (some (.int (wI a))) l7', e253_18]
      have eT : tnT (mph M f) (mph M k) (bsN (nmB (mph M f)) N &&& bsN (nmB (mph M k)) N) (a + 1) = tnT (mph M f) (mph M k) (bsN (nmB (mph M f)) N &&& bsN (nmB (mph M k)) N) a + cnB (tnA (mph M f) (mph M k) (bsN (nmB (mph M f)) N &&& bsN (nmB (mph M k)) N) a) a := rfl
      rw [eT]
      simp (disch := omega) only [e253_20, e253_21, e253_24, e253_27, e253_28, ↓reduceIte, Bool.false_eq_true, not_false_eq_true, not_true_eq_false, Nat.reduceLeDiff, Nat.reduceAdd, Nat.reduceEqDiff, Int.reduceToNat, Int.toNat_natCast, iB0, iB1, ru_klI, ru_klR, ru_klF, ru_klJ, ru_kl0, ru_cs0, ru_csI, ru_csR, ru_csF, ru_csJ, wI_add, wI_sub, wI_mul, wI_lt, wI_le, wI_inj, ru_fdE, ru_fdN, ru_iaN, ru_baN, ru_laN, ru_qaN, ru_pfN, ru_isN, ru_bsN, ru_jsN, ru_qsN, ru_set2, Nat.add_right_cancel_iff, if_true, if_false, ite_self, Int.reduceEq, and_self, Int.add_neg_cancel_right, Int.add_zero, Int.zero_add, md_e, md_f0, md_s0, md_f1, md_s1, md_f2, md_f3, md_f4, md_s4, md_f5, md_f6, md_f7, md_s7, md_f8, md_s8, md_f9, md_s9, md_f10, md_s10, md_f11, md_s11, md_f12, md_s12, md_f13, md_s13, md_f14, md_f15, md_s15, md_f16, md_s16, md_f17, md_s17, md_f18, md_s18, md_f19, md_f20, md_s20, md_f21, md_f22, md_s22, md_f23, md_f24, md_s24, md_f25, md_s25, md_f26, md_f27, md_f28, md_s28, md_f29, md_s29, md_f30, md_f31, md_f32, md_f33, md_f34, md_s34, md_f35, md_s35, md_f36, md_f37, md_f38, md_s38, md_a0, md_w0, md_a1, md_w1, md_a2, md_w2, md_a3, md_w3, md_a4, md_w4, md_a5, md_w5, md_a6, md_w6, md_a7, md_w7, md_a8, md_w8, md_a9, md_w9, md_a10, md_w10, md_a11, md_w11, md_a12, md_w12, md_a13, md_w13, md_a14, md_w14, md_a15, md_w15, up1_e, up1_n, mdT_1, mdT_n, mdT_2, mdT_T, hNN, c, hin]
      simp (disch := omega) only [e253_119, e253_122, ↓reduceIte, Bool.false_eq_true, not_false_eq_true, not_true_eq_false, Nat.reduceLeDiff, Nat.reduceAdd, Nat.reduceEqDiff, Int.reduceToNat, Int.toNat_natCast, iB0, iB1, ru_klI, ru_klR, ru_klF, ru_klJ, ru_kl0, ru_cs0, ru_csI, ru_csR, ru_csF, ru_csJ, wI_add, wI_sub, wI_mul, wI_lt, wI_le, wI_inj, ru_fdE, ru_fdN, ru_iaN, ru_baN, ru_laN, ru_qaN, ru_pfN, ru_isN, ru_bsN, ru_jsN, ru_qsN, ru_set2, Nat.add_right_cancel_iff, if_true, if_false, ite_self, Int.reduceEq, and_self, Int.add_neg_cancel_right, Int.add_zero, Int.zero_add, Int.natCast_add, Int.natCast_one]
  have k0 := key N 0 (by omega) none none
  have e0 : ((tnT (mph M f) (mph M k) (bsN (nmB (mph M f)) N &&& bsN (nmB (mph M k)) N) 0 : Nat) : Int) = 0 := rfl
  rw [e0, show ((0 : Nat) : Int) = 0 from rfl] at k0
  simp (disch := omega) only [en253, e253_0, e253_1, e253_2, e253_5, e253_6, e253_7, e253_10, e253_11, e253_12, e253_13, e253_15, e253_16, ↓reduceIte, Bool.false_eq_true, not_false_eq_true, not_true_eq_false, Nat.reduceLeDiff, Nat.reduceAdd, Nat.reduceEqDiff, Int.reduceToNat, Int.toNat_natCast, iB0, iB1, ru_klI, ru_klR, ru_klF, ru_klJ, ru_kl0, ru_cs0, ru_csI, ru_csR, ru_csF, ru_csJ, wI_add, wI_sub, wI_mul, wI_lt, wI_le, wI_inj, ru_fdE, ru_fdN, ru_iaN, ru_baN, ru_laN, ru_qaN, ru_pfN, ru_isN, ru_bsN, ru_jsN, ru_qsN, ru_set2, Nat.add_right_cancel_iff, if_true, if_false, ite_self, Int.reduceEq, and_self, Int.add_neg_cancel_right, Int.add_zero, Int.zero_add, md_e, q1, q2, wI_nat_and, k0]
end INV2
/-! ===== pairs of places against pairs of names ===== -/
theorem cnB_app (P : Nat → Bool) (n : Nat) : ∀ m, cnB P (n + m) = cnB P n + cnB (fun j => P (n + j)) m
  | 0 => rfl
  | m + 1 => by rw [← Nat.add_assoc, cnB, cnB_app P n m, cnB]; omega
theorem ivT_cn (L : Nat → Int) {n : Nat} (hn : 0 < n) : ∀ i, ivT L n i = cnB (fun p => ivA L (p / n) (p % n)) (i * n)
  | 0 => by rw [Nat.zero_mul]; rfl
  | i + 1 => by
    rw [ivT, ivT_cn L hn i, Nat.succ_mul, cnB_app]
    congr 1
    refine cnB_congr fun j hj => ?_
    rw [show (i * n + j) / n = i by rw [Nat.mul_comm, Nat.mul_add_div hn, Nat.div_eq_of_lt hj]; rfl, show (i * n + j) % n = j by rw [Nat.mul_comm, Nat.mul_add_mod, Nat.mod_eq_of_lt hj]]
theorem tnT_cn (q p : tPh) (s : Nat) : ∀ a, a ≤ 20 → tnT q p s a = cnB (fun c => decide (c % 20 < c / 20) && tnA q p s (c / 20) (c % 20)) (a * 20)
  | 0, _ => by rw [Nat.zero_mul]; rfl
  | a + 1, ha => by
    rw [tnT, tnT_cn q p s a (by omega), Nat.succ_mul, cnB_app]
    congr 1
    refine cnB_ext (by omega) (fun j hj => ?_) (fun j h1 h2 => ?_)
    · rw [show (a * 20 + j) / 20 = a by omega, show (a * 20 + j) % 20 = j by omega, decide_eq_true hj, Bool.true_and]
    · rw [show (a * 20 + j) / 20 = a by omega, show (a * 20 + j) % 20 = j by omega, decide_eq_false (by omega)]; simp
