/-! ===== mostSeen: the reference ===== -/
theorem ltR_b {M : tMd} {a k : Nat} (h : ltR (wF M 5 a)) (hk : k < 8) : 0 ≤ wF M 5 a k ∧ wF M 5 a k ≤ 122 := by
  have := h k hk; omega
theorem agN_b {f g : Nat → Int} (hf : ltR f) (hg : ltR g) : ∀ d k, k + d ≤ 8 → -122 ≤ agN f g d k ∧ agN f g d k ≤ 122
  | 0, _, _ => by show -122 ≤ (0 : Int) ∧ (0 : Int) ≤ 122; omega
  | d + 1, k, hk => by
    have a := hf k (by omega)
    have b := hg k (by omega)
    have c := agN_b hf hg d (k + 1) (by omega)
    show -122 ≤ (if f k = g k then agN f g d (k + 1) else f k - g k) ∧ (if f k = g k then agN f g d (k + 1) else f k - g k) ≤ 122
    split
    · exact c
    · omega
section SEEN2
variable {z : Bool} {h : am_H} {M : tMd}
theorem p242l {a b : Nat} (ha : a + 8 ≤ 320) (hb : b + 8 ≤ 320) (ra : ltR (wF M 5 a)) (rb : ltR (wF M 5 b)) : ∀ d k : Nat, k + d = 8 → ru_n z 242 2 [some (.ref 1315), some (.int (wI a)), some (.int (wI b)), some (.int (wI k))] [] (mdPut h M) = some (.inl (some (.int (wI (agN (wF M 5 a) (wF M 5 b) d k)))), mdPut h M) := by
  intro d
  induction d with
  | zero =>
    intro k hk
    obtain rfl : k = 8 := by omega
    simp (disch := omega) only [e242_2, e242_3, e242_5, e242_8, e242_9, e242_12, e242_13, e242_14, e242_15, e242_16, e242_17, e242_20, e242_21, e242_22, e242_23, e242_24, e242_27, e242_28, e242_31, e242_32, e242_33, e242_34, e242_35, e242_36, e242_39, e242_40, e242_41, e242_42, e242_43, e242_44, e242_45, e242_48, e242_51, e242_52, ↓reduceIte, Bool.false_eq_true, not_false_eq_true, not_true_eq_false, Nat.reduceLeDiff, Nat.reduceAdd, Nat.reduceEqDiff, Int.reduceToNat, Int.toNat_natCast, iB0, iB1, ru_klI, ru_klR, ru_klF, ru_klJ, ru_kl0, ru_cs0, ru_csI, ru_csR, ru_csF, ru_csJ, wI_add, wI_sub, wI_mul, wI_lt, wI_le, wI_inj, ru_fdE, ru_fdN, ru_iaN, ru_baN, ru_laN, ru_qaN, ru_pfN, ru_isN, ru_bsN, ru_jsN, ru_qsN, ru_set2, Nat.add_right_cancel_iff, if_true, if_false, ite_self, Int.reduceEq, and_self, Int.add_neg_cancel_right, Int.add_zero, Int.zero_add, show (((8 : Nat) : Int)) = 8 from rfl, Int.le_refl]
    rfl
  | succ d ih =>
    intro k hk
    have c : ((8 : Int) ≤ (k : Int)) = False := eq_false (by omega)
    have e1 := md_a5 (h := h) (M := M) (i := (a : Int) + (k : Int)) (by omega) (by omega)
    rw [show ((a : Int) + (k : Int)).toNat = a + k by omega] at e1
    have e1 : am_ia (mdPut h M) 1321 (wI ((a : Int) + (k : Int))) = some (wI (wF M 5 a k)) := e1
    have e2 := md_a5 (h := h) (M := M) (i := (b : Int) + (k : Int)) (by omega) (by omega)
    rw [show ((b : Int) + (k : Int)).toNat = b + k by omega] at e2
    have e2 : am_ia (mdPut h M) 1321 (wI ((b : Int) + (k : Int))) = some (wI (wF M 5 b k)) := e2
    have b1 := ltR_b ra (show k < 8 by omega)
    have b2 := ltR_b rb (show k < 8 by omega)
    have eA : agN (wF M 5 a) (wF M 5 b) (d + 1) k = if wF M 5 a k = wF M 5 b k then agN (wF M 5 a) (wF M 5 b) d (k + 1) else wF M 5 a k - wF M 5 b k := rfl
    rw [eA, e242_2]
    by_cases e : wF M 5 a k = wF M 5 b k
    · rw [if_pos e]
      have ih1 := ih (k + 1) (by omega)
      have d1 : (wF M 5 a k = wF M 5 b k) = True := eq_true e
      simp only [Int.natCast_add, Int.natCast_one] at ih1
      simp (disch := omega) only [e242_3, e242_5, e242_8, e242_9, e242_12, e242_13, e242_14, e242_15, e242_16, e242_17, e242_20, e242_21, e242_22, e242_23, e242_24, e242_27, e242_28, e242_31, e242_32, e242_33, e242_34, e242_35, e242_36, e242_39, e242_40, e242_41, e242_42, e242_43, e242_44, e242_45, e242_48, e242_51, e242_52, ↓reduceIte, Bool.false_eq_true, not_false_eq_true, not_true_eq_false, Nat.reduceLeDiff, Nat.reduceAdd, Nat.reduceEqDiff, Int.reduceToNat, Int.toNat_natCast, iB0, iB1, ru_klI, ru_klR, ru_klF, ru_klJ, ru_kl0, ru_cs0, ru_csI, ru_csR, ru_csF, ru_csJ, wI_add, wI_sub, wI_mul, wI_lt, wI_le, wI_inj, ru_fdE, ru_fdN, ru_iaN, ru_baN, ru_laN, ru_qaN, ru_pfN, ru_isN, ru_bsN, ru_jsN, ru_qsN, ru_set2, Nat.add_right_cancel_iff, if_true, if_false, ite_self, Int.reduceEq, and_self, Int.add_neg_cancel_right, Int.add_zero, Int.zero_add, md_e, md_f19, c, e1, e2, d1]
      exact ih1
    · rw [if_neg e]
      have d1 : (wF M 5 a k = wF M 5 b k) = False := eq_false e
      simp (disch := omega) only [e242_3, e242_5, e242_8, e242_9, e242_12, e242_13, e242_14, e242_15, e242_16, e242_17, e242_20, e242_21, e242_22, e242_23, e242_24, e242_27, e242_28, e242_31, e242_32, e242_33, e242_34, e242_35, e242_36, e242_39, e242_40, e242_41, e242_42, e242_43, e242_44, e242_45, e242_48, e242_51, e242_52, ↓reduceIte, Bool.false_eq_true, not_false_eq_true, not_true_eq_false, Nat.reduceLeDiff, Nat.reduceAdd, Nat.reduceEqDiff, Int.reduceToNat, Int.toNat_natCast, iB0, iB1, ru_klI, ru_klR, ru_klF, ru_klJ, ru_kl0, ru_cs0, ru_csI, ru_csR, ru_csF, ru_csJ, wI_add, wI_sub, wI_mul, wI_lt, wI_le, wI_inj, ru_fdE, ru_fdN, ru_iaN, ru_baN, ru_laN, ru_qaN, ru_pfN, ru_isN, ru_bsN, ru_jsN, ru_qsN, ru_set2, Nat.add_right_cancel_iff, if_true, if_false, ite_self, Int.reduceEq, and_self, Int.add_neg_cancel_right, Int.add_zero, Int.zero_add, md_e, md_f19, c, e1, e2, d1]
theorem p242 {a b : Nat} (ha : a + 8 ≤ 320) (hb : b + 8 ≤ 320) (ra : ltR (wF M 5 a)) (rb : ltR (wF M 5 b)) : ru_ev z 242 [.ref 1315, .int (wI a), .int (wI b)] (mdPut h M) = some (.inl (some (.int (wI (agN (wF M 5 a) (wF M 5 b) 8 0)))), mdPut h M) := by
  have k := p242l (z := z) (h := h) ha hb ra rb 8 0 (by omega)
  simp (disch := omega) only [e242_0, e242_1, en242, ↓reduceIte, Bool.false_eq_true, not_false_eq_true, not_true_eq_false, Nat.reduceLeDiff, Nat.reduceAdd, Nat.reduceEqDiff, Int.reduceToNat, Int.toNat_natCast, iB0, iB1, ru_klI, ru_klR, ru_klF, ru_klJ, ru_kl0, ru_cs0, ru_csI, ru_csR, ru_csF, ru_csJ, wI_add, wI_sub, wI_mul, wI_lt, wI_le, wI_inj, ru_fdE, ru_fdN, ru_iaN, ru_baN, ru_laN, ru_qaN, ru_pfN, ru_isN, ru_bsN, ru_jsN, ru_qsN, ru_set2, Nat.add_right_cancel_iff, if_true, if_false, ite_self, Int.reduceEq, and_self, Int.add_neg_cancel_right, Int.add_zero, Int.zero_add, md_e]
  exact k
theorem tsN_b (hM : mdR M) (n : Nat) : tsN M n ≤ 5 := by
  have := cnB_le (pwM M n) (M.1 25).toNat
  have := hM.2.2.2.2.1
  unfold tsN
  omega
theorem p230m (hM : mdR M) {n : Nat} (hn : n < 20) : ru_ev z 230 [.ref 1315, .int (wI n)] (mdPut h M) = some (.inl (some (.int (wI (bsN (pwM M n) (M.1 25).toNat : Nat)))), mdPut h M) ∧ ∀ H, ru_ev z 126 [.int (wI (bsN (pwM M n) (M.1 25).toNat : Nat))] H = some (.inl (some (.int (wI (tsN M n : Nat)))), H) := by
  refine ⟨p230 hM hn, fun H => ?_⟩
  have r := hM.2.2.2.2.1
  have b := bsN_b (P := pwM M n) (k := (M.1 25).toNat) (by omega)
  have e := p126 (z := z) (h := H) (s := bsN (pwM M n) (M.1 25).toNat) (by omega)
  rw [pcN_bs _ 12 _ (by omega)] at e
  exact e
theorem p241 (hM : mdR M) {N : Nat} (hN : N ≤ 20) (hw : nmW M N) {a b : Nat} (ha : a < N) (hb : b < N) : ru_ev z 241 [.ref 1315, .int (wI a), .int (wI b)] (mdPut h M) = some (.inl (some (.int (wI (if bfM M a b = true then 1 else 0)))), mdPut h M) := by
  obtain ⟨a1, a2, -⟩ := hw a ha
  obtain ⟨b1, b2, -⟩ := hw b hb
  obtain ⟨k1, k2⟩ := p230m (z := z) (h := h) hM (n := a) (by omega)
  obtain ⟨k3, k4⟩ := p230m (z := z) (h := h) hM (n := b) (by omega)
  have t1 := tsN_b hM a
  have t2 := tsN_b hM b
  have l1 := p242 (z := z) (h := h) (M := M) (a := 16 * a + 8) (b := 16 * b + 8) (by omega) (by omega) a2.1 b2.1
  have l2 := p242 (z := z) (h := h) (M := M) (a := 16 * a) (b := 16 * b) (by omega) (by omega) a1.1 b1.1
  have g1 := agN_b a2.1 b2.1 8 0 (by omega)
  have g2 := agN_b a1.1 b1.1 8 0 (by omega)
  simp only [Int.natCast_add, Int.natCast_mul, show ((16 : Nat) : Int) = 16 from rfl, show ((8 : Nat) : Int) = 8 from rfl] at l1 l2
  unfold bfM
  simp only [decide_eq_true_eq]
  generalize agN (wl M a) (wl M b) 8 0 = X at *
  generalize agN (wf M a) (wf M b) 8 0 = Y at *
  simp (disch := omega) only [en241, e241_0, e241_1, e241_2, e241_5, e241_8, e241_9, e241_10, e241_13, e241_16, e241_17, e241_18, e241_19, e241_22, e241_23, e241_26, e241_27, e241_30, e241_31, e241_32, e241_33, e241_35, e241_36, e241_37, e241_39, e241_40, e241_42, e241_43, e241_44, e241_46, e241_47, e241_50, e241_52, e241_54, e241_57, e241_59, e241_62, e241_63, e241_66, e241_67, e241_70, e241_71, e241_73, e241_74, e241_75, e241_77, e241_78, e241_79, e241_82, e241_85, e241_86, e241_89, e241_90, ↓reduceIte, Bool.false_eq_true, not_false_eq_true, not_true_eq_false, Nat.reduceLeDiff, Nat.reduceAdd, Nat.reduceEqDiff, Int.reduceToNat, Int.toNat_natCast, iB0, iB1, ru_klI, ru_klR, ru_klF, ru_klJ, ru_kl0, ru_cs0, ru_csI, ru_csR, ru_csF, ru_csJ, wI_add, wI_sub, wI_mul, wI_lt, wI_le, wI_inj, ru_fdE, ru_fdN, ru_iaN, ru_baN, ru_laN, ru_qaN, ru_pfN, ru_isN, ru_bsN, ru_jsN, ru_qsN, ru_set2, Nat.add_right_cancel_iff, if_true, if_false, ite_self, Int.reduceEq, and_self, Int.add_neg_cancel_right, Int.add_zero, Int.zero_add, md_e, k1, k2, k3, k4, l1, l2, wI_and1]
  repeat' split
  all_goals first | rfl | (exfalso; omega)
theorem p240i (hM : mdR M) {N : Nat} (hN : N ≤ 20) (h20 : M.1 20 = (N : Int)) (hw : nmW M N) {n : Nat} (hn : n < N) {l1 l2 : Option Value} : ∀ d o : Nat, o + d = N → ru_n z 240 35 [some (.ref 1315), l1, l2, some (.int (wI n)), some (.int (wI (cnB (fun o => bfM M o n) o : Nat))), some (.int (wI o))] [] (mdPut h M) = ru_n z 240 76 [some (.ref 1315), l1, l2, some (.int (wI n)), some (.int (wI (ahN M N n : Nat))), some (.int (wI N))] [] (mdPut h M) := by
  intro d
  induction d with
  | zero =>
    intro o ho
    obtain rfl : o = N := by omega
    simp (disch := omega) only [e240_35, e240_37, e240_38, e240_41, ↓reduceIte, Bool.false_eq_true, not_false_eq_true, not_true_eq_false, Nat.reduceLeDiff, Nat.reduceAdd, Nat.reduceEqDiff, Int.reduceToNat, Int.toNat_natCast, iB0, iB1, ru_klI, ru_klR, ru_klF, ru_klJ, ru_kl0, ru_cs0, ru_csI, ru_csR, ru_csF, ru_csJ, wI_add, wI_sub, wI_mul, wI_lt, wI_le, wI_inj, ru_fdE, ru_fdN, ru_iaN, ru_baN, ru_laN, ru_qaN, ru_pfN, ru_isN, ru_bsN, ru_jsN, ru_qsN, ru_set2, Nat.add_right_cancel_iff, if_true, if_false, ite_self, Int.reduceEq, and_self, Int.add_neg_cancel_right, Int.add_zero, Int.zero_add, md_e, md_f20, h20, Int.le_refl]
    rfl
  | succ d ih =>
    intro o ho
    have c : ((N : Int) ≤ (o : Int)) = False := eq_false (by omega)
    have ih1 := ih (o + 1) (by omega)
    have es : cnB (fun o => bfM M o n) (o + 1) = cnB (fun o => bfM M o n) o + (if bfM M o n = true then 1 else 0) := rfl
    have b := cnB_le (fun o => bfM M o n) o
    rw [es] at ih1
    simp only [Int.natCast_add, Int.natCast_one] at ih1
    rw [← ih1, e240_35]
    by_cases e : o = n
    · subst e
      rw [bfM_irr]
      simp (disch := omega) only [e240_37, e240_38, e240_41, e240_44, e240_46, e240_48, e240_49, e240_52, e240_53, e240_55, e240_56, e240_59, e240_62, e240_63, e240_66, e240_67, e240_68, e240_70, e240_73, ↓reduceIte, Bool.false_eq_true, not_false_eq_true, not_true_eq_false, Nat.reduceLeDiff, Nat.reduceAdd, Nat.reduceEqDiff, Int.reduceToNat, Int.toNat_natCast, iB0, iB1, ru_klI, ru_klR, ru_klF, ru_klJ, ru_kl0, ru_cs0, ru_csI, ru_csR, ru_csF, ru_csJ, wI_add, wI_sub, wI_mul, wI_lt, wI_le, wI_inj, ru_fdE, ru_fdN, ru_iaN, ru_baN, ru_laN, ru_qaN, ru_pfN, ru_isN, ru_bsN, ru_jsN, ru_qsN, ru_set2, Nat.add_right_cancel_iff, if_true, if_false, ite_self, Int.reduceEq, and_self, Int.add_neg_cancel_right, Int.add_zero, Int.zero_add, md_e, md_f20, h20, c, Int.natCast_zero]
    · have k := p241 (z := z) (h := h) hM hN hw (a := o) (b := n) (by omega) hn
      have d1 : ((o : Int) = (n : Int)) = False := eq_false (by omega)
      by_cases e2 : bfM M o n = true
      · rw [if_pos e2] at k ⊢
        simp (disch := omega) only [e240_37, e240_38, e240_41, e240_44, e240_46, e240_48, e240_49, e240_52, e240_53, e240_55, e240_56, e240_59, e240_62, e240_63, e240_66, e240_67, e240_68, e240_70, e240_73, ↓reduceIte, Bool.false_eq_true, not_false_eq_true, not_true_eq_false, Nat.reduceLeDiff, Nat.reduceAdd, Nat.reduceEqDiff, Int.reduceToNat, Int.toNat_natCast, iB0, iB1, ru_klI, ru_klR, ru_klF, ru_klJ, ru_kl0, ru_cs0, ru_csI, ru_csR, ru_csF, ru_csJ, wI_add, wI_sub, wI_mul, wI_lt, wI_le, wI_inj, ru_fdE, ru_fdN, ru_iaN, ru_baN, ru_laN, ru_qaN, ru_pfN, ru_isN, ru_bsN, ru_jsN, ru_qsN, ru_set2, Nat.add_right_cancel_iff, if_true, if_false, ite_self, Int.reduceEq, and_self, Int.add_neg_cancel_right, Int.add_zero, Int.zero_add, md_e, md_f20, h20, c, d1, k, Int.natCast_one]
      · rw [if_neg e2] at k ⊢
        simp (disch := omega) only [e240_37, e240_38, e240_41, e240_44, e240_46, e240_48, e240_49, e240_52, e240_53, e240_55, e240_56, e240_59, e240_62, e240_63, e240_66, e240_67, e240_68, e240_70, e240_73, ↓reduceIte, Bool.false_eq_true, not_false_eq_true, not_true_eq_false, Nat.reduceLeDiff, Nat.reduceAdd, Nat.reduceEqDiff, Int.reduceToNat, Int.toNat_natCast, iB0, iB1, ru_klI, ru_klR, ru_klF, ru_klJ, ru_kl0, ru_cs0, ru_csI, ru_csR, ru_csF, ru_csJ, wI_add, wI_sub, wI_mul, wI_lt, wI_le, wI_inj, ru_fdE, ru_fdN, ru_iaN, ru_baN, ru_laN, ru_qaN, ru_pfN, ru_isN, ru_bsN, ru_jsN, ru_qsN, ru_set2, Nat.add_right_cancel_iff, if_true, if_false, ite_self, Int.reduceEq, and_self, Int.add_neg_cancel_right, Int.add_zero, Int.zero_add, md_e, md_f20, h20, c, d1, k, Int.natCast_zero]
/-- the last name whose rank it is among the first ones; 0: none -/
def lsN (M : tMd) (N : Nat) (r : Int) : Nat → Int
  | 0 => 0
  | n + 1 => if (ahN M N n : Int) = r then (n : Int) else lsN M N r n
theorem lsN_sp (M : tMd) (N : Nat) (r : Int) : ∀ n, (lsN M N r n = 0 ∧ ∀ o, o < n → ¬ (ahN M N o : Int) = r) ∨ ∃ o : Nat, o < n ∧ lsN M N r n = (o : Int) ∧ (ahN M N o : Int) = r
  | 0 => Or.inl ⟨rfl, fun o ho => absurd ho (Nat.not_lt_zero _)⟩
  | n + 1 => by
    show ((if (ahN M N n : Int) = r then (n : Int) else lsN M N r n) = 0 ∧ _) ∨ ∃ o : Nat, o < n + 1 ∧ (if (ahN M N n : Int) = r then (n : Int) else lsN M N r n) = (o : Int) ∧ _
    by_cases e : (ahN M N n : Int) = r
    · right; rw [if_pos e]; exact ⟨n, Nat.lt_succ_self _, rfl, e⟩
    · rw [if_neg e]
      rcases lsN_sp M N r n with ⟨h1, h2⟩ | ⟨o, h1, h2, h3⟩
      · left
        refine ⟨h1, fun o ho => ?_⟩
        by_cases e2 : o = n
        · rw [e2]; exact e
        · exact h2 o (by omega)
      · right; exact ⟨o, by omega, h2, h3⟩
theorem lsN_T (M : tMd) (t : Int) (N : Nat) (r : Int) : ∀ n, lsN (mdT M t) N r n = lsN M N r n
  | 0 => rfl
  | n + 1 => by
    have e : ahN (mdT M t) N n = ahN M N n := rfl
    show (if (ahN (mdT M t) N n : Int) = r then (n : Int) else lsN (mdT M t) N r n) = (if (ahN M N n : Int) = r then (n : Int) else lsN M N r n)
    rw [lsN_T M t N r n, e]
theorem p240l (hM : mdR M) {N : Nat} (hN : N ≤ 20) (h20 : M.1 20 = (N : Int)) (hw : nmW M N) {r : Int} (hr : -2147483648 ≤ r ∧ r < 2147483648) : ∀ d n : Nat, n + d = N → ∀ l4 l5 : Option Value, ru_n z 240 21 [some (.ref 1315), some (.int (wI r)), some (.int (wI (lsN M N r n))), some (.int (wI n)), l4, l5] [] (mdPut h M) = some (.inl (some (.int (wI (lsN M N r N)))), mdPut h M) := by
  intro d
  induction d with
  | zero =>
    intro n hn l4 l5
    obtain rfl : n = N := by omega
    simp (disch := omega) only [e240_21, e240_22, e240_23, e240_26, e240_94, e240_95, ↓reduceIte, Bool.false_eq_true, not_false_eq_true, not_true_eq_false, Nat.reduceLeDiff, Nat.reduceAdd, Nat.reduceEqDiff, Int.reduceToNat, Int.toNat_natCast, iB0, iB1, ru_klI, ru_klR, ru_klF, ru_klJ, ru_kl0, ru_cs0, ru_csI, ru_csR, ru_csF, ru_csJ, wI_add, wI_sub, wI_mul, wI_lt, wI_le, wI_inj, ru_fdE, ru_fdN, ru_iaN, ru_baN, ru_laN, ru_qaN, ru_pfN, ru_isN, ru_bsN, ru_jsN, ru_qsN, ru_set2, Nat.add_right_cancel_iff, if_true, if_false, ite_self, Int.reduceEq, and_self, Int.add_neg_cancel_right, Int.add_zero, Int.zero_add, md_e, md_f20, h20, Int.le_refl]
  | succ d ih =>
    intro n hn l4 l5
    have c : ((N : Int) ≤ (n : Int)) = False := eq_false (by omega)
    have ih1 := ih (n + 1) (by omega) (some (.int (wI (ahN M N n : Nat)))) (some (.int (wI N)))
    have es : lsN M N r (n + 1) = if (ahN M N n : Int) = r then (n : Int) else lsN M N r n := rfl
    have b : ahN M N n ≤ N := cnB_le _ _
    have k := p240i (z := z) (h := h) hM hN h20 hw (n := n) (by omega) (l1 := some (.int (wI r))) (l2 := some (.int (wI (lsN M N r n)))) N 0 (by omega)
    rw [show (((cnB (fun o => bfM M o n) 0 : Nat)) : Int) = 0 from rfl, show ((0 : Nat) : Int) = 0 from rfl] at k
    rw [es] at ih1
    simp only [Int.natCast_add, Int.natCast_one] at ih1
    by_cases e : (ahN M N n : Int) = r
    · rw [if_pos e] at ih1
      have d1 : ((ahN M N n : Int) = r) = True := eq_true e
      rw [← ih1, e240_21]
      simp (disch := omega) only [e240_22, e240_23, e240_26, e240_29, e240_30, e240_32, e240_33, ↓reduceIte, Bool.false_eq_true, not_false_eq_true, not_true_eq_false, Nat.reduceLeDiff, Nat.reduceAdd, Nat.reduceEqDiff, Int.reduceToNat, Int.toNat_natCast, iB0, iB1, ru_klI, ru_klR, ru_klF, ru_klJ, ru_kl0, ru_cs0, ru_csI, ru_csR, ru_csF, ru_csJ, wI_add, wI_sub, wI_mul, wI_lt, wI_le, wI_inj, ru_fdE, ru_fdN, ru_iaN, ru_baN, ru_laN, ru_qaN, ru_pfN, ru_isN, ru_bsN, ru_jsN, ru_qsN, ru_set2, Nat.add_right_cancel_iff, if_true, if_false, ite_self, Int.reduceEq, and_self, Int.add_neg_cancel_right, Int.add_zero, Int.zero_add, md_e, md_f20, h20, c]
      rw [k]
      simp (disch := omega) only [e240_76, e240_78, e240_79, e240_82, e240_83, e240_86, e240_87, e240_88, e240_91, ↓reduceIte, Bool.false_eq_true, not_false_eq_true, not_true_eq_false, Nat.reduceLeDiff, Nat.reduceAdd, Nat.reduceEqDiff, Int.reduceToNat, Int.toNat_natCast, iB0, iB1, ru_klI, ru_klR, ru_klF, ru_klJ, ru_kl0, ru_cs0, ru_csI, ru_csR, ru_csF, ru_csJ, wI_add, wI_sub, wI_mul, wI_lt, wI_le, wI_inj, ru_fdE, ru_fdN, ru_iaN, ru_baN, ru_laN, ru_qaN, ru_pfN, ru_isN, ru_bsN, ru_jsN, ru_qsN, ru_set2, Nat.add_right_cancel_iff, if_true, if_false, ite_self, Int.reduceEq, and_self, Int.add_neg_cancel_right, Int.add_zero, Int.zero_add, d1]
    · rw [if_neg e] at ih1
      have d1 : ((ahN M N n : Int) = r) = False := eq_false e
      rw [← ih1, e240_21]
      simp (disch := omega) only [e240_22, e240_23, e240_26, e240_29, e240_30, e240_32, e240_33, ↓reduceIte, Bool.false_eq_true, not_false_eq_true, not_true_eq_false, Nat.reduceLeDiff, Nat.reduceAdd, Nat.reduceEqDiff, Int.reduceToNat, Int.toNat_natCast, iB0, iB1, ru_klI, ru_klR, ru_klF, ru_klJ, ru_kl0, ru_cs0, ru_csI, ru_csR, ru_csF, ru_csJ, wI_add, wI_sub, wI_mul, wI_lt, wI_le, wI_inj, ru_fdE, ru_fdN, ru_iaN, ru_baN, ru_laN, ru_qaN, ru_pfN, ru_isN, ru_bsN, ru_jsN, ru_qsN, ru_set2, Nat.add_right_cancel_iff, if_true, if_false, ite_self, Int.reduceEq, and_self, Int.add_neg_cancel_right, Int.add_zero, Int.zero_add, md_e, md_f20, h20, c]
      rw [k]
      simp (disch := omega) only [e240_76, e240_78, e240_79, e240_82, e240_83, e240_86, e240_87, e240_88, e240_91, ↓reduceIte, Bool.false_eq_true, not_false_eq_true, not_true_eq_false, Nat.reduceLeDiff, Nat.reduceAdd, Nat.reduceEqDiff, Int.reduceToNat, Int.toNat_natCast, iB0, iB1, ru_klI, ru_klR, ru_klF, ru_klJ, ru_kl0, ru_cs0, ru_csI, ru_csR, ru_csF, ru_csJ, wI_add, wI_sub, wI_mul, wI_lt, wI_le, wI_inj, ru_fdE, ru_fdN, ru_iaN, ru_baN, ru_laN, ru_qaN, ru_pfN, ru_isN, ru_bsN, ru_jsN, ru_qsN, ru_set2, Nat.add_right_cancel_iff, if_true, if_false, ite_self, Int.reduceEq, and_self, Int.add_neg_cancel_right, Int.add_zero, Int.zero_add, d1]
theorem p240 (hM : mdR M) {r : Int} (g : -2147483648 ≤ r ∧ r < 2147483648) (hw : M.1 1 = 1 → nmW M (M.1 20).toNat) : ru_ev z 240 [.ref 1315, .int (wI r)] (mdPut h M) = some (.inl (some (.int (wI (if rfN1 M r = 0 then lsN M (M.1 20).toNat r (M.1 20).toNat else 0)))), mdPut h (mdT M (rfN1 M r))) := by
  have r2 := hM.2.2.2.1
  have r1 := hM.2.1
  have e1 := p118 (z := z) (h := h) hM
  have e2 := p218 (z := z) (h := h) hM g
  unfold rfN1
  by_cases e : M.1 1 = 0
  · simp only [e, if_true] at e1 ⊢
    simp (disch := omega) only [en240, e240_0, e240_1, e240_4, e240_7, e240_8, e240_9, e240_12, e240_15, e240_16, e240_17, e240_18, e240_19, e240_20, e240_21, e240_22, e240_23, e240_26, e240_29, e240_30, e240_32, e240_33, e240_35, e240_37, e240_38, e240_41, e240_44, e240_46, e240_48, e240_49, e240_52, e240_53, e240_55, e240_56, e240_59, e240_62, e240_63, e240_66, e240_67, e240_68, e240_70, e240_73, e240_76, e240_78, e240_79, e240_82, e240_83, e240_86, e240_87, e240_88, e240_91, e240_94, e240_95, ↓reduceIte, Bool.false_eq_true, not_false_eq_true, not_true_eq_false, Nat.reduceLeDiff, Nat.reduceAdd, Nat.reduceEqDiff, Int.reduceToNat, Int.toNat_natCast, iB0, iB1, ru_klI, ru_klR, ru_klF, ru_klJ, ru_kl0, ru_cs0, ru_csI, ru_csR, ru_csF, ru_csJ, wI_add, wI_sub, wI_mul, wI_lt, wI_le, wI_inj, ru_fdE, ru_fdN, ru_iaN, ru_baN, ru_laN, ru_qaN, ru_pfN, ru_isN, ru_bsN, ru_jsN, ru_qsN, ru_set2, Nat.add_right_cancel_iff, if_true, if_false, ite_self, md_e, e1, Int.reduceEq]
  · simp only [e, if_false] at e1 ⊢
    by_cases e3 : 0 ≤ r ∧ r ≤ M.1 20 - 1
    · simp only [e3, and_self, if_true] at e2 ⊢
      have k := p240l (z := z) (h := h) (M := mdT M 0) (mdR_T hM (by omega)) (N := (M.1 20).toNat) (by omega) (show (mdT M 0).1 20 = _ by show M.1 20 = _; omega) (hw (by omega)) g (M.1 20).toNat 0 (by omega) none none
      rw [lsN_T, lsN_T] at k
      have k : ru_n z 240 21 [some (.ref 1315), some (.int (wI r)), some (.int (wI 0)), some (.int (wI 0)), none, none] [] (mdPut h (mdT M 0)) = some (.inl (some (.int (wI (lsN M (M.1 20).toNat r (M.1 20).toNat)))), mdPut h (mdT M 0)) := k
      simp (disch := omega) only [e240_0, e240_1, e240_4, e240_7, e240_8, e240_9, e240_12, e240_15, e240_16, e240_17, e240_18, e240_19, e240_20, en240, ↓reduceIte, Bool.false_eq_true, not_false_eq_true, not_true_eq_false, Nat.reduceLeDiff, Nat.reduceAdd, Nat.reduceEqDiff, Int.reduceToNat, Int.toNat_natCast, iB0, iB1, ru_klI, ru_klR, ru_klF, ru_klJ, ru_kl0, ru_cs0, ru_csI, ru_csR, ru_csF, ru_csJ, wI_add, wI_sub, wI_mul, wI_lt, wI_le, wI_inj, ru_fdE, ru_fdN, ru_iaN, ru_baN, ru_laN, ru_qaN, ru_pfN, ru_isN, ru_bsN, ru_jsN, ru_qsN, ru_set2, Nat.add_right_cancel_iff, if_true, if_false, ite_self, md_e, e1, e2, k, Int.reduceEq]
    · simp only [e3, if_false] at e2 ⊢
      simp (disch := omega) only [en240, e240_0, e240_1, e240_4, e240_7, e240_8, e240_9, e240_12, e240_15, e240_16, e240_17, e240_18, e240_19, e240_20, e240_21, e240_22, e240_23, e240_26, e240_29, e240_30, e240_32, e240_33, e240_35, e240_37, e240_38, e240_41, e240_44, e240_46, e240_48, e240_49, e240_52, e240_53, e240_55, e240_56, e240_59, e240_62, e240_63, e240_66, e240_67, e240_68, e240_70, e240_73, e240_76, e240_78, e240_79, e240_82, e240_83, e240_86, e240_87, e240_88, e240_91, e240_94, e240_95, ↓reduceIte, Bool.false_eq_true, not_false_eq_true, not_true_eq_false, Nat.reduceLeDiff, Nat.reduceAdd, Nat.reduceEqDiff, Int.reduceToNat, Int.toNat_natCast, iB0, iB1, ru_klI, ru_klR, ru_klF, ru_klJ, ru_kl0, ru_cs0, ru_csI, ru_csR, ru_csF, ru_csJ, wI_add, wI_sub, wI_mul, wI_lt, wI_le, wI_inj, ru_fdE, ru_fdN, ru_iaN, ru_baN, ru_laN, ru_qaN, ru_pfN, ru_isN, ru_bsN, ru_jsN, ru_qsN, ru_set2, Nat.add_right_cancel_iff, if_true, if_false, ite_self, md_e, e1, e2, Int.reduceEq]
end SEEN2
