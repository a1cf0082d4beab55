/-! ===== mostSeen: the class's search ===== -/
def bfW (M : tMd) (a b : Nat) : Bool := decide (agN (wl M a) (wl M b) 8 0 < 0 ∨ (agN (wl M a) (wl M b) 8 0 = 0 ∧ agN (wf M a) (wf M b) 8 0 < 0))
/-- the class's words are the reference's -/
def nmC9 (C : tCl) (M : tMd) (N : Nat) : Prop := ∀ n, n < N → C.2.2.1 (alb C + 2) n = wdL (wf M n) ∧ C.2.2.1 (alb C + 3) n = wdL (wl M n)
theorem wdL_0 {f g : Nat → Int} (hf : ltR f) (hg : ltR g) : (wdL f = wdL g) = (agN f g 8 0 = 0) := by
  rw [wdL_eq hf hg]
  apply propext
  rw [(wdS_ag hf hg 8 0 (by omega)).2.2]
  exact ⟨fun h i _ hi => h i (by omega), fun h i hi => h i (Nat.zero_le _) (by omega)⟩
/-- the first name whose rank it is; -1: none -/
def fsN (M : tMd) (N : Nat) (r : Int) : Nat → Nat → Int
  | 0, _ => -1
  | d + 1, n => if (ahN M N n : Int) = r then (n : Int) else fsN M N r d (n + 1)
theorem fsN_sp (M : tMd) (N : Nat) (r : Int) : ∀ d n, (fsN M N r d n = -1 ∧ ∀ o, n ≤ o → o < n + d → ¬ (ahN M N o : Int) = r) ∨ ∃ o : Nat, n ≤ o ∧ o < n + d ∧ fsN M N r d n = (o : Int) ∧ (ahN M N o : Int) = r
  | 0, n => Or.inl ⟨rfl, fun o h1 h2 => by omega⟩
  | d + 1, n => by
    have es : fsN M N r (d + 1) n = if (ahN M N n : Int) = r then (n : Int) else fsN M N r d (n + 1) := rfl
    rw [es]
    by_cases e : (ahN M N n : Int) = r
    · right; rw [if_pos e]; exact ⟨n, Nat.le_refl _, by omega, rfl, e⟩
    · rw [if_neg e]
      rcases fsN_sp M N r d (n + 1) with ⟨h1, h2⟩ | ⟨o, h1, h2, h3, h4⟩
      · left
        refine ⟨h1, fun o h3 h4 => ?_⟩
        by_cases e2 : o = n
        · rw [e2]; exact e
        · exact h2 o (by omega) (by omega)
      · right; exact ⟨o, by omega, by omega, h3, h4⟩
section SEEN4
variable {z : Bool} {h : am_H} {C : tCl} {M : tMd}
theorem c239 (hR : clR C) {N : Nat} (hN : N ≤ 20) (hw : nmW M N) (hc : nmC9 C M N) {a b : Nat} (ha : a < N) (hb : b < N) : ru_ev z 239 [.ref (alb C + 1), .int (wI a), .int (wI b)] (clPut h C) = some (.inl (some (.int (wI (if bfW M a b = true then 1 else 0)))), clPut h C) := by
  obtain ⟨-, k1, k2, k3, -, n2, n3, a1, a2⟩ := clA_k hR.1
  obtain ⟨w1, w2, -⟩ := hw a ha
  obtain ⟨v1, v2, -⟩ := hw b hb
  have x1 := cl_l (h := h) (C := C) k2 (by omega) n2 (i := (a : Int)) (by omega) (by omega) (by omega)
  have x2 := cl_l (h := h) (C := C) k2 (by omega) n2 (i := (b : Int)) (by omega) (by omega) (by omega)
  have y1 := cl_l (h := h) (C := C) k3 (by omega) n3 (i := (a : Int)) (by omega) (by omega) (by omega)
  have y2 := cl_l (h := h) (C := C) k3 (by omega) n3 (i := (b : Int)) (by omega) (by omega) (by omega)
  rw [Int.toNat_natCast, (hc a ha).1, show alb C + 2 = alb C + 1 + 1 from rfl] at x1
  rw [Int.toNat_natCast, (hc b hb).1, show alb C + 2 = alb C + 1 + 1 from rfl] at x2
  rw [Int.toNat_natCast, (hc a ha).2, show alb C + 3 = alb C + 1 + 2 from rfl] at y1
  rw [Int.toNat_natCast, (hc b hb).2, show alb C + 3 = alb C + 1 + 2 from rfl] at y2
  have e0 : (clPut h C).1 (alb C + 1) = some (.inr (3, clL3 C (alb C + 1))) := clP3 k1 (by omega)
  have c1 := wdL_0 w2.1 v2.1
  have c2 := wdL_le v2.1 w2.1
  have c3 := wdL_le v1.1 w1.1
  unfold bfW
  simp only [decide_eq_true_eq]
  simp (disch := omega) only [en239, e239_0, e239_1, e239_4, e239_5, e239_6, e239_7, e239_10, e239_11, e239_12, e239_13, e239_16, e239_17, e239_20, e239_21, e239_22, e239_23, e239_26, e239_27, e239_28, e239_29, e239_32, e239_33, e239_36, e239_37, e239_38, e239_39, e239_42, e239_43, e239_44, e239_45, e239_48, e239_49, e239_50, e239_51, e239_54, e239_55, e239_58, e239_59, ↓reduceIte, Bool.false_eq_true, not_false_eq_true, not_true_eq_false, Nat.reduceLeDiff, Nat.reduceAdd, Nat.reduceEqDiff, Int.reduceToNat, Int.toNat_natCast, iB0, iB1, ru_klI, ru_klR, ru_klF, ru_klJ, ru_kl0, ru_cs0, ru_csI, ru_csR, ru_csF, ru_csJ, wI_add, wI_sub, wI_mul, wI_lt, wI_le, wI_inj, ru_fdE, ru_fdN, ru_iaN, ru_baN, ru_laN, ru_qaN, ru_pfN, ru_isN, ru_bsN, ru_jsN, ru_qsN, ru_set2, Nat.add_right_cancel_iff, if_true, if_false, ite_self, Int.reduceEq, and_self, Int.add_neg_cancel_right, Int.add_zero, Int.zero_add, e0, clF hR.1, x1, x2, y1, y2, lg_c0, lg_cge, c1, c2, c3, wI_and1]
  generalize agN (wl M a) (wl M b) 8 0 = X at *
  generalize agN (wf M a) (wf M b) 8 0 = Y at *
  repeat' split
  all_goals first | rfl | (exfalso; omega)
theorem c238l (hR : clR C) {N : Nat} (hN : N ≤ 20) (hcn : cNm C = (N : Int)) (hw : nmW M N) (hc : nmC9 C M N) {T : Nat → Int} (hT : ∀ i, i < N → T i = (tsN M i : Nat)) (hM : mdR M) {n : Nat} (hn : n < N) : ∀ d o : Nat, o + d = N → ∀ l4 : Option Value, ru_n z 238 4 [some (.ref 1000), some (.int (wI n)), some (.int (wI (cnB (fun o => bfM M o n) o : Nat))), some (.int (wI o)), l4] [] (clPut h (seT C T)) = some (.inl (some (.int (wI (ahN M N n : Nat)))), clPut h (seT C T)) := by
  have hF := clF (C := seT C T) (seT_R T hR).1 (h := h)
  rw [show alb (seT C T) = alb C from rfl, show cNm (seT C T) = cNm C from rfl, hcn] at hF
  intro d
  induction d with
  | zero =>
    intro o ho l4
    obtain rfl : o = N := by omega
    simp (disch := omega) only [e238_4, e238_5, e238_6, e238_9, e238_12, e238_15, e238_67, e238_68, ↓reduceIte, Bool.false_eq_true, not_false_eq_true, not_true_eq_false, Nat.reduceLeDiff, Nat.reduceAdd, Nat.reduceEqDiff, Int.reduceToNat, Int.toNat_natCast, iB0, iB1, ru_klI, ru_klR, ru_klF, ru_klJ, ru_kl0, ru_cs0, ru_csI, ru_csR, ru_csF, ru_csJ, wI_add, wI_sub, wI_mul, wI_lt, wI_le, wI_inj, ru_fdE, ru_fdN, ru_iaN, ru_baN, ru_laN, ru_qaN, ru_pfN, ru_isN, ru_bsN, ru_jsN, ru_qsN, ru_set2, Nat.add_right_cancel_iff, if_true, if_false, ite_self, Int.reduceEq, and_self, Int.add_neg_cancel_right, Int.add_zero, Int.zero_add, cl_e0, hF, Int.le_refl]
    rfl
  | succ d ih =>
    intro o ho l4
    have c : ((N : Int) ≤ (o : Int)) = False := eq_false (by omega)
    have ih1 := ih (o + 1) (by omega) (some (.int (wI (T o - T n))))
    have es : cnB (fun o => bfM M o n) (o + 1) = cnB (fun o => bfM M o n) o + (if bfM M o n = true then 1 else 0) := rfl
    have b := cnB_le (fun o => bfM M o n) o
    have x1 := seT_a (h := h) (C := C) (T := T) (i := (o : Int)) (by omega) (by omega)
    have x2 := seT_a (h := h) (C := C) (T := T) (i := (n : Int)) (by omega) (by omega)
    rw [Int.toNat_natCast] at x1 x2
    have k := c239 (z := z) (h := h) (C := seT C T) (seT_R T hR) hN hw hc (a := o) (b := n) (by omega) hn
    rw [show alb (seT C T) = alb C from rfl] at k
    have t1 := hT o (by omega)
    have t2 := hT n hn
    have s1 := tsN_b hM o
    have s2 := tsN_b hM n
    have eb : bfM M o n = true ↔ (tsN M n < tsN M o ∨ (tsN M o = tsN M n ∧ bfW M o n = true)) := by
      unfold bfM bfW
      simp only [decide_eq_true_eq]
    rw [es] at ih1
    simp only [Int.natCast_add, Int.natCast_one] at ih1
    rw [e238_4]
    by_cases e1 : tsN M n < tsN M o
    · rw [if_pos (eb.mpr (Or.inl e1))] at ih1
      have d1 : (0 < T o - T n) = True := eq_true (by omega)
      simp (disch := omega) only [e238_5, e238_6, e238_9, e238_12, e238_15, e238_18, e238_19, e238_22, e238_23, e238_24, e238_25, e238_28, e238_29, e238_30, e238_31, e238_33, e238_35, e238_38, e238_40, e238_43, e238_44, e238_47, e238_50, e238_51, e238_52, e238_55, e238_58, e238_61, e238_64, ↓reduceIte, Bool.false_eq_true, not_false_eq_true, not_true_eq_false, Nat.reduceLeDiff, Nat.reduceAdd, Nat.reduceEqDiff, Int.reduceToNat, Int.toNat_natCast, iB0, iB1, ru_klI, ru_klR, ru_klF, ru_klJ, ru_kl0, ru_cs0, ru_csI, ru_csR, ru_csF, ru_csJ, wI_add, wI_sub, wI_mul, wI_lt, wI_le, wI_inj, ru_fdE, ru_fdN, ru_iaN, ru_baN, ru_laN, ru_qaN, ru_pfN, ru_isN, ru_bsN, ru_jsN, ru_qsN, ru_set2, Nat.add_right_cancel_iff, if_true, if_false, ite_self, Int.reduceEq, and_self, Int.add_neg_cancel_right, Int.add_zero, Int.zero_add, cl_e0, cl_g0_9, hF, c, x1, x2, d1, Int.natCast_one] at ih1 ⊢
      exact ih1
    · have d1 : (0 < T o - T n) = False := eq_false (by omega)
      by_cases e2 : tsN M o = tsN M n
      · have d2 : (T o - T n = 0) = True := eq_true (by omega)
        by_cases e3 : bfW M o n = true
        · rw [if_pos (eb.mpr (Or.inr ⟨e2, e3⟩))] at ih1
          rw [if_pos e3] at k
          simp (disch := omega) only [e238_5, e238_6, e238_9, e238_12, e238_15, e238_18, e238_19, e238_22, e238_23, e238_24, e238_25, e238_28, e238_29, e238_30, e238_31, e238_33, e238_35, e238_38, e238_40, e238_43, e238_44, e238_47, e238_50, e238_51, e238_52, e238_55, e238_58, e238_61, e238_64, ↓reduceIte, Bool.false_eq_true, not_false_eq_true, not_true_eq_false, Nat.reduceLeDiff, Nat.reduceAdd, Nat.reduceEqDiff, Int.reduceToNat, Int.toNat_natCast, iB0, iB1, ru_klI, ru_klR, ru_klF, ru_klJ, ru_kl0, ru_cs0, ru_csI, ru_csR, ru_csF, ru_csJ, wI_add, wI_sub, wI_mul, wI_lt, wI_le, wI_inj, ru_fdE, ru_fdN, ru_iaN, ru_baN, ru_laN, ru_qaN, ru_pfN, ru_isN, ru_bsN, ru_jsN, ru_qsN, ru_set2, Nat.add_right_cancel_iff, if_true, if_false, ite_self, Int.reduceEq, and_self, Int.add_neg_cancel_right, Int.add_zero, Int.zero_add, cl_e0, cl_g0_9, hF, c, x1, x2, d1, d2, k, Int.natCast_one] at ih1 ⊢
          exact ih1
        · rw [if_neg (fun h9 => by rcases eb.mp h9 with h8 | h8; exact e1 h8; exact e3 h8.2)] at ih1
          rw [if_neg e3] at k
          simp (disch := omega) only [e238_5, e238_6, e238_9, e238_12, e238_15, e238_18, e238_19, e238_22, e238_23, e238_24, e238_25, e238_28, e238_29, e238_30, e238_31, e238_33, e238_35, e238_38, e238_40, e238_43, e238_44, e238_47, e238_50, e238_51, e238_52, e238_55, e238_58, e238_61, e238_64, ↓reduceIte, Bool.false_eq_true, not_false_eq_true, not_true_eq_false, Nat.reduceLeDiff, Nat.reduceAdd, Nat.reduceEqDiff, Int.reduceToNat, Int.toNat_natCast, iB0, iB1, ru_klI, ru_klR, ru_klF, ru_klJ, ru_kl0, ru_cs0, ru_csI, ru_csR, ru_csF, ru_csJ, wI_add, wI_sub, wI_mul, wI_lt, wI_le, wI_inj, ru_fdE, ru_fdN, ru_iaN, ru_baN, ru_laN, ru_qaN, ru_pfN, ru_isN, ru_bsN, ru_jsN, ru_qsN, ru_set2, Nat.add_right_cancel_iff, if_true, if_false, ite_self, Int.reduceEq, and_self, Int.add_neg_cancel_right, Int.add_zero, Int.zero_add, cl_e0, cl_g0_9, hF, c, x1, x2, d1, d2, k, Int.natCast_zero] at ih1 ⊢
          exact ih1
      · have d2 : (T o - T n = 0) = False := eq_false (by omega)
        rw [if_neg (fun h9 => by rcases eb.mp h9 with h8 | h8; exact e1 h8; exact e2 h8.1)] at ih1
        simp (disch := omega) only [e238_5, e238_6, e238_9, e238_12, e238_15, e238_18, e238_19, e238_22, e238_23, e238_24, e238_25, e238_28, e238_29, e238_30, e238_31, e238_33, e238_35, e238_38, e238_40, e238_43, e238_44, e238_47, e238_50, e238_51, e238_52, e238_55, e238_58, e238_61, e238_64, ↓reduceIte, Bool.false_eq_true, not_false_eq_true, not_true_eq_false, Nat.reduceLeDiff, Nat.reduceAdd, Nat.reduceEqDiff, Int.reduceToNat, Int.toNat_natCast, iB0, iB1, ru_klI, ru_klR, ru_klF, ru_klJ, ru_kl0, ru_cs0, ru_csI, ru_csR, ru_csF, ru_csJ, wI_add, wI_sub, wI_mul, wI_lt, wI_le, wI_inj, ru_fdE, ru_fdN, ru_iaN, ru_baN, ru_laN, ru_qaN, ru_pfN, ru_isN, ru_bsN, ru_jsN, ru_qsN, ru_set2, Nat.add_right_cancel_iff, if_true, if_false, ite_self, Int.reduceEq, and_self, Int.add_neg_cancel_right, Int.add_zero, Int.zero_add, cl_e0, cl_g0_9, hF, c, x1, x2, d1, d2, Int.natCast_zero] at ih1 ⊢
        exact ih1
theorem c236l (hR : clR C) {N : Nat} (hN : N ≤ 20) (hcn : cNm C = (N : Int)) (hw : nmW M N) (hc : nmC9 C M N) {T : Nat → Int} (hT : ∀ i, i < N → T i = (tsN M i : Nat)) (hM : mdR M) {r : Int} (hr : -2147483648 ≤ r ∧ r < 2147483648) : ∀ d n : Nat, n + d = N → ru_n z 236 38 [some (.ref 1000), some (.int (wI r)), some (.int (wI n))] [] (clPut h (seT C T)) = some (.inl (some (.int (wI (fsN M N r d n)))), clPut h (seT C T)) := by
  have hF := clF (C := seT C T) (seT_R T hR).1 (h := h)
  rw [show alb (seT C T) = alb C from rfl, show cNm (seT C T) = cNm C from rfl, hcn] at hF
  intro d
  induction d with
  | zero =>
    intro n hn
    obtain rfl : n = N := by omega
    simp (disch := omega) only [e236_38, e236_39, e236_40, e236_43, e236_46, e236_49, e236_69, e236_70, ↓reduceIte, Bool.false_eq_true, not_false_eq_true, not_true_eq_false, Nat.reduceLeDiff, Nat.reduceAdd, Nat.reduceEqDiff, Int.reduceToNat, Int.toNat_natCast, iB0, iB1, ru_klI, ru_klR, ru_klF, ru_klJ, ru_kl0, ru_cs0, ru_csI, ru_csR, ru_csF, ru_csJ, wI_add, wI_sub, wI_mul, wI_lt, wI_le, wI_inj, ru_fdE, ru_fdN, ru_iaN, ru_baN, ru_laN, ru_qaN, ru_pfN, ru_isN, ru_bsN, ru_jsN, ru_qsN, ru_set2, Nat.add_right_cancel_iff, if_true, if_false, ite_self, Int.reduceEq, and_self, Int.add_neg_cancel_right, Int.add_zero, Int.zero_add, cl_e0, hF, Int.le_refl]
    rfl
  | succ d ih =>
    intro n hn
    have c : ((N : Int) ≤ (n : Int)) = False := eq_false (by omega)
    have ih1 := ih (n + 1) (by omega)
    have es : fsN M N r (d + 1) n = if (ahN M N n : Int) = r then (n : Int) else fsN M N r d (n + 1) := rfl
    have b : ahN M N n ≤ N := cnB_le _ _
    have k := c238l (z := z) (h := h) hR hN hcn hw hc hT hM (n := n) (by omega) N 0 (by omega) none
    rw [show (((cnB (fun o => bfM M o n) 0 : Nat)) : Int) = 0 from rfl, show ((0 : Nat) : Int) = 0 from rfl] at k
    have k : ru_ev z 238 [.ref 1000, .int (wI n)] (clPut h (seT C T)) = some (.inl (some (.int (wI (ahN M N n : Nat)))), clPut h (seT C T)) := by
      simp (disch := omega) only [e238_0, e238_1, e238_2, e238_3, en238, ↓reduceIte, Bool.false_eq_true, not_false_eq_true, not_true_eq_false, Nat.reduceLeDiff, Nat.reduceAdd, Nat.reduceEqDiff, Int.reduceToNat, Int.toNat_natCast, iB0, iB1, ru_klI, ru_klR, ru_klF, ru_klJ, ru_kl0, ru_cs0, ru_csI, ru_csR, ru_csF, ru_csJ, wI_add, wI_sub, wI_mul, wI_lt, wI_le, wI_inj, ru_fdE, ru_fdN, ru_iaN, ru_baN, ru_laN, ru_qaN, ru_pfN, ru_isN, ru_bsN, ru_jsN, ru_qsN, ru_set2, Nat.add_right_cancel_iff, if_true, if_false, ite_self, Int.reduceEq, and_self, Int.add_neg_cancel_right, Int.add_zero, Int.zero_add, cl_e0]
      exact k
    simp only [Int.natCast_add, Int.natCast_one] at ih1
    rw [es, e236_38]
    by_cases e : (ahN M N n : Int) = r
    · rw [if_pos e]
      have d1 : ((ahN M N n : Int) = r) = True := eq_true e
      simp (disch := omega) only [e236_39, e236_40, e236_43, e236_46, e236_49, e236_52, e236_53, e236_54, e236_57, e236_58, e236_61, e236_62, e236_63, e236_66, ↓reduceIte, Bool.false_eq_true, not_false_eq_true, not_true_eq_false, Nat.reduceLeDiff, Nat.reduceAdd, Nat.reduceEqDiff, Int.reduceToNat, Int.toNat_natCast, iB0, iB1, ru_klI, ru_klR, ru_klF, ru_klJ, ru_kl0, ru_cs0, ru_csI, ru_csR, ru_csF, ru_csJ, wI_add, wI_sub, wI_mul, wI_lt, wI_le, wI_inj, ru_fdE, ru_fdN, ru_iaN, ru_baN, ru_laN, ru_qaN, ru_pfN, ru_isN, ru_bsN, ru_jsN, ru_qsN, ru_set2, Nat.add_right_cancel_iff, if_true, if_false, ite_self, Int.reduceEq, and_self, Int.add_neg_cancel_right, Int.add_zero, Int.zero_add, cl_e0, hF, c, k, d1, not_true]
    · rw [if_neg e]
      have d1 : ((ahN M N n : Int) = r) = False := eq_false e
      simp (disch := omega) only [e236_39, e236_40, e236_43, e236_46, e236_49, e236_52, e236_53, e236_54, e236_57, e236_58, e236_61, e236_62, e236_63, e236_66, ↓reduceIte, Bool.false_eq_true, not_false_eq_true, not_true_eq_false, Nat.reduceLeDiff, Nat.reduceAdd, Nat.reduceEqDiff, Int.reduceToNat, Int.toNat_natCast, iB0, iB1, ru_klI, ru_klR, ru_klF, ru_klJ, ru_kl0, ru_cs0, ru_csI, ru_csR, ru_csF, ru_csJ, wI_add, wI_sub, wI_mul, wI_lt, wI_le, wI_inj, ru_fdE, ru_fdN, ru_iaN, ru_baN, ru_laN, ru_qaN, ru_pfN, ru_isN, ru_bsN, ru_jsN, ru_qsN, ru_set2, Nat.add_right_cancel_iff, if_true, if_false, ite_self, Int.reduceEq, and_self, Int.add_neg_cancel_right, Int.add_zero, Int.zero_add, cl_e0, hF, c, k, d1, not_false_iff]
      exact ih1
/-- what the call leaves -/
def seR (C : tCl) (M : tMd) (r : Int) (t : Nat) (v : Int) (C' : tCl) : Prop := (¬ rcN C r = 0 ∧ t = rcN C r ∧ C' = C) ∨ (rcN C r = 0 ∧ t = 0 ∧ (∃ T, C' = seT C T) ∧ v = fsN M (cNm C).toNat r (cNm C).toNat 0)
theorem c236 (hR : clR C) (hM : mdR M) (hrel : relA C M) (hn : relN M) {r : Int} (g : -2147483648 ≤ r ∧ r < 2147483648) (hw : ¬ cPm C = 0 → nmW M (cNm C).toNat ∧ nmC9 C M (cNm C).toNat) : ∃ t v C', ru_ev z 236 [.ref 1000, .int (wI r)] (clPut h C) = oR t (some (.int (wI v))) (clPut h C') (clPut (thr h) C') ∧ seR C M r t v C' := by
  have e1 := c79 (z := z) (h := h) hR
  have r1 := hR.2.1
  have r2 := hR.2.2.1
  have h1 := hrel.1
  have h2 := hrel.2.1
  by_cases e : rcN C r = 0
  · have ec : ¬ cPm C = 0 ∧ 0 ≤ r ∧ r < cNm C := by
      unfold rcN at e
      split at e
      · omega
      · split at e
        · exact ⟨by assumption, by omega⟩
        · omega
    obtain ⟨w1, w2⟩ := hw ec.1
    rw [if_neg ec.1] at e1
    obtain ⟨T, t1, t2⟩ := c237 (z := z) (h := h) hR
    have hm1 : ¬ M.1 1 = 0 := fun c => ec.1 (by rw [h1, if_pos c])
    rw [if_neg hm1] at h1 h2
    have hT : ∀ i, i < (cNm C).toNat → T i = (tsN M i : Nat) := fun i hi => by
      rw [t1 i (by omega)]
      unfold tsN
      rw [← h1]
      exact congrArg _ (cnB_congr fun k hk => rel_pw hR hM hrel hn (by omega) (by omega))
    have k := c236l (z := z) (h := h) hR (N := (cNm C).toNat) (by omega) (by omega) w1 w2 hT hM g (cNm C).toNat 0 (by omega)
    rw [show ((0 : Nat) : Int) = 0 from rfl] at k
    refine ⟨0, _, seT C T, ?_, Or.inr ⟨e, rfl, ⟨T, rfl⟩, rfl⟩⟩
    rw [oR_0 rfl]
    have d1 : (r < 0) = False := eq_false (by omega)
    have d2 : (r < cNm C) = True := eq_true (by omega)
    simp (disch := omega) only [e236_0, e236_1, e236_4, e236_5, e236_8, e236_9, e236_10, e236_13, e236_16, e236_19, e236_22, e236_25, e236_26, e236_32, e236_33, e236_36, e236_37, en236, ↓reduceIte, Bool.false_eq_true, not_false_eq_true, not_true_eq_false, Nat.reduceLeDiff, Nat.reduceAdd, Nat.reduceEqDiff, Int.reduceToNat, Int.toNat_natCast, iB0, iB1, ru_klI, ru_klR, ru_klF, ru_klJ, ru_kl0, ru_cs0, ru_csI, ru_csR, ru_csF, ru_csJ, wI_add, wI_sub, wI_mul, wI_lt, wI_le, wI_inj, ru_fdE, ru_fdN, ru_iaN, ru_baN, ru_laN, ru_qaN, ru_pfN, ru_isN, ru_bsN, ru_jsN, ru_qsN, ru_set2, Nat.add_right_cancel_iff, if_true, if_false, ite_self, Int.reduceEq, and_self, Int.add_neg_cancel_right, Int.add_zero, Int.zero_add, cl_e0, clF hR.1, e1, t2, d1, d2]
    exact k
  · refine ⟨rcN C r, 0, C, ?_, Or.inl ⟨e, rfl, rfl⟩⟩
    rw [oR_n e]
    unfold rcN at e ⊢
    by_cases c : cPm C = 0
    · rw [if_pos c] at e1 ⊢
      simp (disch := omega) only [en236, e236_0, e236_1, e236_4, e236_5, e236_8, e236_9, e236_10, e236_13, e236_16, e236_19, e236_22, e236_25, e236_26, e236_32, e236_33, e236_36, e236_37, e236_38, e236_39, e236_40, e236_43, e236_46, e236_49, e236_52, e236_53, e236_54, e236_57, e236_58, e236_61, e236_62, e236_63, e236_66, e236_69, e236_70, ↓reduceIte, Bool.false_eq_true, not_false_eq_true, not_true_eq_false, Nat.reduceLeDiff, Nat.reduceAdd, Nat.reduceEqDiff, Int.reduceToNat, Int.toNat_natCast, iB0, iB1, ru_klI, ru_klR, ru_klF, ru_klJ, ru_kl0, ru_cs0, ru_csI, ru_csR, ru_csF, ru_csJ, wI_add, wI_sub, wI_mul, wI_lt, wI_le, wI_inj, ru_fdE, ru_fdN, ru_iaN, ru_baN, ru_laN, ru_qaN, ru_pfN, ru_isN, ru_bsN, ru_jsN, ru_qsN, ru_set2, Nat.add_right_cancel_iff, if_true, if_false, ite_self, Int.reduceEq, and_self, Int.add_neg_cancel_right, Int.add_zero, Int.zero_add, cl_e0, e1]
    · rw [if_neg c] at e1 e ⊢
      by_cases c2 : 0 ≤ r ∧ r < cNm C
      · rw [if_pos c2] at e; exact absurd rfl e
      · rw [if_neg c2]
        by_cases c3 : r < 0
        · have d1 : (r < 0) = True := eq_true c3
          simp (disch := omega) only [en236, e236_0, e236_1, e236_4, e236_5, e236_8, e236_9, e236_10, e236_13, e236_16, e236_19, e236_22, e236_25, e236_26, e236_32, e236_33, e236_36, e236_37, e236_38, e236_39, e236_40, e236_43, e236_46, e236_49, e236_52, e236_53, e236_54, e236_57, e236_58, e236_61, e236_62, e236_63, e236_66, e236_69, e236_70, ↓reduceIte, Bool.false_eq_true, not_false_eq_true, not_true_eq_false, Nat.reduceLeDiff, Nat.reduceAdd, Nat.reduceEqDiff, Int.reduceToNat, Int.toNat_natCast, iB0, iB1, ru_klI, ru_klR, ru_klF, ru_klJ, ru_kl0, ru_cs0, ru_csI, ru_csR, ru_csF, ru_csJ, wI_add, wI_sub, wI_mul, wI_lt, wI_le, wI_inj, ru_fdE, ru_fdN, ru_iaN, ru_baN, ru_laN, ru_qaN, ru_pfN, ru_isN, ru_bsN, ru_jsN, ru_qsN, ru_set2, Nat.add_right_cancel_iff, if_true, if_false, ite_self, Int.reduceEq, and_self, Int.add_neg_cancel_right, Int.add_zero, Int.zero_add, cl_e0, clF hR.1, e1, d1, cl_thr]
        · have d1 : (r < 0) = False := eq_false c3
          have d2 : (r < cNm C) = False := eq_false (by omega)
          simp (disch := omega) only [en236, e236_0, e236_1, e236_4, e236_5, e236_8, e236_9, e236_10, e236_13, e236_16, e236_19, e236_22, e236_25, e236_26, e236_32, e236_33, e236_36, e236_37, e236_38, e236_39, e236_40, e236_43, e236_46, e236_49, e236_52, e236_53, e236_54, e236_57, e236_58, e236_61, e236_62, e236_63, e236_66, e236_69, e236_70, ↓reduceIte, Bool.false_eq_true, not_false_eq_true, not_true_eq_false, Nat.reduceLeDiff, Nat.reduceAdd, Nat.reduceEqDiff, Int.reduceToNat, Int.toNat_natCast, iB0, iB1, ru_klI, ru_klR, ru_klF, ru_klJ, ru_kl0, ru_cs0, ru_csI, ru_csR, ru_csF, ru_csJ, wI_add, wI_sub, wI_mul, wI_lt, wI_le, wI_inj, ru_fdE, ru_fdN, ru_iaN, ru_baN, ru_laN, ru_qaN, ru_pfN, ru_isN, ru_bsN, ru_jsN, ru_qsN, ru_set2, Nat.add_right_cancel_iff, if_true, if_false, ite_self, Int.reduceEq, and_self, Int.add_neg_cancel_right, Int.add_zero, Int.zero_add, cl_e0, clF hR.1, e1, d1, d2, cl_thr]
end SEEN4
