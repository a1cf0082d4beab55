/-! ===== letters of names: class and reference ===== -/
def wF (M : tMd) (c a : Nat) : Nat → Int := fun k => M.2 c (a + k)
/-- the words of the names: class against reference, all told once -/
def nmI (C : tCl) (M : tMd) : Prop := M.1 1 = 1 → ∀ n : Nat, (n : Int) < M.1 20 → wdR (wF M 5 (16 * n)) ∧ wdR (wF M 5 (16 * n + 8)) ∧ C.2.2.1 (alb C + 2) n = wdL (wF M 5 (16 * n)) ∧ C.2.2.1 (alb C + 3) n = wdL (wF M 5 (16 * n + 8)) ∧ ∀ m : Nat, m < n → ¬ ((∀ i, i < 8 → wF M 5 (16 * n) i = wF M 5 (16 * m) i) ∧ ∀ i, i < 8 → wF M 5 (16 * n + 8) i = wF M 5 (16 * m + 8) i)
def wln (f : Nat → Int) : Nat := cnB (fun k => decide (¬ f k = 0)) 8
theorem wdR_0 {f : Nat → Int} (h : wdR f) {n : Nat} (hn : n < 8) (e : f n = 0) : ∀ d, n + d < 8 → f (n + d) = 0
  | 0, _ => e
  | d + 1, hd => h.2 (n + d) (by omega) (wdR_0 h hn e d (by omega))
theorem wln_is {f : Nat → Int} (h : wdR f) {n : Nat} (hn : n ≤ 8) (h1 : ∀ k, k < n → ¬ f k = 0) (h2 : n = 8 ∨ f n = 0) : wln f = n := by
  have e : cnB (fun k => decide (¬ f k = 0)) n = n := by
    have : ∀ m, m ≤ n → cnB (fun k => decide (¬ f k = 0)) m = m := by
      intro m
      induction m with
      | zero => intro _; rfl
      | succ m ih =>
        intro hm
        show cnB (fun k => decide (¬ f k = 0)) m + (if decide (¬ f m = 0) = true then 1 else 0) = m + 1
        rw [if_pos (decide_eq_true (h1 m (by omega))), ih (by omega)]
    exact this n (Nat.le_refl _)
  unfold wln
  rw [← cnB_ext (P := fun k => decide (¬ f k = 0)) hn (fun _ _ => rfl) (fun o h3 h4 => ?_), e]
  rcases h2 with rfl | h2
  · omega
  · have := wdR_0 h (show n < 8 by omega) h2 (o - n) (by omega)
    rw [show n + (o - n) = o by omega] at this
    simp [this]
theorem wln_8 (f : Nat → Int) : wln f ≤ 8 := cnB_le _ _
section LET
variable {z : Bool} {h : am_H} {C : tCl} {M : tMd} {f : Nat → Int}
theorem m216 (hf : ltR f) {p : Nat} (hp : p < 8) : ru_ev z 216 [.long (wdL f), .int (wI p)] h = some (.inl (some (.int (wI (ltI (f p) : Nat)))), h) := by
  have e0 : (wI (5 * (7 - (p : Int)))).toInt64 &&& 63 = Int64.ofNat (5 * (7 - p)) := by
    have : ∀ p : Fin 8, (wI (5 * (7 - ((p.val : Nat) : Int)))).toInt64 &&& 63 = Int64.ofNat (5 * (7 - p.val)) := by decide +kernel
    exact this ⟨p, hp⟩
  have e : (wdL f >>> ((wI (5 * (7 - (p : Int)))).toInt64 &&& 63)).toInt32 &&& wI 31 = wI (ltI (f p) : Nat) := by
    rw [e0]
    unfold wdL
    rw [lg_sh (by omega), wdS_at hf hp]
  simp (disch := omega) only [en216, e216_0, e216_1, e216_2, e216_4, e216_5, e216_6, e216_7, e216_8, e216_9, e216_11, e216_12, ↓reduceIte, Bool.false_eq_true, not_false_eq_true, not_true_eq_false, Nat.reduceLeDiff, Nat.reduceAdd, Nat.reduceEqDiff, Int.reduceToNat, Int.toNat_natCast, iB0, iB1, ru_klI, ru_klR, ru_klF, ru_klJ, ru_kl0, ru_cs0, ru_csI, ru_csR, ru_csF, ru_csJ, wI_add, wI_sub, wI_mul, wI_lt, wI_le, wI_inj, ru_fdE, ru_fdN, ru_iaN, ru_baN, ru_laN, ru_qaN, ru_pfN, ru_isN, ru_bsN, ru_jsN, ru_qsN, ru_set2, Nat.add_right_cancel_iff, if_true, if_false, ite_self, Int.reduceEq, and_self, Int.add_neg_cancel_right, Int.add_zero, Int.zero_add, e]
theorem m215l (hf : ltR f) : ∀ d k, k + d = 8 → ru_n z 215 4 [some (.long (wdL f)), none, some (.int (wI (cnB (fun k => decide (¬ f k = 0)) k : Nat))), some (.int (wI k))] [] h = some (.inl (some (.int (wI (wln f : Nat)))), h) := by
  intro d
  induction d with
  | zero =>
    intro k hk
    obtain rfl : k = 8 := by omega
    simp (disch := omega) only [e215_4, e215_5, e215_7, e215_10, e215_11, e215_12, e215_15, e215_18, e215_21, e215_24, e215_27, e215_28, ↓reduceIte, Bool.false_eq_true, not_false_eq_true, not_true_eq_false, Nat.reduceLeDiff, Nat.reduceAdd, Nat.reduceEqDiff, Int.reduceToNat, Int.toNat_natCast, iB0, iB1, ru_klI, ru_klR, ru_klF, ru_klJ, ru_kl0, ru_cs0, ru_csI, ru_csR, ru_csF, ru_csJ, wI_add, wI_sub, wI_mul, wI_lt, wI_le, wI_inj, ru_fdE, ru_fdN, ru_iaN, ru_baN, ru_laN, ru_qaN, ru_pfN, ru_isN, ru_bsN, ru_jsN, ru_qsN, ru_set2, Nat.add_right_cancel_iff, if_true, if_false, ite_self, Int.reduceEq, and_self, Int.add_neg_cancel_right, Int.add_zero, Int.zero_add, show (((8 : Nat) : Int)) = 8 from rfl, Int.le_refl]
    rfl
  | succ d ih =>
    intro k hk
    have c : ((8 : Int) ≤ (k : Int)) = False := eq_false (by omega)
    have e1 := m216 (z := z) (h := h) hf (p := k) (by omega)
    have a := ltI_26 hf (show k < 8 by omega)
    have b := cnB_le (fun k => decide (¬ f k = 0)) k
    have ih1 := ih (k + 1) (by omega)
    have es : cnB (fun k => decide (¬ f k = 0)) (k + 1) = cnB (fun k => decide (¬ f k = 0)) k + (if decide (¬ f k = 0) = true then 1 else 0) := rfl
    rw [es] at ih1
    rw [e215_4]
    by_cases e : f k = 0
    · rw [if_neg (by simp [e]), Nat.add_zero] at ih1
      have d1 : (((ltI (f k) : Nat) : Int) = 0) = True := eq_true (by have := a.2.1.mpr e; omega)
      simp only [Int.natCast_add, Int.natCast_one] at ih1
      simp (disch := omega) only [e215_5, e215_7, e215_10, e215_11, e215_12, e215_15, e215_18, e215_21, e215_24, ↓reduceIte, Bool.false_eq_true, not_false_eq_true, not_true_eq_false, Nat.reduceLeDiff, Nat.reduceAdd, Nat.reduceEqDiff, Int.reduceToNat, Int.toNat_natCast, iB0, iB1, ru_klI, ru_klR, ru_klF, ru_klJ, ru_kl0, ru_cs0, ru_csI, ru_csR, ru_csF, ru_csJ, wI_add, wI_sub, wI_mul, wI_lt, wI_le, wI_inj, ru_fdE, ru_fdN, ru_iaN, ru_baN, ru_laN, ru_qaN, ru_pfN, ru_isN, ru_bsN, ru_jsN, ru_qsN, ru_set2, Nat.add_right_cancel_iff, if_true, if_false, ite_self, Int.reduceEq, and_self, Int.add_neg_cancel_right, Int.add_zero, Int.zero_add, c, e1, d1]
      exact ih1
    · rw [if_pos (by simp [e])] at ih1
      have d1 : (((ltI (f k) : Nat) : Int) = 0) = False := eq_false (fun h9 => e (a.2.1.mp (by omega)))
      simp only [Int.natCast_add, Int.natCast_one] at ih1
      simp (disch := omega) only [e215_5, e215_7, e215_10, e215_11, e215_12, e215_15, e215_18, e215_21, e215_24, ↓reduceIte, Bool.false_eq_true, not_false_eq_true, not_true_eq_false, Nat.reduceLeDiff, Nat.reduceAdd, Nat.reduceEqDiff, Int.reduceToNat, Int.toNat_natCast, iB0, iB1, ru_klI, ru_klR, ru_klF, ru_klJ, ru_kl0, ru_cs0, ru_csI, ru_csR, ru_csF, ru_csJ, wI_add, wI_sub, wI_mul, wI_lt, wI_le, wI_inj, ru_fdE, ru_fdN, ru_iaN, ru_baN, ru_laN, ru_qaN, ru_pfN, ru_isN, ru_bsN, ru_jsN, ru_qsN, ru_set2, Nat.add_right_cancel_iff, if_true, if_false, ite_self, Int.reduceEq, and_self, Int.add_neg_cancel_right, Int.add_zero, Int.zero_add, c, e1, d1]
      exact ih1
theorem m215 (hf : ltR f) : ru_ev z 215 [.long (wdL f)] h = some (.inl (some (.int (wI (wln f : Nat)))), h) := by
  have k := m215l (z := z) (h := h) hf 8 0 (by omega)
  simp (disch := omega) only [e215_0, e215_1, e215_2, e215_3, en215, ↓reduceIte, Bool.false_eq_true, not_false_eq_true, not_true_eq_false, Nat.reduceLeDiff, Nat.reduceAdd, Nat.reduceEqDiff, Int.reduceToNat, Int.toNat_natCast, iB0, iB1, ru_klI, ru_klR, ru_klF, ru_klJ, ru_kl0, ru_cs0, ru_csI, ru_csR, ru_csF, ru_csJ, wI_add, wI_sub, wI_mul, wI_lt, wI_le, wI_inj, ru_fdE, ru_fdN, ru_iaN, ru_baN, ru_laN, ru_qaN, ru_pfN, ru_isN, ru_bsN, ru_jsN, ru_qsN, ru_set2, Nat.add_right_cancel_iff, if_true, if_false, ite_self, Int.reduceEq, and_self, Int.add_neg_cancel_right, Int.add_zero, Int.zero_add]
  exact k
theorem p219l {a : Nat} (ha : a + 8 ≤ 320) (hw : wdR (wF M 5 a)) (hM : ∀ k, k < 8 → -1 ≤ wF M 5 a k ∧ wF M 5 a k ≤ 200) : ∀ d k, k + d = 8 → (∀ i, i < k → ¬ wF M 5 a i = 0) → ru_n z 219 2 [some (.ref 1315), some (.int (wI a)), some (.int (wI k))] [] (mdPut h M) = some (.inl (some (.int (wI (wln (wF M 5 a) : Nat)))), mdPut h M) := by
  intro d
  induction d with
  | zero =>
    intro k hk hp
    obtain rfl : k = 8 := by omega
    rw [wln_is hw (Nat.le_refl _) hp (Or.inl rfl)]
    simp (disch := omega) only [e219_2, e219_3, e219_5, e219_8, e219_9, e219_12, e219_13, e219_14, e219_15, e219_16, e219_19, e219_22, e219_25, e219_26, ↓reduceIte, Bool.false_eq_true, not_false_eq_true, not_true_eq_false, Nat.reduceLeDiff, Nat.reduceAdd, Nat.reduceEqDiff, Int.reduceToNat, Int.toNat_natCast, iB0, iB1, ru_klI, ru_klR, ru_klF, ru_klJ, ru_kl0, ru_cs0, ru_csI, ru_csR, ru_csF, ru_csJ, wI_add, wI_sub, wI_mul, wI_lt, wI_le, wI_inj, ru_fdE, ru_fdN, ru_iaN, ru_baN, ru_laN, ru_qaN, ru_pfN, ru_isN, ru_bsN, ru_jsN, ru_qsN, ru_set2, Nat.add_right_cancel_iff, if_true, if_false, ite_self, Int.reduceEq, and_self, Int.add_neg_cancel_right, Int.add_zero, Int.zero_add, show (((8 : Nat) : Int)) = 8 from rfl, Int.le_refl]
  | succ d ih =>
    intro k hk hp
    have c : ((8 : Int) ≤ (k : Int)) = False := eq_false (by omega)
    have e1 := md_a5 (h := h) (M := M) (i := (a : Int) + (k : Int)) (by omega) (by omega)
    rw [show ((a : Int) + (k : Int)).toNat = a + k by omega] at e1
    have e1 : am_ia (mdPut h M) 1321 (wI ((a : Int) + (k : Int))) = some (wI (wF M 5 a k)) := e1
    have b := hM k (by omega)
    rw [e219_2]
    by_cases e : wF M 5 a k = 0
    · rw [wln_is hw (n := k) (by omega) hp (Or.inr e)]
      have d1 : (wF M 5 a k = 0) = True := eq_true e
      simp (disch := omega) only [e219_3, e219_5, e219_8, e219_9, e219_12, e219_13, e219_14, e219_15, e219_16, e219_19, e219_22, e219_25, e219_26, ↓reduceIte, Bool.false_eq_true, not_false_eq_true, not_true_eq_false, Nat.reduceLeDiff, Nat.reduceAdd, Nat.reduceEqDiff, Int.reduceToNat, Int.toNat_natCast, iB0, iB1, ru_klI, ru_klR, ru_klF, ru_klJ, ru_kl0, ru_cs0, ru_csI, ru_csR, ru_csF, ru_csJ, wI_add, wI_sub, wI_mul, wI_lt, wI_le, wI_inj, ru_fdE, ru_fdN, ru_iaN, ru_baN, ru_laN, ru_qaN, ru_pfN, ru_isN, ru_bsN, ru_jsN, ru_qsN, ru_set2, Nat.add_right_cancel_iff, if_true, if_false, ite_self, Int.reduceEq, and_self, Int.add_neg_cancel_right, Int.add_zero, Int.zero_add, md_e, md_f19, c, e1, d1]
    · have ih1 := ih (k + 1) (by omega) (fun i hi => by
        by_cases hh : i = k
        · rw [hh]; exact e
        · exact hp i (by omega))
      have d1 : (wF M 5 a k = 0) = False := eq_false e
      simp only [Int.natCast_add, Int.natCast_one] at ih1
      simp (disch := omega) only [e219_3, e219_5, e219_8, e219_9, e219_12, e219_13, e219_14, e219_15, e219_16, e219_19, e219_22, e219_25, e219_26, ↓reduceIte, Bool.false_eq_true, not_false_eq_true, not_true_eq_false, Nat.reduceLeDiff, Nat.reduceAdd, Nat.reduceEqDiff, Int.reduceToNat, Int.toNat_natCast, iB0, iB1, ru_klI, ru_klR, ru_klF, ru_klJ, ru_kl0, ru_cs0, ru_csI, ru_csR, ru_csF, ru_csJ, wI_add, wI_sub, wI_mul, wI_lt, wI_le, wI_inj, ru_fdE, ru_fdN, ru_iaN, ru_baN, ru_laN, ru_qaN, ru_pfN, ru_isN, ru_bsN, ru_jsN, ru_qsN, ru_set2, Nat.add_right_cancel_iff, if_true, if_false, ite_self, Int.reduceEq, and_self, Int.add_neg_cancel_right, Int.add_zero, Int.zero_add, md_e, md_f19, c, e1, d1]
      exact ih1
theorem p219 {a : Nat} (ha : a + 8 ≤ 320) (hw : wdR (wF M 5 a)) : ru_ev z 219 [.ref 1315, .int (wI a)] (mdPut h M) = some (.inl (some (.int (wI (wln (wF M 5 a) : Nat)))), mdPut h M) := by
  have k := p219l (z := z) (h := h) ha hw (fun k hk => by have := hw.1 k hk; omega) 8 0 (by omega) (fun i hi => absurd hi (Nat.not_lt_zero _))
  simp (disch := omega) only [e219_0, e219_1, en219, ↓reduceIte, Bool.false_eq_true, not_false_eq_true, not_true_eq_false, Nat.reduceLeDiff, Nat.reduceAdd, Nat.reduceEqDiff, Int.reduceToNat, Int.toNat_natCast, iB0, iB1, ru_klI, ru_klR, ru_klF, ru_klJ, ru_kl0, ru_cs0, ru_csI, ru_csR, ru_csF, ru_csJ, wI_add, wI_sub, wI_mul, wI_lt, wI_le, wI_inj, ru_fdE, ru_fdN, ru_iaN, ru_baN, ru_laN, ru_qaN, ru_pfN, ru_isN, ru_bsN, ru_jsN, ru_qsN, ru_set2, Nat.add_right_cancel_iff, if_true, if_false, ite_self, Int.reduceEq, and_self, Int.add_neg_cancel_right, Int.add_zero, Int.zero_add, md_e]
  exact k
theorem cl_l {a n : Nat} (hk : clk a = 103) (h2 : 1000 ≤ a) (hn : cln a = n) {i : Int} (h1 : 0 ≤ i) (h3 : i < n) (h4 : n ≤ 100) : am_la (clPut h C) a (wI i) = some (C.2.2.1 a i.toNat) := by
  have e := clP103 (h := h) (C := C) hk h2
  rw [hn] at e
  exact ru_la e h1 h3 (by omega)
theorem c213 (hR : clR C) {n : Int} (g : -2147483648 ≤ n ∧ n < 2147483648) {f1 f2 : Nat → Int} (hw : rcN C n = 0 → ltR f1 ∧ ltR f2 ∧ C.2.2.1 (alb C + 2) n.toNat = wdL f1 ∧ C.2.2.1 (alb C + 3) n.toNat = wdL f2) : ru_ev z 213 [.ref 1000, .int (wI n)] (clPut h C) = oR (rcN C n) (some (.int (wI ((wln f1 + wln f2 : Nat) : Int)))) (clPut h C) (clPut (thr h) C) := by
  have e1 := c214 (z := z) (h := h) hR g
  have r2 := hR.2.2.1
  by_cases e : rcN C n = 0
  · rw [oR_0 e] at e1 ⊢
    obtain ⟨w1, w2, w3, w4⟩ := hw e
    have hc : 0 ≤ n ∧ n < cNm C := by
      unfold rcN at e
      split at e
      · omega
      · split at e
        · assumption
        · omega
    obtain ⟨-, a2, a3, a4, -, a6, a7, a8, a9⟩ := clA_k hR.1
    have x1 := cl_l (h := h) (C := C) a3 (by omega) a6 hc.1 (by omega) (by omega)
    have x2 := cl_l (h := h) (C := C) a4 (by omega) a7 hc.1 (by omega) (by omega)
    rw [w3] at x1
    rw [w4] at x2
    have y1 := m215 (z := z) (h := clPut h C) w1
    have y2 := m215 (z := z) (h := clPut h C) w2
    rw [show alb C + 2 = alb C + 1 + 1 from rfl] at x1
    rw [show alb C + 3 = alb C + 1 + 2 from rfl] at x2
    simp (disch := omega) only [en213, e213_0, e213_1, e213_2, e213_5, e213_6, e213_9, e213_12, e213_13, e213_14, e213_17, e213_18, e213_19, e213_22, e213_23, e213_26, e213_27, e213_28, e213_31, e213_32, ↓reduceIte, Bool.false_eq_true, not_false_eq_true, not_true_eq_false, Nat.reduceLeDiff, Nat.reduceAdd, Nat.reduceEqDiff, Int.reduceToNat, Int.toNat_natCast, iB0, iB1, ru_klI, ru_klR, ru_klF, ru_klJ, ru_kl0, ru_cs0, ru_csI, ru_csR, ru_csF, ru_csJ, wI_add, wI_sub, wI_mul, wI_lt, wI_le, wI_inj, ru_fdE, ru_fdN, ru_iaN, ru_baN, ru_laN, ru_qaN, ru_pfN, ru_isN, ru_bsN, ru_jsN, ru_qsN, ru_set2, Nat.add_right_cancel_iff, if_true, if_false, ite_self, Int.reduceEq, and_self, Int.add_neg_cancel_right, Int.add_zero, Int.zero_add, cl_e0, clF hR.1, e1, x1, x2, y1, y2, Int.natCast_add]
  · rw [oR_n e] at e1 ⊢
    simp (disch := omega) only [en213, e213_0, e213_1, e213_2, e213_5, e213_6, e213_9, e213_12, e213_13, e213_14, e213_17, e213_18, e213_19, e213_22, e213_23, e213_26, e213_27, e213_28, e213_31, e213_32, ↓reduceIte, Bool.false_eq_true, not_false_eq_true, not_true_eq_false, Nat.reduceLeDiff, Nat.reduceAdd, Nat.reduceEqDiff, Int.reduceToNat, Int.toNat_natCast, iB0, iB1, ru_klI, ru_klR, ru_klF, ru_klJ, ru_kl0, ru_cs0, ru_csI, ru_csR, ru_csF, ru_csJ, wI_add, wI_sub, wI_mul, wI_lt, wI_le, wI_inj, ru_fdE, ru_fdN, ru_iaN, ru_baN, ru_laN, ru_qaN, ru_pfN, ru_isN, ru_bsN, ru_jsN, ru_qsN, ru_set2, Nat.add_right_cancel_iff, if_true, if_false, ite_self, Int.reduceEq, and_self, Int.add_neg_cancel_right, Int.add_zero, Int.zero_add, cl_e0, e1]
theorem p217 (hR : mdR M) {n : Int} (g : -2147483648 ≤ n ∧ n < 2147483648) (hw : rfN1 M n = 0 → wdR (wF M 5 (16 * n.toNat)) ∧ wdR (wF M 5 (16 * n.toNat + 8))) : ru_ev z 217 [.ref 1315, .int (wI n)] (mdPut h M) = some (.inl (some (.int (wI (if rfN1 M n = 0 then ((wln (wF M 5 (16 * n.toNat)) + wln (wF M 5 (16 * n.toNat + 8)) : Nat) : Int) else 0)))), mdPut h (mdT M (rfN1 M n))) := by
  have r2 := hR.2.2.2.1
  have e1 := p118 (z := z) (h := h) hR
  have e2 := p218 (z := z) (h := h) hR g
  unfold rfN1 at hw ⊢
  by_cases e : M.1 1 = 0
  · simp only [e, if_true] at e1 ⊢
    simp (disch := omega) only [en217, e217_0, e217_1, e217_4, e217_7, e217_8, e217_9, e217_12, e217_15, e217_16, e217_19, e217_20, e217_22, e217_23, e217_24, e217_27, e217_28, e217_30, e217_31, e217_32, e217_34, e217_35, e217_38, e217_39, ↓reduceIte, Bool.false_eq_true, not_false_eq_true, not_true_eq_false, Nat.reduceLeDiff, Nat.reduceAdd, Nat.reduceEqDiff, Int.reduceToNat, Int.toNat_natCast, iB0, iB1, ru_klI, ru_klR, ru_klF, ru_klJ, ru_kl0, ru_cs0, ru_csI, ru_csR, ru_csF, ru_csJ, wI_add, wI_sub, wI_mul, wI_lt, wI_le, wI_inj, ru_fdE, ru_fdN, ru_iaN, ru_baN, ru_laN, ru_qaN, ru_pfN, ru_isN, ru_bsN, ru_jsN, ru_qsN, ru_set2, Nat.add_right_cancel_iff, if_true, if_false, ite_self, md_e, e1, Int.reduceEq]
  · simp only [e, if_false] at e1 hw ⊢
    by_cases e3 : 0 ≤ n ∧ n ≤ M.1 20 - 1
    · obtain ⟨m, rfl⟩ := Int.eq_ofNat_of_zero_le e3.1
      simp only [e3, and_self, if_true, Int.toNat_natCast, true_implies] at e2 hw ⊢
      obtain ⟨w1, w2⟩ := hw
      have k1 := p219 (z := z) (h := h) (M := mdT M 0) (a := 16 * m) (by omega) w1
      have k2 := p219 (z := z) (h := h) (M := mdT M 0) (a := 16 * m + 8) (by omega) w2
      simp only [Int.natCast_add, Int.natCast_mul, show ((16 : Nat) : Int) = 16 from rfl, show ((8 : Nat) : Int) = 8 from rfl] at k1 k2
      simp (disch := omega) only [en217, e217_0, e217_1, e217_4, e217_7, e217_8, e217_9, e217_12, e217_15, e217_16, e217_19, e217_20, e217_22, e217_23, e217_24, e217_27, e217_28, e217_30, e217_31, e217_32, e217_34, e217_35, e217_38, e217_39, ↓reduceIte, Bool.false_eq_true, not_false_eq_true, not_true_eq_false, Nat.reduceLeDiff, Nat.reduceAdd, Nat.reduceEqDiff, Int.reduceToNat, Int.toNat_natCast, iB0, iB1, ru_klI, ru_klR, ru_klF, ru_klJ, ru_kl0, ru_cs0, ru_csI, ru_csR, ru_csF, ru_csJ, wI_add, wI_sub, wI_mul, wI_lt, wI_le, wI_inj, ru_fdE, ru_fdN, ru_iaN, ru_baN, ru_laN, ru_qaN, ru_pfN, ru_isN, ru_bsN, ru_jsN, ru_qsN, ru_set2, Nat.add_right_cancel_iff, if_true, if_false, ite_self, md_e, e1, e2, k1, k2, Int.reduceEq]
      rfl
    · simp only [e3, if_false] at e2 ⊢
      simp (disch := omega) only [en217, e217_0, e217_1, e217_4, e217_7, e217_8, e217_9, e217_12, e217_15, e217_16, e217_19, e217_20, e217_22, e217_23, e217_24, e217_27, e217_28, e217_30, e217_31, e217_32, e217_34, e217_35, e217_38, e217_39, ↓reduceIte, Bool.false_eq_true, not_false_eq_true, not_true_eq_false, Nat.reduceLeDiff, Nat.reduceAdd, Nat.reduceEqDiff, Int.reduceToNat, Int.toNat_natCast, iB0, iB1, ru_klI, ru_klR, ru_klF, ru_klJ, ru_kl0, ru_cs0, ru_csI, ru_csR, ru_csF, ru_csJ, wI_add, wI_sub, wI_mul, wI_lt, wI_le, wI_inj, ru_fdE, ru_fdN, ru_iaN, ru_baN, ru_laN, ru_qaN, ru_pfN, ru_isN, ru_bsN, ru_jsN, ru_qsN, ru_set2, Nat.add_right_cancel_iff, if_true, if_false, ite_self, md_e, e1, e2, Int.reduceEq]
end LET
