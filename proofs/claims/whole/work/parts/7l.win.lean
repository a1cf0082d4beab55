/-! ===== the fullest window ===== -/
theorem enO_cnt {S : Nat → Bool} {key : Nat → Int} {n : Nat} {e : Nat → Nat} (h : enO S key n e) (P : Nat → Bool) : cnB (fun i => P (e i)) n = cnB (fun k => S k && P k) 12 := by
  have key2 : ∀ i, i ≤ n → cnB (fun j => P (e j)) i = cnB (fun o => (S o && befB e i o) && P o) 12 := by
    intro i
    induction i with
    | zero => intro _; exact (cnB_none 12 (fun o _ => by simp [befB])).symm
    | succ i ih =>
      intro hi
      have h1 := h.1 i (by omega)
      have hnb : befB e i (e i) = false := by
        cases hb : befB e i (e i) with
        | false => rfl
        | true =>
          obtain ⟨j, h2, h3⟩ := (befB_iff e (e i) i).mp hb
          have := enO_inj h (by omega) (by omega) h3
          omega
      rw [cnB, ih (by omega)]
      by_cases hp : P (e i) = true
      · rw [if_pos hp]
        refine (cnB_one (k := e i) 12 h1.1 ?_ ?_ ?_).symm
        · simp [befB, h1.2, hp]
        · rw [hnb]; simp
        · intro o _ ho
          have : decide (e i = o) = false := decide_eq_false (fun c => ho c.symm)
          simp [befB, this]
      · rw [if_neg hp, Nat.add_zero]
        refine cnB_congr fun o _ => ?_
        by_cases c : o = e i
        · subst c
          simp only [Bool.not_eq_true] at hp
          rw [hp]; simp
        · have : decide (e i = o) = false := decide_eq_false (fun c2 => c c2.symm)
          simp [befB, this]
  rw [key2 n (Nat.le_refl _)]
  refine cnB_congr fun o ho => ?_
  by_cases hs : S o = true
  · obtain ⟨j, hj, e1⟩ := h.2.2 o ho hs
    rw [(befB_iff e o n).mpr ⟨j, hj, e1⟩]; simp
  · simp [hs]
/-- how many are in a window -/
def wcF (q : tPh) (w x : Int) : Nat := cnB (fun k => shS q k && decide (x ≤ shX q k ∧ shX q k < x + w)) 12
def wnS (q : tPh) (w best : Int) : Prop := (best = 0 ∨ ∃ k, shS q k = true ∧ best = shX q k - w + 1) ∧ 0 ≤ best ∧ wcF q w 0 ≤ wcF q w best ∧ (∀ k, shS q k = true → 0 ≤ shX q k - w + 1 → wcF q w (shX q k - w + 1) ≤ wcF q w best ∧ (wcF q w (shX q k - w + 1) = wcF q w best → best ≤ shX q k - w + 1)) ∧ (wcF q w 0 = wcF q w best → best = 0)
def wnI (q : tPh) (w l best : Int) : Prop := (0 ≤ best ∧ best ≤ l) ∧ (∀ y, 0 ≤ y → y ≤ l → wcF q w y ≤ wcF q w best) ∧ ∀ y, 0 ≤ y → y < best → wcF q w y < wcF q w best
theorem wn_eq {q : tPh} {w l a b : Int} (hl : ∀ k, shS q k = true → shX q k ≤ l + w - 1) (hl0 : 0 ≤ l) (h1 : wnS q w a) (h2 : wnI q w l b) : a = b := by
  obtain ⟨a1, a2, a3, a4, a5⟩ := h1
  obtain ⟨b1, b2, b3⟩ := h2
  have al : a ≤ l := by
    rcases a1 with a1 | ⟨k, k1, k2⟩
    · omega
    · have := hl k k1; omega
  have c1 := b2 a a2 al
  by_cases e : b = 0
  · subst e
    exact a5 (by omega)
  · have hk : ∃ k, k < 12 ∧ shS q k = true ∧ shX q k = b + w - 1 := by
      by_cases c : ∃ k, k < 12 ∧ shS q k = true ∧ shX q k = b + w - 1
      · exact c
      · exfalso
        have h3 := b3 (b - 1) (by omega) (by omega)
        have h4 : wcF q w b ≤ wcF q w (b - 1) := cnB_mono 12 (fun o ho hp => by
          simp only [Bool.and_eq_true, decide_eq_true_eq] at hp ⊢
          refine ⟨hp.1, ?_⟩
          by_cases c2 : shX q o = b + w - 1
          · exact absurd ⟨o, ho, hp.1, c2⟩ c
          · omega)
        omega
    obtain ⟨k, -, k1, k2⟩ := hk
    have h5 := a4 k k1 (by omega)
    rw [show shX q k - w + 1 = b by omega] at h5
    have h6 := h5.2 (by omega)
    by_cases c : a < b
    · have := b3 a a2 c; omega
    · omega
section WIN
variable {z : Bool} {h : am_H} {C : tCl} {M : tMd} {P : Nat} {p : tPi}
theorem k296 (hP : isPi P) {q : tPh} {gap : Int} (hr : phR q) (hOK : piOK p q gap) {x w : Int} (hx : 0 ≤ x ∧ x ≤ 2000) (hw : 0 ≤ w ∧ w ≤ 1000) : ru_ev z 296 [.ref P, .int (wI x), .int (wI w)] (clPut h (piPut C P p)) = some (.inl (some (.int (wI (wcF q w x : Nat)))), clPut h (piPut C P p)) := by
  obtain ⟨n, eo, er, h0, hxy, w1, w2, -⟩ := hOK
  have hn := enO_12 w1
  have key : ∀ d i, i + d = n → ∀ l5, ru_n z 296 5 [some (.ref P), some (.int (wI x)), some (.int (wI w)), some (.int (wI (cnB (fun j => decide (x ≤ shX q (eo j) ∧ shX q (eo j) < x + w)) i : Nat))), some (.int (wI i)), l5] [] (clPut h (piPut C P p)) = some (.inl (some (.int (wI (cnB (fun j => decide (x ≤ shX q (eo j) ∧ shX q (eo j) < x + w)) n : Nat)))), clPut h (piPut C P p)) := by
    intro d
    induction d with
    | zero =>
      intro i hi l5
      obtain rfl : i = n := by omega
      have c : ((i : Int) ≤ (i : Int)) = True := eq_true (Int.le_refl _)
      simp (disch := omega) only [e296_5, e296_7, e296_8, e296_11, e296_51, e296_52, ↓reduceIte, Bool.false_eq_true, not_false_eq_true, not_true_eq_false, Nat.reduceLeDiff, Nat.reduceAdd, Nat.reduceEqDiff, Int.reduceToNat, Int.toNat_natCast, iB0, iB1, ru_klI, ru_klR, ru_klF, ru_klJ, ru_kl0, ru_cs0, ru_csI, ru_csR, ru_csF, ru_csJ, wI_add, wI_sub, wI_mul, wI_lt, wI_le, wI_inj, ru_fdE, ru_fdN, ru_iaN, ru_baN, ru_laN, ru_qaN, ru_pfN, ru_isN, ru_bsN, ru_jsN, ru_qsN, ru_set2, Nat.add_right_cancel_iff, if_true, if_false, ite_self, Int.reduceEq, and_self, Int.add_neg_cancel_right, Int.add_zero, Int.zero_add, pi_e hP, pi_f0 hP, pi_s0 hP, pi_f1 hP, pi_s1 hP, pi_f2 hP, pi_a0 hP, pi_w0 hP, pi_f3 hP, pi_a1 hP, pi_w1 hP, pi_f4 hP, pi_a2 hP, pi_w2 hP, pi_f5 hP, pi_a3 hP, pi_w3 hP, pi_f6 hP, pi_a4 hP, pi_w4 hP, pi_f7 hP, pi_a5 hP, pi_w5 hP, pi_f8 hP, pi_a6 hP, pi_w6 hP, pi_f9 hP, pi_a7 hP, pi_w7 hP, pi_f10 hP, pi_a8 hP, pi_w8 hP, pi_f11 hP, pi_a9 hP, pi_w9 hP, Int.reduceEq, ru_ctR, ru_ctI, upC_e, upC_n, upC_up, up1_e, up1_n, h0, c]
    | succ d ih =>
      intro i hi l5
      have c : ((n : Int) ≤ (i : Int)) = False := eq_false (by omega)
      have k1 := w1.1 i (by omega)
      have k2 := hxy _ k1.1 k1.2
      have k3 := shS_rng hr k1.2
      have k4 := w2 i (by omega)
      have hle := cnB_le (fun j => decide (x ≤ shX q (eo j) ∧ shX q (eo j) < x + w)) i
      rw [← ih (i + 1) (by omega) (some (.int (wI (shX q (eo i))))), e296_5]
      by_cases e1 : x ≤ shX q (eo i)
      · have d1 : (shX q (eo i) < x) = False := eq_false (by omega)
        by_cases e2 : shX q (eo i) < x + w
        · have d2 : (x + w ≤ shX q (eo i)) = False := eq_false (by omega)
          have ec : cnB (fun j => decide (x ≤ shX q (eo j) ∧ shX q (eo j) < x + w)) (i + 1) = cnB (fun j => decide (x ≤ shX q (eo j) ∧ shX q (eo j) < x + w)) i + 1 := by rw [cnB, if_pos (decide_eq_true ⟨e1, e2⟩)]
          rw [ec]
          simp (disch := omega) only [e296_7, e296_8, e296_11, e296_14, e296_15, e296_18, e296_19, e296_22, e296_24, e296_25, e296_26, e296_28, e296_30, e296_31, e296_34, e296_36, e296_37, e296_38, e296_39, e296_42, e296_45, e296_48, ↓reduceIte, Bool.false_eq_true, not_false_eq_true, not_true_eq_false, Nat.reduceLeDiff, Nat.reduceAdd, Nat.reduceEqDiff, Int.reduceToNat, Int.toNat_natCast, iB0, iB1, ru_klI, ru_klR, ru_klF, ru_klJ, ru_kl0, ru_cs0, ru_csI, ru_csR, ru_csF, ru_csJ, wI_add, wI_sub, wI_mul, wI_lt, wI_le, wI_inj, ru_fdE, ru_fdN, ru_iaN, ru_baN, ru_laN, ru_qaN, ru_pfN, ru_isN, ru_bsN, ru_jsN, ru_qsN, ru_set2, Nat.add_right_cancel_iff, if_true, if_false, ite_self, Int.reduceEq, and_self, Int.add_neg_cancel_right, Int.add_zero, Int.zero_add, pi_e hP, pi_f0 hP, pi_s0 hP, pi_f1 hP, pi_s1 hP, pi_f2 hP, pi_a0 hP, pi_w0 hP, pi_f3 hP, pi_a1 hP, pi_w1 hP, pi_f4 hP, pi_a2 hP, pi_w2 hP, pi_f5 hP, pi_a3 hP, pi_w3 hP, pi_f6 hP, pi_a4 hP, pi_w4 hP, pi_f7 hP, pi_a5 hP, pi_w5 hP, pi_f8 hP, pi_a6 hP, pi_w6 hP, pi_f9 hP, pi_a7 hP, pi_w7 hP, pi_f10 hP, pi_a8 hP, pi_w8 hP, pi_f11 hP, pi_a9 hP, pi_w9 hP, Int.reduceEq, ru_ctR, ru_ctI, upC_e, upC_n, upC_up, up1_e, up1_n, h0, c, k4, k2.1, d1, d2, Int.natCast_add, Int.natCast_one]
        · have d2 : (x + w ≤ shX q (eo i)) = True := eq_true (by omega)
          have ec : cnB (fun j => decide (x ≤ shX q (eo j) ∧ shX q (eo j) < x + w)) (i + 1) = cnB (fun j => decide (x ≤ shX q (eo j) ∧ shX q (eo j) < x + w)) i := by rw [cnB, if_neg (fun c => e2 (of_decide_eq_true c).2), Nat.add_zero]
          rw [ec]
          simp (disch := omega) only [e296_7, e296_8, e296_11, e296_14, e296_15, e296_18, e296_19, e296_22, e296_24, e296_25, e296_26, e296_28, e296_30, e296_31, e296_34, e296_36, e296_37, e296_38, e296_39, e296_42, e296_45, e296_48, ↓reduceIte, Bool.false_eq_true, not_false_eq_true, not_true_eq_false, Nat.reduceLeDiff, Nat.reduceAdd, Nat.reduceEqDiff, Int.reduceToNat, Int.toNat_natCast, iB0, iB1, ru_klI, ru_klR, ru_klF, ru_klJ, ru_kl0, ru_cs0, ru_csI, ru_csR, ru_csF, ru_csJ, wI_add, wI_sub, wI_mul, wI_lt, wI_le, wI_inj, ru_fdE, ru_fdN, ru_iaN, ru_baN, ru_laN, ru_qaN, ru_pfN, ru_isN, ru_bsN, ru_jsN, ru_qsN, ru_set2, Nat.add_right_cancel_iff, if_true, if_false, ite_self, Int.reduceEq, and_self, Int.add_neg_cancel_right, Int.add_zero, Int.zero_add, pi_e hP, pi_f0 hP, pi_s0 hP, pi_f1 hP, pi_s1 hP, pi_f2 hP, pi_a0 hP, pi_w0 hP, pi_f3 hP, pi_a1 hP, pi_w1 hP, pi_f4 hP, pi_a2 hP, pi_w2 hP, pi_f5 hP, pi_a3 hP, pi_w3 hP, pi_f6 hP, pi_a4 hP, pi_w4 hP, pi_f7 hP, pi_a5 hP, pi_w5 hP, pi_f8 hP, pi_a6 hP, pi_w6 hP, pi_f9 hP, pi_a7 hP, pi_w7 hP, pi_f10 hP, pi_a8 hP, pi_w8 hP, pi_f11 hP, pi_a9 hP, pi_w9 hP, Int.reduceEq, ru_ctR, ru_ctI, upC_e, upC_n, upC_up, up1_e, up1_n, h0, c, k4, k2.1, d1, d2, Int.natCast_add, Int.natCast_one]
      · have d1 : (shX q (eo i) < x) = True := eq_true (by omega)
        have ec : cnB (fun j => decide (x ≤ shX q (eo j) ∧ shX q (eo j) < x + w)) (i + 1) = cnB (fun j => decide (x ≤ shX q (eo j) ∧ shX q (eo j) < x + w)) i := by rw [cnB, if_neg (fun c => e1 (of_decide_eq_true c).1), Nat.add_zero]
        rw [ec]
        simp (disch := omega) only [e296_7, e296_8, e296_11, e296_14, e296_15, e296_18, e296_19, e296_22, e296_24, e296_25, e296_26, e296_28, e296_30, e296_31, e296_34, e296_36, e296_37, e296_38, e296_39, e296_42, e296_45, e296_48, ↓reduceIte, Bool.false_eq_true, not_false_eq_true, not_true_eq_false, Nat.reduceLeDiff, Nat.reduceAdd, Nat.reduceEqDiff, Int.reduceToNat, Int.toNat_natCast, iB0, iB1, ru_klI, ru_klR, ru_klF, ru_klJ, ru_kl0, ru_cs0, ru_csI, ru_csR, ru_csF, ru_csJ, wI_add, wI_sub, wI_mul, wI_lt, wI_le, wI_inj, ru_fdE, ru_fdN, ru_iaN, ru_baN, ru_laN, ru_qaN, ru_pfN, ru_isN, ru_bsN, ru_jsN, ru_qsN, ru_set2, Nat.add_right_cancel_iff, if_true, if_false, ite_self, Int.reduceEq, and_self, Int.add_neg_cancel_right, Int.add_zero, Int.zero_add, pi_e hP, pi_f0 hP, pi_s0 hP, pi_f1 hP, pi_s1 hP, pi_f2 hP, pi_a0 hP, pi_w0 hP, pi_f3 hP, pi_a1 hP, pi_w1 hP, pi_f4 hP, pi_a2 hP, pi_w2 hP, pi_f5 hP, pi_a3 hP, pi_w3 hP, pi_f6 hP, pi_a4 hP, pi_w4 hP, pi_f7 hP, pi_a5 hP, pi_w5 hP, pi_f8 hP, pi_a6 hP, pi_w6 hP, pi_f9 hP, pi_a7 hP, pi_w7 hP, pi_f10 hP, pi_a8 hP, pi_w8 hP, pi_f11 hP, pi_a9 hP, pi_w9 hP, Int.reduceEq, ru_ctR, ru_ctI, upC_e, upC_n, upC_up, up1_e, up1_n, h0, c, k4, k2.1, d1, Int.natCast_add, Int.natCast_one]
  have k0 := key n 0 (by omega) none
  have e0 : ((cnB (fun j => decide (x ≤ shX q (eo j) ∧ shX q (eo j) < x + w)) 0 : Nat) : Int) = 0 := rfl
  rw [e0, show ((0 : Nat) : Int) = 0 from rfl, enO_cnt w1 (fun k => decide (x ≤ shX q k ∧ shX q k < x + w))] at k0
  simp (disch := omega) only [en296, e296_0, e296_1, e296_2, e296_3, ↓reduceIte, Bool.false_eq_true, not_false_eq_true, not_true_eq_false, Nat.reduceLeDiff, Nat.reduceAdd, Nat.reduceEqDiff, Int.reduceToNat, Int.toNat_natCast, iB0, iB1, ru_klI, ru_klR, ru_klF, ru_klJ, ru_kl0, ru_cs0, ru_csI, ru_csR, ru_csF, ru_csJ, wI_add, wI_sub, wI_mul, wI_lt, wI_le, wI_inj, ru_fdE, ru_fdN, ru_iaN, ru_baN, ru_laN, ru_qaN, ru_pfN, ru_isN, ru_bsN, ru_jsN, ru_qsN, ru_set2, Nat.add_right_cancel_iff, if_true, if_false, ite_self, Int.reduceEq, and_self, Int.add_neg_cancel_right, Int.add_zero, Int.zero_add, pi_e hP, k0]
  rfl
theorem wcF_le (q : tPh) (w x : Int) : wcF q w x ≤ 12 := cnB_le _ _
theorem k295 (hP : isPi P) {q : tPh} {gap : Int} (hr : phR q) (hOK : piOK p q gap) {w : Int} (hw : 1 ≤ w ∧ w ≤ 1000) : ∃ best, wnS q w best ∧ best ≤ 999 ∧ ru_ev z 295 [.ref P, .int (wI w)] (clPut h (piPut C P p)) = some (.inl (some (.int (wI best))), clPut h (piPut C P p)) := by
  have h296 := fun x (hx : 0 ≤ x ∧ x ≤ 2000) => k296 (z := z) (h := h) (C := C) hP hr hOK (x := x) (w := w) hx (by omega)
  obtain ⟨n, eo, er, h0, hxy, w1, w2, -⟩ := hOK
  have hn := enO_12 w1
  have hasc : ∀ i j, i < j → j < n → shX q (eo i) ≤ shX q (eo j) := fun i j hij hj => by
    have a1 := w1.2.1 i j hij hj
    have a2 := shS_rng hr (w1.1 i (by omega)).2
    have a3 := shS_rng hr (w1.1 j hj).2
    unfold kyO at a1
    omega
  have key : ∀ d i, i + d = n → ∀ (best : Int) (l5 l6 : Option Value), (best = 0 ∨ ∃ j, j < i ∧ best = (if 0 ≤ shX q (eo j) - w + 1 then shX q (eo j) - w + 1 else 0)) → 0 ≤ best → best ≤ 999 → wcF q w 0 ≤ wcF q w best → (∀ j, j < i → wcF q w (if 0 ≤ shX q (eo j) - w + 1 then shX q (eo j) - w + 1 else 0) ≤ wcF q w best ∧ (wcF q w (if 0 ≤ shX q (eo j) - w + 1 then shX q (eo j) - w + 1 else 0) = wcF q w best → best ≤ (if 0 ≤ shX q (eo j) - w + 1 then shX q (eo j) - w + 1 else 0))) → (wcF q w 0 = wcF q w best → best = 0) → ∃ best', wnS q w best' ∧ best' ≤ 999 ∧ ru_n z 295 12 [some (.ref P), some (.int (wI w)), some (.int (wI best)), some (.int (wI (wcF q w best : Nat))), some (.int (wI i)), l5, l6] [] (clPut h (piPut C P p)) = some (.inl (some (.int (wI best'))), clPut h (piPut C P p)) := by
    intro d
    induction d with
    | zero =>
      intro i hi best l5 l6 a1 a2 a2' a3 a4 a5
      obtain rfl : i = n := by omega
      refine ⟨best, ⟨?_, a2, a3, fun k hs hk => ?_, a5⟩, a2', ?_⟩
      · rcases a1 with a1 | ⟨j, j1, j2⟩
        · exact Or.inl a1
        · by_cases c : 0 ≤ shX q (eo j) - w + 1
          · rw [if_pos c] at j2; exact Or.inr ⟨_, (w1.1 j j1).2, j2⟩
          · rw [if_neg c] at j2; exact Or.inl j2
      · obtain ⟨j, j1, rfl⟩ := w1.2.2 k (shS_rng hr hs).2.2.2.1 hs
        have := a4 j j1
        rw [if_pos hk] at this
        exact this
      · have c : ((i : Int) ≤ (i : Int)) = True := eq_true (Int.le_refl _)
        simp (disch := omega) only [e295_12, e295_14, e295_15, e295_18, e295_70, e295_71, ↓reduceIte, Bool.false_eq_true, not_false_eq_true, not_true_eq_false, Nat.reduceLeDiff, Nat.reduceAdd, Nat.reduceEqDiff, Int.reduceToNat, Int.toNat_natCast, iB0, iB1, ru_klI, ru_klR, ru_klF, ru_klJ, ru_kl0, ru_cs0, ru_csI, ru_csR, ru_csF, ru_csJ, wI_add, wI_sub, wI_mul, wI_lt, wI_le, wI_inj, ru_fdE, ru_fdN, ru_iaN, ru_baN, ru_laN, ru_qaN, ru_pfN, ru_isN, ru_bsN, ru_jsN, ru_qsN, ru_set2, Nat.add_right_cancel_iff, if_true, if_false, ite_self, Int.reduceEq, and_self, Int.add_neg_cancel_right, Int.add_zero, Int.zero_add, pi_e hP, pi_f0 hP, pi_s0 hP, pi_f1 hP, pi_s1 hP, pi_f2 hP, pi_a0 hP, pi_w0 hP, pi_f3 hP, pi_a1 hP, pi_w1 hP, pi_f4 hP, pi_a2 hP, pi_w2 hP, pi_f5 hP, pi_a3 hP, pi_w3 hP, pi_f6 hP, pi_a4 hP, pi_w4 hP, pi_f7 hP, pi_a5 hP, pi_w5 hP, pi_f8 hP, pi_a6 hP, pi_w6 hP, pi_f9 hP, pi_a7 hP, pi_w7 hP, pi_f10 hP, pi_a8 hP, pi_w8 hP, pi_f11 hP, pi_a9 hP, pi_w9 hP, Int.reduceEq, ru_ctR, ru_ctI, upC_e, upC_n, upC_up, up1_e, up1_n, h0, c]
    | succ d ih =>
      intro i hi best l5 l6 a1 a2 a2' a3 a4 a5
      have c : ((n : Int) ≤ (i : Int)) = False := eq_false (by omega)
      have k1 := w1.1 i (by omega)
      have k2 := hxy _ k1.1 k1.2
      have k3 := shS_rng hr k1.2
      have k4 := w2 i (by omega)
      have hx0 : (if shX q (eo i) - w + 1 ≤ 0 then (0 : Int) else shX q (eo i) - w + 1) = (if 0 ≤ shX q (eo i) - w + 1 then shX q (eo i) - w + 1 else 0) := by
        by_cases c1 : 0 ≤ shX q (eo i) - w + 1
        · by_cases c2 : shX q (eo i) - w + 1 ≤ 0
          · rw [if_pos c1, if_pos c2]; omega
          · rw [if_pos c1, if_neg c2]
        · rw [if_neg c1, if_pos (by omega)]
      generalize hxx : (if 0 ≤ shX q (eo i) - w + 1 then shX q (eo i) - w + 1 else (0 : Int)) = x at *
      have hxr : 0 ≤ x ∧ x ≤ 999 := by rw [← hxx]; split <;> omega
      have m1 := h296 x (by omega)
      have l1 := wcF_le q w x
      have l2 := wcF_le q w best
      by_cases e : wcF q w best < wcF q w x
      · obtain ⟨b', t1, t1', t2⟩ := ih (i + 1) (by omega) x (some (.int (wI x))) (some (.int (wI (wcF q w x : Nat)))) (Or.inr ⟨i, by omega, hxx.symm⟩) hxr.1 hxr.2 (by omega) (fun j hj => by
          by_cases ej : j = i
          · subst ej; rw [hxx]; exact ⟨Nat.le_refl _, fun _ => Int.le_refl _⟩
          · have := a4 j (by omega)
            exact ⟨by omega, fun c => by omega⟩) (fun c => by omega)
        refine ⟨b', t1, t1', ?_⟩
        have ce : (((wcF q w x : Nat) : Int) ≤ ((wcF q w best : Nat) : Int)) = False := eq_false (by omega)
        rw [← t2, e295_12]
        simp (disch := omega) only [e295_14, e295_15, e295_18, e295_21, e295_22, e295_23, e295_26, e295_27, e295_30, e295_32, e295_33, e295_34, e295_35, e295_36, e295_37, e295_38, e295_41, e295_43, e295_44, e295_46, e295_47, e295_50, e295_52, e295_54, e295_55, e295_58, e295_60, e295_61, e295_63, e295_64, e295_67, ↓reduceIte, Bool.false_eq_true, not_false_eq_true, not_true_eq_false, Nat.reduceLeDiff, Nat.reduceAdd, Nat.reduceEqDiff, Int.reduceToNat, Int.toNat_natCast, iB0, iB1, ru_klI, ru_klR, ru_klF, ru_klJ, ru_kl0, ru_cs0, ru_csI, ru_csR, ru_csF, ru_csJ, wI_add, wI_sub, wI_mul, wI_lt, wI_le, wI_inj, ru_fdE, ru_fdN, ru_iaN, ru_baN, ru_laN, ru_qaN, ru_pfN, ru_isN, ru_bsN, ru_jsN, ru_qsN, ru_set2, Nat.add_right_cancel_iff, if_true, if_false, ite_self, Int.reduceEq, and_self, Int.add_neg_cancel_right, Int.add_zero, Int.zero_add, pi_e hP, pi_f0 hP, pi_s0 hP, pi_f1 hP, pi_s1 hP, pi_f2 hP, pi_a0 hP, pi_w0 hP, pi_f3 hP, pi_a1 hP, pi_w1 hP, pi_f4 hP, pi_a2 hP, pi_w2 hP, pi_f5 hP, pi_a3 hP, pi_w3 hP, pi_f6 hP, pi_a4 hP, pi_w4 hP, pi_f7 hP, pi_a5 hP, pi_w5 hP, pi_f8 hP, pi_a6 hP, pi_w6 hP, pi_f9 hP, pi_a7 hP, pi_w7 hP, pi_f10 hP, pi_a8 hP, pi_w8 hP, pi_f11 hP, pi_a9 hP, pi_w9 hP, Int.reduceEq, ru_ctR, ru_ctI, upC_e, upC_n, upC_up, up1_e, up1_n, h0, c, k4, k2.1, m271, hx0, m1, ce, Int.natCast_add, Int.natCast_one]
      · obtain ⟨b', t1, t1', t2⟩ := ih (i + 1) (by omega) best (some (.int (wI x))) (some (.int (wI (wcF q w x : Nat)))) (by
          rcases a1 with a1 | ⟨j, j1, j2⟩
          · exact Or.inl a1
          · exact Or.inr ⟨j, by omega, j2⟩) a2 a2' a3 (fun j hj => by
          by_cases ej : j = i
          · subst ej
            rw [hxx]
            refine ⟨by omega, fun _ => ?_⟩
            rcases a1 with a1 | ⟨j', j1, j2⟩
            · omega
            · have := hasc j' j j1 (by omega)
              rw [j2, ← hxx]
              repeat' split
              all_goals omega
          · exact a4 j (by omega)) a5
        refine ⟨b', t1, t1', ?_⟩
        have ce : (((wcF q w x : Nat) : Int) ≤ ((wcF q w best : Nat) : Int)) = True := eq_true (by omega)
        rw [← t2, e295_12]
        simp (disch := omega) only [e295_14, e295_15, e295_18, e295_21, e295_22, e295_23, e295_26, e295_27, e295_30, e295_32, e295_33, e295_34, e295_35, e295_36, e295_37, e295_38, e295_41, e295_43, e295_44, e295_46, e295_47, e295_50, e295_52, e295_54, e295_55, e295_58, e295_60, e295_61, e295_63, e295_64, e295_67, ↓reduceIte, Bool.false_eq_true, not_false_eq_true, not_true_eq_false, Nat.reduceLeDiff, Nat.reduceAdd, Nat.reduceEqDiff, Int.reduceToNat, Int.toNat_natCast, iB0, iB1, ru_klI, ru_klR, ru_klF, ru_klJ, ru_kl0, ru_cs0, ru_csI, ru_csR, ru_csF, ru_csJ, wI_add, wI_sub, wI_mul, wI_lt, wI_le, wI_inj, ru_fdE, ru_fdN, ru_iaN, ru_baN, ru_laN, ru_qaN, ru_pfN, ru_isN, ru_bsN, ru_jsN, ru_qsN, ru_set2, Nat.add_right_cancel_iff, if_true, if_false, ite_self, Int.reduceEq, and_self, Int.add_neg_cancel_right, Int.add_zero, Int.zero_add, pi_e hP, pi_f0 hP, pi_s0 hP, pi_f1 hP, pi_s1 hP, pi_f2 hP, pi_a0 hP, pi_w0 hP, pi_f3 hP, pi_a1 hP, pi_w1 hP, pi_f4 hP, pi_a2 hP, pi_w2 hP, pi_f5 hP, pi_a3 hP, pi_w3 hP, pi_f6 hP, pi_a4 hP, pi_w4 hP, pi_f7 hP, pi_a5 hP, pi_w5 hP, pi_f8 hP, pi_a6 hP, pi_w6 hP, pi_f9 hP, pi_a7 hP, pi_w7 hP, pi_f10 hP, pi_a8 hP, pi_w8 hP, pi_f11 hP, pi_a9 hP, pi_w9 hP, Int.reduceEq, ru_ctR, ru_ctI, upC_e, upC_n, upC_up, up1_e, up1_n, h0, c, k4, k2.1, m271, hx0, m1, ce, Int.natCast_add, Int.natCast_one]
  obtain ⟨b', t1, t1', t2⟩ := key n 0 (by omega) 0 none none (Or.inl rfl) (by omega) (by omega) (Nat.le_refl _) (fun j hj => by omega) (fun _ => rfl)
  refine ⟨b', t1, t1', ?_⟩
  have m1 := h296 0 (by omega)
  rw [show ((0 : Nat) : Int) = 0 from rfl] at t2
  simp (disch := omega) only [en295, e295_0, e295_1, e295_2, e295_3, e295_4, e295_5, e295_8, e295_9, e295_10, ↓reduceIte, Bool.false_eq_true, not_false_eq_true, not_true_eq_false, Nat.reduceLeDiff, Nat.reduceAdd, Nat.reduceEqDiff, Int.reduceToNat, Int.toNat_natCast, iB0, iB1, ru_klI, ru_klR, ru_klF, ru_klJ, ru_kl0, ru_cs0, ru_csI, ru_csR, ru_csF, ru_csJ, wI_add, wI_sub, wI_mul, wI_lt, wI_le, wI_inj, ru_fdE, ru_fdN, ru_iaN, ru_baN, ru_laN, ru_qaN, ru_pfN, ru_isN, ru_bsN, ru_jsN, ru_qsN, ru_set2, Nat.add_right_cancel_iff, if_true, if_false, ite_self, Int.reduceEq, and_self, Int.add_neg_cancel_right, Int.add_zero, Int.zero_add, pi_e hP, m1, t2]
theorem c294 (hR : clR C) {f w : Int} (g : -2147483648 ≤ f ∧ f < 2147483648) (g2 : -2147483648 ≤ w ∧ w < 2147483648) : ∃ t v C', ru_ev z 294 [.ref 1000, .int (wI f), .int (wI w)] (clPut h C) = oR t (some (.int (wI v))) (clPut h C') (clPut (thr h) C') ∧ rpC C f (fun _ t v => (1 ≤ w ∧ w ≤ (cph C (cAp C f.toNat)).1 4 - (cph C (cAp C f.toNat)).1 2 + 1 ∧ t = 0 ∧ wnS (cph C (cAp C f.toNat)) w v) ∨ (¬ (1 ≤ w ∧ w ≤ (cph C (cAp C f.toNat)).1 4 - (cph C (cAp C f.toNat)).1 2 + 1) ∧ t = 3)) t v C' := by
  by_cases e : rcP C f = 0
  · obtain ⟨P, p', hP0, hOK, e1⟩ := c187 (z := z) (h := h) hR g e
    have hP : isPi P := Or.inl hP0
    have hq := (dph (h := h) hR e).2
    have s := phR_s hq
    obtain ⟨r1, r2, r3, r4, r5, r6, r7, r8⟩ := clR_pi (p := p') hP hR
    have hf5 : f.toNat < 5 := by
      have := hR.2.1
      obtain ⟨-, b2, b3⟩ := rcP_0 e
      omega
    have e2 := d78 (z := z) (h := h) r1 g
    rw [r8 f, oR_0 e, r5] at e2
    have e3 := m278 (z := z) (h := clPut h (piPut C P p')) (cl_ph (h := h) (C := piPut C P p') (cAp_ph hR.1 hf5))
    rw [r6 _ hf5] at e3
    have mx := c208 (z := z) (h := clPut h (piPut C P p')) g2 (show (-2147483648 : Int) ≤ 1 ∧ (1 : Int) < 2147483648 by omega) (show (-2147483648 : Int) ≤ (cph C (cAp C f.toNat)).1 4 - (cph C (cAp C f.toNat)).1 2 + 1 ∧ (cph C (cAp C f.toNat)).1 4 - (cph C (cAp C f.toNat)).1 2 + 1 < 2147483648 by omega)
    by_cases c : 1 ≤ w ∧ w ≤ (cph C (cAp C f.toNat)).1 4 - (cph C (cAp C f.toNat)).1 2 + 1
    · obtain ⟨b, k1, -, k3⟩ := k295 (z := z) (h := h) (C := C) hP hq hOK (w := w) (by omega)
      refine ⟨0, b, piPut C P p', ?_, Or.inr ⟨e, p', by rw [hP0], hOK, Or.inl ⟨c.1, c.2, rfl, k1⟩⟩⟩
      rw [oR_0 rfl]
      rw [if_pos c, oR_0 rfl] at mx
      simp (disch := omega) only [en294, e294_0, e294_1, e294_2, e294_5, e294_6, e294_7, e294_8, e294_9, e294_10, e294_13, e294_16, e294_19, e294_20, e294_21, e294_24, ↓reduceIte, Bool.false_eq_true, not_false_eq_true, not_true_eq_false, Nat.reduceLeDiff, Nat.reduceAdd, Nat.reduceEqDiff, Int.reduceToNat, Int.toNat_natCast, iB0, iB1, ru_klI, ru_klR, ru_klF, ru_klJ, ru_kl0, ru_cs0, ru_csI, ru_csR, ru_csF, ru_csJ, wI_add, wI_sub, wI_mul, wI_lt, wI_le, wI_inj, ru_fdE, ru_fdN, ru_iaN, ru_baN, ru_laN, ru_qaN, ru_pfN, ru_isN, ru_bsN, ru_jsN, ru_qsN, ru_set2, Nat.add_right_cancel_iff, if_true, if_false, ite_self, Int.reduceEq, and_self, Int.add_neg_cancel_right, Int.add_zero, Int.zero_add, cl_e0, e1, e2, e3, mx, k3]
    · refine ⟨3, 0, piPut C P p', ?_, Or.inr ⟨e, p', by rw [hP0], hOK, Or.inr ⟨c, rfl⟩⟩⟩
      rw [oR_n (by decide)]
      rw [if_neg c, oR_n (by decide)] at mx
      simp (disch := omega) only [en294, e294_0, e294_1, e294_2, e294_5, e294_6, e294_7, e294_8, e294_9, e294_10, e294_13, e294_16, e294_19, e294_20, e294_21, e294_24, ↓reduceIte, Bool.false_eq_true, not_false_eq_true, not_true_eq_false, Nat.reduceLeDiff, Nat.reduceAdd, Nat.reduceEqDiff, Int.reduceToNat, Int.toNat_natCast, iB0, iB1, ru_klI, ru_klR, ru_klF, ru_klJ, ru_kl0, ru_cs0, ru_csI, ru_csR, ru_csF, ru_csJ, wI_add, wI_sub, wI_mul, wI_lt, wI_le, wI_inj, ru_fdE, ru_fdN, ru_iaN, ru_baN, ru_laN, ru_qaN, ru_pfN, ru_isN, ru_bsN, ru_jsN, ru_qsN, ru_set2, Nat.add_right_cancel_iff, if_true, if_false, ite_self, Int.reduceEq, and_self, Int.add_neg_cancel_right, Int.add_zero, Int.zero_add, cl_e0, e1, e2, e3, mx, cl_thr, cl_thr2]
  · refine ⟨rcP C f, 0, C, ?_, Or.inl ⟨e, rfl, rfl⟩⟩
    rw [oR_n e]
    simp (disch := omega) only [en294, e294_0, e294_1, e294_2, e294_5, e294_6, e294_7, e294_8, e294_9, e294_10, e294_13, e294_16, e294_19, e294_20, e294_21, e294_24, ↓reduceIte, Bool.false_eq_true, not_false_eq_true, not_true_eq_false, Nat.reduceLeDiff, Nat.reduceAdd, Nat.reduceEqDiff, Int.reduceToNat, Int.toNat_natCast, iB0, iB1, ru_klI, ru_klR, ru_klF, ru_klJ, ru_kl0, ru_cs0, ru_csI, ru_csR, ru_csF, ru_csJ, wI_add, wI_sub, wI_mul, wI_lt, wI_le, wI_inj, ru_fdE, ru_fdN, ru_iaN, ru_baN, ru_laN, ru_qaN, ru_pfN, ru_isN, ru_bsN, ru_jsN, ru_qsN, ru_set2, Nat.add_right_cancel_iff, if_true, if_false, ite_self, Int.reduceEq, and_self, Int.add_neg_cancel_right, Int.add_zero, Int.zero_add, cl_e0, c187x hR g e]
theorem wc_in {q : tPh} {w x : Int} {m : Nat} (hm : q.1 7 = (m : Int)) (h12 : m ≤ 12) : cnB (inR q x 0 (x + w - 1) (q.1 5 - q.1 3 + 1 - 1)) m = wcF q w x := by
  unfold wcF
  refine cnB_ext h12 (fun k hk => ?_) (fun k hk _ => by rw [shS_no (by omega)]; simp)
  unfold inR
  rw [shS_of (by omega)]
  by_cases hs : shw q k = true
  · rw [hs, Bool.true_and, Bool.true_and]
    have h2 := hs
    simp only [shw, decide_eq_true_eq] at h2
    apply Bool.eq_iff_iff.mpr
    rw [decide_eq_true_eq, decide_eq_true_eq]
    unfold shY
    constructor
    · intro c; omega
    · intro c; omega
  · simp [hs]
theorem p297 (hM : mdR M) {f w : Int} (g : -2147483648 ≤ f ∧ f < 2147483648) (g2 : -2147483648 ≤ w ∧ w < 2147483648) : ∃ b M', ru_ev z 297 [.ref 1315, .int (wI f), .int (wI w)] (mdPut h M) = some (.inl (some (.int (wI b))), mdPut h M') ∧ ((¬ rfP M f = 0 ∧ M' = mdT M (rfP M f)) ∨ (rfP M f = 0 ∧ ¬ (1 ≤ w ∧ w ≤ (mph M f.toNat).1 4 - (mph M f.toNat).1 2 + 1) ∧ M' = mdT M 3) ∨ (rfP M f = 0 ∧ (1 ≤ w ∧ w ≤ (mph M f.toNat).1 4 - (mph M f.toNat).1 2 + 1) ∧ M' = mdT M 0 ∧ wnI (mph M f.toNat) w ((mph M f.toNat).1 4 - (mph M f.toNat).1 2 + 1 - w) b)) := by
  have e := p117 (z := z) (h := h) hM g
  by_cases e1 : rfP M f = 0
  · obtain ⟨n, hn, rfl, hq⟩ := mph_at hM e1
    have s := phR_s hq
    obtain ⟨m, hm⟩ := Int.eq_ofNat_of_zero_le s.2.2.2.2.2.2.2.1
    simp only [Int.toNat_natCast]
    simp only [e1, if_true] at e
    have e2 := p281 (z := z) (h := h) (M := mdT M 0) (f := n) hn
    have e3 := p282 (z := z) (h := h) (M := mdT M 0) (f := n) hn
    rw [mph_T] at e2 e3
    by_cases c : 1 ≤ w ∧ w ≤ (mph M n).1 4 - (mph M n).1 2 + 1
    · have hwin : ∀ x : Nat, x ≤ 999 → ∀ H, ru_ev z 126 [.int (wI (bsN (inR (mph M n) x 0 (x + w - 1) ((mph M n).1 5 - (mph M n).1 3 + 1 - 1)) ((mph M n).1 7).toNat : Nat))] H = some (.inl (some (.int (wI (wcF (mph M n) w x : Nat)))), H) := fun x hx H => by
        rw [hm, Int.toNat_natCast]
        have e9 := p126 (z := z) (h := H) (s := bsN (inR (mph M n) x 0 (x + w - 1) ((mph M n).1 5 - (mph M n).1 3 + 1 - 1)) m) (by have := bsN_b (P := inR (mph M n) x 0 (x + w - 1) ((mph M n).1 5 - (mph M n).1 3 + 1 - 1)) (k := m) (by omega); omega)
        rw [pcN_bs _ 12 m (by omega), wc_in hm (by omega)] at e9
        exact e9
      have hwit : ∀ x : Nat, x ≤ 999 → ru_ev z 288 [.ref 1315, .int (wI n), .int (wI x), .int (wI 0), .int (wI (x + w - 1)), .int (wI ((mph M n).1 5 - (mph M n).1 3 + 1 - 1))] (mdPut h (mdT M 0)) = some (.inl (some (.int (wI (bsN (inR (mph M n) x 0 (x + w - 1) ((mph M n).1 5 - (mph M n).1 3 + 1 - 1)) ((mph M n).1 7).toNat : Nat)))), mdPut h (mdT M 0)) := fun x hx => by
        have e9 := p288 (z := z) (h := h) (M := mdT M 0) (f := n) hn hq (x1 := (x : Int)) (y1 := 0) (x2 := (x : Int) + w - 1) (y2 := (mph M n).1 5 - (mph M n).1 3 + 1 - 1) (by omega) (by omega) (by omega) (by omega)
        rw [mph_T] at e9
        exact e9
      obtain ⟨L, hL⟩ := Int.eq_ofNat_of_zero_le (show 0 ≤ (mph M n).1 4 - (mph M n).1 2 + 1 - w by omega)
      have key : ∀ d x, x + d = L + 1 → ∀ (best most : Int) (l6 : Option Value), ((x = 0 ∧ best = 0 ∧ most = -1) ∨ (0 < x ∧ 0 ≤ best ∧ best < (x : Int) ∧ most = (wcF (mph M n) w best : Nat) ∧ (∀ y, 0 ≤ y → y < (x : Int) → ((wcF (mph M n) w y : Nat) : Int) ≤ most) ∧ ∀ y, 0 ≤ y → y < best → ((wcF (mph M n) w y : Nat) : Int) < most)) → ∃ best', wnI (mph M n) w L best' ∧ ru_n z 297 44 [some (.ref 1315), some (.int (wI n)), some (.int (wI w)), some (.int (wI best)), some (.int (wI most)), some (.int (wI x)), l6] [] (mdPut h (mdT M 0)) = some (.inl (some (.int (wI best'))), mdPut h (mdT M 0)) := by
        intro d
        induction d with
        | zero =>
          intro x hx best most l6 hI
          obtain rfl : x = L + 1 := by omega
          rcases hI with ⟨a1, -⟩ | ⟨a1, a2, a3, a4, a5, a6⟩
          · omega
          · refine ⟨best, ⟨⟨a2, by omega⟩, fun y y1 y2 => ?_, fun y y1 y2 => ?_⟩, ?_⟩
            · have := a5 y y1 (by omega); omega
            · have := a6 y y1 y2; omega
            · have cx : ((mph M n).1 4 - (mph M n).1 2 + 1 < ((L + 1 : Nat) : Int) + w) = True := eq_true (by omega)
              simp (disch := omega) only [e297_44, e297_46, e297_47, e297_48, e297_49, e297_50, e297_53, e297_118, e297_119, ↓reduceIte, Bool.false_eq_true, not_false_eq_true, not_true_eq_false, Nat.reduceLeDiff, Nat.reduceAdd, Nat.reduceEqDiff, Int.reduceToNat, Int.toNat_natCast, iB0, iB1, ru_klI, ru_klR, ru_klF, ru_klJ, ru_kl0, ru_cs0, ru_csI, ru_csR, ru_csF, ru_csJ, wI_add, wI_sub, wI_mul, wI_lt, wI_le, wI_inj, ru_fdE, ru_fdN, ru_iaN, ru_baN, ru_laN, ru_qaN, ru_pfN, ru_isN, ru_bsN, ru_jsN, ru_qsN, ru_set2, Nat.add_right_cancel_iff, if_true, if_false, ite_self, Int.reduceEq, and_self, Int.add_neg_cancel_right, Int.add_zero, Int.zero_add, md_e, e2, cx]
        | succ d ih =>
          intro x hx best most l6 hI
          have cx : ((mph M n).1 4 - (mph M n).1 2 + 1 < (x : Int) + w) = False := eq_false (by omega)
          have w1 := hwin x (by omega)
          have w2 := hwit x (by omega)
          have l1 := wcF_le (mph M n) w x
          have mr : -1 ≤ most ∧ most ≤ 12 := by
            rcases hI with ⟨-, -, a3⟩ | ⟨-, -, -, a4, -⟩
            · omega
            · have := wcF_le (mph M n) w best; omega
          by_cases c9 : most < (wcF (mph M n) w x : Nat)
          · obtain ⟨b', t1, t2⟩ := ih (x + 1) (by omega) (x : Int) (wcF (mph M n) w x : Nat) (some (.int (wI (wcF (mph M n) w x : Nat)))) (Or.inr ⟨by omega, by omega, by omega, rfl, fun y y1 y2 => by
              by_cases cy : y = (x : Int)
              · rw [cy]; exact Int.le_refl _
              · rcases hI with ⟨a1, -⟩ | ⟨a1, a2, a3, a4, a5, a6⟩
                · omega
                · have := a5 y y1 (by omega); omega, fun y y1 y2 => by
              rcases hI with ⟨a1, -⟩ | ⟨a1, a2, a3, a4, a5, a6⟩
              · omega
              · have := a5 y y1 y2; omega⟩)
            refine ⟨b', t1, ?_⟩
            have ce : (((wcF (mph M n) w x : Nat) : Int) ≤ most) = False := eq_false (by omega)
            rw [← t2, e297_44]
            simp (disch := omega) only [e297_46, e297_47, e297_48, e297_49, e297_50, e297_53, e297_56, e297_57, e297_58, e297_60, e297_61, e297_63, e297_64, e297_65, e297_66, e297_67, e297_68, e297_69, e297_72, e297_73, e297_74, e297_77, e297_80, e297_82, e297_84, e297_86, e297_89, e297_91, e297_94, e297_95, e297_96, e297_98, e297_100, e297_103, e297_105, e297_108, e297_110, e297_112, e297_115, ↓reduceIte, Bool.false_eq_true, not_false_eq_true, not_true_eq_false, Nat.reduceLeDiff, Nat.reduceAdd, Nat.reduceEqDiff, Int.reduceToNat, Int.toNat_natCast, iB0, iB1, ru_klI, ru_klR, ru_klF, ru_klJ, ru_kl0, ru_cs0, ru_csI, ru_csR, ru_csF, ru_csJ, wI_add, wI_sub, wI_mul, wI_lt, wI_le, wI_inj, ru_fdE, ru_fdN, ru_iaN, ru_baN, ru_laN, ru_qaN, ru_pfN, ru_isN, ru_bsN, ru_jsN, ru_qsN, ru_set2, Nat.add_right_cancel_iff, if_true, if_false, ite_self, Int.reduceEq, and_self, Int.add_neg_cancel_right, Int.add_zero, Int.zero_add, md_e, e2, e3, cx, w1, w2, ce, Int.natCast_add, Int.natCast_one]
          · obtain ⟨b', t1, t2⟩ := ih (x + 1) (by omega) best most (some (.int (wI (wcF (mph M n) w x : Nat)))) (Or.inr (by
              rcases hI with ⟨a1, a2, a3⟩ | ⟨a1, a2, a3, a4, a5, a6⟩
              · omega
              · refine ⟨by omega, a2, by omega, a4, fun y y1 y2 => ?_, a6⟩
                by_cases cy : y = (x : Int)
                · rw [cy]; omega
                · exact a5 y y1 (by omega)))
            refine ⟨b', t1, ?_⟩
            have ce : (((wcF (mph M n) w x : Nat) : Int) ≤ most) = True := eq_true (by omega)
            rw [← t2, e297_44]
            simp (disch := omega) only [e297_46, e297_47, e297_48, e297_49, e297_50, e297_53, e297_56, e297_57, e297_58, e297_60, e297_61, e297_63, e297_64, e297_65, e297_66, e297_67, e297_68, e297_69, e297_72, e297_73, e297_74, e297_77, e297_80, e297_82, e297_84, e297_86, e297_89, e297_91, e297_94, e297_95, e297_96, e297_98, e297_100, e297_103, e297_105, e297_108, e297_110, e297_112, e297_115, ↓reduceIte, Bool.false_eq_true, not_false_eq_true, not_true_eq_false, Nat.reduceLeDiff, Nat.reduceAdd, Nat.reduceEqDiff, Int.reduceToNat, Int.toNat_natCast, iB0, iB1, ru_klI, ru_klR, ru_klF, ru_klJ, ru_kl0, ru_cs0, ru_csI, ru_csR, ru_csF, ru_csJ, wI_add, wI_sub, wI_mul, wI_lt, wI_le, wI_inj, ru_fdE, ru_fdN, ru_iaN, ru_baN, ru_laN, ru_qaN, ru_pfN, ru_isN, ru_bsN, ru_jsN, ru_qsN, ru_set2, Nat.add_right_cancel_iff, if_true, if_false, ite_self, Int.reduceEq, and_self, Int.add_neg_cancel_right, Int.add_zero, Int.zero_add, md_e, e2, e3, cx, w1, w2, ce, Int.natCast_add, Int.natCast_one]
      obtain ⟨b, t1, t2⟩ := key (L + 1) 0 (by omega) 0 (-1) none (Or.inl ⟨rfl, rfl, rfl⟩)
      refine ⟨b, mdT M 0, ?_, Or.inr (Or.inr ⟨e1, c, rfl, by rw [hL]; exact t1⟩)⟩
      rw [show ((0 : Nat) : Int) = 0 from rfl] at t2
      simp (disch := omega) only [en297, e297_0, e297_1, e297_2, e297_5, e297_8, e297_9, e297_10, e297_11, e297_12, e297_13, e297_16, e297_19, e297_22, e297_23, e297_26, e297_27, e297_28, e297_31, e297_34, e297_35, e297_36, e297_37, e297_38, e297_39, e297_41, e297_42, ↓reduceIte, Bool.false_eq_true, not_false_eq_true, not_true_eq_false, Nat.reduceLeDiff, Nat.reduceAdd, Nat.reduceEqDiff, Int.reduceToNat, Int.toNat_natCast, iB0, iB1, ru_klI, ru_klR, ru_klF, ru_klJ, ru_kl0, ru_cs0, ru_csI, ru_csR, ru_csF, ru_csJ, wI_add, wI_sub, wI_mul, wI_lt, wI_le, wI_inj, ru_fdE, ru_fdN, ru_iaN, ru_baN, ru_laN, ru_qaN, ru_pfN, ru_isN, ru_bsN, ru_jsN, ru_qsN, ru_set2, Nat.add_right_cancel_iff, if_true, if_false, ite_self, Int.reduceEq, and_self, Int.add_neg_cancel_right, Int.add_zero, Int.zero_add, md_e, e, e2, m53, c, p54, wI_and1, not_true, not_false_iff, t2]
    · refine ⟨0, mdT M 3, ?_, Or.inr (Or.inl ⟨e1, c, rfl⟩)⟩
      simp (disch := omega) only [en297, e297_0, e297_1, e297_2, e297_5, e297_8, e297_9, e297_10, e297_11, e297_12, e297_13, e297_16, e297_19, e297_22, e297_23, e297_26, e297_27, e297_28, e297_31, e297_34, e297_35, e297_36, e297_37, e297_38, e297_39, e297_41, e297_42, e297_44, e297_46, e297_47, e297_48, e297_49, e297_50, e297_53, e297_56, e297_57, e297_58, e297_60, e297_61, e297_63, e297_64, e297_65, e297_66, e297_67, e297_68, e297_69, e297_72, e297_73, e297_74, e297_77, e297_80, e297_82, e297_84, e297_86, e297_89, e297_91, e297_94, e297_95, e297_96, e297_98, e297_100, e297_103, e297_105, e297_108, e297_110, e297_112, e297_115, e297_118, e297_119, ↓reduceIte, Bool.false_eq_true, not_false_eq_true, not_true_eq_false, Nat.reduceLeDiff, Nat.reduceAdd, Nat.reduceEqDiff, Int.reduceToNat, Int.toNat_natCast, iB0, iB1, ru_klI, ru_klR, ru_klF, ru_klJ, ru_kl0, ru_cs0, ru_csI, ru_csR, ru_csF, ru_csJ, wI_add, wI_sub, wI_mul, wI_lt, wI_le, wI_inj, ru_fdE, ru_fdN, ru_iaN, ru_baN, ru_laN, ru_qaN, ru_pfN, ru_isN, ru_bsN, ru_jsN, ru_qsN, ru_set2, Nat.add_right_cancel_iff, if_true, if_false, ite_self, Int.reduceEq, and_self, Int.add_neg_cancel_right, Int.add_zero, Int.zero_add, md_e, e, e2, m53, c, p54, wI_and1, not_true, not_false_iff]
  · refine ⟨0, mdT M (rfP M f), ?_, Or.inl ⟨e1, rfl⟩⟩
    simp only [e1, if_false] at e
    simp (disch := omega) only [en297, e297_0, e297_1, e297_2, e297_5, e297_8, e297_9, e297_10, e297_11, e297_12, e297_13, e297_16, e297_19, e297_22, e297_23, e297_26, e297_27, e297_28, e297_31, e297_34, e297_35, e297_36, e297_37, e297_38, e297_39, e297_41, e297_42, e297_44, e297_46, e297_47, e297_48, e297_49, e297_50, e297_53, e297_56, e297_57, e297_58, e297_60, e297_61, e297_63, e297_64, e297_65, e297_66, e297_67, e297_68, e297_69, e297_72, e297_73, e297_74, e297_77, e297_80, e297_82, e297_84, e297_86, e297_89, e297_91, e297_94, e297_95, e297_96, e297_98, e297_100, e297_103, e297_105, e297_108, e297_110, e297_112, e297_115, e297_118, e297_119, ↓reduceIte, Bool.false_eq_true, not_false_eq_true, not_true_eq_false, Nat.reduceLeDiff, Nat.reduceAdd, Nat.reduceEqDiff, Int.reduceToNat, Int.toNat_natCast, iB0, iB1, ru_klI, ru_klR, ru_klF, ru_klJ, ru_kl0, ru_cs0, ru_csI, ru_csR, ru_csF, ru_csJ, wI_add, wI_sub, wI_mul, wI_lt, wI_le, wI_inj, ru_fdE, ru_fdN, ru_iaN, ru_baN, ru_laN, ru_qaN, ru_pfN, ru_isN, ru_bsN, ru_jsN, ru_qsN, ru_set2, Nat.add_right_cancel_iff, if_true, if_false, ite_self, Int.reduceEq, and_self, Int.add_neg_cancel_right, Int.add_zero, Int.zero_add, md_e, e, not_true, not_false_iff]
end WIN
