/-! ===== the class links people ===== -/
theorem cnB_all {P : Nat → Bool} : ∀ n, cnB P n = n → ∀ i, i < n → P i = true
  | 0, _, i, h => by omega
  | n + 1, h, i, hi => by
    have h1 := cnB_le P n
    unfold cnB at h
    by_cases e : P n = true
    · rw [if_pos e] at h
      by_cases c : i = n
      · subst c; exact e
      · exact cnB_all n (by omega) i (by omega)
    · rw [if_neg e] at h; omega
theorem cnB_inj {P Q : Nat → Bool} {m' : Nat} {f : Nat → Nat} : ∀ m, (∀ i, i < m → P i = true → f i < m' ∧ Q (f i) = true) → (∀ i j, i < m → j < m → P i = true → P j = true → f i = f j → i = j) → cnB P m ≤ cnB Q m' := by
  intro m
  induction m generalizing Q with
  | zero => intro _ _; exact Nat.zero_le _
  | succ m ih =>
    intro h1 h2
    show cnB P m + (if P m = true then 1 else 0) ≤ cnB Q m'
    by_cases e : P m = true
    · rw [if_pos e]
      obtain ⟨k1, k2⟩ := h1 m (by omega) e
      have h3 := ih (Q := fun o => Q o && decide (o ≠ f m)) (fun i hi hp => by
        obtain ⟨a1, a2⟩ := h1 i (by omega) hp
        refine ⟨a1, ?_⟩
        have : f i ≠ f m := fun c => by have := h2 i m (by omega) (by omega) hp e c; omega
        simp [a2, this]) (fun i j hi hj => h2 i j (by omega) (by omega))
      have h4 : cnB Q m' = cnB (fun o => Q o && decide (o ≠ f m)) m' + 1 := cnB_one (k := f m) m' k1 k2 (by simp) (fun o _ ho => by simp [ho])
      omega
    · rw [if_neg e]
      exact ih (fun i hi => h1 i (by omega)) (fun i j hi hj => h2 i j (by omega) (by omega))
def abF (a : Int) : Int := if 0 ≤ a then a else -a
def apF (x y : Nat → Int) (a b : Nat) : Int := abF (x a - x b) + abF (y a - y b)
theorem abF_rng {a : Int} (h : -2000 ≤ a ∧ a ≤ 2000) : 0 ≤ abF a ∧ abF a ≤ 2000 := by
  unfold abF; split <;> omega
theorem apF_rng {x y : Nat → Int} {a b : Nat} (h1 : 0 ≤ x a ∧ x a ≤ 999) (h2 : 0 ≤ x b ∧ x b ≤ 999) (h3 : 0 ≤ y a ∧ y a ≤ 999) (h4 : 0 ≤ y b ∧ y b ≤ 999) : 0 ≤ apF x y a b ∧ apF x y a b ≤ 1998 := by
  unfold apF abF; constructor <;> (repeat' split) <;> omega
theorem apF_comm (x y : Nat → Int) (a b : Nat) : apF x y a b = apF x y b a := by
  unfold apF abF; repeat' split
  all_goals omega
theorem m112 {z : Bool} {h : am_H} {a : Int} (g : -2147483647 ≤ a ∧ a < 2147483648) : ru_ev z 112 [.int (wI a)] h = some (.inl (some (.int (wI (abF a)))), h) := by
  simp (disch := omega) only [en112, e112_0, e112_1, e112_4, e112_5, e112_6, e112_9, e112_10, ↓reduceIte, Bool.false_eq_true, not_false_eq_true, not_true_eq_false, Nat.reduceLeDiff, Nat.reduceAdd, Nat.reduceEqDiff, Int.reduceToNat, Int.toNat_natCast, iB0, iB1, ru_klI, ru_klR, ru_klF, ru_klJ, ru_kl0, ru_cs0, ru_csI, ru_csR, ru_csF, ru_csJ, wI_add, wI_sub, wI_mul, wI_lt, wI_le, wI_inj, ru_fdE, ru_fdN, ru_iaN, ru_baN, ru_laN, ru_qaN, ru_pfN, ru_isN, ru_bsN, ru_jsN, ru_qsN, ru_set2, Nat.add_right_cancel_iff, if_true, if_false, ite_self, Int.reduceEq, and_self, Int.add_neg_cancel_right, Int.add_zero, Int.zero_add, wI_neg]
  unfold abF
  by_cases e : 0 ≤ a
  · rw [if_pos e, if_pos e]
  · rw [if_neg e, if_neg e]
theorem m151 {z : Bool} {h : am_H} {a : Int} (g : -2147483647 ≤ a ∧ a < 2147483648) : ru_ev z 151 [.int (wI a)] h = some (.inl (some (.int (wI (abF a)))), h) := by
  simp (disch := omega) only [en151, e151_0, e151_1, e151_4, e151_5, e151_6, e151_9, e151_10, ↓reduceIte, Bool.false_eq_true, not_false_eq_true, not_true_eq_false, Nat.reduceLeDiff, Nat.reduceAdd, Nat.reduceEqDiff, Int.reduceToNat, Int.toNat_natCast, iB0, iB1, ru_klI, ru_klR, ru_klF, ru_klJ, ru_kl0, ru_cs0, ru_csI, ru_csR, ru_csF, ru_csJ, wI_add, wI_sub, wI_mul, wI_lt, wI_le, wI_inj, ru_fdE, ru_fdN, ru_iaN, ru_baN, ru_laN, ru_qaN, ru_pfN, ru_isN, ru_bsN, ru_jsN, ru_qsN, ru_set2, Nat.add_right_cancel_iff, if_true, if_false, ite_self, Int.reduceEq, and_self, Int.add_neg_cancel_right, Int.add_zero, Int.zero_add, wI_neg]
  unfold abF
  by_cases e : 0 ≤ a
  · rw [if_pos e]; simp (disch := omega) only [e, ↓reduceIte, Bool.false_eq_true, not_false_eq_true, not_true_eq_false, Nat.reduceLeDiff, Nat.reduceAdd, Nat.reduceEqDiff, Int.reduceToNat, Int.toNat_natCast, iB0, iB1, ru_klI, ru_klR, ru_klF, ru_klJ, ru_kl0, ru_cs0, ru_csI, ru_csR, ru_csF, ru_csJ, wI_add, wI_sub, wI_mul, wI_lt, wI_le, wI_inj, ru_fdE, ru_fdN, ru_iaN, ru_baN, ru_laN, ru_qaN, ru_pfN, ru_isN, ru_bsN, ru_jsN, ru_qsN, ru_set2, Nat.add_right_cancel_iff, if_true, if_false, ite_self, Int.reduceEq, and_self, Int.add_neg_cancel_right, Int.add_zero, Int.zero_add]
  · rw [if_neg e]; simp (disch := omega) only [e, ↓reduceIte, Bool.false_eq_true, not_false_eq_true, not_true_eq_false, Nat.reduceLeDiff, Nat.reduceAdd, Nat.reduceEqDiff, Int.reduceToNat, Int.toNat_natCast, iB0, iB1, ru_klI, ru_klR, ru_klF, ru_klJ, ru_kl0, ru_cs0, ru_csI, ru_csR, ru_csF, ru_csJ, wI_add, wI_sub, wI_mul, wI_lt, wI_le, wI_inj, ru_fdE, ru_fdN, ru_iaN, ru_baN, ru_laN, ru_qaN, ru_pfN, ru_isN, ru_bsN, ru_jsN, ru_qsN, ru_set2, Nat.add_right_cancel_iff, if_true, if_false, ite_self, Int.reduceEq, and_self, Int.add_neg_cancel_right, Int.add_zero, Int.zero_add]
def piQ (p : tPi) (E K : Nat → Int) : tPi := (p.1, upC (upC p.2 8 E) 9 K)
theorem up_89 (G : Nat → Nat → Int) (E K E' : Nat → Int) : upC (upC (upC G 8 E) 9 K) 8 E' = upC (upC G 8 E') 9 K := by
  funext c
  unfold upC
  by_cases e4 : c = 9
  · subst e4; rfl
  · by_cases e5 : c = 8
    · subst e5; rfl
    · simp only [e4, e5, if_false]
section LINK
variable {z : Bool} {h : am_H} {C : tCl} {P : Nat} {p : tPi} {E K : Nat → Int}
theorem pq_f0 (hP : isPi P) : am_fd (clPut h (piPut C P (piQ p E K))) P 4 0 = some (.int (wI (p.1 0))) := pi_f0 hP
theorem pq_a2 (hP : isPi P) {i : Int} (h1 : 0 ≤ i) (h2 : i < 12) : am_ia (clPut h (piPut C P (piQ p E K))) (P + 3) (wI i) = some (wI (p.2 2 i.toNat)) := pi_a2 hP h1 h2
theorem pq_a8 (hP : isPi P) {i : Int} (h1 : 0 ≤ i) (h2 : i < 12) : am_ia (clPut h (piPut C P (piQ p E K))) (P + 9) (wI i) = some (wI (E i.toNat)) := pi_a8 hP h1 h2
theorem pq_a9 (hP : isPi P) {i : Int} (h1 : 0 ≤ i) (h2 : i < 12) : am_ia (clPut h (piPut C P (piQ p E K))) (P + 10) (wI i) = some (wI (K i.toNat)) := pi_a9 hP h1 h2
theorem pq_w8 (hP : isPi P) {i v : Int} (h1 : 0 ≤ i) (h2 : i < 12) : am_is (clPut h (piPut C P (piQ p E K))) (P + 9) (wI i) (wI v) = some (clPut h (piPut C P (piQ p (up1 E i.toNat v) K))) := by
  rw [pi_w8 hP h1 h2]
  unfold piQ
  dsimp only
  rw [up_89]
  rfl
theorem pq_w9 (hP : isPi P) {i v : Int} (h1 : 0 ≤ i) (h2 : i < 12) : am_is (clPut h (piPut C P (piQ p E K))) (P + 10) (wI i) (wI v) = some (clPut h (piPut C P (piQ p E (up1 K i.toNat v)))) := by
  rw [pi_w9 hP h1 h2]
  unfold piQ
  dsimp only
  rw [upC_up]
  rfl
theorem pq_self : piQ p (p.2 8) (p.2 9) = p := by
  unfold piQ
  rw [upC_self, upC_self]
theorem k262 (hP : isPi P) {a b : Nat} (ha : a < 12) (hb : b < 12) {x y : Nat → Int} (xa : p.2 0 a = x a ∧ 0 ≤ x a ∧ x a ≤ 999) (xb : p.2 0 b = x b ∧ 0 ≤ x b ∧ x b ≤ 999) (ya : p.2 1 a = y a ∧ 0 ≤ y a ∧ y a ≤ 999) (yb : p.2 1 b = y b ∧ 0 ≤ y b ∧ y b ≤ 999) : ru_ev z 262 [.ref P, .int (wI a), .int (wI b)] (clPut h (piPut C P (piQ p E K))) = some (.inl (some (.int (wI (apF x y a b)))), clPut h (piPut C P (piQ p E K))) := by
  have a0 : ∀ i : Nat, i < 12 → am_ia (clPut h (piPut C P (piQ p E K))) (P + 1) (wI (i : Nat)) = some (wI (p.2 0 i)) := fun i hi => pi_a0 hP (by omega) (by omega)
  have a1 : ∀ i : Nat, i < 12 → am_ia (clPut h (piPut C P (piQ p E K))) (P + 2) (wI (i : Nat)) = some (wI (p.2 1 i)) := fun i hi => pi_a1 hP (by omega) (by omega)
  simp (disch := omega) only [en262, e262_0, e262_1, e262_4, e262_5, e262_6, e262_7, e262_10, e262_11, e262_12, e262_13, e262_16, e262_17, e262_20, e262_21, e262_22, e262_23, e262_26, e262_27, e262_28, e262_29, e262_32, e262_33, ↓reduceIte, Bool.false_eq_true, not_false_eq_true, not_true_eq_false, Nat.reduceLeDiff, Nat.reduceAdd, Nat.reduceEqDiff, Int.reduceToNat, Int.toNat_natCast, iB0, iB1, ru_klI, ru_klR, ru_klF, ru_klJ, ru_kl0, ru_cs0, ru_csI, ru_csR, ru_csF, ru_csJ, wI_add, wI_sub, wI_mul, wI_lt, wI_le, wI_inj, ru_fdE, ru_fdN, ru_iaN, ru_baN, ru_laN, ru_qaN, ru_pfN, ru_isN, ru_bsN, ru_jsN, ru_qsN, ru_set2, Nat.add_right_cancel_iff, if_true, if_false, ite_self, Int.reduceEq, and_self, Int.add_neg_cancel_right, Int.add_zero, Int.zero_add, pi_e hP, pi_f2 hP, pi_f3 hP, a0 a ha, a0 b hb, a1 a ha, a1 b hb, m112, xa.1, xb.1, ya.1, yb.1]
  rfl
def nbI (J : Nat) (E : Nat → Int) (k : Nat) (b : Int) : Prop := (b = -1 ∧ ∀ q, q < k → J.testBit q = true) ∨ ∃ m : Nat, b = (m : Int) ∧ m < k ∧ ¬ J.testBit m = true ∧ ∀ q, q < k → ¬ J.testBit q = true → E m ≤ E q
theorem k263l (hP : isPi P) {J n : Nat} (hJ : J < 4096) (hn : n ≤ 12) (h0 : p.1 0 = (n : Int)) (hE : ∀ q, q < n → 0 ≤ E q ∧ E q ≤ 1998) : ∀ d k, k + d = n → ∀ (b : Int) (l4 : Option Value), nbI J E k b → ∃ b', nbI J E n b' ∧ ru_n z 263 4 [some (.ref P), some (.int (wI J)), some (.int (wI b)), some (.int (wI k)), l4] [] (clPut h (piPut C P (piQ p E K))) = some (.inl (some (.int (wI b'))), clPut h (piPut C P (piQ p E K))) := by
  intro d
  induction d with
  | zero =>
    intro k hk b l4 hb
    obtain rfl : k = n := by omega
    refine ⟨b, hb, ?_⟩
    have c : ((k : Int) ≤ (k : Int)) = True := eq_true (Int.le_refl _)
    simp (disch := omega) only [e263_4, e263_5, e263_6, e263_9, e263_60, e263_61, ↓reduceIte, Bool.false_eq_true, not_false_eq_true, not_true_eq_false, Nat.reduceLeDiff, Nat.reduceAdd, Nat.reduceEqDiff, Int.reduceToNat, Int.toNat_natCast, iB0, iB1, ru_klI, ru_klR, ru_klF, ru_klJ, ru_kl0, ru_cs0, ru_csI, ru_csR, ru_csF, ru_csJ, wI_add, wI_sub, wI_mul, wI_lt, wI_le, wI_inj, ru_fdE, ru_fdN, ru_iaN, ru_baN, ru_laN, ru_qaN, ru_pfN, ru_isN, ru_bsN, ru_jsN, ru_qsN, ru_set2, Nat.add_right_cancel_iff, if_true, if_false, ite_self, Int.reduceEq, and_self, Int.add_neg_cancel_right, Int.add_zero, Int.zero_add, pi_e hP, pq_f0 hP, h0, c]
  | succ d ih =>
    intro k hk b l4 hb
    have c : ((n : Int) ≤ (k : Int)) = False := eq_false (by omega)
    have hEk := hE k (by omega)
    by_cases e1 : J.testBit k = true
    · obtain ⟨b', t1, t2⟩ := ih (k + 1) (by omega) b (some (.int (wI 0))) (by
        rcases hb with ⟨rfl, hb⟩ | ⟨m, rfl, m1, m2, m3⟩
        · refine Or.inl ⟨rfl, fun q hq => ?_⟩
          by_cases e : q = k
          · subst e; exact e1
          · exact hb q (by omega)
        · refine Or.inr ⟨m, rfl, by omega, m2, fun q hq hq2 => ?_⟩
          by_cases e : q = k
          · subst e; exact absurd e1 hq2
          · exact m3 q (by omega) hq2)
      refine ⟨b', t1, ?_⟩
      rw [← t2, e263_4]
      simp (disch := omega) only [e263_5, e263_6, e263_9, e263_12, e263_13, e263_14, e263_15, e263_16, e263_17, e263_20, e263_21, e263_24, e263_25, e263_27, e263_29, e263_32, e263_33, e263_34, e263_37, e263_38, e263_41, e263_42, e263_43, e263_44, e263_47, e263_48, e263_49, e263_52, e263_53, e263_54, e263_57, ↓reduceIte, Bool.false_eq_true, not_false_eq_true, not_true_eq_false, Nat.reduceLeDiff, Nat.reduceAdd, Nat.reduceEqDiff, Int.reduceToNat, Int.toNat_natCast, iB0, iB1, ru_klI, ru_klR, ru_klF, ru_klJ, ru_kl0, ru_cs0, ru_csI, ru_csR, ru_csF, ru_csJ, wI_add, wI_sub, wI_mul, wI_lt, wI_le, wI_inj, ru_fdE, ru_fdN, ru_iaN, ru_baN, ru_laN, ru_qaN, ru_pfN, ru_isN, ru_bsN, ru_jsN, ru_qsN, ru_set2, Nat.add_right_cancel_iff, if_true, if_false, ite_self, Int.reduceEq, and_self, Int.add_neg_cancel_right, Int.add_zero, Int.zero_add, pi_e hP, pq_f0 hP, h0, c, wI_bit, e1, if_true, not_true, not_false_iff, Int.natCast_add, Int.natCast_one]
    · rcases hb with ⟨rfl, hb⟩ | ⟨m, rfl, m1, m2, m3⟩
      · obtain ⟨b', t1, t2⟩ := ih (k + 1) (by omega) (k : Int) (some (.int (wI 1))) (Or.inr ⟨k, rfl, by omega, e1, fun q hq hq2 => by
          by_cases e : q = k
          · subst e; exact Int.le_refl _
          · exact absurd (hb q (by omega)) hq2⟩)
        refine ⟨b', t1, ?_⟩
        rw [← t2, e263_4]
        simp (disch := omega) only [e263_5, e263_6, e263_9, e263_12, e263_13, e263_14, e263_15, e263_16, e263_17, e263_20, e263_21, e263_24, e263_25, e263_27, e263_29, e263_32, e263_33, e263_34, e263_37, e263_38, e263_41, e263_42, e263_43, e263_44, e263_47, e263_48, e263_49, e263_52, e263_53, e263_54, e263_57, ↓reduceIte, Bool.false_eq_true, not_false_eq_true, not_true_eq_false, Nat.reduceLeDiff, Nat.reduceAdd, Nat.reduceEqDiff, Int.reduceToNat, Int.toNat_natCast, iB0, iB1, ru_klI, ru_klR, ru_klF, ru_klJ, ru_kl0, ru_cs0, ru_csI, ru_csR, ru_csF, ru_csJ, wI_add, wI_sub, wI_mul, wI_lt, wI_le, wI_inj, ru_fdE, ru_fdN, ru_iaN, ru_baN, ru_laN, ru_qaN, ru_pfN, ru_isN, ru_bsN, ru_jsN, ru_qsN, ru_set2, Nat.add_right_cancel_iff, if_true, if_false, ite_self, Int.reduceEq, and_self, Int.add_neg_cancel_right, Int.add_zero, Int.zero_add, pi_e hP, pq_f0 hP, h0, c, wI_bit, e1, if_false, not_true, not_false_iff, Int.natCast_add, Int.natCast_one]
      · have hEm := hE m (by omega)
        have cm : ((m : Int) = -1) = False := eq_false (by omega)
        by_cases e2 : E m ≤ E k
        · obtain ⟨b', t1, t2⟩ := ih (k + 1) (by omega) (m : Int) (some (.int (wI 1))) (Or.inr ⟨m, rfl, by omega, m2, fun q hq hq2 => by
            by_cases e : q = k
            · subst e; exact e2
            · exact m3 q (by omega) hq2⟩)
          refine ⟨b', t1, ?_⟩
          have d2 : (E m ≤ E k) = True := eq_true e2
          rw [← t2, e263_4]
          simp (disch := omega) only [e263_5, e263_6, e263_9, e263_12, e263_13, e263_14, e263_15, e263_16, e263_17, e263_20, e263_21, e263_24, e263_25, e263_27, e263_29, e263_32, e263_33, e263_34, e263_37, e263_38, e263_41, e263_42, e263_43, e263_44, e263_47, e263_48, e263_49, e263_52, e263_53, e263_54, e263_57, ↓reduceIte, Bool.false_eq_true, not_false_eq_true, not_true_eq_false, Nat.reduceLeDiff, Nat.reduceAdd, Nat.reduceEqDiff, Int.reduceToNat, Int.toNat_natCast, iB0, iB1, ru_klI, ru_klR, ru_klF, ru_klJ, ru_kl0, ru_cs0, ru_csI, ru_csR, ru_csF, ru_csJ, wI_add, wI_sub, wI_mul, wI_lt, wI_le, wI_inj, ru_fdE, ru_fdN, ru_iaN, ru_baN, ru_laN, ru_qaN, ru_pfN, ru_isN, ru_bsN, ru_jsN, ru_qsN, ru_set2, Nat.add_right_cancel_iff, if_true, if_false, ite_self, Int.reduceEq, and_self, Int.add_neg_cancel_right, Int.add_zero, Int.zero_add, pi_e hP, pq_f0 hP, pi_f10 hP, pq_a8 hP, h0, c, cm, d2, wI_bit, e1, if_false, not_true, not_false_iff, Int.natCast_add, Int.natCast_one]
        · obtain ⟨b', t1, t2⟩ := ih (k + 1) (by omega) (k : Int) (some (.int (wI 1))) (Or.inr ⟨k, rfl, by omega, e1, fun q hq hq2 => by
            by_cases e : q = k
            · subst e; exact Int.le_refl _
            · have := m3 q (by omega) hq2; omega⟩)
          refine ⟨b', t1, ?_⟩
          have d2 : (E m ≤ E k) = False := eq_false e2
          rw [← t2, e263_4]
          simp (disch := omega) only [e263_5, e263_6, e263_9, e263_12, e263_13, e263_14, e263_15, e263_16, e263_17, e263_20, e263_21, e263_24, e263_25, e263_27, e263_29, e263_32, e263_33, e263_34, e263_37, e263_38, e263_41, e263_42, e263_43, e263_44, e263_47, e263_48, e263_49, e263_52, e263_53, e263_54, e263_57, ↓reduceIte, Bool.false_eq_true, not_false_eq_true, not_true_eq_false, Nat.reduceLeDiff, Nat.reduceAdd, Nat.reduceEqDiff, Int.reduceToNat, Int.toNat_natCast, iB0, iB1, ru_klI, ru_klR, ru_klF, ru_klJ, ru_kl0, ru_cs0, ru_csI, ru_csR, ru_csF, ru_csJ, wI_add, wI_sub, wI_mul, wI_lt, wI_le, wI_inj, ru_fdE, ru_fdN, ru_iaN, ru_baN, ru_laN, ru_qaN, ru_pfN, ru_isN, ru_bsN, ru_jsN, ru_qsN, ru_set2, Nat.add_right_cancel_iff, if_true, if_false, ite_self, Int.reduceEq, and_self, Int.add_neg_cancel_right, Int.add_zero, Int.zero_add, pi_e hP, pq_f0 hP, pi_f10 hP, pq_a8 hP, h0, c, cm, d2, wI_bit, e1, if_false, not_true, not_false_iff, Int.natCast_add, Int.natCast_one]
theorem k263 (hP : isPi P) {J n : Nat} (hJ : J < 4096) (hn : n ≤ 12) (h0 : p.1 0 = (n : Int)) (hE : ∀ q, q < n → 0 ≤ E q ∧ E q ≤ 1998) : ∃ b', nbI J E n b' ∧ ru_ev z 263 [.ref P, .int (wI J)] (clPut h (piPut C P (piQ p E K))) = some (.inl (some (.int (wI b'))), clPut h (piPut C P (piQ p E K))) := by
  obtain ⟨b', t1, t2⟩ := k263l (z := z) (h := h) (C := C) (K := K) hP hJ hn h0 hE n 0 (by omega) (-1) none (Or.inl ⟨rfl, fun q hq => by omega⟩)
  refine ⟨b', t1, ?_⟩
  rw [show ((0 : Nat) : Int) = 0 from rfl] at t2
  simp (disch := omega) only [en263, e263_0, e263_1, e263_2, e263_3, ↓reduceIte, Bool.false_eq_true, not_false_eq_true, not_true_eq_false, Nat.reduceLeDiff, Nat.reduceAdd, Nat.reduceEqDiff, Int.reduceToNat, Int.toNat_natCast, iB0, iB1, ru_klI, ru_klR, ru_klF, ru_klJ, ru_kl0, ru_cs0, ru_csI, ru_csR, ru_csF, ru_csJ, wI_add, wI_sub, wI_mul, wI_lt, wI_le, wI_inj, ru_fdE, ru_fdN, ru_iaN, ru_baN, ru_laN, ru_qaN, ru_pfN, ru_isN, ru_bsN, ru_jsN, ru_qsN, ru_set2, Nat.add_right_cancel_iff, if_true, if_false, ite_self, Int.reduceEq, and_self, Int.add_neg_cancel_right, Int.add_zero, Int.zero_add, pi_e hP, t2]
/-- the joined so far -/
def lkI (n : Nat) (D : Nat → Nat → Int) (i J : Nat) (E K : Nat → Int) (w : Nat → Nat) : Prop :=
  (∀ t, t ≤ i → w t < n) ∧ (∀ s t, s ≤ i → t ≤ i → w s = w t → s = t) ∧ (∀ q, q < n → (J.testBit q = true ↔ ∃ t, t ≤ i ∧ w t = q)) ∧ J < 4096 ∧ cnB (fun q => J.testBit q) n = i + 1 ∧
  (∀ q, q < n → (∀ t, t ≤ i → E q ≤ D (w t) q) ∧ ∃ t, t ≤ i ∧ E q = D (w t) q) ∧
  ∀ s, s < i → (∃ t, t ≤ s ∧ K s = D (w t) (w (s + 1))) ∧ ∀ q, q < n → (∀ t, t ≤ s → w t ≠ q) → ∀ t, t ≤ s → K s ≤ D (w t) q
theorem lk_step {n : Nat} {D : Nat → Nat → Int} {i J m : Nat} {E K : Nat → Int} {w : Nat → Nat} (hI : lkI n D i J E K w) (hn : n ≤ 12) (hm : m < n) (hb : ¬ J.testBit m = true) (hmin : ∀ q, q < n → ¬ J.testBit q = true → E m ≤ E q) : lkI n D (i + 1) (J ||| 2 ^ m) (fun q => if q < n then (if E q ≤ D m q then E q else D m q) else E q) (up1 K i (E m)) (fun t => if t = i + 1 then m else w t) := by
  obtain ⟨h1, h2, h3, h4, h5, h6, h7⟩ := hI
  have hnew : ∀ t, t ≤ i → w t ≠ m := fun t ht c => hb ((h3 m hm).mpr ⟨t, ht, c⟩)
  refine ⟨fun t ht => ?_, fun s t hs ht => ?_, fun q hq => ?_, ?_, ?_, fun q hq => ?_, fun s hs => ?_⟩
  · dsimp only
    by_cases e : t = i + 1
    · rw [if_pos e]; exact hm
    · rw [if_neg e]; exact h1 t (by omega)
  · dsimp only
    by_cases e : s = i + 1
    · by_cases e2 : t = i + 1
      · intro _; omega
      · rw [if_pos e, if_neg e2]; intro c; exact absurd c.symm (hnew t (by omega))
    · by_cases e2 : t = i + 1
      · rw [if_neg e, if_pos e2]; intro c; exact absurd c (hnew s (by omega))
      · rw [if_neg e, if_neg e2]; exact h2 s t (by omega) (by omega)
  · rw [Nat.testBit_or, Bool.or_eq_true, h3 q hq, Nat.testBit_two_pow, decide_eq_true_eq]
    constructor
    · rintro (⟨t, t1, t2⟩ | c)
      · exact ⟨t, by omega, by dsimp only; rw [if_neg (by omega)]; exact t2⟩
      · exact ⟨i + 1, by omega, by dsimp only; rw [if_pos rfl]; exact c⟩
    · rintro ⟨t, t1, t2⟩
      dsimp only at t2
      by_cases e : t = i + 1
      · rw [if_pos e] at t2; exact Or.inr t2
      · rw [if_neg e] at t2; exact Or.inl ⟨t, by omega, t2⟩
  · have h9 : 2 ^ m < 2 ^ 12 := Nat.pow_lt_pow_right (by decide) (by omega)
    exact Nat.or_lt_two_pow (n := 12) h4 h9
  · rw [← h5]
    refine cnB_one (k := m) n hm ?_ ?_ (fun o _ ho => ?_)
    · rw [Nat.testBit_or, Nat.testBit_two_pow, decide_eq_true rfl, Bool.or_true]
    · simp only [Bool.not_eq_true] at hb; exact hb
    · rw [Nat.testBit_or, Nat.testBit_two_pow, decide_eq_false (fun c => ho c.symm), Bool.or_false]
  · dsimp only
    rw [if_pos hq]
    obtain ⟨a1, t0, a2, a3⟩ := h6 q hq
    by_cases e : E q ≤ D m q
    · rw [if_pos e]
      refine ⟨fun t ht => ?_, t0, by omega, by rw [if_neg (by omega)]; exact a3⟩
      by_cases e2 : t = i + 1
      · rw [if_pos e2]; exact e
      · rw [if_neg e2]; exact a1 t (by omega)
    · rw [if_neg e]
      refine ⟨fun t ht => ?_, i + 1, by omega, by rw [if_pos rfl]⟩
      by_cases e2 : t = i + 1
      · rw [if_pos e2]; exact Int.le_refl _
      · rw [if_neg e2]; have := a1 t (by omega); omega
  · dsimp only
    unfold up1
    by_cases e : s = i
    · subst e
      rw [if_pos rfl, if_pos rfl]
      obtain ⟨a1, t0, a2, a3⟩ := h6 m hm
      refine ⟨⟨t0, a2, by rw [if_neg (by omega)]; exact a3⟩, fun q hq hne t ht => ?_⟩
      rw [if_neg (by omega)]
      have hq2 : ¬ J.testBit q = true := fun c => by
        obtain ⟨t', t1, t2⟩ := (h3 q hq).mp c
        have := hne t' t1
        rw [if_neg (by omega)] at this
        exact this t2
      have b1 := hmin q hq hq2
      have b2 := (h6 q hq).1 t ht
      omega
    · rw [if_neg e, if_neg (show ¬ s + 1 = i + 1 by omega)]
      obtain ⟨⟨t0, a2, a3⟩, a4⟩ := h7 s (by omega)
      refine ⟨⟨t0, a2, by rw [if_neg (by omega)]; exact a3⟩, fun q hq hne t ht => ?_⟩
      rw [if_neg (by omega)]
      exact a4 q hq (fun t' ht' => by have := hne t' ht'; rw [if_neg (by omega)] at this; exact this) t ht
end LINK
