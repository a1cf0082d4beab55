/-! ===== distances; the reference's other calls that look at a picture ===== -/
def dqF (x y : Nat → Int) (px py : Int) (k : Nat) : Int := (x k - px) * (x k - px) + (y k - py) * (y k - py)
def kyD (x y : Nat → Int) (px py : Int) (k : Nat) : Int := dqF x y px py k * 12 + k
theorem sq_rng {a : Int} (h1 : -3000 ≤ a) (h2 : a ≤ 3000) : 0 ≤ a * a ∧ a * a ≤ 9000000 := by
  rcases Int.le_total 0 a with h | h
  · exact ⟨Int.mul_nonneg h h, Int.le_trans (Int.mul_le_mul h2 h2 h (by omega)) (by omega)⟩
  · have e : a * a = (-a) * (-a) := by rw [Int.neg_mul_neg]
    rw [e]
    exact ⟨Int.mul_nonneg (by omega) (by omega), Int.le_trans (Int.mul_le_mul (show -a ≤ 3000 by omega) (show -a ≤ 3000 by omega) (by omega) (by omega)) (by omega)⟩
theorem dqF_rng {x y : Nat → Int} {px py : Int} {k : Nat} (hx : -2000 ≤ x k ∧ x k ≤ 2000) (hy : -2000 ≤ y k ∧ y k ≤ 2000) (h1 : 0 ≤ px ∧ px ≤ 999) (h2 : 0 ≤ py ∧ py ≤ 999) : 0 ≤ dqF x y px py k ∧ dqF x y px py k ≤ 18000000 := by
  have a := sq_rng (a := x k - px) (by omega) (by omega)
  have b := sq_rng (a := y k - py) (by omega) (by omega)
  unfold dqF; omega
section NEAR
variable {z : Bool} {h : am_H} {M : tMd} {f : Nat}
theorem lr_rng {rc : Int} {R L Q : Nat → Int} (q : lrOK M f rc R L Q) : ∀ k, k < 12 → (-1 ≤ R k ∧ R k < 12) ∧ (-1 ≤ L k ∧ L k ≤ 12) := fun k hk => by
  have h2 := q.2.1 k hk
  unfold plF at h2
  by_cases hs : shS (mph M f) k = true
  · have h1 := rwOK_rng q.1 hk hs
    rw [if_pos hs] at h2
    have h3 := cnB_le (fun o => shS (mph M f) o && (decide (R o = R k) && lfB (shX (mph M f)) o k)) 12
    change lfN (shS (mph M f)) R (shX (mph M f)) k ≤ 12 at h3
    omega
  · rw [if_neg hs] at h2
    obtain ⟨n, e, -, -, h4, -⟩ := q.1
    have h1 := h4 k hk hs
    omega
theorem p196 (hM : mdR M) {f r j : Int} (g : -2147483648 ≤ f ∧ f < 2147483648) (g2 : -2147483648 ≤ r ∧ r < 2147483648) (g3 : -2147483648 ≤ j ∧ j < 2147483648) : ∃ b M', ru_ev z 196 [.ref 1315, .int (wI f), .int (wI r), .int (wI j)] (mdPut h M) = some (.inl (some (.int (wI b))), mdPut h M') ∧ rpM M f (fun rc R L Q t b => (0 ≤ r ∧ r < rc ∧ 0 ≤ j ∧ j < Q r.toNat ∧ t = 0 ∧ b = fnF (stP R L r j) ((mph M f.toNat).1 7).toNat 0) ∨ (¬ (0 ≤ r ∧ r < rc ∧ 0 ≤ j ∧ j < Q r.toNat) ∧ t = 2)) b M' := by
  by_cases e1 : rfP M f = 0
  · obtain ⟨rc, R, L, Q, q1, qr, q3⟩ := p193 (z := z) (h := h) hM g g2 e1
    obtain ⟨n, hn, rfl, hq⟩ := mph_at hM e1
    simp only [Int.toNat_natCast] at q1 ⊢
    have s := phR_s hq
    obtain ⟨m, hm⟩ := Int.eq_ofNat_of_zero_le s.2.2.2.2.2.2.2.1
    by_cases c : 0 ≤ r ∧ r ≤ rc - 1
    · rw [if_pos c, if_pos c] at q3
      have ea : am_ia (mdPut h (mdT (mdQ M rc R L Q) 0)) 1329 (wI r) = some (wI (Q r.toNat)) := md_a13 (by omega) (by omega)
      have hQ := q1.2.2 r.toNat (by omega)
      have hQ2 := cnB_le (fun o => shS (mph M n) o && decide (R o = ((r.toNat : Nat) : Int))) 12
      change rlN (shS (mph M n)) R ((r.toNat : Nat) : Int) ≤ 12 at hQ2
      by_cases c2 : 0 ≤ j ∧ j ≤ Q r.toNat - 1
      · have e7 := p137 (z := z) (h := h) (M := mdT M 0) (rm := rc) (R := R) (L := L) (Q := Q) (f := n) hn (m := m) hm (by omega) (fun k hk => by have := lr_rng q1 k hk; omega) (fun k hk => (lr_rng q1 k hk).2) g2 g3
        rw [mdQ_T] at e7
        refine ⟨fnF (stP R L r j) m 0, mdT (mdQ M rc R L Q) 0, ?_, Or.inr ⟨e1, rc, R, L, Q, 0, rfl, q1, Or.inl ⟨c.1, by omega, c2.1, by omega, rfl, by rw [hm]; rfl⟩⟩⟩
        simp (disch := omega) only [en196, e196_0, e196_1, e196_2, e196_3, e196_6, e196_9, e196_10, e196_11, e196_12, e196_13, e196_16, e196_17, e196_18, e196_19, e196_20, e196_23, e196_26, e196_27, e196_30, e196_31, e196_32, e196_35, e196_38, e196_39, e196_42, e196_43, e196_44, e196_45, e196_46, e196_49, ↓reduceIte, Bool.false_eq_true, not_false_eq_true, not_true_eq_false, Nat.reduceLeDiff, Nat.reduceAdd, Nat.reduceEqDiff, Int.reduceToNat, Int.toNat_natCast, iB0, iB1, ru_klI, ru_klR, ru_klF, ru_klJ, ru_kl0, ru_cs0, ru_csI, ru_csR, ru_csF, ru_csJ, wI_add, wI_sub, wI_mul, wI_lt, wI_le, wI_inj, ru_fdE, ru_fdN, ru_iaN, ru_baN, ru_laN, ru_qaN, ru_pfN, ru_isN, ru_bsN, ru_jsN, ru_qsN, ru_set2, Nat.add_right_cancel_iff, if_true, if_false, ite_self, Int.reduceEq, and_self, Int.add_neg_cancel_right, Int.add_zero, Int.zero_add, md_e, q3, md_f33, ea, m53, c2, p54, wI_and1, not_true, not_false_iff, Int.reduceEq, and_self, e7]
      · refine ⟨0, mdT (mdQ M rc R L Q) 2, ?_, Or.inr ⟨e1, rc, R, L, Q, 2, rfl, q1, Or.inr ⟨by omega, rfl⟩⟩⟩
        simp (disch := omega) only [en196, e196_0, e196_1, e196_2, e196_3, e196_6, e196_9, e196_10, e196_11, e196_12, e196_13, e196_16, e196_17, e196_18, e196_19, e196_20, e196_23, e196_26, e196_27, e196_30, e196_31, e196_32, e196_35, e196_38, e196_39, e196_42, e196_43, e196_44, e196_45, e196_46, e196_49, ↓reduceIte, Bool.false_eq_true, not_false_eq_true, not_true_eq_false, Nat.reduceLeDiff, Nat.reduceAdd, Nat.reduceEqDiff, Int.reduceToNat, Int.toNat_natCast, iB0, iB1, ru_klI, ru_klR, ru_klF, ru_klJ, ru_kl0, ru_cs0, ru_csI, ru_csR, ru_csF, ru_csJ, wI_add, wI_sub, wI_mul, wI_lt, wI_le, wI_inj, ru_fdE, ru_fdN, ru_iaN, ru_baN, ru_laN, ru_qaN, ru_pfN, ru_isN, ru_bsN, ru_jsN, ru_qsN, ru_set2, Nat.add_right_cancel_iff, if_true, if_false, ite_self, Int.reduceEq, and_self, Int.add_neg_cancel_right, Int.add_zero, Int.zero_add, md_e, q3, md_f33, ea, m53, c2, p54, wI_and1, not_true, not_false_iff, Int.reduceEq]
    · rw [if_neg c, if_neg c] at q3
      refine ⟨0, mdT (mdQ M rc R L Q) 2, ?_, Or.inr ⟨e1, rc, R, L, Q, 2, rfl, q1, Or.inr ⟨by omega, rfl⟩⟩⟩
      simp (disch := omega) only [en196, e196_0, e196_1, e196_2, e196_3, e196_6, e196_9, e196_10, e196_11, e196_12, e196_13, e196_16, e196_17, e196_18, e196_19, e196_20, e196_23, e196_26, e196_27, e196_30, e196_31, e196_32, e196_35, e196_38, e196_39, e196_42, e196_43, e196_44, e196_45, e196_46, e196_49, ↓reduceIte, Bool.false_eq_true, not_false_eq_true, not_true_eq_false, Nat.reduceLeDiff, Nat.reduceAdd, Nat.reduceEqDiff, Int.reduceToNat, Int.toNat_natCast, iB0, iB1, ru_klI, ru_klR, ru_klF, ru_klJ, ru_kl0, ru_cs0, ru_csI, ru_csR, ru_csF, ru_csJ, wI_add, wI_sub, wI_mul, wI_lt, wI_le, wI_inj, ru_fdE, ru_fdN, ru_iaN, ru_baN, ru_laN, ru_qaN, ru_pfN, ru_isN, ru_bsN, ru_jsN, ru_qsN, ru_set2, Nat.add_right_cancel_iff, if_true, if_false, ite_self, Int.reduceEq, and_self, Int.add_neg_cancel_right, Int.add_zero, Int.zero_add, md_e, q3, not_true, not_false_iff, Int.reduceEq]
  · refine ⟨0, mdT M (rfP M f), ?_, Or.inl ⟨e1, rfl⟩⟩
    simp (disch := omega) only [en196, e196_0, e196_1, e196_2, e196_3, e196_6, e196_9, e196_10, e196_11, e196_12, e196_13, e196_16, e196_17, e196_18, e196_19, e196_20, e196_23, e196_26, e196_27, e196_30, e196_31, e196_32, e196_35, e196_38, e196_39, e196_42, e196_43, e196_44, e196_45, e196_46, e196_49, ↓reduceIte, Bool.false_eq_true, not_false_eq_true, not_true_eq_false, Nat.reduceLeDiff, Nat.reduceAdd, Nat.reduceEqDiff, Int.reduceToNat, Int.toNat_natCast, iB0, iB1, ru_klI, ru_klR, ru_klF, ru_klJ, ru_kl0, ru_cs0, ru_csI, ru_csR, ru_csF, ru_csJ, wI_add, wI_sub, wI_mul, wI_lt, wI_le, wI_inj, ru_fdE, ru_fdN, ru_iaN, ru_baN, ru_laN, ru_qaN, ru_pfN, ru_isN, ru_bsN, ru_jsN, ru_qsN, ru_set2, Nat.add_right_cancel_iff, if_true, if_false, ite_self, Int.reduceEq, and_self, Int.add_neg_cancel_right, Int.add_zero, Int.zero_add, md_e, p193x hM g e1, not_true, not_false_iff, Int.reduceEq]
/-- as rpM, the person looked for first -/
def rpL (M : tMd) (f k : Int) (T : Int → (Nat → Int) → (Nat → Int) → (Nat → Int) → Int → Int → Prop) (b : Int) (M' : tMd) : Prop := (¬ rfK M f k = 0 ∧ M' = mdT M (rfK M f k)) ∨ (rfK M f k = 0 ∧ ∃ rc R L Q t, M' = mdT (mdQ M rc R L Q) t ∧ lrOK M f.toNat rc R L Q ∧ T rc R L Q t b)
theorem p199 (hM : mdR M) {f k : Int} (g : -2147483648 ≤ f ∧ f < 2147483648) (g2 : -2147483648 ≤ k ∧ k < 2147483648) : ∃ b M', ru_ev z 199 [.ref 1315, .int (wI f), .int (wI k)] (mdPut h M) = some (.inl (some (.int (wI b))), mdPut h M') ∧ rpL M f k (fun rc R L Q t b => t = 0 ∧ b = R k.toNat) b M' := by
  have e := p176 (z := z) (h := h) hM g g2
  by_cases e1 : rfK M f k = 0
  · obtain ⟨e0, c1, c2⟩ := rfK_0 e1
    obtain ⟨n, hn, rfl, hq⟩ := mph_at hM e0
    have s := phR_s hq
    simp only [Int.toNat_natCast] at c2
    obtain ⟨rc, R, L, Q, q1, q2⟩ := p120 (z := z) (h := h) (M := mdT M 0) (f := n) hn hq hM.2.2.2.2.2.1
    rw [lrOK_T] at q1
    rw [mdQ_T] at q2
    refine ⟨R k.toNat, mdT (mdQ M rc R L Q) 0, ?_, Or.inr ⟨e1, rc, R, L, Q, 0, rfl, q1, rfl, rfl⟩⟩
    have ea : am_ia (mdPut h (mdT (mdQ M rc R L Q) 0)) 1327 (wI k) = some (wI (R k.toNat)) := md_a11 (by omega) (by omega)
    simp only [e1, if_true] at e
    simp (disch := omega) only [en199, e199_0, e199_1, e199_2, e199_3, e199_6, e199_9, e199_10, e199_11, e199_12, e199_13, e199_16, e199_17, e199_20, e199_21, e199_22, ↓reduceIte, Bool.false_eq_true, not_false_eq_true, not_true_eq_false, Nat.reduceLeDiff, Nat.reduceAdd, Nat.reduceEqDiff, Int.reduceToNat, Int.toNat_natCast, iB0, iB1, ru_klI, ru_klR, ru_klF, ru_klJ, ru_kl0, ru_cs0, ru_csI, ru_csR, ru_csF, ru_csJ, wI_add, wI_sub, wI_mul, wI_lt, wI_le, wI_inj, ru_fdE, ru_fdN, ru_iaN, ru_baN, ru_laN, ru_qaN, ru_pfN, ru_isN, ru_bsN, ru_jsN, ru_qsN, ru_set2, Nat.add_right_cancel_iff, if_true, if_false, ite_self, Int.reduceEq, and_self, Int.add_neg_cancel_right, Int.add_zero, Int.zero_add, md_e, e, q2, md_f31, ea]
  · refine ⟨0, mdT M (rfK M f k), ?_, Or.inl ⟨e1, rfl⟩⟩
    simp only [e1, if_false] at e
    simp (disch := omega) only [en199, e199_0, e199_1, e199_2, e199_3, e199_6, e199_9, e199_10, e199_11, e199_12, e199_13, e199_16, e199_17, e199_20, e199_21, e199_22, ↓reduceIte, Bool.false_eq_true, not_false_eq_true, not_true_eq_false, Nat.reduceLeDiff, Nat.reduceAdd, Nat.reduceEqDiff, Int.reduceToNat, Int.toNat_natCast, iB0, iB1, ru_klI, ru_klR, ru_klF, ru_klJ, ru_kl0, ru_cs0, ru_csI, ru_csR, ru_csF, ru_csJ, wI_add, wI_sub, wI_mul, wI_lt, wI_le, wI_inj, ru_fdE, ru_fdN, ru_iaN, ru_baN, ru_laN, ru_qaN, ru_pfN, ru_isN, ru_bsN, ru_jsN, ru_qsN, ru_set2, Nat.add_right_cancel_iff, if_true, if_false, ite_self, Int.reduceEq, and_self, Int.add_neg_cancel_right, Int.add_zero, Int.zero_add, md_e, e, Int.reduceEq]
theorem p202 (hM : mdR M) {f k : Int} (g : -2147483648 ≤ f ∧ f < 2147483648) (g2 : -2147483648 ≤ k ∧ k < 2147483648) : ∃ b M', ru_ev z 202 [.ref 1315, .int (wI f), .int (wI k)] (mdPut h M) = some (.inl (some (.int (wI b))), mdPut h M') ∧ rpL M f k (fun rc R L Q t b => t = 0 ∧ b = L k.toNat) b M' := by
  have e := p176 (z := z) (h := h) hM g g2
  by_cases e1 : rfK M f k = 0
  · obtain ⟨e0, c1, c2⟩ := rfK_0 e1
    obtain ⟨n, hn, rfl, hq⟩ := mph_at hM e0
    have s := phR_s hq
    simp only [Int.toNat_natCast] at c2
    obtain ⟨rc, R, L, Q, q1, q2⟩ := p120 (z := z) (h := h) (M := mdT M 0) (f := n) hn hq hM.2.2.2.2.2.1
    rw [lrOK_T] at q1
    rw [mdQ_T] at q2
    refine ⟨L k.toNat, mdT (mdQ M rc R L Q) 0, ?_, Or.inr ⟨e1, rc, R, L, Q, 0, rfl, q1, rfl, rfl⟩⟩
    have ea : am_ia (mdPut h (mdT (mdQ M rc R L Q) 0)) 1328 (wI k) = some (wI (L k.toNat)) := md_a12 (by omega) (by omega)
    simp only [e1, if_true] at e
    simp (disch := omega) only [en202, e202_0, e202_1, e202_2, e202_3, e202_6, e202_9, e202_10, e202_11, e202_12, e202_13, e202_16, e202_17, e202_20, e202_21, e202_22, ↓reduceIte, Bool.false_eq_true, not_false_eq_true, not_true_eq_false, Nat.reduceLeDiff, Nat.reduceAdd, Nat.reduceEqDiff, Int.reduceToNat, Int.toNat_natCast, iB0, iB1, ru_klI, ru_klR, ru_klF, ru_klJ, ru_kl0, ru_cs0, ru_csI, ru_csR, ru_csF, ru_csJ, wI_add, wI_sub, wI_mul, wI_lt, wI_le, wI_inj, ru_fdE, ru_fdN, ru_iaN, ru_baN, ru_laN, ru_qaN, ru_pfN, ru_isN, ru_bsN, ru_jsN, ru_qsN, ru_set2, Nat.add_right_cancel_iff, if_true, if_false, ite_self, Int.reduceEq, and_self, Int.add_neg_cancel_right, Int.add_zero, Int.zero_add, md_e, e, q2, md_f32, ea]
  · refine ⟨0, mdT M (rfK M f k), ?_, Or.inl ⟨e1, rfl⟩⟩
    simp only [e1, if_false] at e
    simp (disch := omega) only [en202, e202_0, e202_1, e202_2, e202_3, e202_6, e202_9, e202_10, e202_11, e202_12, e202_13, e202_16, e202_17, e202_20, e202_21, e202_22, ↓reduceIte, Bool.false_eq_true, not_false_eq_true, not_true_eq_false, Nat.reduceLeDiff, Nat.reduceAdd, Nat.reduceEqDiff, Int.reduceToNat, Int.toNat_natCast, iB0, iB1, ru_klI, ru_klR, ru_klF, ru_klJ, ru_kl0, ru_cs0, ru_csI, ru_csR, ru_csF, ru_csJ, wI_add, wI_sub, wI_mul, wI_lt, wI_le, wI_inj, ru_fdE, ru_fdN, ru_iaN, ru_baN, ru_laN, ru_qaN, ru_pfN, ru_isN, ru_bsN, ru_jsN, ru_qsN, ru_set2, Nat.add_right_cancel_iff, if_true, if_false, ite_self, Int.reduceEq, and_self, Int.add_neg_cancel_right, Int.add_zero, Int.zero_add, md_e, e, Int.reduceEq]
/-- how many are in the picture, by the reference -/
theorem p_cnt (hf : f < 5) (hr : phR (mph M f)) : ru_ev z 121 [.ref 1315, .int (wI f)] (mdPut h M) = some (.inl (some (.int (wI (bsN (shw (mph M f)) ((mph M f).1 7).toNat : Nat)))), mdPut h M) ∧ ∀ H, ru_ev z 126 [.int (wI (bsN (shw (mph M f)) ((mph M f).1 7).toNat : Nat))] H = some (.inl (some (.int (wI (cnB (shS (mph M f)) 12 : Nat)))), H) := by
  have s := phR_s hr
  obtain ⟨m, hm⟩ := Int.eq_ofNat_of_zero_le s.2.2.2.2.2.2.2.1
  refine ⟨p121 hf hr, fun H => ?_⟩
  rw [hm, Int.toNat_natCast]
  have e := p126 (z := z) (h := H) (s := bsN (shw (mph M f)) m) (by have := bsN_b (P := shw (mph M f)) (k := m) (by omega); omega)
  rw [pcN_bs _ 12 m (by omega), shS_cn hm (by omega)] at e
  exact e
/-- refused as photo f, or for a number that isn't below n -/
def rfO (M : tMd) (f j : Int) : Int := if rfP M f = 0 then (if 0 ≤ j ∧ j ≤ (cnB (shS (mph M f.toNat)) 12 : Nat) - 1 then 0 else 2) else rfP M f
theorem p205 (hM : mdR M) {f j : Int} (g : -2147483648 ≤ f ∧ f < 2147483648) (g2 : -2147483648 ≤ j ∧ j < 2147483648) : ru_ev z 205 [.ref 1315, .int (wI f), .int (wI j)] (mdPut h M) = some (.inl (some (.int (wI (if rfO M f j = 0 then fnF (fun k => shw (mph M f.toNat) k && decide (rkN (shS (mph M f.toNat)) (kyO (shX (mph M f.toNat)) (shY (mph M f.toNat))) k = j.toNat)) ((mph M f.toNat).1 7).toNat 0 else 0)))), mdPut h (mdT M (rfO M f j))) := by
  have e := p117 (z := z) (h := h) hM g
  unfold rfO
  by_cases e1 : rfP M f = 0
  · obtain ⟨n, hn, rfl, hq⟩ := mph_at hM e1
    have s := phR_s hq
    obtain ⟨m, hm⟩ := Int.eq_ofNat_of_zero_le s.2.2.2.2.2.2.2.1
    obtain ⟨k1, k2⟩ := p_cnt (z := z) (h := h) (M := mdT M 0) (f := n) hn hq
    rw [mph_T] at k1 k2
    simp only [Int.toNat_natCast]
    have hc := cnB_le (shS (mph M n)) 12
    simp only [e1, if_true] at e ⊢
    by_cases c : 0 ≤ j ∧ j ≤ (cnB (shS (mph M n)) 12 : Nat) - 1
    · obtain ⟨i, rfl⟩ := Int.eq_ofNat_of_zero_le c.1
      have e4 := p134 (z := z) (h := h) (M := mdT M 0) (f := n) hn hq (m := m) (j := i) hm (by omega)
      rw [mph_T, show m = ((mph M n).1 7).toNat by rw [hm]; rfl] at e4
      simp (disch := omega) only [en205, e205_0, e205_1, e205_2, e205_5, e205_8, e205_9, e205_10, e205_11, e205_12, e205_13, e205_16, e205_19, e205_20, e205_21, e205_24, e205_27, e205_28, e205_31, e205_32, e205_33, e205_36, e205_39, e205_40, e205_43, e205_44, e205_45, e205_46, e205_49, ↓reduceIte, Bool.false_eq_true, not_false_eq_true, not_true_eq_false, Nat.reduceLeDiff, Nat.reduceAdd, Nat.reduceEqDiff, Int.reduceToNat, Int.toNat_natCast, iB0, iB1, ru_klI, ru_klR, ru_klF, ru_klJ, ru_kl0, ru_cs0, ru_csI, ru_csR, ru_csF, ru_csJ, wI_add, wI_sub, wI_mul, wI_lt, wI_le, wI_inj, ru_fdE, ru_fdN, ru_iaN, ru_baN, ru_laN, ru_qaN, ru_pfN, ru_isN, ru_bsN, ru_jsN, ru_qsN, ru_set2, Nat.add_right_cancel_iff, if_true, if_false, ite_self, Int.reduceEq, and_self, Int.add_neg_cancel_right, Int.add_zero, Int.zero_add, md_e, e, k1, k2, m53, c, p54, wI_and1, not_true, not_false_iff, Int.reduceEq, and_self, e4]
    · simp (disch := omega) only [en205, e205_0, e205_1, e205_2, e205_5, e205_8, e205_9, e205_10, e205_11, e205_12, e205_13, e205_16, e205_19, e205_20, e205_21, e205_24, e205_27, e205_28, e205_31, e205_32, e205_33, e205_36, e205_39, e205_40, e205_43, e205_44, e205_45, e205_46, e205_49, ↓reduceIte, Bool.false_eq_true, not_false_eq_true, not_true_eq_false, Nat.reduceLeDiff, Nat.reduceAdd, Nat.reduceEqDiff, Int.reduceToNat, Int.toNat_natCast, iB0, iB1, ru_klI, ru_klR, ru_klF, ru_klJ, ru_kl0, ru_cs0, ru_csI, ru_csR, ru_csF, ru_csJ, wI_add, wI_sub, wI_mul, wI_lt, wI_le, wI_inj, ru_fdE, ru_fdN, ru_iaN, ru_baN, ru_laN, ru_qaN, ru_pfN, ru_isN, ru_bsN, ru_jsN, ru_qsN, ru_set2, Nat.add_right_cancel_iff, if_true, if_false, ite_self, Int.reduceEq, and_self, Int.add_neg_cancel_right, Int.add_zero, Int.zero_add, md_e, e, k1, k2, m53, c, p54, wI_and1, not_true, not_false_iff, Int.reduceEq]
  · simp only [e1, if_false] at e ⊢
    simp (disch := omega) only [en205, e205_0, e205_1, e205_2, e205_5, e205_8, e205_9, e205_10, e205_11, e205_12, e205_13, e205_16, e205_19, e205_20, e205_21, e205_24, e205_27, e205_28, e205_31, e205_32, e205_33, e205_36, e205_39, e205_40, e205_43, e205_44, e205_45, e205_46, e205_49, ↓reduceIte, Bool.false_eq_true, not_false_eq_true, not_true_eq_false, Nat.reduceLeDiff, Nat.reduceAdd, Nat.reduceEqDiff, Int.reduceToNat, Int.toNat_natCast, iB0, iB1, ru_klI, ru_klR, ru_klF, ru_klJ, ru_kl0, ru_cs0, ru_csI, ru_csR, ru_csF, ru_csJ, wI_add, wI_sub, wI_mul, wI_lt, wI_le, wI_inj, ru_fdE, ru_fdN, ru_iaN, ru_baN, ru_laN, ru_qaN, ru_pfN, ru_isN, ru_bsN, ru_jsN, ru_qsN, ru_set2, Nat.add_right_cancel_iff, if_true, if_false, ite_self, Int.reduceEq, and_self, Int.add_neg_cancel_right, Int.add_zero, Int.zero_add, md_e, e, not_false_iff, Int.reduceEq]
theorem p144 {k : Nat} (hf : f < 5) (hk : k < 12) (hr : phR (mph M f)) {px py : Int} : ru_ev z 144 [.ref 1315, .int (wI f), .int (wI k), .int (wI px), .int (wI py)] (mdPut h M) = some (.inl (some (.int (wI (dqF (shX (mph M f)) (shY (mph M f)) px py k)))), mdPut h M) := by
  simp (disch := omega) only [en144, e144_0, e144_1, e144_2, e144_3, e144_6, e144_7, e144_8, e144_10, e144_11, e144_12, e144_13, e144_16, e144_18, e144_19, e144_21, e144_23, e144_25, e144_26, e144_28, e144_30, e144_31, e144_32, ↓reduceIte, Bool.false_eq_true, not_false_eq_true, not_true_eq_false, Nat.reduceLeDiff, Nat.reduceAdd, Nat.reduceEqDiff, Int.reduceToNat, Int.toNat_natCast, iB0, iB1, ru_klI, ru_klR, ru_klF, ru_klJ, ru_kl0, ru_cs0, ru_csI, ru_csR, ru_csF, ru_csJ, wI_add, wI_sub, wI_mul, wI_lt, wI_le, wI_inj, ru_fdE, ru_fdN, ru_iaN, ru_baN, ru_laN, ru_qaN, ru_pfN, ru_isN, ru_bsN, ru_jsN, ru_qsN, ru_set2, Nat.add_right_cancel_iff, if_true, if_false, ite_self, Int.reduceEq, and_self, Int.add_neg_cancel_right, Int.add_zero, Int.zero_add, md_e, md_f0, md_s0, md_f1, md_s1, md_f2, md_f3, md_f4, md_s4, md_f5, md_f6, md_f7, md_s7, md_f8, md_s8, md_f9, md_s9, md_f10, md_s10, md_f11, md_s11, md_f12, md_s12, md_f13, md_s13, md_f14, md_f15, md_s15, md_f16, md_s16, md_f17, md_s17, md_f18, md_s18, md_f19, md_f20, md_s20, md_f21, md_f22, md_s22, md_f23, md_f24, md_s24, md_f25, md_s25, md_f26, md_f27, md_f28, md_s28, md_f29, md_s29, md_f30, md_f31, md_f32, md_f33, md_f34, md_s34, md_f35, md_s35, md_f36, md_f37, md_f38, md_s38, md_a0, md_w0, md_a1, md_w1, md_a2, md_w2, md_a3, md_w3, md_a4, md_w4, md_a5, md_w5, md_a6, md_w6, md_a7, md_w7, md_a8, md_w8, md_a9, md_w9, md_a10, md_w10, md_a11, md_w11, md_a12, md_w12, md_a13, md_w13, md_a14, md_w14, md_a15, md_w15, up1_e, up1_n, mdT_1, mdT_n, mdT_2, mdT_T, p129 (z := z) (h := h) (M := M) hf hk hr, p127 (z := z) (h := h) (M := M) hf hk]
  rfl
theorem p143i {k : Nat} (hf : f < 5) (hk : k < 12) (hr : phR (mph M f)) {px py rk : Int} (h1 : 0 ≤ px ∧ px ≤ 999) (h2 : 0 ≤ py ∧ py ≤ 999) {m : Nat} (hm : (mph M f).1 7 = (m : Int)) : ∀ d o, o + d = m → ∀ l8, ∃ l8',
    ru_n z 143 32 [some (.ref 1315), some (.int (wI f)), some (.int (wI px)), some (.int (wI py)), some (.int (wI rk)), some (.int (wI k)), some (.int (wI (cnB (fun o => shS (mph M f) o && decide (kyD (shX (mph M f)) (shY (mph M f)) px py o < kyD (shX (mph M f)) (shY (mph M f)) px py k)) o : Nat))), some (.int (wI o)), l8] [] (mdPut h M) = ru_n z 143 106 [some (.ref 1315), some (.int (wI f)), some (.int (wI px)), some (.int (wI py)), some (.int (wI rk)), some (.int (wI k)), some (.int (wI (cnB (fun o => shS (mph M f) o && decide (kyD (shX (mph M f)) (shY (mph M f)) px py o < kyD (shX (mph M f)) (shY (mph M f)) px py k)) m : Nat))), some (.int (wI m)), l8'] [] (mdPut h M) := by
  have s := phR_s hr
  intro d
  induction d with
  | zero =>
    intro o ho l8
    obtain rfl : o = m := by omega
    refine ⟨l8, ?_⟩
    have c : ((o : Int) ≤ (o : Int)) = True := eq_true (Int.le_refl _)
    simp (disch := omega) only [e143_32, e143_34, e143_35, e143_36, e143_39, ↓reduceIte, Bool.false_eq_true, not_false_eq_true, not_true_eq_false, Nat.reduceLeDiff, Nat.reduceAdd, Nat.reduceEqDiff, Int.reduceToNat, Int.toNat_natCast, iB0, iB1, ru_klI, ru_klR, ru_klF, ru_klJ, ru_kl0, ru_cs0, ru_csI, ru_csR, ru_csF, ru_csJ, wI_add, wI_sub, wI_mul, wI_lt, wI_le, wI_inj, ru_fdE, ru_fdN, ru_iaN, ru_baN, ru_laN, ru_qaN, ru_pfN, ru_isN, ru_bsN, ru_jsN, ru_qsN, ru_set2, Nat.add_right_cancel_iff, if_true, if_false, ite_self, Int.reduceEq, and_self, Int.add_neg_cancel_right, Int.add_zero, Int.zero_add, md_e, p122, hm, c]
  | succ d ih =>
    intro o ho l8
    have c : ((m : Int) ≤ (o : Int)) = False := eq_false (by omega)
    have hs := p124 (z := z) (h := h) (M := M) (f := f) (k := o) hf (by omega) hr
    have he : shS (mph M f) o = shw (mph M f) o := shS_of (by omega)
    have q1 := p144 (z := z) (h := h) (M := M) (px := px) (py := py) hf (show o < 12 by omega) hr
    have q2 := p144 (z := z) (h := h) (M := M) (px := px) (py := py) hf hk hr
    have xo := shXY_rng hr o
    have xk := shXY_rng hr k
    have r1 := dqF_rng (x := shX (mph M f)) (y := shY (mph M f)) (k := o) (by omega) (by omega) h1 h2
    have r2 := dqF_rng (x := shX (mph M f)) (y := shY (mph M f)) (k := k) (by omega) (by omega) h1 h2
    obtain ⟨l8', ih1⟩ := ih (o + 1) (by omega) (some (.int (wI (dqF (shX (mph M f)) (shY (mph M f)) px py o - dqF (shX (mph M f)) (shY (mph M f)) px py k))))
    refine ⟨l8', ?_⟩
    rw [← ih1, e143_32]
    by_cases e2 : shw (mph M f) o = true
    · by_cases e3 : kyD (shX (mph M f)) (shY (mph M f)) px py o < kyD (shX (mph M f)) (shY (mph M f)) px py k
      · have ec : cnB (fun o => shS (mph M f) o && decide (kyD (shX (mph M f)) (shY (mph M f)) px py o < kyD (shX (mph M f)) (shY (mph M f)) px py k)) (o + 1) = cnB (fun o => shS (mph M f) o && decide (kyD (shX (mph M f)) (shY (mph M f)) px py o < kyD (shX (mph M f)) (shY (mph M f)) px py k)) o + 1 := by
          rw [cnB, he, e2, decide_eq_true e3]; rfl
        rw [ec]
        unfold kyD at e3
        by_cases e4 : dqF (shX (mph M f)) (shY (mph M f)) px py o - dqF (shX (mph M f)) (shY (mph M f)) px py k < 0
        · have d4 := eq_true e4
          simp (disch := omega) only [e143_34, e143_35, e143_36, e143_39, e143_42, e143_43, e143_44, e143_46, e143_47, e143_48, e143_51, e143_52, e143_53, e143_55, e143_56, e143_57, e143_60, e143_61, e143_63, e143_65, e143_66, e143_67, e143_69, e143_72, e143_75, e143_77, e143_80, e143_82, e143_85, e143_87, e143_89, e143_92, e143_93, e143_96, e143_97, e143_98, e143_100, e143_103, ↓reduceIte, Bool.false_eq_true, not_false_eq_true, not_true_eq_false, Nat.reduceLeDiff, Nat.reduceAdd, Nat.reduceEqDiff, Int.reduceToNat, Int.toNat_natCast, iB0, iB1, ru_klI, ru_klR, ru_klF, ru_klJ, ru_kl0, ru_cs0, ru_csI, ru_csR, ru_csF, ru_csJ, wI_add, wI_sub, wI_mul, wI_lt, wI_le, wI_inj, ru_fdE, ru_fdN, ru_iaN, ru_baN, ru_laN, ru_qaN, ru_pfN, ru_isN, ru_bsN, ru_jsN, ru_qsN, ru_set2, Nat.add_right_cancel_iff, if_true, if_false, ite_self, Int.reduceEq, and_self, Int.add_neg_cancel_right, Int.add_zero, Int.zero_add, md_e, p122, hm, c, hs, e2, q1, q2, d4, wI_b0, not_true, not_false_iff, Int.natCast_add, Int.natCast_one]
        · have d4 := eq_false e4
          have d5 : (dqF (shX (mph M f)) (shY (mph M f)) px py o - dqF (shX (mph M f)) (shY (mph M f)) px py k = 0) = True := eq_true (by omega)
          have d6 : ((k : Int) ≤ (o : Int)) = False := eq_false (by omega)
          simp (disch := omega) only [e143_34, e143_35, e143_36, e143_39, e143_42, e143_43, e143_44, e143_46, e143_47, e143_48, e143_51, e143_52, e143_53, e143_55, e143_56, e143_57, e143_60, e143_61, e143_63, e143_65, e143_66, e143_67, e143_69, e143_72, e143_75, e143_77, e143_80, e143_82, e143_85, e143_87, e143_89, e143_92, e143_93, e143_96, e143_97, e143_98, e143_100, e143_103, ↓reduceIte, Bool.false_eq_true, not_false_eq_true, not_true_eq_false, Nat.reduceLeDiff, Nat.reduceAdd, Nat.reduceEqDiff, Int.reduceToNat, Int.toNat_natCast, iB0, iB1, ru_klI, ru_klR, ru_klF, ru_klJ, ru_kl0, ru_cs0, ru_csI, ru_csR, ru_csF, ru_csJ, wI_add, wI_sub, wI_mul, wI_lt, wI_le, wI_inj, ru_fdE, ru_fdN, ru_iaN, ru_baN, ru_laN, ru_qaN, ru_pfN, ru_isN, ru_bsN, ru_jsN, ru_qsN, ru_set2, Nat.add_right_cancel_iff, if_true, if_false, ite_self, Int.reduceEq, and_self, Int.add_neg_cancel_right, Int.add_zero, Int.zero_add, md_e, p122, hm, c, hs, e2, q1, q2, d4, d5, d6, wI_b0, not_true, not_false_iff, Int.natCast_add, Int.natCast_one]
      · have ec : cnB (fun o => shS (mph M f) o && decide (kyD (shX (mph M f)) (shY (mph M f)) px py o < kyD (shX (mph M f)) (shY (mph M f)) px py k)) (o + 1) = cnB (fun o => shS (mph M f) o && decide (kyD (shX (mph M f)) (shY (mph M f)) px py o < kyD (shX (mph M f)) (shY (mph M f)) px py k)) o := by
          rw [cnB, decide_eq_false e3, Bool.and_false]; rfl
        rw [ec]
        unfold kyD at e3
        have d4 : (dqF (shX (mph M f)) (shY (mph M f)) px py o - dqF (shX (mph M f)) (shY (mph M f)) px py k < 0) = False := eq_false (by omega)
        by_cases e5 : dqF (shX (mph M f)) (shY (mph M f)) px py o - dqF (shX (mph M f)) (shY (mph M f)) px py k = 0
        · have d5 := eq_true e5
          have d6 : ((k : Int) ≤ (o : Int)) = True := eq_true (by omega)
          simp (disch := omega) only [e143_34, e143_35, e143_36, e143_39, e143_42, e143_43, e143_44, e143_46, e143_47, e143_48, e143_51, e143_52, e143_53, e143_55, e143_56, e143_57, e143_60, e143_61, e143_63, e143_65, e143_66, e143_67, e143_69, e143_72, e143_75, e143_77, e143_80, e143_82, e143_85, e143_87, e143_89, e143_92, e143_93, e143_96, e143_97, e143_98, e143_100, e143_103, ↓reduceIte, Bool.false_eq_true, not_false_eq_true, not_true_eq_false, Nat.reduceLeDiff, Nat.reduceAdd, Nat.reduceEqDiff, Int.reduceToNat, Int.toNat_natCast, iB0, iB1, ru_klI, ru_klR, ru_klF, ru_klJ, ru_kl0, ru_cs0, ru_csI, ru_csR, ru_csF, ru_csJ, wI_add, wI_sub, wI_mul, wI_lt, wI_le, wI_inj, ru_fdE, ru_fdN, ru_iaN, ru_baN, ru_laN, ru_qaN, ru_pfN, ru_isN, ru_bsN, ru_jsN, ru_qsN, ru_set2, Nat.add_right_cancel_iff, if_true, if_false, ite_self, Int.reduceEq, and_self, Int.add_neg_cancel_right, Int.add_zero, Int.zero_add, md_e, p122, hm, c, hs, e2, q1, q2, d4, d5, d6, wI_b0, not_true, not_false_iff, Int.natCast_add, Int.natCast_one, Int.add_zero]
        · have d5 := eq_false e5
          simp (disch := omega) only [e143_34, e143_35, e143_36, e143_39, e143_42, e143_43, e143_44, e143_46, e143_47, e143_48, e143_51, e143_52, e143_53, e143_55, e143_56, e143_57, e143_60, e143_61, e143_63, e143_65, e143_66, e143_67, e143_69, e143_72, e143_75, e143_77, e143_80, e143_82, e143_85, e143_87, e143_89, e143_92, e143_93, e143_96, e143_97, e143_98, e143_100, e143_103, ↓reduceIte, Bool.false_eq_true, not_false_eq_true, not_true_eq_false, Nat.reduceLeDiff, Nat.reduceAdd, Nat.reduceEqDiff, Int.reduceToNat, Int.toNat_natCast, iB0, iB1, ru_klI, ru_klR, ru_klF, ru_klJ, ru_kl0, ru_cs0, ru_csI, ru_csR, ru_csF, ru_csJ, wI_add, wI_sub, wI_mul, wI_lt, wI_le, wI_inj, ru_fdE, ru_fdN, ru_iaN, ru_baN, ru_laN, ru_qaN, ru_pfN, ru_isN, ru_bsN, ru_jsN, ru_qsN, ru_set2, Nat.add_right_cancel_iff, if_true, if_false, ite_self, Int.reduceEq, and_self, Int.add_neg_cancel_right, Int.add_zero, Int.zero_add, md_e, p122, hm, c, hs, e2, q1, q2, d4, d5, wI_b0, not_true, not_false_iff, Int.natCast_add, Int.natCast_one, Int.add_zero]
    · have ec : cnB (fun o => shS (mph M f) o && decide (kyD (shX (mph M f)) (shY (mph M f)) px py o < kyD (shX (mph M f)) (shY (mph M f)) px py k)) (o + 1) = cnB (fun o => shS (mph M f) o && decide (kyD (shX (mph M f)) (shY (mph M f)) px py o < kyD (shX (mph M f)) (shY (mph M f)) px py k)) o := by
        rw [cnB, he]
        simp only [Bool.not_eq_true] at e2
        rw [e2]; rfl
      rw [ec]
      simp (disch := omega) only [e143_34, e143_35, e143_36, e143_39, e143_42, e143_43, e143_44, e143_46, e143_47, e143_48, e143_51, e143_52, e143_53, e143_55, e143_56, e143_57, e143_60, e143_61, e143_63, e143_65, e143_66, e143_67, e143_69, e143_72, e143_75, e143_77, e143_80, e143_82, e143_85, e143_87, e143_89, e143_92, e143_93, e143_96, e143_97, e143_98, e143_100, e143_103, ↓reduceIte, Bool.false_eq_true, not_false_eq_true, not_true_eq_false, Nat.reduceLeDiff, Nat.reduceAdd, Nat.reduceEqDiff, Int.reduceToNat, Int.toNat_natCast, iB0, iB1, ru_klI, ru_klR, ru_klF, ru_klJ, ru_kl0, ru_cs0, ru_csI, ru_csR, ru_csF, ru_csJ, wI_add, wI_sub, wI_mul, wI_lt, wI_le, wI_inj, ru_fdE, ru_fdN, ru_iaN, ru_baN, ru_laN, ru_qaN, ru_pfN, ru_isN, ru_bsN, ru_jsN, ru_qsN, ru_set2, Nat.add_right_cancel_iff, if_true, if_false, ite_self, Int.reduceEq, and_self, Int.add_neg_cancel_right, Int.add_zero, Int.zero_add, md_e, p122, hm, c, hs, e2, q1, q2, wI_b0, not_false_iff, Int.natCast_add, Int.natCast_one, Int.add_zero]
theorem p143l (hf : f < 5) (hr : phR (mph M f)) {px py : Int} (h1 : 0 ≤ px ∧ px ≤ 999) (h2 : 0 ≤ py ∧ py ≤ 999) {m j : Nat} (hm : (mph M f).1 7 = (m : Int)) (hj : j < 12) : ∀ d k, k + d = m → ∀ l6 l7 l8,
    ru_n z 143 3 [some (.ref 1315), some (.int (wI f)), some (.int (wI px)), some (.int (wI py)), some (.int (wI j)), some (.int (wI k)), l6, l7, l8] [] (mdPut h M) = some (.inl (some (.int (wI (fnF (fun k => shw (mph M f) k && decide (rkN (shS (mph M f)) (kyD (shX (mph M f)) (shY (mph M f)) px py) k = j)) d k)))), mdPut h M) := by
  have s := phR_s hr
  intro d
  induction d with
  | zero =>
    intro k hk l6 l7 l8
    obtain rfl : k = m := by omega
    have c : ((k : Int) ≤ (k : Int)) = True := eq_true (Int.le_refl _)
    simp (disch := omega) only [e143_3, e143_5, e143_6, e143_7, e143_10, e143_122, e143_123, ↓reduceIte, Bool.false_eq_true, not_false_eq_true, not_true_eq_false, Nat.reduceLeDiff, Nat.reduceAdd, Nat.reduceEqDiff, Int.reduceToNat, Int.toNat_natCast, iB0, iB1, ru_klI, ru_klR, ru_klF, ru_klJ, ru_kl0, ru_cs0, ru_csI, ru_csR, ru_csF, ru_csJ, wI_add, wI_sub, wI_mul, wI_lt, wI_le, wI_inj, ru_fdE, ru_fdN, ru_iaN, ru_baN, ru_laN, ru_qaN, ru_pfN, ru_isN, ru_bsN, ru_jsN, ru_qsN, ru_set2, Nat.add_right_cancel_iff, if_true, if_false, ite_self, Int.reduceEq, and_self, Int.add_neg_cancel_right, Int.add_zero, Int.zero_add, md_e, p122, hm, c, fnF]
  | succ d ih =>
    intro k hk l6 l7 l8
    have ih1 := ih (k + 1) (by omega)
    simp only [Int.natCast_add, Int.natCast_one] at ih1
    have c : ((m : Int) ≤ (k : Int)) = False := eq_false (by omega)
    have hs := p124 (z := z) (h := h) (M := M) (f := f) (k := k) hf (by omega) hr
    rw [e143_3, fnF]
    by_cases e1 : shw (mph M f) k = true
    · obtain ⟨l8', hi⟩ := p143i (z := z) (h := h) (M := M) (rk := (j : Int)) hf (show k < 12 by omega) hr h1 h2 hm m 0 (by omega) l8
      rw [rkN_m (by omega) (shS_m hm)] at hi
      have e0 : ((cnB (fun o => shS (mph M f) o && decide (kyD (shX (mph M f)) (shY (mph M f)) px py o < kyD (shX (mph M f)) (shY (mph M f)) px py k)) 0 : Nat) : Int) = 0 := rfl
      rw [e0, show ((0 : Nat) : Int) = 0 from rfl] at hi
      have hle := cnB_le (fun o => shS (mph M f) o && decide (kyD (shX (mph M f)) (shY (mph M f)) px py o < kyD (shX (mph M f)) (shY (mph M f)) px py k)) 12
      change rkN (shS (mph M f)) (kyD (shX (mph M f)) (shY (mph M f)) px py) k ≤ 12 at hle
      by_cases e2 : rkN (shS (mph M f)) (kyD (shX (mph M f)) (shY (mph M f)) px py) k = j
      · have d2 : (((rkN (shS (mph M f)) (kyD (shX (mph M f)) (shY (mph M f)) px py) k : Nat) : Int) = (j : Int)) = True := eq_true (by omega)
        simp (disch := omega) only [e143_5, e143_6, e143_7, e143_10, e143_13, e143_14, e143_15, e143_17, e143_20, e143_23, e143_26, e143_27, e143_29, e143_30, ↓reduceIte, Bool.false_eq_true, not_false_eq_true, not_true_eq_false, Nat.reduceLeDiff, Nat.reduceAdd, Nat.reduceEqDiff, Int.reduceToNat, Int.toNat_natCast, iB0, iB1, ru_klI, ru_klR, ru_klF, ru_klJ, ru_kl0, ru_cs0, ru_csI, ru_csR, ru_csF, ru_csJ, wI_add, wI_sub, wI_mul, wI_lt, wI_le, wI_inj, ru_fdE, ru_fdN, ru_iaN, ru_baN, ru_laN, ru_qaN, ru_pfN, ru_isN, ru_bsN, ru_jsN, ru_qsN, ru_set2, Nat.add_right_cancel_iff, if_true, if_false, ite_self, Int.reduceEq, and_self, Int.add_neg_cancel_right, Int.add_zero, Int.zero_add, md_e, p122, hm, c, hs, e1, hi, wI_b0, not_true, not_false_iff]
        simp (disch := omega) only [e143_106, e143_108, e143_110, e143_113, e143_115, e143_116, e143_119, ↓reduceIte, Bool.false_eq_true, not_false_eq_true, not_true_eq_false, Nat.reduceLeDiff, Nat.reduceAdd, Nat.reduceEqDiff, Int.reduceToNat, Int.toNat_natCast, iB0, iB1, ru_klI, ru_klR, ru_klF, ru_klJ, ru_kl0, ru_cs0, ru_csI, ru_csR, ru_csF, ru_csJ, wI_add, wI_sub, wI_mul, wI_lt, wI_le, wI_inj, ru_fdE, ru_fdN, ru_iaN, ru_baN, ru_laN, ru_qaN, ru_pfN, ru_isN, ru_bsN, ru_jsN, ru_qsN, ru_set2, Nat.add_right_cancel_iff, if_true, if_false, ite_self, Int.reduceEq, and_self, Int.add_neg_cancel_right, Int.add_zero, Int.zero_add, d2, e2, not_true, not_false_iff, decide_true, Bool.and_self]
      · have d2 : (((rkN (shS (mph M f)) (kyD (shX (mph M f)) (shY (mph M f)) px py) k : Nat) : Int) = (j : Int)) = False := eq_false (by omega)
        simp (disch := omega) only [e143_5, e143_6, e143_7, e143_10, e143_13, e143_14, e143_15, e143_17, e143_20, e143_23, e143_26, e143_27, e143_29, e143_30, ↓reduceIte, Bool.false_eq_true, not_false_eq_true, not_true_eq_false, Nat.reduceLeDiff, Nat.reduceAdd, Nat.reduceEqDiff, Int.reduceToNat, Int.toNat_natCast, iB0, iB1, ru_klI, ru_klR, ru_klF, ru_klJ, ru_kl0, ru_cs0, ru_csI, ru_csR, ru_csF, ru_csJ, wI_add, wI_sub, wI_mul, wI_lt, wI_le, wI_inj, ru_fdE, ru_fdN, ru_iaN, ru_baN, ru_laN, ru_qaN, ru_pfN, ru_isN, ru_bsN, ru_jsN, ru_qsN, ru_set2, Nat.add_right_cancel_iff, if_true, if_false, ite_self, Int.reduceEq, and_self, Int.add_neg_cancel_right, Int.add_zero, Int.zero_add, md_e, p122, hm, c, hs, e1, hi, wI_b0, not_true, not_false_iff]
        simp (disch := omega) only [e143_106, e143_108, e143_110, e143_113, e143_115, e143_116, e143_119, ↓reduceIte, Bool.false_eq_true, not_false_eq_true, not_true_eq_false, Nat.reduceLeDiff, Nat.reduceAdd, Nat.reduceEqDiff, Int.reduceToNat, Int.toNat_natCast, iB0, iB1, ru_klI, ru_klR, ru_klF, ru_klJ, ru_kl0, ru_cs0, ru_csI, ru_csR, ru_csF, ru_csJ, wI_add, wI_sub, wI_mul, wI_lt, wI_le, wI_inj, ru_fdE, ru_fdN, ru_iaN, ru_baN, ru_laN, ru_qaN, ru_pfN, ru_isN, ru_bsN, ru_jsN, ru_qsN, ru_set2, Nat.add_right_cancel_iff, if_true, if_false, ite_self, Int.reduceEq, and_self, Int.add_neg_cancel_right, Int.add_zero, Int.zero_add, d2, e2, not_true, not_false_iff, decide_false, Bool.and_false, ih1]
    · simp (disch := omega) only [e143_5, e143_6, e143_7, e143_10, e143_13, e143_14, e143_15, e143_17, e143_20, e143_23, e143_26, e143_27, e143_29, e143_30, e143_116, e143_119, ↓reduceIte, Bool.false_eq_true, not_false_eq_true, not_true_eq_false, Nat.reduceLeDiff, Nat.reduceAdd, Nat.reduceEqDiff, Int.reduceToNat, Int.toNat_natCast, iB0, iB1, ru_klI, ru_klR, ru_klF, ru_klJ, ru_kl0, ru_cs0, ru_csI, ru_csR, ru_csF, ru_csJ, wI_add, wI_sub, wI_mul, wI_lt, wI_le, wI_inj, ru_fdE, ru_fdN, ru_iaN, ru_baN, ru_laN, ru_qaN, ru_pfN, ru_isN, ru_bsN, ru_jsN, ru_qsN, ru_set2, Nat.add_right_cancel_iff, if_true, if_false, ite_self, Int.reduceEq, and_self, Int.add_neg_cancel_right, Int.add_zero, Int.zero_add, md_e, p122, hm, c, hs, e1, wI_b0, not_false_iff, Bool.false_and, ih1]
theorem p143 (hf : f < 5) (hr : phR (mph M f)) {px py : Int} (h1 : 0 ≤ px ∧ px ≤ 999) (h2 : 0 ≤ py ∧ py ≤ 999) {m j : Nat} (hm : (mph M f).1 7 = (m : Int)) (hj : j < 12) : ru_ev z 143 [.ref 1315, .int (wI f), .int (wI px), .int (wI py), .int (wI j)] (mdPut h M) = some (.inl (some (.int (wI (fnF (fun k => shw (mph M f) k && decide (rkN (shS (mph M f)) (kyD (shX (mph M f)) (shY (mph M f)) px py) k = j)) m 0)))), mdPut h M) := by
  have key := p143l (z := z) (h := h) (M := M) hf hr h1 h2 hm hj m 0 (by omega) none none none
  rw [show ((0 : Nat) : Int) = 0 from rfl] at key
  simp (disch := omega) only [en143, e143_0, e143_1, ↓reduceIte, Bool.false_eq_true, not_false_eq_true, not_true_eq_false, Nat.reduceLeDiff, Nat.reduceAdd, Nat.reduceEqDiff, Int.reduceToNat, Int.toNat_natCast, iB0, iB1, ru_klI, ru_klR, ru_klF, ru_klJ, ru_kl0, ru_cs0, ru_csI, ru_csR, ru_csF, ru_csJ, wI_add, wI_sub, wI_mul, wI_lt, wI_le, wI_inj, ru_fdE, ru_fdN, ru_iaN, ru_baN, ru_laN, ru_qaN, ru_pfN, ru_isN, ru_bsN, ru_jsN, ru_qsN, ru_set2, Nat.add_right_cancel_iff, if_true, if_false, ite_self, Int.reduceEq, and_self, Int.add_neg_cancel_right, Int.add_zero, Int.zero_add, md_e, key]
def rfD (M : tMd) (f x y j : Int) : Int := if rfO M f j = 0 then (if 0 ≤ x ∧ x ≤ 999 ∧ 0 ≤ y ∧ y ≤ 999 then 0 else 3) else rfO M f j
theorem p209 (hM : mdR M) {f x y j : Int} (g : -2147483648 ≤ f ∧ f < 2147483648) (gx : -2147483648 ≤ x ∧ x < 2147483648) (gy : -2147483648 ≤ y ∧ y < 2147483648) (g2 : -2147483648 ≤ j ∧ j < 2147483648) : ru_ev z 209 [.ref 1315, .int (wI f), .int (wI x), .int (wI y), .int (wI j)] (mdPut h M) = some (.inl (some (.int (wI (if rfD M f x y j = 0 then fnF (fun k => shw (mph M f.toNat) k && decide (rkN (shS (mph M f.toNat)) (kyD (shX (mph M f.toNat)) (shY (mph M f.toNat)) x y) k = j.toNat)) ((mph M f.toNat).1 7).toNat 0 else 0)))), mdPut h (mdT M (rfD M f x y j))) := by
  have e := p117 (z := z) (h := h) hM g
  unfold rfD rfO
  by_cases e1 : rfP M f = 0
  · obtain ⟨n, hn, rfl, hq⟩ := mph_at hM e1
    have s := phR_s hq
    obtain ⟨m, hm⟩ := Int.eq_ofNat_of_zero_le s.2.2.2.2.2.2.2.1
    obtain ⟨k1, k2⟩ := p_cnt (z := z) (h := h) (M := mdT M 0) (f := n) hn hq
    rw [mph_T] at k1 k2
    simp only [Int.toNat_natCast]
    have hc := cnB_le (shS (mph M n)) 12
    simp only [e1, if_true] at e ⊢
    by_cases c : 0 ≤ j ∧ j ≤ (cnB (shS (mph M n)) 12 : Nat) - 1
    · obtain ⟨i, rfl⟩ := Int.eq_ofNat_of_zero_le c.1
      rw [if_pos c]
      by_cases cx : 0 ≤ x ∧ x ≤ 999
      · by_cases cy : 0 ≤ y ∧ y ≤ 999
        · have e4 := p143 (z := z) (h := h) (M := mdT M 0) (f := n) hn hq cx cy (m := m) (j := i) hm (by omega)
          rw [mph_T, show m = ((mph M n).1 7).toNat by rw [hm]; rfl] at e4
          have c9 : (0 ≤ x ∧ x ≤ 999 ∧ 0 ≤ y ∧ y ≤ 999) := ⟨cx.1, cx.2, cy⟩
          simp (disch := omega) only [en209, e209_0, e209_1, e209_2, e209_5, e209_8, e209_9, e209_11, e209_12, e209_13, e209_14, e209_17, e209_20, e209_21, e209_22, e209_25, e209_28, e209_29, e209_32, e209_33, e209_34, e209_37, e209_40, e209_41, e209_42, e209_43, e209_46, e209_49, e209_52, e209_53, e209_54, e209_57, e209_60, e209_63, e209_64, e209_67, e209_68, e209_69, e209_72, e209_75, e209_76, e209_77, e209_78, e209_79, e209_80, e209_81, e209_83, e209_86, ↓reduceIte, Bool.false_eq_true, not_false_eq_true, not_true_eq_false, Nat.reduceLeDiff, Nat.reduceAdd, Nat.reduceEqDiff, Int.reduceToNat, Int.toNat_natCast, iB0, iB1, ru_klI, ru_klR, ru_klF, ru_klJ, ru_kl0, ru_cs0, ru_csI, ru_csR, ru_csF, ru_csJ, wI_add, wI_sub, wI_mul, wI_lt, wI_le, wI_inj, ru_fdE, ru_fdN, ru_iaN, ru_baN, ru_laN, ru_qaN, ru_pfN, ru_isN, ru_bsN, ru_jsN, ru_qsN, ru_set2, Nat.add_right_cancel_iff, if_true, if_false, ite_self, Int.reduceEq, and_self, Int.add_neg_cancel_right, Int.add_zero, Int.zero_add, md_e, e, k1, k2, m53, c, cx, cy, c9, and_false, false_and, true_and, p54, wI_and1, not_true, not_false_iff, Int.reduceEq, and_self, e4]
        · have c9 : ¬ (0 ≤ x ∧ x ≤ 999 ∧ 0 ≤ y ∧ y ≤ 999) := fun h => cy h.2.2
          simp (disch := omega) only [en209, e209_0, e209_1, e209_2, e209_5, e209_8, e209_9, e209_11, e209_12, e209_13, e209_14, e209_17, e209_20, e209_21, e209_22, e209_25, e209_28, e209_29, e209_32, e209_33, e209_34, e209_37, e209_40, e209_41, e209_42, e209_43, e209_46, e209_49, e209_52, e209_53, e209_54, e209_57, e209_60, e209_63, e209_64, e209_67, e209_68, e209_69, e209_72, e209_75, e209_76, e209_77, e209_78, e209_79, e209_80, e209_81, e209_83, e209_86, ↓reduceIte, Bool.false_eq_true, not_false_eq_true, not_true_eq_false, Nat.reduceLeDiff, Nat.reduceAdd, Nat.reduceEqDiff, Int.reduceToNat, Int.toNat_natCast, iB0, iB1, ru_klI, ru_klR, ru_klF, ru_klJ, ru_kl0, ru_cs0, ru_csI, ru_csR, ru_csF, ru_csJ, wI_add, wI_sub, wI_mul, wI_lt, wI_le, wI_inj, ru_fdE, ru_fdN, ru_iaN, ru_baN, ru_laN, ru_qaN, ru_pfN, ru_isN, ru_bsN, ru_jsN, ru_qsN, ru_set2, Nat.add_right_cancel_iff, if_true, if_false, ite_self, Int.reduceEq, and_self, Int.add_neg_cancel_right, Int.add_zero, Int.zero_add, md_e, e, k1, k2, m53, c, cx, cy, c9, and_false, false_and, true_and, p54, wI_and1, not_true, not_false_iff, Int.reduceEq, and_self]
      · have c9 : ¬ (0 ≤ x ∧ x ≤ 999 ∧ 0 ≤ y ∧ y ≤ 999) := fun h => cx ⟨h.1, h.2.1⟩
        simp (disch := omega) only [en209, e209_0, e209_1, e209_2, e209_5, e209_8, e209_9, e209_11, e209_12, e209_13, e209_14, e209_17, e209_20, e209_21, e209_22, e209_25, e209_28, e209_29, e209_32, e209_33, e209_34, e209_37, e209_40, e209_41, e209_42, e209_43, e209_46, e209_49, e209_52, e209_53, e209_54, e209_57, e209_60, e209_63, e209_64, e209_67, e209_68, e209_69, e209_72, e209_75, e209_76, e209_77, e209_78, e209_79, e209_80, e209_81, e209_83, e209_86, ↓reduceIte, Bool.false_eq_true, not_false_eq_true, not_true_eq_false, Nat.reduceLeDiff, Nat.reduceAdd, Nat.reduceEqDiff, Int.reduceToNat, Int.toNat_natCast, iB0, iB1, ru_klI, ru_klR, ru_klF, ru_klJ, ru_kl0, ru_cs0, ru_csI, ru_csR, ru_csF, ru_csJ, wI_add, wI_sub, wI_mul, wI_lt, wI_le, wI_inj, ru_fdE, ru_fdN, ru_iaN, ru_baN, ru_laN, ru_qaN, ru_pfN, ru_isN, ru_bsN, ru_jsN, ru_qsN, ru_set2, Nat.add_right_cancel_iff, if_true, if_false, ite_self, Int.reduceEq, and_self, Int.add_neg_cancel_right, Int.add_zero, Int.zero_add, md_e, e, k1, k2, m53, c, cx, c9, and_false, false_and, true_and, p54, wI_and1, not_true, not_false_iff, Int.reduceEq, and_self]
    · simp (disch := omega) only [en209, e209_0, e209_1, e209_2, e209_5, e209_8, e209_9, e209_11, e209_12, e209_13, e209_14, e209_17, e209_20, e209_21, e209_22, e209_25, e209_28, e209_29, e209_32, e209_33, e209_34, e209_37, e209_40, e209_41, e209_42, e209_43, e209_46, e209_49, e209_52, e209_53, e209_54, e209_57, e209_60, e209_63, e209_64, e209_67, e209_68, e209_69, e209_72, e209_75, e209_76, e209_77, e209_78, e209_79, e209_80, e209_81, e209_83, e209_86, ↓reduceIte, Bool.false_eq_true, not_false_eq_true, not_true_eq_false, Nat.reduceLeDiff, Nat.reduceAdd, Nat.reduceEqDiff, Int.reduceToNat, Int.toNat_natCast, iB0, iB1, ru_klI, ru_klR, ru_klF, ru_klJ, ru_kl0, ru_cs0, ru_csI, ru_csR, ru_csF, ru_csJ, wI_add, wI_sub, wI_mul, wI_lt, wI_le, wI_inj, ru_fdE, ru_fdN, ru_iaN, ru_baN, ru_laN, ru_qaN, ru_pfN, ru_isN, ru_bsN, ru_jsN, ru_qsN, ru_set2, Nat.add_right_cancel_iff, if_true, if_false, ite_self, Int.reduceEq, and_self, Int.add_neg_cancel_right, Int.add_zero, Int.zero_add, md_e, e, k1, k2, m53, c, p54, wI_and1, not_true, not_false_iff, Int.reduceEq]
  · simp only [e1, if_false] at e ⊢
    simp (disch := omega) only [en209, e209_0, e209_1, e209_2, e209_5, e209_8, e209_9, e209_11, e209_12, e209_13, e209_14, e209_17, e209_20, e209_21, e209_22, e209_25, e209_28, e209_29, e209_32, e209_33, e209_34, e209_37, e209_40, e209_41, e209_42, e209_43, e209_46, e209_49, e209_52, e209_53, e209_54, e209_57, e209_60, e209_63, e209_64, e209_67, e209_68, e209_69, e209_72, e209_75, e209_76, e209_77, e209_78, e209_79, e209_80, e209_81, e209_83, e209_86, ↓reduceIte, Bool.false_eq_true, not_false_eq_true, not_true_eq_false, Nat.reduceLeDiff, Nat.reduceAdd, Nat.reduceEqDiff, Int.reduceToNat, Int.toNat_natCast, iB0, iB1, ru_klI, ru_klR, ru_klF, ru_klJ, ru_kl0, ru_cs0, ru_csI, ru_csR, ru_csF, ru_csJ, wI_add, wI_sub, wI_mul, wI_lt, wI_le, wI_inj, ru_fdE, ru_fdN, ru_iaN, ru_baN, ru_laN, ru_qaN, ru_pfN, ru_isN, ru_bsN, ru_jsN, ru_qsN, ru_set2, Nat.add_right_cancel_iff, if_true, if_false, ite_self, Int.reduceEq, and_self, Int.add_neg_cancel_right, Int.add_zero, Int.zero_add, md_e, e, e1, not_false_iff, Int.reduceEq]
end NEAR
