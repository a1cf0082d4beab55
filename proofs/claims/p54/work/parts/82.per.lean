/-! ===== changes of a person: retouch, giveName ===== -/
section PER
variable {z : Bool} {h : am_H} {C : tCl} {M : tMd} {a : Nat} {q : tPh}
theorem p141 {N : tMd} {n k w : Nat} (hn : n < 5) (hk : k < 12) (hw : w < 4) {v : Int} : ru_ev z 141 [.ref 1315, .int (wI n), .int (wI k), .int (wI w), .int (wI v)] (mdPut h N) = some (.inl none, mdPut h (N.1, upC N.2 0 (up1 (N.2 0) (54 * n + 6 + 4 * k + w) v))) := by
  have e : (54 * (n : Int) + 6 + 4 * (k : Int) + (w : Int)).toNat = 54 * n + 6 + 4 * k + w := by omega
  simp (disch := omega) only [en141, e141_0, e141_1, e141_4, e141_6, e141_7, e141_8, e141_10, e141_11, e141_12, e141_13, e141_14, e141_15, e141_16, e141_17, e141_19, e141_20, ↓reduceIte, Bool.false_eq_true, not_false_eq_true, not_true_eq_false, Nat.reduceLeDiff, Nat.reduceAdd, Nat.reduceEqDiff, Int.reduceToNat, Int.toNat_natCast, iB0, iB1, ru_klI, ru_klR, ru_klF, ru_klJ, ru_kl0, ru_cs0, ru_csI, ru_csR, ru_csF, ru_csJ, wI_add, wI_sub, wI_mul, wI_lt, wI_le, wI_inj, ru_fdE, ru_fdN, ru_iaN, ru_baN, ru_laN, ru_qaN, ru_pfN, ru_isN, ru_bsN, ru_jsN, ru_qsN, ru_set2, Nat.add_right_cancel_iff, if_true, if_false, ite_self, Int.reduceEq, and_self, Int.add_neg_cancel_right, Int.add_zero, Int.zero_add, md_e, md_f2, sw0, e]
theorem ph_set3 (ha : isPh a) {F : Nat → Int} : am_set (clPut h (phP C a q)) (a + 4) (.inl (0, 12, .inl (fun i => wI (F i)))) = clPut h (phP C a (q.1, upC q.2 3 F)) := by
  have k4 := ha.2.2.2.2.1
  have n4 := ha.2.2.2.2.2.2.2.2.1
  have hb : 1000 ≤ a := ha.2.2.2.2.2.2.2.2.2.1
  rw [cl_setA k4 (by omega) n4]
  refine congrArg (clPut h) ?_
  refine Prod.ext rfl (Prod.ext (funext fun b => ?_) rfl)
  simp only [phP, upA, upC]
  by_cases e : b = a + 4
  · subst e
    rw [if_pos rfl, if_pos (by omega), if_pos (by omega)]
  · rw [if_neg e]
    by_cases e2 : a + 1 ≤ b ∧ b ≤ a + 4
    · rw [if_pos e2, if_pos e2, if_neg (by omega)]
    · rw [if_neg e2, if_neg e2]
/-- the flag of a person -/
theorem fg_ch {n k : Nat} {w : Int} (hM : mdR M) (hg : rgI M) (hN : phN (mph M n) (M.1 20)) (hn : n < 5) (hk : k < 12) (hz : ∀ c, 4 ≤ c → q.2 c = fun _ => 0) (hr : phR q) (he : pheq q (mph M n)) (hw : 0 ≤ w ∧ w ≤ 1) : phCh M n (q.1, upC q.2 2 (up1 (q.2 2) k w)) (up1 (M.2 0) (54 * n + 6 + 4 * k + 2) w) := by
  have f7 : up1 (M.2 0) (54 * n + 6 + 4 * k + 2) w (54 * n + 5) = M.2 0 (54 * n + 5) := up1_n (by omega)
  refine ⟨fun c hc => ?_, ⟨hr.1, hr.2.1, hr.2.2.1, fun c i => ?_, fun i => ?_, fun i => ?_⟩, fun j => ?_, ?_, ⟨fun x hx => ?_, fun c i hc hi => ?_⟩, ?_, fun f hf hne j h1 h2 => ?_⟩
  · show upC q.2 2 _ c = _
    rw [upC_n (by omega)]; exact hz c hc
  · have := hr.2.2.2.1 c i
    show -1 ≤ upC q.2 2 (up1 (q.2 2) k w) c i ∧ upC q.2 2 (up1 (q.2 2) k w) c i ≤ 999
    by_cases e : c = 2
    · subst e
      rw [upC_e]
      unfold up1
      split <;> omega
    · rw [upC_n e]; exact this
  · have := hr.2.2.2.2.1 i
    show 0 ≤ upC q.2 2 (up1 (q.2 2) k w) 2 i ∧ upC q.2 2 (up1 (q.2 2) k w) 2 i ≤ 1
    rw [upC_e]
    unfold up1
    split <;> omega
  · have := hr.2.2.2.2.2 i
    show upC q.2 2 (up1 (q.2 2) k w) 3 i ≤ 19
    rw [upC_n (by decide)]; exact this
  · have := hg.1 j
    unfold up1
    split <;> omega
  · exact srR_up (srR_of hM) (fun f hf => ⟨fun c => by omega, fun c => by omega, fun i hi => ⟨fun c => by omega, fun c => by omega⟩⟩)
  · have e := he.1 x hx
    rw [mph_f] at e
    unfold msf at e ⊢
    dsimp only at e ⊢
    rw [e, up1_n (show 54 * n + (x - 2) ≠ 54 * n + 6 + 4 * k + 2 by omega)]
  · have hi12 : i < 12 := by have := (phR_s hr).2.2.2.2.2.2.2; have hi9 : (i : Int) < q.1 7 := hi; omega
    have e := he.2 c i hc hi
    rw [mph_f] at e
    unfold msf at e ⊢
    dsimp only at e ⊢
    rw [if_pos hi12] at e ⊢
    have hcc : c = 0 ∨ c = 1 ∨ c = 2 ∨ c = 3 := by omega
    rcases hcc with rfl | rfl | rfl | rfl
    · rw [upC_n (by decide), e]
      simp only [Nat.reduceEqDiff, if_false, Nat.reduceLT, if_true]
      rw [up1_n (by omega)]
    · rw [upC_n (by decide), e]
      simp only [Nat.reduceEqDiff, if_false, Nat.reduceLT, if_true]
      rw [up1_n (by omega)]
    · rw [upC_e]
      simp only [Nat.reduceEqDiff, if_false, Nat.reduceLT, if_true] at e ⊢
      unfold up1
      by_cases c9 : i = k
      · subst c9; rw [if_pos rfl, if_pos rfl]
      · rw [if_neg c9, if_neg (by omega)]; exact e
    · rw [upC_n (by decide), e]
      simp only [if_true]
      rw [up1_n (by omega)]
  · refine phN_1 (q := mph M n) f7 (fun i hi => ?_) (phN_f (fun j hj => up1_n (by omega)) hN.2.2) hN
    rw [mph_f]
    unfold msf
    dsimp only
    rw [up1_n (show 54 * n + 6 + 4 * i + 3 ≠ 54 * n + 6 + 4 * k + 2 by omega)]
  · exact up1_n (by omega)
theorem c358 (hR : clR C) (hH : hiC C) (hA : phA C) {f k w : Int} (g : -2147483648 ≤ f ∧ f < 2147483648) (g2 : -2147483648 ≤ k ∧ k < 2147483648) (hw : 0 ≤ w ∧ w ≤ 1) : ∃ t v C', ru_ev z 358 [.ref 1000, .int (wI f), .int (wI k), .int (wI w)] (clPut h C) = oR t (some (.int (wI v))) (clPut h C') (clPut (thr h) C') ∧ chG C f.toNat (rcK C f k) (fun q' v => q' = ((cph C (cAp C f.toNat)).1, upC (cph C (cAp C f.toNat)).2 2 (up1 ((cph C (cAp C f.toNat)).2 2) k.toNat w)) ∧ v = (cph C (cAp C f.toNat)).2 2 k.toNat) t v C' := by
  have e1 := d174 (z := z) (h := h) hR g g2
  by_cases e : rcK C f k = 0
  · rw [oR_0 e] at e1
    obtain ⟨e0, b1, b2⟩ := rcK_0 e
    have hf := rcP_5 hR e0
    have ha := cAp_ph hR.1 hf
    have hq := (dph (h := h) hR e0).2
    have s := phR_s hq
    have si := phR_i hq k.toNat
    obtain ⟨C1, k1, k2⟩ := c113p (z := z) (h := h) hR hH hA hf
    refine ⟨0, _, phP C1 (cAp C f.toNat) _, ?_, Or.inr ⟨e, rfl, C1, _, k1, rfl, rfl, rfl⟩⟩
    rw [oR_0 rfl]
    simp (disch := omega) only [en358, e358_0, e358_1, e358_2, e358_3, e358_6, e358_8, e358_9, e358_12, e358_13, e358_16, e358_19, e358_22, e358_24, e358_27, e358_28, e358_29, e358_31, e358_33, e358_36, e358_37, e358_38, e358_39, e358_41, ↓reduceIte, Bool.false_eq_true, not_false_eq_true, not_true_eq_false, Nat.reduceLeDiff, Nat.reduceAdd, Nat.reduceEqDiff, Int.reduceToNat, Int.toNat_natCast, iB0, iB1, ru_klI, ru_klR, ru_klF, ru_klJ, ru_kl0, ru_cs0, ru_csI, ru_csR, ru_csF, ru_csJ, wI_add, wI_sub, wI_mul, wI_lt, wI_le, wI_inj, ru_fdE, ru_fdN, ru_iaN, ru_baN, ru_laN, ru_qaN, ru_pfN, ru_isN, ru_bsN, ru_jsN, ru_qsN, ru_set2, Nat.add_right_cancel_iff, if_true, if_false, ite_self, Int.reduceEq, and_self, Int.add_neg_cancel_right, Int.add_zero, Int.zero_add, ph_e ha, ph_f0 ha, ph_s0 ha, ph_f1 ha, ph_s1 ha, ph_f2 ha, ph_s2 ha, ph_f3 ha, ph_s3 ha, ph_f4 ha, ph_s4 ha, ph_f5 ha, ph_s5 ha, ph_f6 ha, ph_s6 ha, ph_f7 ha, ph_s7 ha, ph_f8 ha, ph_a0 ha, ph_w0 ha, ph_f9 ha, ph_a1 ha, ph_w1 ha, ph_f10 ha, ph_a2 ha, ph_w2 ha, ph_f11 ha, ph_a3 ha, ph_w3 ha, Int.reduceEq, ru_ctR, ru_ctI, upC_e, upC_n, upC_up, up1_e, up1_n, cl_e0, cl_g0_6, clF hR.1, e1, k2, wI_and1]
  · rw [oR_n e] at e1
    refine ⟨rcK C f k, 0, C, ?_, Or.inl ⟨e, rfl, rfl⟩⟩
    rw [oR_n e]
    simp (disch := omega) only [en358, e358_0, e358_1, e358_2, e358_3, e358_6, e358_8, e358_9, e358_12, e358_13, e358_16, e358_19, e358_22, e358_24, e358_27, e358_28, e358_29, e358_31, e358_33, e358_36, e358_37, e358_38, e358_39, e358_41, ↓reduceIte, Bool.false_eq_true, not_false_eq_true, not_true_eq_false, Nat.reduceLeDiff, Nat.reduceAdd, Nat.reduceEqDiff, Int.reduceToNat, Int.toNat_natCast, iB0, iB1, ru_klI, ru_klR, ru_klF, ru_klJ, ru_kl0, ru_cs0, ru_csI, ru_csR, ru_csF, ru_csJ, wI_add, wI_sub, wI_mul, wI_lt, wI_le, wI_inj, ru_fdE, ru_fdN, ru_iaN, ru_baN, ru_laN, ru_qaN, ru_pfN, ru_isN, ru_bsN, ru_jsN, ru_qsN, ru_set2, Nat.add_right_cancel_iff, if_true, if_false, ite_self, Int.reduceEq, and_self, Int.add_neg_cancel_right, Int.add_zero, Int.zero_add, cl_e0, e1]
theorem p359 (hM : mdR M) {f k w : Int} (g : -2147483648 ≤ f ∧ f < 2147483648) (g2 : -2147483648 ≤ k ∧ k < 2147483648) (hw : 0 ≤ w ∧ w ≤ 1) : ∃ b M', ru_ev z 359 [.ref 1315, .int (wI f), .int (wI k), .int (wI w)] (mdPut h M) = some (.inl (some (.int (wI b))), mdPut h M') ∧ chH M (rfK M f k) (fun S' b => S' = up1 (M.2 0) (54 * f.toNat + 6 + 4 * k.toNat + 2) w ∧ b = M.2 0 (54 * f.toNat + 6 + 4 * k.toNat + 2)) b M' ∧ (b = 0 ∨ b = 1) := by
  have e := p176 (z := z) (h := h) hM g g2
  by_cases e1 : rfK M f k = 0
  · obtain ⟨e0, c1, c2⟩ := rfK_0 e1
    obtain ⟨n, hn, rfl, hq⟩ := mph_at hM e0
    obtain ⟨x, rfl⟩ := Int.eq_ofNat_of_zero_le c1
    have s := phR_s hq
    simp only [Int.toNat_natCast] at c2 ⊢
    have hx : x < 12 := by omega
    have si := (phR_i hq x).2.2.1
    have ex := (mph_x (M := M) (f := n) hx).2.2.1
    rw [← ex] at si
    simp only [e1, if_true] at e
    obtain ⟨n', G', k1, k2⟩ := p350 (z := z) (h := h) (M := mdT M 0) hM.2.2.1
    refine ⟨M.2 0 (54 * n + 6 + 4 * x + 2), _, ?_, Or.inr ⟨e1, n', G', _, k1, rfl, rfl, rfl⟩, by omega⟩
    have q0 : upC (mdT M 0).2 1 G' 0 = M.2 0 := upC_n (by decide)
    have r1 := p125 (z := z) (h := h) (M := (up1 (mdT M 0).1 4 n', upC (mdT M 0).2 1 G')) (f := n) (k := x) hn hx (w := 2) (by omega) (by omega)
    rw [show 54 * n + 6 + 4 * x + (2 : Int).toNat = 54 * n + 6 + 4 * x + 2 by omega] at r1
    dsimp only at r1
    rw [q0] at r1
    have w1 := fun v => p141 (z := z) (h := h) (N := (up1 (mdT M 0).1 4 n', upC (mdT M 0).2 1 G')) (n := n) (k := x) (w := 2) hn hx (by decide) (v := v)
    dsimp only at w1
    rw [q0] at w1
    rw [show ((2 : Nat) : Int) = 2 from rfl] at w1
    by_cases cb : M.2 0 (54 * n + 6 + 4 * x + 2) = 1
    · have d1 : (M.2 0 (54 * n + 6 + 4 * x + 2) = 1) = True := eq_true cb
      by_cases cw : w = 0
      · subst cw
        simp (disch := omega) only [en359, e359_0, e359_1, e359_2, e359_3, e359_6, e359_9, e359_10, e359_11, e359_12, e359_15, e359_16, e359_17, e359_18, e359_19, e359_22, e359_23, e359_26, e359_27, e359_30, e359_31, e359_33, e359_34, e359_35, e359_36, e359_37, e359_38, e359_41, e359_42, e359_45, e359_46, e359_49, e359_51, ↓reduceIte, Bool.false_eq_true, not_false_eq_true, not_true_eq_false, Nat.reduceLeDiff, Nat.reduceAdd, Nat.reduceEqDiff, Int.reduceToNat, Int.toNat_natCast, iB0, iB1, ru_klI, ru_klR, ru_klF, ru_klJ, ru_kl0, ru_cs0, ru_csI, ru_csR, ru_csF, ru_csJ, wI_add, wI_sub, wI_mul, wI_lt, wI_le, wI_inj, ru_fdE, ru_fdN, ru_iaN, ru_baN, ru_laN, ru_qaN, ru_pfN, ru_isN, ru_bsN, ru_jsN, ru_qsN, ru_set2, Nat.add_right_cancel_iff, if_true, if_false, ite_self, Int.reduceEq, and_self, Int.add_neg_cancel_right, Int.add_zero, Int.zero_add, md_e, e, k2, r1, d1, w1, not_true, wI_and1]
        rw [cb]; rfl
      · have d2 : (w = 0) = False := eq_false cw
        have ew : w = 1 := by omega
        subst ew
        simp (disch := omega) only [en359, e359_0, e359_1, e359_2, e359_3, e359_6, e359_9, e359_10, e359_11, e359_12, e359_15, e359_16, e359_17, e359_18, e359_19, e359_22, e359_23, e359_26, e359_27, e359_30, e359_31, e359_33, e359_34, e359_35, e359_36, e359_37, e359_38, e359_41, e359_42, e359_45, e359_46, e359_49, e359_51, ↓reduceIte, Bool.false_eq_true, not_false_eq_true, not_true_eq_false, Nat.reduceLeDiff, Nat.reduceAdd, Nat.reduceEqDiff, Int.reduceToNat, Int.toNat_natCast, iB0, iB1, ru_klI, ru_klR, ru_klF, ru_klJ, ru_kl0, ru_cs0, ru_csI, ru_csR, ru_csF, ru_csJ, wI_add, wI_sub, wI_mul, wI_lt, wI_le, wI_inj, ru_fdE, ru_fdN, ru_iaN, ru_baN, ru_laN, ru_qaN, ru_pfN, ru_isN, ru_bsN, ru_jsN, ru_qsN, ru_set2, Nat.add_right_cancel_iff, if_true, if_false, ite_self, Int.reduceEq, and_self, Int.add_neg_cancel_right, Int.add_zero, Int.zero_add, md_e, e, k2, r1, d1, w1, not_true, wI_and1]
        rw [cb]; rfl
    · have d1 : (M.2 0 (54 * n + 6 + 4 * x + 2) = 1) = False := eq_false cb
      have cb0 : M.2 0 (54 * n + 6 + 4 * x + 2) = 0 := by omega
      by_cases cw : w = 0
      · subst cw
        simp (disch := omega) only [en359, e359_0, e359_1, e359_2, e359_3, e359_6, e359_9, e359_10, e359_11, e359_12, e359_15, e359_16, e359_17, e359_18, e359_19, e359_22, e359_23, e359_26, e359_27, e359_30, e359_31, e359_33, e359_34, e359_35, e359_36, e359_37, e359_38, e359_41, e359_42, e359_45, e359_46, e359_49, e359_51, ↓reduceIte, Bool.false_eq_true, not_false_eq_true, not_true_eq_false, Nat.reduceLeDiff, Nat.reduceAdd, Nat.reduceEqDiff, Int.reduceToNat, Int.toNat_natCast, iB0, iB1, ru_klI, ru_klR, ru_klF, ru_klJ, ru_kl0, ru_cs0, ru_csI, ru_csR, ru_csF, ru_csJ, wI_add, wI_sub, wI_mul, wI_lt, wI_le, wI_inj, ru_fdE, ru_fdN, ru_iaN, ru_baN, ru_laN, ru_qaN, ru_pfN, ru_isN, ru_bsN, ru_jsN, ru_qsN, ru_set2, Nat.add_right_cancel_iff, if_true, if_false, ite_self, Int.reduceEq, and_self, Int.add_neg_cancel_right, Int.add_zero, Int.zero_add, md_e, e, k2, r1, d1, w1, not_false_iff, wI_and1]
        rw [cb0]; rfl
      · have ew : w = 1 := by omega
        subst ew
        simp (disch := omega) only [en359, e359_0, e359_1, e359_2, e359_3, e359_6, e359_9, e359_10, e359_11, e359_12, e359_15, e359_16, e359_17, e359_18, e359_19, e359_22, e359_23, e359_26, e359_27, e359_30, e359_31, e359_33, e359_34, e359_35, e359_36, e359_37, e359_38, e359_41, e359_42, e359_45, e359_46, e359_49, e359_51, ↓reduceIte, Bool.false_eq_true, not_false_eq_true, not_true_eq_false, Nat.reduceLeDiff, Nat.reduceAdd, Nat.reduceEqDiff, Int.reduceToNat, Int.toNat_natCast, iB0, iB1, ru_klI, ru_klR, ru_klF, ru_klJ, ru_kl0, ru_cs0, ru_csI, ru_csR, ru_csF, ru_csJ, wI_add, wI_sub, wI_mul, wI_lt, wI_le, wI_inj, ru_fdE, ru_fdN, ru_iaN, ru_baN, ru_laN, ru_qaN, ru_pfN, ru_isN, ru_bsN, ru_jsN, ru_qsN, ru_set2, Nat.add_right_cancel_iff, if_true, if_false, ite_self, Int.reduceEq, and_self, Int.add_neg_cancel_right, Int.add_zero, Int.zero_add, md_e, e, k2, r1, d1, w1, not_false_iff, wI_and1]
        rw [cb0]; rfl
  · refine ⟨0, mdT M (rfK M f k), ?_, Or.inl ⟨e1, rfl⟩, Or.inl rfl⟩
    simp only [e1, if_false] at e
    simp (disch := omega) only [en359, e359_0, e359_1, e359_2, e359_3, e359_6, e359_9, e359_10, e359_11, e359_12, e359_15, e359_16, e359_17, e359_18, e359_19, e359_22, e359_23, e359_26, e359_27, e359_30, e359_31, e359_33, e359_34, e359_35, e359_36, e359_37, e359_38, e359_41, e359_42, e359_45, e359_46, e359_49, e359_51, ↓reduceIte, Bool.false_eq_true, not_false_eq_true, not_true_eq_false, Nat.reduceLeDiff, Nat.reduceAdd, Nat.reduceEqDiff, Int.reduceToNat, Int.toNat_natCast, iB0, iB1, ru_klI, ru_klR, ru_klF, ru_klJ, ru_kl0, ru_cs0, ru_csI, ru_csR, ru_csF, ru_csJ, wI_add, wI_sub, wI_mul, wI_lt, wI_le, wI_inj, ru_fdE, ru_fdN, ru_iaN, ru_baN, ru_laN, ru_qaN, ru_pfN, ru_isN, ru_bsN, ru_jsN, ru_qsN, ru_set2, Nat.add_right_cancel_iff, if_true, if_false, ite_self, Int.reduceEq, and_self, Int.add_neg_cancel_right, Int.add_zero, Int.zero_add, md_e, e, wI_and1]
/-! a name given -/
def gvS (S : Nat → Int) (n k : Nat) (o nm : Int) : Nat → Int := if o = -1 then up1 S (54 * n + 6 + 4 * k + 3) (nm + 1) else up1 (up1 S (54 * n + 6 + 4 * o.toNat + 3) 0) (54 * n + 6 + 4 * k + 3) (nm + 1)
theorem p139 {N : tMd} {n k : Nat} (hn : n < 5) (hk : k < 12) (hr : phR (mph N n)) {nm : Int} (g : 0 ≤ nm ∧ nm ≤ 19) : ru_ev z 139 [.ref 1315, .int (wI n), .int (wI k), .int (wI nm)] (mdPut h N) = some (.inl none, mdPut h (N.1, upC N.2 0 (gvS (N.2 0) n k (hofF ((mph N n).2 3) nm ((mph N n).1 7).toNat 0) nm))) := by
  have e1 := p140 (z := z) (h := h) (M := N) (f := n) hn hr (nm := nm) (by omega)
  have s := phR_s hr
  rcases hofF_sp ((mph N n).2 3) nm ((mph N n).1 7).toNat 0 with ⟨c, -⟩ | ⟨o, c, -, c2, -⟩
  · rw [c] at e1 ⊢
    have w1 := p141 (z := z) (h := h) (N := N) (n := n) (k := k) (w := 3) hn hk (by decide) (v := nm + 1)
    rw [show ((3 : Nat) : Int) = 3 from rfl] at w1
    simp (disch := omega) only [en139, e139_0, e139_1, e139_2, e139_3, e139_6, e139_8, e139_10, e139_11, e139_14, e139_15, e139_16, e139_18, e139_19, e139_20, e139_23, e139_24, e139_25, e139_26, e139_27, e139_28, e139_29, e139_30, e139_33, ↓reduceIte, Bool.false_eq_true, not_false_eq_true, not_true_eq_false, Nat.reduceLeDiff, Nat.reduceAdd, Nat.reduceEqDiff, Int.reduceToNat, Int.toNat_natCast, iB0, iB1, ru_klI, ru_klR, ru_klF, ru_klJ, ru_kl0, ru_cs0, ru_csI, ru_csR, ru_csF, ru_csJ, wI_add, wI_sub, wI_mul, wI_lt, wI_le, wI_inj, ru_fdE, ru_fdN, ru_iaN, ru_baN, ru_laN, ru_qaN, ru_pfN, ru_isN, ru_bsN, ru_jsN, ru_qsN, ru_set2, Nat.add_right_cancel_iff, if_true, if_false, ite_self, Int.reduceEq, and_self, Int.add_neg_cancel_right, Int.add_zero, Int.zero_add, md_e, e1, w1]
    rfl
  · rw [c] at e1 ⊢
    have w0 := p141 (z := z) (h := h) (N := N) (n := n) (k := o) (w := 3) hn (by omega) (by decide) (v := 0)
    have w1 := p141 (z := z) (h := h) (N := (N.1, upC N.2 0 (up1 (N.2 0) (54 * n + 6 + 4 * o + 3) 0))) (n := n) (k := k) (w := 3) hn hk (by decide) (v := nm + 1)
    rw [show ((3 : Nat) : Int) = 3 from rfl] at w0 w1
    dsimp only at w1
    rw [upC_e, upC_up] at w1
    have co : ((o : Int) = -1) = False := eq_false (by omega)
    have eg : gvS (N.2 0) n k (o : Int) nm = up1 (up1 (N.2 0) (54 * n + 6 + 4 * o + 3) 0) (54 * n + 6 + 4 * k + 3) (nm + 1) := by
      unfold gvS; rw [if_neg (by omega)]; rfl
    rw [eg]
    simp (disch := omega) only [en139, e139_0, e139_1, e139_2, e139_3, e139_6, e139_8, e139_10, e139_11, e139_14, e139_15, e139_16, e139_18, e139_19, e139_20, e139_23, e139_24, e139_25, e139_26, e139_27, e139_28, e139_29, e139_30, e139_33, ↓reduceIte, Bool.false_eq_true, not_false_eq_true, not_true_eq_false, Nat.reduceLeDiff, Nat.reduceAdd, Nat.reduceEqDiff, Int.reduceToNat, Int.toNat_natCast, iB0, iB1, ru_klI, ru_klR, ru_klF, ru_klJ, ru_kl0, ru_cs0, ru_csI, ru_csR, ru_csF, ru_csJ, wI_add, wI_sub, wI_mul, wI_lt, wI_le, wI_inj, ru_fdE, ru_fdN, ru_iaN, ru_baN, ru_laN, ru_qaN, ru_pfN, ru_isN, ru_bsN, ru_jsN, ru_qsN, ru_set2, Nat.add_right_cancel_iff, if_true, if_false, ite_self, Int.reduceEq, and_self, Int.add_neg_cancel_right, Int.add_zero, Int.zero_add, md_e, e1, co, w0, w1, not_false_iff]
end PER
