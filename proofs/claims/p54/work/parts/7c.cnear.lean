/-! ===== the class: people by distance ===== -/
theorem kyD_rng {x y : Nat → Int} {px py : Int} {k : Nat} (hx : 0 ≤ x k ∧ x k ≤ 999) (hy : 0 ≤ y k ∧ y k ≤ 999) (h1 : 0 ≤ px ∧ px ≤ 999) (h2 : 0 ≤ py ∧ py ≤ 999) (hk : k < 12) : 0 ≤ kyD x y px py k ∧ kyD x y px py k < 300000000 ∧ kyD x y px py k % 12 = (k : Int) := by
  have := dqF_rng (x := x) (y := y) (k := k) (px := px) (py := py) (by omega) (by omega) h1 h2
  unfold kyD; omega
theorem piOK_7 {p : tPi} {q : tPh} {gap : Int} {g : Nat → Int} (hOK : piOK p q gap) : piOK (p.1, upC p.2 7 g) q gap := by
  unfold piOK at hOK ⊢
  simp only [upC, Nat.reduceEqDiff, if_false]
  exact hOK
section CNEAR
variable {z : Bool} {h : am_H} {C : tCl} {P : Nat}
theorem k104a (hP : isPi P) {p : tPi} {n : Nat} {o : Nat → Nat} {x y : Nat → Int} {px py rk : Int} (hn : n ≤ 12) (h0 : p.1 0 = (n : Int)) (ho : ∀ i, i < n → p.2 2 i = (o i : Int) ∧ o i < 12 ∧ p.2 0 (o i) = x (o i) ∧ p.2 1 (o i) = y (o i)) : ∀ d i, i + d = n → ∀ (f : Nat → Int) (l5 l6 l7 : Option Value), (∀ j, j < i → f j = kyD x y px py (o j)) → ∃ (f' : Nat → Int) (l5' l6' l7' : Option Value), (∀ j, j < n → f' j = kyD x y px py (o j)) ∧
    ru_n z 104 3 [some (.ref P), some (.int (wI px)), some (.int (wI py)), some (.int (wI rk)), some (.int (wI i)), l5, l6, l7] [] (clPut h (piPut C P (p.1, upC p.2 7 f))) = ru_n z 104 73 [some (.ref P), some (.int (wI px)), some (.int (wI py)), some (.int (wI rk)), some (.int (wI n)), l5', l6', l7'] [] (clPut h (piPut C P (p.1, upC p.2 7 f'))) := by
  intro d
  induction d with
  | zero =>
    intro i hi f l5 l6 l7 hf
    obtain rfl : i = n := by omega
    refine ⟨f, l5, l6, l7, hf, ?_⟩
    have c : ((i : Int) ≤ (i : Int)) = True := eq_true (Int.le_refl _)
    simp (disch := omega) only [e104_3, e104_5, e104_6, e104_9, ↓reduceIte, Bool.false_eq_true, not_false_eq_true, not_true_eq_false, Nat.reduceLeDiff, Nat.reduceAdd, Nat.reduceEqDiff, Int.reduceToNat, Int.toNat_natCast, iB0, iB1, ru_klI, ru_klR, ru_klF, ru_klJ, ru_kl0, ru_cs0, ru_csI, ru_csR, ru_csF, ru_csJ, wI_add, wI_sub, wI_mul, wI_lt, wI_le, wI_inj, ru_fdE, ru_fdN, ru_iaN, ru_baN, ru_laN, ru_qaN, ru_pfN, ru_isN, ru_bsN, ru_jsN, ru_qsN, ru_set2, Nat.add_right_cancel_iff, if_true, if_false, ite_self, Int.reduceEq, and_self, Int.add_neg_cancel_right, Int.add_zero, Int.zero_add, pi_e hP, pi_f0 hP, pi_s0 hP, pi_f1 hP, pi_s1 hP, pi_f2 hP, pi_a0 hP, pi_w0 hP, pi_f3 hP, pi_a1 hP, pi_w1 hP, pi_f4 hP, pi_a2 hP, pi_w2 hP, pi_f5 hP, pi_a3 hP, pi_w3 hP, pi_f6 hP, pi_a4 hP, pi_w4 hP, pi_f7 hP, pi_a5 hP, pi_w5 hP, pi_f8 hP, pi_a6 hP, pi_w6 hP, pi_f9 hP, pi_a7 hP, pi_w7 hP, pi_f10 hP, pi_a8 hP, pi_w8 hP, pi_f11 hP, pi_a9 hP, pi_w9 hP, Int.reduceEq, ru_ctR, ru_ctI, upC_e, upC_n, upC_up, up1_e, up1_n, h0, c]
  | succ d ih =>
    intro i hi f l5 l6 l7 hf
    obtain ⟨o1, o2, o3, o4⟩ := ho i (by omega)
    obtain ⟨f', l5', l6', l7', t1, t2⟩ := ih (i + 1) (by omega) (up1 f i (kyD x y px py (o i))) (some (.int (wI (o i)))) (some (.int (wI (x (o i) - px)))) (some (.int (wI (y (o i) - py)))) (fun j hj => by
      unfold up1
      by_cases e : j = i
      · subst e; rw [if_pos rfl]
      · rw [if_neg e]; exact hf j (by omega))
    refine ⟨f', l5', l6', l7', t1, ?_⟩
    rw [← t2]
    have c : ((n : Int) ≤ (i : Int)) = False := eq_false (by omega)
    have ek : ((x (o i) - px) * (x (o i) - px) + (y (o i) - py) * (y (o i) - py)) * 12 + ((o i : Nat) : Int) = kyD x y px py (o i) := rfl
    rw [e104_3]
    simp (disch := omega) only [e104_5, e104_6, e104_9, e104_12, e104_13, e104_16, e104_18, e104_19, e104_21, e104_22, e104_25, e104_27, e104_28, e104_29, e104_30, e104_32, e104_33, e104_36, e104_38, e104_39, e104_40, e104_41, e104_43, e104_44, e104_47, e104_49, e104_51, e104_53, e104_54, e104_56, e104_58, e104_59, e104_60, e104_62, e104_63, e104_65, e104_66, e104_67, e104_70, ↓reduceIte, Bool.false_eq_true, not_false_eq_true, not_true_eq_false, Nat.reduceLeDiff, Nat.reduceAdd, Nat.reduceEqDiff, Int.reduceToNat, Int.toNat_natCast, iB0, iB1, ru_klI, ru_klR, ru_klF, ru_klJ, ru_kl0, ru_cs0, ru_csI, ru_csR, ru_csF, ru_csJ, wI_add, wI_sub, wI_mul, wI_lt, wI_le, wI_inj, ru_fdE, ru_fdN, ru_iaN, ru_baN, ru_laN, ru_qaN, ru_pfN, ru_isN, ru_bsN, ru_jsN, ru_qsN, ru_set2, Nat.add_right_cancel_iff, if_true, if_false, ite_self, Int.reduceEq, and_self, Int.add_neg_cancel_right, Int.add_zero, Int.zero_add, pi_e hP, pi_f0 hP, pi_s0 hP, pi_f1 hP, pi_s1 hP, pi_f2 hP, pi_a0 hP, pi_w0 hP, pi_f3 hP, pi_a1 hP, pi_w1 hP, pi_f4 hP, pi_a2 hP, pi_w2 hP, pi_f5 hP, pi_a3 hP, pi_w3 hP, pi_f6 hP, pi_a4 hP, pi_w4 hP, pi_f7 hP, pi_a5 hP, pi_w5 hP, pi_f8 hP, pi_a6 hP, pi_w6 hP, pi_f9 hP, pi_a7 hP, pi_w7 hP, pi_f10 hP, pi_a8 hP, pi_w8 hP, pi_f11 hP, pi_a9 hP, pi_w9 hP, Int.reduceEq, ru_ctR, ru_ctI, upC_e, upC_n, upC_up, up1_e, up1_n, h0, c, o1, o3, o4, ek, Int.natCast_add, Int.natCast_one]
theorem k104 (hP : isPi P) {p : tPi} {q : tPh} {gap : Int} (hr : phR q) (hOK : piOK p q gap) {px py : Int} (h1 : 0 ≤ px ∧ px ≤ 999) (h2 : 0 ≤ py ∧ py ≤ 999) {j : Nat} (hj : (j : Int) < p.1 0) : ∃ (g : Nat → Int) (n : Nat) (e : Nat → Nat), p.1 0 = (n : Int) ∧ enO (shS q) (kyD (shX q) (shY q) px py) n e ∧
    ru_ev z 104 [.ref P, .int (wI px), .int (wI py), .int (wI j)] (clPut h (piPut C P p)) = some (.inl (some (.int (wI (e j : Nat)))), clPut h (piPut C P (p.1, upC p.2 7 g))) := by
  obtain ⟨n, eo, er, h0, hx, w1, w2, -⟩ := hOK
  have hn := enO_12 w1
  have kr : ∀ k, k < 12 → shS q k = true → 0 ≤ kyD (shX q) (shY q) px py k ∧ kyD (shX q) (shY q) px py k < 300000000 ∧ kyD (shX q) (shY q) px py k % 12 = (k : Int) := fun k hk hs => kyD_rng (shS_rng hr hs).1 (shS_rng hr hs).2.1 h1 h2 hk
  obtain ⟨f, l5, l6, l7, f1, f2⟩ := k104a (z := z) (h := h) (C := C) hP (p := p) (o := eo) (x := shX q) (y := shY q) (px := px) (py := py) (rk := (j : Int)) hn h0 (fun i hi => by
    have k1 := w1.1 i hi
    have k2 := hx _ k1.1 k1.2
    exact ⟨w2 i hi, k1.1, k2.1, k2.2⟩) n 0 (by omega) (p.2 7) none none none (fun j hj => by omega)
  obtain ⟨g, g1, g2⟩ := k86 (z := z) (h := h) (C := C) hP (p := (p.1, upC p.2 7 f)) hn h0 (fun j hj => by
    have k1 := w1.1 j hj
    have k2 := kr _ k1.1 k1.2
    dsimp only; rw [upC_e, f1 j hj]; omega) (fun a b ha hb hab => by
    dsimp only at hab; rw [upC_e, f1 a ha, f1 b hb] at hab
    have k1 := w1.1 a ha
    have k2 := w1.1 b hb
    have k3 := kr _ k1.1 k1.2
    have k4 := kr _ k2.1 k2.2
    exact enO_inj w1 ha hb (by rw [hab] at k3; omega))
  dsimp only at g1
  rw [upC_e] at g1
  have g1' : srtB (fun i => kyD (shX q) (shY q) px py (eo i)) g n := ⟨g1.1, fun i hi => by
    obtain ⟨j, hj, e⟩ := g1.2.1 i hi
    exact ⟨j, hj, by rw [e, f1 j hj]⟩, fun j hj => by
    obtain ⟨i, hi, e⟩ := g1.2.2 j hj
    exact ⟨i, hi, by rw [e, f1 j hj]⟩⟩
  obtain ⟨s1, s2⟩ := srt_en' (S := shS q) (key := kyD (shX q) (shY q) px py) (fun k hk hs => (kr k hk hs).2.2) w1.1 w1.2.2 g1'
  refine ⟨g, n, _, h0, s1, ?_⟩
  have k1 := s1.1 j (by omega)
  have k3 := s2 j (by omega)
  have k4 := kr _ k1.1 k1.2
  rw [k3.1] at k4
  have e9 := k3.2
  rw [upC_self, show ((0 : Nat) : Int) = 0 from rfl] at f2
  simp (disch := omega) only [upC_up] at g2
  simp (disch := omega) only [en104, e104_0, e104_1, ↓reduceIte, Bool.false_eq_true, not_false_eq_true, not_true_eq_false, Nat.reduceLeDiff, Nat.reduceAdd, Nat.reduceEqDiff, Int.reduceToNat, Int.toNat_natCast, iB0, iB1, ru_klI, ru_klR, ru_klF, ru_klJ, ru_kl0, ru_cs0, ru_csI, ru_csR, ru_csF, ru_csJ, wI_add, wI_sub, wI_mul, wI_lt, wI_le, wI_inj, ru_fdE, ru_fdN, ru_iaN, ru_baN, ru_laN, ru_qaN, ru_pfN, ru_isN, ru_bsN, ru_jsN, ru_qsN, ru_set2, Nat.add_right_cancel_iff, if_true, if_false, ite_self, Int.reduceEq, and_self, Int.add_neg_cancel_right, Int.add_zero, Int.zero_add, pi_e hP, pi_f0 hP, pi_s0 hP, pi_f1 hP, pi_s1 hP, pi_f2 hP, pi_a0 hP, pi_w0 hP, pi_f3 hP, pi_a1 hP, pi_w1 hP, pi_f4 hP, pi_a2 hP, pi_w2 hP, pi_f5 hP, pi_a3 hP, pi_w3 hP, pi_f6 hP, pi_a4 hP, pi_w4 hP, pi_f7 hP, pi_a5 hP, pi_w5 hP, pi_f8 hP, pi_a6 hP, pi_w6 hP, pi_f9 hP, pi_a7 hP, pi_w7 hP, pi_f10 hP, pi_a8 hP, pi_w8 hP, pi_f11 hP, pi_a9 hP, pi_w9 hP, Int.reduceEq, ru_ctR, ru_ctI, upC_e, upC_n, upC_up, up1_e, up1_n]
  rw [f2]
  simp (disch := omega) only [e104_73, e104_74, e104_77, e104_78, e104_81, e104_82, e104_83, e104_85, e104_86, ↓reduceIte, Bool.false_eq_true, not_false_eq_true, not_true_eq_false, Nat.reduceLeDiff, Nat.reduceAdd, Nat.reduceEqDiff, Int.reduceToNat, Int.toNat_natCast, iB0, iB1, ru_klI, ru_klR, ru_klF, ru_klJ, ru_kl0, ru_cs0, ru_csI, ru_csR, ru_csF, ru_csJ, wI_add, wI_sub, wI_mul, wI_lt, wI_le, wI_inj, ru_fdE, ru_fdN, ru_iaN, ru_baN, ru_laN, ru_qaN, ru_pfN, ru_isN, ru_bsN, ru_jsN, ru_qsN, ru_set2, Nat.add_right_cancel_iff, if_true, if_false, ite_self, Int.reduceEq, and_self, Int.add_neg_cancel_right, Int.add_zero, Int.zero_add, pi_e hP, pi_f0 hP, pi_s0 hP, pi_f1 hP, pi_s1 hP, pi_f2 hP, pi_a0 hP, pi_w0 hP, pi_f3 hP, pi_a1 hP, pi_w1 hP, pi_f4 hP, pi_a2 hP, pi_w2 hP, pi_f5 hP, pi_a3 hP, pi_w3 hP, pi_f6 hP, pi_a4 hP, pi_w4 hP, pi_f7 hP, pi_a5 hP, pi_w5 hP, pi_f8 hP, pi_a6 hP, pi_w6 hP, pi_f9 hP, pi_a7 hP, pi_w7 hP, pi_f10 hP, pi_a8 hP, pi_w8 hP, pi_f11 hP, pi_a9 hP, pi_w9 hP, Int.reduceEq, ru_ctR, ru_ctI, upC_e, upC_n, upC_up, up1_e, up1_n, g2, wI_rem, wI_ne0]
  rw [← e9]
theorem cl_thr2 {h : am_H} {C : tCl} : thr (clPut h C) = clPut (thr h) C := rfl
theorem c207 (hR : clR C) {f x y j : Int} (g : -2147483648 ≤ f ∧ f < 2147483648) (gx : -2147483648 ≤ x ∧ x < 2147483648) (gy : -2147483648 ≤ y ∧ y < 2147483648) (g2 : -2147483648 ≤ j ∧ j < 2147483648) : ∃ t v C', ru_ev z 207 [.ref 1000, .int (wI f), .int (wI x), .int (wI y), .int (wI j)] (clPut h C) = oR t (some (.int (wI v))) (clPut h C') (clPut (thr h) C') ∧ rpC C f (fun p t v => (0 ≤ j ∧ j < p.1 0 ∧ ((0 ≤ x ∧ x ≤ 999 ∧ 0 ≤ y ∧ y ≤ 999 ∧ t = 0 ∧ ∃ n e, p.1 0 = (n : Nat) ∧ enO (shS (cph C (cAp C f.toNat))) (kyD (shX (cph C (cAp C f.toNat))) (shY (cph C (cAp C f.toNat))) x y) n e ∧ v = (e j.toNat : Nat)) ∨ (¬ (0 ≤ x ∧ x ≤ 999 ∧ 0 ≤ y ∧ y ≤ 999) ∧ t = 3))) ∨ (¬ (0 ≤ j ∧ j < p.1 0) ∧ t = 2)) t v C' := by
  by_cases e : rcP C f = 0
  · obtain ⟨P, p', hP0, hOK, e1⟩ := c187 (z := z) (h := h) hR g e
    have hP : isPi P := Or.inl hP0
    have hn := piOK_n hOK
    have hq := (dph (h := h) hR e).2
    by_cases c2 : j < 0
    · refine ⟨2, 0, piPut C P p', ?_, Or.inr ⟨e, p', by rw [hP0], hOK, Or.inr ⟨by omega, rfl⟩⟩⟩
      have c3 : (j < 0) = True := eq_true c2
      rw [oR_n (by decide)]
      simp (disch := omega) only [en207, e207_0, e207_1, e207_2, e207_5, e207_7, e207_9, e207_12, e207_14, e207_16, e207_19, e207_22, e207_25, e207_26, e207_32, e207_33, e207_34, e207_37, e207_40, e207_41, e207_42, e207_45, e207_48, e207_50, e207_51, e207_52, e207_54, e207_57, ↓reduceIte, Bool.false_eq_true, not_false_eq_true, not_true_eq_false, Nat.reduceLeDiff, Nat.reduceAdd, Nat.reduceEqDiff, Int.reduceToNat, Int.toNat_natCast, iB0, iB1, ru_klI, ru_klR, ru_klF, ru_klJ, ru_kl0, ru_cs0, ru_csI, ru_csR, ru_csF, ru_csJ, wI_add, wI_sub, wI_mul, wI_lt, wI_le, wI_inj, ru_fdE, ru_fdN, ru_iaN, ru_baN, ru_laN, ru_qaN, ru_pfN, ru_isN, ru_bsN, ru_jsN, ru_qsN, ru_set2, Nat.add_right_cancel_iff, if_true, if_false, ite_self, Int.reduceEq, and_self, Int.add_neg_cancel_right, Int.add_zero, Int.zero_add, cl_e0, e1, c3, cl_thr]
    · have c3 : (j < 0) = False := eq_false c2
      by_cases c4 : j < p'.1 0
      · have c5 : (j < p'.1 0) = True := eq_true c4
        have mx := c208 (z := z) (h := clPut h (piPut C P p')) gx (show (-2147483648 : Int) ≤ 0 ∧ (0 : Int) < 2147483648 by omega) (show (-2147483648 : Int) ≤ 999 ∧ (999 : Int) < 2147483648 by omega)
        have my := c208 (z := z) (h := clPut h (piPut C P p')) gy (show (-2147483648 : Int) ≤ 0 ∧ (0 : Int) < 2147483648 by omega) (show (-2147483648 : Int) ≤ 999 ∧ (999 : Int) < 2147483648 by omega)
        by_cases cx : 0 ≤ x ∧ x ≤ 999
        · by_cases cy : 0 ≤ y ∧ y ≤ 999
          · obtain ⟨i, rfl⟩ := Int.eq_ofNat_of_zero_le (show 0 ≤ j by omega)
            obtain ⟨gg, n, en, k0, k1, k2⟩ := k104 (z := z) (h := h) (C := C) hP hq hOK cx cy c4
            refine ⟨0, (en i : Nat), piPut C P (p'.1, upC p'.2 7 gg), ?_, Or.inr ⟨e, _, by rw [hP0], piOK_7 hOK, Or.inl ⟨by omega, c4, Or.inl ⟨cx.1, cx.2, cy.1, cy.2, rfl, n, en, k0, k1, rfl⟩⟩⟩⟩
            rw [oR_0 rfl]
            rw [if_pos cx, oR_0 rfl] at mx
            rw [if_pos cy, oR_0 rfl] at my
            simp (disch := omega) only [en207, e207_0, e207_1, e207_2, e207_5, e207_7, e207_9, e207_12, e207_14, e207_16, e207_19, e207_22, e207_25, e207_26, e207_32, e207_33, e207_34, e207_37, e207_40, e207_41, e207_42, e207_45, e207_48, e207_50, e207_51, e207_52, e207_54, e207_57, ↓reduceIte, Bool.false_eq_true, not_false_eq_true, not_true_eq_false, Nat.reduceLeDiff, Nat.reduceAdd, Nat.reduceEqDiff, Int.reduceToNat, Int.toNat_natCast, iB0, iB1, ru_klI, ru_klR, ru_klF, ru_klJ, ru_kl0, ru_cs0, ru_csI, ru_csR, ru_csF, ru_csJ, wI_add, wI_sub, wI_mul, wI_lt, wI_le, wI_inj, ru_fdE, ru_fdN, ru_iaN, ru_baN, ru_laN, ru_qaN, ru_pfN, ru_isN, ru_bsN, ru_jsN, ru_qsN, ru_set2, Nat.add_right_cancel_iff, if_true, if_false, ite_self, Int.reduceEq, and_self, Int.add_neg_cancel_right, Int.add_zero, Int.zero_add, pi_e hP, pi_f0 hP, pi_s0 hP, pi_f1 hP, pi_s1 hP, pi_f2 hP, pi_a0 hP, pi_w0 hP, pi_f3 hP, pi_a1 hP, pi_w1 hP, pi_f4 hP, pi_a2 hP, pi_w2 hP, pi_f5 hP, pi_a3 hP, pi_w3 hP, pi_f6 hP, pi_a4 hP, pi_w4 hP, pi_f7 hP, pi_a5 hP, pi_w5 hP, pi_f8 hP, pi_a6 hP, pi_w6 hP, pi_f9 hP, pi_a7 hP, pi_w7 hP, pi_f10 hP, pi_a8 hP, pi_w8 hP, pi_f11 hP, pi_a9 hP, pi_w9 hP, Int.reduceEq, ru_ctR, ru_ctI, upC_e, upC_n, upC_up, up1_e, up1_n, cl_e0, e1, c3, c5, mx, my, k2]
          · refine ⟨3, 0, piPut C P p', ?_, Or.inr ⟨e, p', by rw [hP0], hOK, Or.inl ⟨by omega, c4, Or.inr ⟨fun h => cy h.2.2, rfl⟩⟩⟩⟩
            rw [oR_n (by decide)]
            rw [if_pos cx, oR_0 rfl] at mx
            rw [if_neg cy, oR_n (by decide)] at my
            simp (disch := omega) only [en207, e207_0, e207_1, e207_2, e207_5, e207_7, e207_9, e207_12, e207_14, e207_16, e207_19, e207_22, e207_25, e207_26, e207_32, e207_33, e207_34, e207_37, e207_40, e207_41, e207_42, e207_45, e207_48, e207_50, e207_51, e207_52, e207_54, e207_57, ↓reduceIte, Bool.false_eq_true, not_false_eq_true, not_true_eq_false, Nat.reduceLeDiff, Nat.reduceAdd, Nat.reduceEqDiff, Int.reduceToNat, Int.toNat_natCast, iB0, iB1, ru_klI, ru_klR, ru_klF, ru_klJ, ru_kl0, ru_cs0, ru_csI, ru_csR, ru_csF, ru_csJ, wI_add, wI_sub, wI_mul, wI_lt, wI_le, wI_inj, ru_fdE, ru_fdN, ru_iaN, ru_baN, ru_laN, ru_qaN, ru_pfN, ru_isN, ru_bsN, ru_jsN, ru_qsN, ru_set2, Nat.add_right_cancel_iff, if_true, if_false, ite_self, Int.reduceEq, and_self, Int.add_neg_cancel_right, Int.add_zero, Int.zero_add, pi_e hP, pi_f0 hP, pi_s0 hP, pi_f1 hP, pi_s1 hP, pi_f2 hP, pi_a0 hP, pi_w0 hP, pi_f3 hP, pi_a1 hP, pi_w1 hP, pi_f4 hP, pi_a2 hP, pi_w2 hP, pi_f5 hP, pi_a3 hP, pi_w3 hP, pi_f6 hP, pi_a4 hP, pi_w4 hP, pi_f7 hP, pi_a5 hP, pi_w5 hP, pi_f8 hP, pi_a6 hP, pi_w6 hP, pi_f9 hP, pi_a7 hP, pi_w7 hP, pi_f10 hP, pi_a8 hP, pi_w8 hP, pi_f11 hP, pi_a9 hP, pi_w9 hP, Int.reduceEq, ru_ctR, ru_ctI, upC_e, upC_n, upC_up, up1_e, up1_n, cl_e0, e1, c3, c5, mx, my, cl_thr, cl_thr2]
        · refine ⟨3, 0, piPut C P p', ?_, Or.inr ⟨e, p', by rw [hP0], hOK, Or.inl ⟨by omega, c4, Or.inr ⟨fun h => cx ⟨h.1, h.2.1⟩, rfl⟩⟩⟩⟩
          rw [oR_n (by decide)]
          rw [if_neg cx, oR_n (by decide)] at mx
          simp (disch := omega) only [en207, e207_0, e207_1, e207_2, e207_5, e207_7, e207_9, e207_12, e207_14, e207_16, e207_19, e207_22, e207_25, e207_26, e207_32, e207_33, e207_34, e207_37, e207_40, e207_41, e207_42, e207_45, e207_48, e207_50, e207_51, e207_52, e207_54, e207_57, ↓reduceIte, Bool.false_eq_true, not_false_eq_true, not_true_eq_false, Nat.reduceLeDiff, Nat.reduceAdd, Nat.reduceEqDiff, Int.reduceToNat, Int.toNat_natCast, iB0, iB1, ru_klI, ru_klR, ru_klF, ru_klJ, ru_kl0, ru_cs0, ru_csI, ru_csR, ru_csF, ru_csJ, wI_add, wI_sub, wI_mul, wI_lt, wI_le, wI_inj, ru_fdE, ru_fdN, ru_iaN, ru_baN, ru_laN, ru_qaN, ru_pfN, ru_isN, ru_bsN, ru_jsN, ru_qsN, ru_set2, Nat.add_right_cancel_iff, if_true, if_false, ite_self, Int.reduceEq, and_self, Int.add_neg_cancel_right, Int.add_zero, Int.zero_add, pi_e hP, pi_f0 hP, pi_s0 hP, pi_f1 hP, pi_s1 hP, pi_f2 hP, pi_a0 hP, pi_w0 hP, pi_f3 hP, pi_a1 hP, pi_w1 hP, pi_f4 hP, pi_a2 hP, pi_w2 hP, pi_f5 hP, pi_a3 hP, pi_w3 hP, pi_f6 hP, pi_a4 hP, pi_w4 hP, pi_f7 hP, pi_a5 hP, pi_w5 hP, pi_f8 hP, pi_a6 hP, pi_w6 hP, pi_f9 hP, pi_a7 hP, pi_w7 hP, pi_f10 hP, pi_a8 hP, pi_w8 hP, pi_f11 hP, pi_a9 hP, pi_w9 hP, Int.reduceEq, ru_ctR, ru_ctI, upC_e, upC_n, upC_up, up1_e, up1_n, cl_e0, e1, c3, c5, mx, cl_thr, cl_thr2]
      · refine ⟨2, 0, piPut C P p', ?_, Or.inr ⟨e, p', by rw [hP0], hOK, Or.inr ⟨by omega, rfl⟩⟩⟩
        have c5 : (j < p'.1 0) = False := eq_false c4
        rw [oR_n (by decide)]
        simp (disch := omega) only [en207, e207_0, e207_1, e207_2, e207_5, e207_7, e207_9, e207_12, e207_14, e207_16, e207_19, e207_22, e207_25, e207_26, e207_32, e207_33, e207_34, e207_37, e207_40, e207_41, e207_42, e207_45, e207_48, e207_50, e207_51, e207_52, e207_54, e207_57, ↓reduceIte, Bool.false_eq_true, not_false_eq_true, not_true_eq_false, Nat.reduceLeDiff, Nat.reduceAdd, Nat.reduceEqDiff, Int.reduceToNat, Int.toNat_natCast, iB0, iB1, ru_klI, ru_klR, ru_klF, ru_klJ, ru_kl0, ru_cs0, ru_csI, ru_csR, ru_csF, ru_csJ, wI_add, wI_sub, wI_mul, wI_lt, wI_le, wI_inj, ru_fdE, ru_fdN, ru_iaN, ru_baN, ru_laN, ru_qaN, ru_pfN, ru_isN, ru_bsN, ru_jsN, ru_qsN, ru_set2, Nat.add_right_cancel_iff, if_true, if_false, ite_self, Int.reduceEq, and_self, Int.add_neg_cancel_right, Int.add_zero, Int.zero_add, pi_e hP, pi_f0 hP, pi_s0 hP, pi_f1 hP, pi_s1 hP, pi_f2 hP, pi_a0 hP, pi_w0 hP, pi_f3 hP, pi_a1 hP, pi_w1 hP, pi_f4 hP, pi_a2 hP, pi_w2 hP, pi_f5 hP, pi_a3 hP, pi_w3 hP, pi_f6 hP, pi_a4 hP, pi_w4 hP, pi_f7 hP, pi_a5 hP, pi_w5 hP, pi_f8 hP, pi_a6 hP, pi_w6 hP, pi_f9 hP, pi_a7 hP, pi_w7 hP, pi_f10 hP, pi_a8 hP, pi_w8 hP, pi_f11 hP, pi_a9 hP, pi_w9 hP, Int.reduceEq, ru_ctR, ru_ctI, upC_e, upC_n, upC_up, up1_e, up1_n, cl_e0, e1, c3, c5, cl_thr]
  · refine ⟨rcP C f, 0, C, ?_, Or.inl ⟨e, rfl, rfl⟩⟩
    rw [oR_n e]
    simp (disch := omega) only [en207, e207_0, e207_1, e207_2, e207_5, e207_7, e207_9, e207_12, e207_14, e207_16, e207_19, e207_22, e207_25, e207_26, e207_32, e207_33, e207_34, e207_37, e207_40, e207_41, e207_42, e207_45, e207_48, e207_50, e207_51, e207_52, e207_54, e207_57, ↓reduceIte, Bool.false_eq_true, not_false_eq_true, not_true_eq_false, Nat.reduceLeDiff, Nat.reduceAdd, Nat.reduceEqDiff, Int.reduceToNat, Int.toNat_natCast, iB0, iB1, ru_klI, ru_klR, ru_klF, ru_klJ, ru_kl0, ru_cs0, ru_csI, ru_csR, ru_csF, ru_csJ, wI_add, wI_sub, wI_mul, wI_lt, wI_le, wI_inj, ru_fdE, ru_fdN, ru_iaN, ru_baN, ru_laN, ru_qaN, ru_pfN, ru_isN, ru_bsN, ru_jsN, ru_qsN, ru_set2, Nat.add_right_cancel_iff, if_true, if_false, ite_self, Int.reduceEq, and_self, Int.add_neg_cancel_right, Int.add_zero, Int.zero_add, cl_e0, c187x hR g e]
end CNEAR
