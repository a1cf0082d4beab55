/-! ===== groups, linking: the calls ===== -/
theorem mdE_G {M : tMd} {t : Int} {G : Nat → Int} (ht : 0 ≤ t ∧ t ≤ 9) : mdE M (mdT (mdG M G) t) := ⟨fun k h1 _ _ => up1_n h1, fun c _ _ _ h4 => upC_n h4, by rw [mdT_1]; exact ht⟩
theorem mdG_T (M : tMd) (t : Int) (G : Nat → Int) : mdG (mdT M t) G = mdT (mdG M G) t := rfl
theorem mdG_G (M : tMd) (G G' : Nat → Int) : mdG (mdG M G) G' = mdG M G' := by
  unfold mdG; dsimp only; rw [upC_up]
section GRST
variable {z : Bool} {h : am_H} {C : tCl} {M : tMd}
theorem c259 (hR : clR C) {f dd : Int} (g : -2147483648 ≤ f ∧ f < 2147483648) (g2 : -2147483648 ≤ dd ∧ dd < 2147483648) : ∃ t v C', ru_ev z 259 [.ref 1000, .int (wI f), .int (wI dd)] (clPut h C) = oR t (some (.int (wI v))) (clPut h C') (clPut (thr h) C') ∧ rpC C f (fun _ t v => (0 ≤ dd ∧ dd ≤ 1998 ∧ t = 0 ∧ ∃ n K, gpI (cph C (cAp C f.toNat)) n K ∧ v = if n = 0 then (0 : Int) else 1 + ((cnB (fun s => decide (K s > dd)) (n - 1) : Nat) : Int)) ∨ (¬ (0 ≤ dd ∧ dd ≤ 1998) ∧ t = 3)) t v C' := by
  by_cases e : rcP C f = 0
  · obtain ⟨P, p', hP0, hOK, e1⟩ := c187 (z := z) (h := h) hR g e
    have hP : isPi P := Or.inl hP0
    have hq := (dph (h := h) hR e).2
    have mx := c208 (z := z) (h := clPut h (piPut C P p')) g2 (show (-2147483648 : Int) ≤ 0 ∧ (0 : Int) < 2147483648 by omega) (show (-2147483648 : Int) ≤ 1998 ∧ (1998 : Int) < 2147483648 by omega)
    by_cases c : 0 ≤ dd ∧ dd ≤ 1998
    · obtain ⟨n, p2, K, k1, k2, k3⟩ := k260 (z := z) (h := h) (C := C) hP c hq hOK
      refine ⟨0, _, piPut C P p2, ?_, Or.inr ⟨e, p2, by rw [hP0], k1, Or.inl ⟨c.1, c.2, rfl, n, K, k2, rfl⟩⟩⟩
      rw [oR_0 rfl]
      rw [if_pos c, oR_0 rfl] at mx
      simp (disch := omega) only [en259, e259_0, e259_1, e259_2, e259_5, e259_6, e259_7, e259_8, e259_11, e259_14, e259_15, e259_16, e259_19, ↓reduceIte, Bool.false_eq_true, not_false_eq_true, not_true_eq_false, Nat.reduceLeDiff, Nat.reduceAdd, Nat.reduceEqDiff, Int.reduceToNat, Int.toNat_natCast, iB0, iB1, ru_klI, ru_klR, ru_klF, ru_klJ, ru_kl0, ru_cs0, ru_csI, ru_csR, ru_csF, ru_csJ, wI_add, wI_sub, wI_mul, wI_lt, wI_le, wI_inj, ru_fdE, ru_fdN, ru_iaN, ru_baN, ru_laN, ru_qaN, ru_pfN, ru_isN, ru_bsN, ru_jsN, ru_qsN, ru_set2, Nat.add_right_cancel_iff, if_true, if_false, ite_self, Int.reduceEq, and_self, Int.add_neg_cancel_right, Int.add_zero, Int.zero_add, cl_e0, e1, mx, k3]
    · refine ⟨3, 0, piPut C P p', ?_, Or.inr ⟨e, p', by rw [hP0], hOK, Or.inr ⟨c, rfl⟩⟩⟩
      rw [oR_n (by decide)]
      rw [if_neg c, oR_n (by decide)] at mx
      simp (disch := omega) only [en259, e259_0, e259_1, e259_2, e259_5, e259_6, e259_7, e259_8, e259_11, e259_14, e259_15, e259_16, e259_19, ↓reduceIte, Bool.false_eq_true, not_false_eq_true, not_true_eq_false, Nat.reduceLeDiff, Nat.reduceAdd, Nat.reduceEqDiff, Int.reduceToNat, Int.toNat_natCast, iB0, iB1, ru_klI, ru_klR, ru_klF, ru_klJ, ru_kl0, ru_cs0, ru_csI, ru_csR, ru_csF, ru_csJ, wI_add, wI_sub, wI_mul, wI_lt, wI_le, wI_inj, ru_fdE, ru_fdN, ru_iaN, ru_baN, ru_laN, ru_qaN, ru_pfN, ru_isN, ru_bsN, ru_jsN, ru_qsN, ru_set2, Nat.add_right_cancel_iff, if_true, if_false, ite_self, Int.reduceEq, and_self, Int.add_neg_cancel_right, Int.add_zero, Int.zero_add, cl_e0, e1, mx, cl_thr, cl_thr2]
  · refine ⟨rcP C f, 0, C, ?_, Or.inl ⟨e, rfl, rfl⟩⟩
    rw [oR_n e]
    simp (disch := omega) only [en259, e259_0, e259_1, e259_2, e259_5, e259_6, e259_7, e259_8, e259_11, e259_14, e259_15, e259_16, e259_19, ↓reduceIte, Bool.false_eq_true, not_false_eq_true, not_true_eq_false, Nat.reduceLeDiff, Nat.reduceAdd, Nat.reduceEqDiff, Int.reduceToNat, Int.toNat_natCast, iB0, iB1, ru_klI, ru_klR, ru_klF, ru_klJ, ru_kl0, ru_cs0, ru_csI, ru_csR, ru_csF, ru_csJ, wI_add, wI_sub, wI_mul, wI_lt, wI_le, wI_inj, ru_fdE, ru_fdN, ru_iaN, ru_baN, ru_laN, ru_qaN, ru_pfN, ru_isN, ru_bsN, ru_jsN, ru_qsN, ru_set2, Nat.add_right_cancel_iff, if_true, if_false, ite_self, Int.reduceEq, and_self, Int.add_neg_cancel_right, Int.add_zero, Int.zero_add, cl_e0, c187x hR g e]
theorem c269 (hR : clR C) {f : Int} (g : -2147483648 ≤ f ∧ f < 2147483648) : ∃ t v C', ru_ev z 269 [.ref 1000, .int (wI f)] (clPut h C) = oR t (some (.int (wI v))) (clPut h C') (clPut (thr h) C') ∧ rpC C f (fun _ t v => t = 0 ∧ ∃ n K, gpI (cph C (cAp C f.toNat)) n K ∧ v = mxF K (n - 1)) t v C' := by
  by_cases e : rcP C f = 0
  · obtain ⟨P, p', hP0, hOK, e1⟩ := c187 (z := z) (h := h) hR g e
    have hP : isPi P := Or.inl hP0
    have hq := (dph (h := h) hR e).2
    obtain ⟨n, p2, K, k1, k2, k3⟩ := k270 (z := z) (h := h) (C := C) hP hq hOK
    refine ⟨0, _, piPut C P p2, ?_, Or.inr ⟨e, p2, by rw [hP0], k1, rfl, n, K, k2, rfl⟩⟩
    rw [oR_0 rfl]
    simp (disch := omega) only [en269, e269_0, e269_1, e269_2, e269_5, e269_8, ↓reduceIte, Bool.false_eq_true, not_false_eq_true, not_true_eq_false, Nat.reduceLeDiff, Nat.reduceAdd, Nat.reduceEqDiff, Int.reduceToNat, Int.toNat_natCast, iB0, iB1, ru_klI, ru_klR, ru_klF, ru_klJ, ru_kl0, ru_cs0, ru_csI, ru_csR, ru_csF, ru_csJ, wI_add, wI_sub, wI_mul, wI_lt, wI_le, wI_inj, ru_fdE, ru_fdN, ru_iaN, ru_baN, ru_laN, ru_qaN, ru_pfN, ru_isN, ru_bsN, ru_jsN, ru_qsN, ru_set2, Nat.add_right_cancel_iff, if_true, if_false, ite_self, Int.reduceEq, and_self, Int.add_neg_cancel_right, Int.add_zero, Int.zero_add, cl_e0, e1, k3]
  · refine ⟨rcP C f, 0, C, ?_, Or.inl ⟨e, rfl, rfl⟩⟩
    rw [oR_n e]
    simp (disch := omega) only [en269, e269_0, e269_1, e269_2, e269_5, e269_8, ↓reduceIte, Bool.false_eq_true, not_false_eq_true, not_true_eq_false, Nat.reduceLeDiff, Nat.reduceAdd, Nat.reduceEqDiff, Int.reduceToNat, Int.toNat_natCast, iB0, iB1, ru_klI, ru_klR, ru_klF, ru_klJ, ru_kl0, ru_cs0, ru_csI, ru_csR, ru_csF, ru_csJ, wI_add, wI_sub, wI_mul, wI_lt, wI_le, wI_inj, ru_fdE, ru_fdN, ru_iaN, ru_baN, ru_laN, ru_qaN, ru_pfN, ru_isN, ru_bsN, ru_jsN, ru_qsN, ru_set2, Nat.add_right_cancel_iff, if_true, if_false, ite_self, Int.reduceEq, and_self, Int.add_neg_cancel_right, Int.add_zero, Int.zero_add, cl_e0, c187x hR g e]
def gqM (M : tMd) (f dd b : Int) (M' : tMd) : Prop := (¬ rfP M f = 0 ∧ M' = mdT M (rfP M f)) ∨ (rfP M f = 0 ∧ ¬ (0 ≤ dd ∧ dd ≤ 1998) ∧ M' = mdT M 3) ∨ (rfP M f = 0 ∧ (0 ≤ dd ∧ dd ≤ 1998) ∧ ∃ G N, M' = mdT (mdG M G) 0 ∧ grI (mph M f.toNat) ((mph M f.toNat).1 7).toNat dd (fun _ _ => True) G N ∧ b = (N : Int))
theorem p265 (hM : mdR M) {f dd : Int} (g : -2147483648 ≤ f ∧ f < 2147483648) (g2 : -2147483648 ≤ dd ∧ dd < 2147483648) : ∃ b M', ru_ev z 265 [.ref 1315, .int (wI f), .int (wI dd)] (mdPut h M) = some (.inl (some (.int (wI b))), mdPut h M') ∧ gqM M f dd b M' := by
  have e := p117 (z := z) (h := h) hM g
  by_cases e1 : rfP M f = 0
  · obtain ⟨n, hn, rfl, hq⟩ := mph_at hM e1
    have s := phR_s hq
    simp only [e1, if_true] at e
    by_cases c : 0 ≤ dd ∧ dd ≤ 1998
    · obtain ⟨G, N, q1, q2⟩ := p266 (z := z) (h := h) (M := mdT M 0) (f := n) hn hq (m := ((mph M n).1 7).toNat) (by rw [mph_T]; omega) c
      rw [mdG_T] at q2
      refine ⟨N, mdT (mdG M G) 0, ?_, Or.inr (Or.inr ⟨e1, c, G, N, rfl, q1, rfl⟩)⟩
      simp (disch := omega) only [en265, e265_0, e265_1, e265_2, e265_5, e265_8, e265_9, e265_10, e265_11, e265_14, e265_17, e265_20, e265_21, e265_24, e265_25, e265_26, e265_29, e265_32, e265_33, e265_36, e265_37, e265_38, e265_39, e265_42, ↓reduceIte, Bool.false_eq_true, not_false_eq_true, not_true_eq_false, Nat.reduceLeDiff, Nat.reduceAdd, Nat.reduceEqDiff, Int.reduceToNat, Int.toNat_natCast, iB0, iB1, ru_klI, ru_klR, ru_klF, ru_klJ, ru_kl0, ru_cs0, ru_csI, ru_csR, ru_csF, ru_csJ, wI_add, wI_sub, wI_mul, wI_lt, wI_le, wI_inj, ru_fdE, ru_fdN, ru_iaN, ru_baN, ru_laN, ru_qaN, ru_pfN, ru_isN, ru_bsN, ru_jsN, ru_qsN, ru_set2, Nat.add_right_cancel_iff, if_true, if_false, ite_self, Int.reduceEq, and_self, Int.add_neg_cancel_right, Int.add_zero, Int.zero_add, md_e, e, m53, p54, c, wI_and1, not_true, not_false_iff, q2]
    · refine ⟨0, mdT M 3, ?_, Or.inr (Or.inl ⟨e1, c, rfl⟩)⟩
      simp (disch := omega) only [en265, e265_0, e265_1, e265_2, e265_5, e265_8, e265_9, e265_10, e265_11, e265_14, e265_17, e265_20, e265_21, e265_24, e265_25, e265_26, e265_29, e265_32, e265_33, e265_36, e265_37, e265_38, e265_39, e265_42, ↓reduceIte, Bool.false_eq_true, not_false_eq_true, not_true_eq_false, Nat.reduceLeDiff, Nat.reduceAdd, Nat.reduceEqDiff, Int.reduceToNat, Int.toNat_natCast, iB0, iB1, ru_klI, ru_klR, ru_klF, ru_klJ, ru_kl0, ru_cs0, ru_csI, ru_csR, ru_csF, ru_csJ, wI_add, wI_sub, wI_mul, wI_lt, wI_le, wI_inj, ru_fdE, ru_fdN, ru_iaN, ru_baN, ru_laN, ru_qaN, ru_pfN, ru_isN, ru_bsN, ru_jsN, ru_qsN, ru_set2, Nat.add_right_cancel_iff, if_true, if_false, ite_self, Int.reduceEq, and_self, Int.add_neg_cancel_right, Int.add_zero, Int.zero_add, md_e, e, m53, p54, c, wI_and1, not_true, not_false_iff]
  · refine ⟨0, mdT M (rfP M f), ?_, Or.inl ⟨e1, rfl⟩⟩
    simp only [e1, if_false] at e
    simp (disch := omega) only [en265, e265_0, e265_1, e265_2, e265_5, e265_8, e265_9, e265_10, e265_11, e265_14, e265_17, e265_20, e265_21, e265_24, e265_25, e265_26, e265_29, e265_32, e265_33, e265_36, e265_37, e265_38, e265_39, e265_42, ↓reduceIte, Bool.false_eq_true, not_false_eq_true, not_true_eq_false, Nat.reduceLeDiff, Nat.reduceAdd, Nat.reduceEqDiff, Int.reduceToNat, Int.toNat_natCast, iB0, iB1, ru_klI, ru_klR, ru_klF, ru_klJ, ru_kl0, ru_cs0, ru_csI, ru_csR, ru_csF, ru_csJ, wI_add, wI_sub, wI_mul, wI_lt, wI_le, wI_inj, ru_fdE, ru_fdN, ru_iaN, ru_baN, ru_laN, ru_qaN, ru_pfN, ru_isN, ru_bsN, ru_jsN, ru_qsN, ru_set2, Nat.add_right_cancel_iff, if_true, if_false, ite_self, Int.reduceEq, and_self, Int.add_neg_cancel_right, Int.add_zero, Int.zero_add, md_e, e, not_true, not_false_iff]
theorem p272l {f : Nat} (hf : f < 5) (hr : phR (mph M f)) {m : Nat} (hm : (mph M f).1 7 = (m : Int)) {X : Int} (hgood : ∀ (dd : Int) (G : Nat → Int) (N : Nat), 0 ≤ dd → dd ≤ 1998 → grI (mph M f) m dd (fun _ _ => True) G N → (N ≤ 1 ↔ X ≤ dd)) : ∀ s : Nat, ∀ (lo hi : Int) (G : Nat → Int) (l4 : Option Value), (hi - lo).toNat = s → 0 ≤ lo → lo ≤ X → X ≤ hi → hi ≤ 1998 → ∃ G', ru_n z 272 16 [some (.ref 1315), some (.int (wI f)), some (.int (wI lo)), some (.int (wI hi)), l4] [] (mdPut h (mdG M G)) = some (.inl (some (.int (wI X))), mdPut h (mdG M G')) := by
  intro s
  induction s using Nat.strongRecOn with
  | ind s ih =>
    intro lo hi G l4 hs h1 h2 h3 h4
    by_cases e : lo = X ∧ hi = X
    · obtain ⟨rfl, rfl⟩ := e
      refine ⟨G, ?_⟩
      simp (disch := omega) only [e272_16, e272_17, e272_18, e272_53, e272_54, ↓reduceIte, Bool.false_eq_true, not_false_eq_true, not_true_eq_false, Nat.reduceLeDiff, Nat.reduceAdd, Nat.reduceEqDiff, Int.reduceToNat, Int.toNat_natCast, iB0, iB1, ru_klI, ru_klR, ru_klF, ru_klJ, ru_kl0, ru_cs0, ru_csI, ru_csR, ru_csF, ru_csJ, wI_add, wI_sub, wI_mul, wI_lt, wI_le, wI_inj, ru_fdE, ru_fdN, ru_iaN, ru_baN, ru_laN, ru_qaN, ru_pfN, ru_isN, ru_bsN, ru_jsN, ru_qsN, ru_set2, Nat.add_right_cancel_iff, if_true, if_false, ite_self, Int.reduceEq, and_self, Int.add_neg_cancel_right, Int.add_zero, Int.zero_add, Int.le_refl]
    · have c : (hi ≤ lo) = False := eq_false (by omega)
      obtain ⟨G2, N, q1, q2⟩ := p266 (z := z) (h := h) (M := mdG M G) hf hr (m := m) hm (dd := (lo + hi) / 2) (by omega)
      rw [mdG_G] at q2
      have hg := hgood _ _ _ (by omega) (by omega) q1
      have hN : N ≤ 12 := by
        have := q1.2.2.1
        have := cnB_le (fun k => shw (mph (mdG M G) f) k && decide (G2 k = (k : Int))) m
        have := (phR_s hr).2.2.2.2.2.2.2
        omega
      by_cases e2 : X ≤ (lo + hi) / 2
      · have cn : ((1 : Int) < (N : Int)) = False := eq_false (by have := hg.mpr e2; omega)
        obtain ⟨G', t⟩ := ih ((lo + hi) / 2 - lo).toNat (by omega) lo ((lo + hi) / 2) G2 (some (.int (wI ((lo + hi) / 2)))) rfl h1 h2 e2 (by omega)
        refine ⟨G', ?_⟩
        rw [← t, e272_16]
        simp (disch := omega) only [e272_17, e272_18, e272_21, e272_22, e272_23, e272_24, e272_25, e272_26, e272_28, e272_29, e272_30, e272_32, e272_35, e272_36, e272_39, e272_41, e272_42, e272_45, e272_47, e272_48, e272_49, e272_50, ↓reduceIte, Bool.false_eq_true, not_false_eq_true, not_true_eq_false, Nat.reduceLeDiff, Nat.reduceAdd, Nat.reduceEqDiff, Int.reduceToNat, Int.toNat_natCast, iB0, iB1, ru_klI, ru_klR, ru_klF, ru_klJ, ru_kl0, ru_cs0, ru_csI, ru_csR, ru_csF, ru_csJ, wI_add, wI_sub, wI_mul, wI_lt, wI_le, wI_inj, ru_fdE, ru_fdN, ru_iaN, ru_baN, ru_laN, ru_qaN, ru_pfN, ru_isN, ru_bsN, ru_jsN, ru_qsN, ru_set2, Nat.add_right_cancel_iff, if_true, if_false, ite_self, Int.reduceEq, and_self, Int.add_neg_cancel_right, Int.add_zero, Int.zero_add, md_e, c, wI_div, wI_ne0, q2, cn]
      · have cn : ((1 : Int) < (N : Int)) = True := eq_true (by
          by_cases h9 : N ≤ 1
          · exact absurd (hg.mp h9) e2
          · omega)
        obtain ⟨G', t⟩ := ih (hi - ((lo + hi) / 2 + 1)).toNat (by omega) ((lo + hi) / 2 + 1) hi G2 (some (.int (wI ((lo + hi) / 2)))) rfl (by omega) (by omega) h3 h4
        refine ⟨G', ?_⟩
        rw [← t, e272_16]
        simp (disch := omega) only [e272_17, e272_18, e272_21, e272_22, e272_23, e272_24, e272_25, e272_26, e272_28, e272_29, e272_30, e272_32, e272_35, e272_36, e272_39, e272_41, e272_42, e272_45, e272_47, e272_48, e272_49, e272_50, ↓reduceIte, Bool.false_eq_true, not_false_eq_true, not_true_eq_false, Nat.reduceLeDiff, Nat.reduceAdd, Nat.reduceEqDiff, Int.reduceToNat, Int.toNat_natCast, iB0, iB1, ru_klI, ru_klR, ru_klF, ru_klJ, ru_kl0, ru_cs0, ru_csI, ru_csR, ru_csF, ru_csJ, wI_add, wI_sub, wI_mul, wI_lt, wI_le, wI_inj, ru_fdE, ru_fdN, ru_iaN, ru_baN, ru_laN, ru_qaN, ru_pfN, ru_isN, ru_bsN, ru_jsN, ru_qsN, ru_set2, Nat.add_right_cancel_iff, if_true, if_false, ite_self, Int.reduceEq, and_self, Int.add_neg_cancel_right, Int.add_zero, Int.zero_add, md_e, c, wI_div, wI_ne0, q2, cn]
def gqX (M : tMd) (f X b : Int) (M' : tMd) : Prop := (¬ rfP M f = 0 ∧ M' = mdT M (rfP M f)) ∨ (rfP M f = 0 ∧ ∃ G, M' = mdT (mdG M G) 0 ∧ b = X)
theorem p272 (hM : mdR M) {f X : Int} (g : -2147483648 ≤ f ∧ f < 2147483648) (hX : 0 ≤ X ∧ X ≤ 1998) (hgood : rfP M f = 0 → ∀ (dd : Int) (G : Nat → Int) (N : Nat), 0 ≤ dd → dd ≤ 1998 → grI (mph M f.toNat) ((mph M f.toNat).1 7).toNat dd (fun _ _ => True) G N → (N ≤ 1 ↔ X ≤ dd)) : ∃ b M', ru_ev z 272 [.ref 1315, .int (wI f)] (mdPut h M) = some (.inl (some (.int (wI b))), mdPut h M') ∧ gqX M f X b M' := by
  have e := p117 (z := z) (h := h) hM g
  by_cases e1 : rfP M f = 0
  · have hg := hgood e1
    obtain ⟨n, hn, rfl, hq⟩ := mph_at hM e1
    have s := phR_s hq
    simp only [e1, if_true] at e
    obtain ⟨G', t⟩ := p272l (z := z) (h := h) (M := mdT M 0) (f := n) hn hq (m := ((mph M n).1 7).toNat) (by rw [mph_T]; omega) (X := X) hg _ 0 1998 (M.2 14) none rfl (by omega) hX.1 hX.2 (by omega)
    have eG : mdG (mdT M 0) (M.2 14) = mdT M 0 := by unfold mdG; rw [mdT_2, upC_self]; rfl
    rw [eG, mdG_T] at t
    refine ⟨X, mdT (mdG M G') 0, ?_, Or.inr ⟨e1, G', rfl, rfl⟩⟩
    simp (disch := omega) only [en272, e272_0, e272_1, e272_2, e272_5, e272_8, e272_9, e272_10, e272_11, e272_12, e272_15, ↓reduceIte, Bool.false_eq_true, not_false_eq_true, not_true_eq_false, Nat.reduceLeDiff, Nat.reduceAdd, Nat.reduceEqDiff, Int.reduceToNat, Int.toNat_natCast, iB0, iB1, ru_klI, ru_klR, ru_klF, ru_klJ, ru_kl0, ru_cs0, ru_csI, ru_csR, ru_csF, ru_csJ, wI_add, wI_sub, wI_mul, wI_lt, wI_le, wI_inj, ru_fdE, ru_fdN, ru_iaN, ru_baN, ru_laN, ru_qaN, ru_pfN, ru_isN, ru_bsN, ru_jsN, ru_qsN, ru_set2, Nat.add_right_cancel_iff, if_true, if_false, ite_self, Int.reduceEq, and_self, Int.add_neg_cancel_right, Int.add_zero, Int.zero_add, md_e, e, t]
  · refine ⟨0, mdT M (rfP M f), ?_, Or.inl ⟨e1, rfl⟩⟩
    simp only [e1, if_false] at e
    simp (disch := omega) only [en272, e272_0, e272_1, e272_2, e272_5, e272_8, e272_9, e272_10, e272_11, e272_12, e272_15, e272_16, e272_17, e272_18, e272_21, e272_22, e272_23, e272_24, e272_25, e272_26, e272_28, e272_29, e272_30, e272_32, e272_35, e272_36, e272_39, e272_41, e272_42, e272_45, e272_47, e272_48, e272_49, e272_50, e272_53, e272_54, ↓reduceIte, Bool.false_eq_true, not_false_eq_true, not_true_eq_false, Nat.reduceLeDiff, Nat.reduceAdd, Nat.reduceEqDiff, Int.reduceToNat, Int.toNat_natCast, iB0, iB1, ru_klI, ru_klR, ru_klF, ru_klJ, ru_kl0, ru_cs0, ru_csI, ru_csR, ru_csF, ru_csJ, wI_add, wI_sub, wI_mul, wI_lt, wI_le, wI_inj, ru_fdE, ru_fdN, ru_iaN, ru_baN, ru_laN, ru_qaN, ru_pfN, ru_isN, ru_bsN, ru_jsN, ru_qsN, ru_set2, Nat.add_right_cancel_iff, if_true, if_false, ite_self, Int.reduceEq, and_self, Int.add_neg_cancel_right, Int.add_zero, Int.zero_add, md_e, e]
theorem lk_good {q : tPh} {m n : Nat} {K : Nat → Int} (hr : phR q) (hm : q.1 7 = (m : Int)) (hg : gpI q n K) {dd : Int} {G : Nat → Int} {N : Nat} (h0 : 0 ≤ dd) (hI : grI q m dd (fun _ _ => True) G N) : N ≤ 1 ↔ mxF K (n - 1) ≤ dd := by
  have e := gp_eq hr hm hg hI
  obtain ⟨s1, s2, s3⟩ := mxF_sp K (n - 1) (lk_rng hr hg)
  by_cases c : n = 0
  · subst c
    rw [if_pos rfl] at e
    have : mxF K (0 - 1) = 0 := rfl
    omega
  · rw [if_neg c] at e
    constructor
    · intro h
      rcases s3 with s3 | ⟨s, a1, a2⟩
      · omega
      · by_cases h9 : K s ≤ dd
        · omega
        · have := cnB_pos (P := fun s => decide (K s > dd)) (k := s) (n - 1) a1 (decide_eq_true (by omega))
          omega
    · intro h
      have : cnB (fun s => decide (K s > dd)) (n - 1) = 0 := cnB_none (n - 1) (fun o ho h9 => by
        have := of_decide_eq_true h9
        have := s2 o ho
        omega)
      omega
end GRST
