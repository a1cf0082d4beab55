/-! ===== write: what both call ===== -/
theorem nTx_M {M M' : tMd} (h : M'.2 5 = M.2 5) (n : Int) (k : Nat) : nTx M' n k = nTx M n k := by
  unfold nTx wf wF; rw [h]
theorem eTx_M {M M' : tMd} (h : M'.2 5 = M.2 5) (n : Int) (k : Nat) : eTx M' n k = eTx M n k := by
  unfold eTx wl wF; rw [h]
theorem oneB_M {M M' : tMd} (h : M'.2 5 = M.2 5) (n m : Int) : oneB M' n m = oneB M n m := by
  unfold oneB wl wF; rw [h]
theorem cRw_M {M M' : tMd} (h : M'.2 5 = M.2 5) (nm : Nat → Int) : ∀ d j k, cRw M' nm d j k = cRw M nm d j k
  | 0, _, _ => rfl
  | d + 1, j, k => by
    have e : lsB M' nm d j = lsB M nm d j := by unfold lsB; rw [oneB_M h]
    show nTx M' (nm j) k ++ (zTx M' nm d j k ++ cRw M' nm d (j + 1) (if lsB M' nm d j = true then 0 else k + 1)) = nTx M (nm j) k ++ (zTx M nm d j k ++ cRw M nm d (j + 1) (if lsB M nm d j = true then 0 else k + 1))
    unfold zTx
    rw [nTx_M h, e, eTx_M h, cRw_M h nm d (j + 1)]
theorem cCap_M {M M' : tMd} (h : M'.2 5 = M.2 5) (NM : Nat → Nat → Int) (LN : Nat → Nat) : ∀ d r, cCap M' NM LN d r = cCap M NM LN d r
  | 0, _ => rfl
  | d + 1, r => by
    show (if 0 < r then sbT 42 else sbT 43) ++ (numT r ++ (sbT 44 ++ (cRw M' (NM r) (LN r) 0 0 ++ cCap M' NM LN d (r + 1)))) = (if 0 < r then sbT 42 else sbT 43) ++ (numT r ++ (sbT 44 ++ (cRw M (NM r) (LN r) 0 0 ++ cCap M NM LN d (r + 1))))
    rw [cRw_M h, cCap_M h NM LN d (r + 1)]
theorem nmW_M {M M' : tMd} (h : M'.2 5 = M.2 5) {N : Nat} (hw : nmW M N) : nmW M' N := by
  unfold nmW wf wl wF at hw ⊢
  rw [h]; exact hw
/-- all bytes are below 128 -/
def txB (l : List Nat) : Prop := ∀ c, c ∈ l → c ≤ 127
theorem txB_app {l t : List Nat} (h1 : txB l) (h2 : txB t) : txB (l ++ t) := fun c hc => by
  rcases List.mem_append.mp hc with h | h
  · exact h1 c h
  · exact h2 c h
theorem txB_nil : txB [] := fun c hc => absurd hc List.not_mem_nil
theorem txB_s {i : Nat} (hi : i < 85) : txB (sbT i) := fun c hc => by
  have key : ∀ i : Fin 85, (sbT i.val).all (fun c => decide (c ≤ 127)) = true := by decide +kernel
  exact of_decide_eq_true ((List.all_eq_true.mp (key ⟨i, hi⟩)) c hc)
theorem txB_w {f : Nat → Int} (h : ltR f) : txB (wdT f) := fun c hc => by
  unfold wdT at hc
  obtain ⟨k, k1, k2⟩ := List.mem_map.mp hc
  have := List.mem_range.mp k1
  have h8 := wln_8 f
  have := h k (by omega)
  omega
theorem txB_n {v : Nat} (hv : v ≤ 99) : txB (numT v) := fun c hc => by
  unfold numT at hc
  split at hc
  · have := List.mem_singleton.mp hc; omega
  · rcases List.mem_cons.mp hc with h | h
    · omega
    · have := List.mem_singleton.mp h; omega
theorem txB_gd {l : List Nat} (h : txB l) {i : Nat} (hi : i < l.length) : l.getD i 0 ≤ 127 := by
  rw [List.getD_eq_getElem?_getD, List.getElem?_eq_getElem hi]
  exact h _ (List.getElem_mem hi)
theorem txB_nT {M : tMd} {N : Nat} (h4 : nmW M N) {n : Int} (hn : nmOK N n) (k : Nat) : txB (nTx M n k) := by
  unfold nTx
  split
  · exact txB_nil
  · refine txB_app ?_ (txB_w (h4 n.toNat (by rcases hn with h | h <;> omega)).1.1)
    split
    · exact txB_s (by decide)
    · exact txB_s (by decide)
theorem txB_eT {M : tMd} {N : Nat} (h4 : nmW M N) {n : Int} (hn : nmOK N n) {k : Nat} (hk : k ≤ 99) : txB (eTx M n k) := by
  unfold eTx
  split
  · split
    · exact txB_s (by decide)
    · exact txB_app (txB_n hk) (txB_s (by decide))
  · refine txB_app ?_ (txB_w (h4 n.toNat (by rcases hn with h | h <;> omega)).2.1.1)
    intro c hc
    have := List.mem_singleton.mp hc; omega
theorem txB_cR {M : tMd} {N len : Nat} {nm : Nat → Int} (h4 : nmW M N) (hn : ∀ j, j < len → nmOK N (nm j)) (h12 : len ≤ 12) : ∀ d j k, j + d = len → k ≤ j → txB (cRw M nm d j k)
  | 0, _, _, _, _ => txB_nil
  | d + 1, j, k, hj, hk => by
    show txB (nTx M (nm j) k ++ (zTx M nm d j k ++ cRw M nm d (j + 1) (if lsB M nm d j = true then 0 else k + 1)))
    refine txB_app (txB_nT h4 (hn j (by omega)) k) (txB_app ?_ (txB_cR h4 hn h12 d (j + 1) _ (by omega) (by split <;> omega)))
    unfold zTx
    split
    · refine txB_app (txB_eT h4 (hn j (by omega)) (by omega)) ?_
      split
      · exact txB_s (by decide)
      · exact txB_s (by decide)
    · exact txB_nil
theorem txB_cC {M : tMd} {N rc : Nat} {NM : Nat → Nat → Int} {LN : Nat → Nat} (h4 : nmW M N) (hrc : rc ≤ 12) (hn : ∀ r j, r < rc → j < LN r → nmOK N (NM r j)) (hl : ∀ r, r < rc → LN r ≤ 12) : ∀ d r, r + d = rc → txB (cCap M NM LN d r)
  | 0, _, _ => txB_nil
  | d + 1, r, hr => by
    show txB ((if 0 < r then sbT 42 else sbT 43) ++ (numT r ++ (sbT 44 ++ (cRw M (NM r) (LN r) 0 0 ++ cCap M NM LN d (r + 1)))))
    refine txB_app ?_ (txB_app (txB_n (by omega)) (txB_app (txB_s (by decide)) (txB_app (txB_cR h4 (fun j hj => hn r j (by omega) hj) (hl r (by omega)) (LN r) 0 0 (by omega) (Nat.le_refl _)) (txB_cC h4 hrc hn hl d (r + 1) (by omega)))))
    split
    · exact txB_s (by decide)
    · exact txB_s (by decide)
theorem cCap_len {M : tMd} {N rc : Nat} {NM : Nat → Nat → Int} {LN : Nat → Nat} (h4 : nmW M N) (hrc : rc ≤ 12) (hn : ∀ r j, r < rc → j < LN r → nmOK N (NM r j)) (hl : ∀ r, r < rc → LN r ≤ 12) : ∀ d r, r + d = rc → (cCap M NM LN d r).length ≤ 10 * d + 24 * sLN LN d r
  | 0, _, _ => Nat.zero_le _
  | d + 1, r, hr => by
    have h1 := cRw_len (M := M) (nm := NM r) h4 (fun j hj => hn r j (by omega) hj) (hl r (by omega)) (LN r) 0 0 (by omega) (Nat.le_refl _)
    have h2 := cCap_len h4 hrc hn hl d (r + 1) (by omega)
    have h3 := numT_len r
    have l42 : (sbT 42).length = 6 := by decide
    have l43 : (sbT 43).length = 4 := by decide
    have l44 : (sbT 44).length = 2 := by decide
    have es : sLN LN (d + 1) r = LN r + sLN LN d (r + 1) := rfl
    show ((if 0 < r then sbT 42 else sbT 43) ++ (numT r ++ (sbT 44 ++ (cRw M (NM r) (LN r) 0 0 ++ cCap M NM LN d (r + 1))))).length ≤ _
    simp only [List.length_append]
    rw [es]
    split at h3
    · split <;> omega
    · split <;> omega
section WRT
variable {z : Bool} {M : tMd} {N rc : Nat} {NM : Nat → Nat → Int} {LN : Nat → Nat}
theorem c299 {H : am_H} {C : tCl} {l : List Nat} {cap : Nat} (hR : clR C) (hs : sbS H C l cap) (hst : strs H) (hd : dgI H) (hw : wcN C M N) {f : Int} (g : -2147483648 ≤ f ∧ f < 2147483648) (hK : rcP C f = 0 → ∀ p', piOK p' (cph C (cAp C f.toNat)) (C.1 (alb C) 0) → wcA (piPut C 1070 p') M N (alb C) (cAp C f.toNat) rc NM LN) (hlen : (capT M NM LN rc).length ≤ 500) : ∃ t v C' H', ru_ev z 299 [.ref 1000, .int (wI f)] (clPut H C) = oR t (some (.int (wI v))) (clPut H' C') (clPut H' C') ∧ ((¬ rcP C f = 0 ∧ t = rcP C f ∧ C' = C ∧ H' = thr H) ∨ (rcP C f = 0 ∧ t = 0 ∧ (∃ p' cap', sbS H' C' (capT M NM LN rc) cap' ∧ sbOn H H' (piPut C 1070 p') C' cap cap') ∧ v = ((capT M NM LN rc).length : Int))) := by
  by_cases e : rcP C f = 0
  · obtain ⟨P, p', rfl, hOK, e1⟩ := c187 (z := z) (h := H) hR g e
    obtain ⟨q1, q2, q3, q4, q5, q6, q7, q8⟩ := clR_pi (P := 1070) (p := p') (Or.inl rfl) hR
    have e2 := d78 (z := z) (h := H) q1 g
    have e8 := q8 f
    have e5 := q5 f.toNat
    rw [oR_0 (by rw [e8]; exact e), e5] at e2
    have hF := clF q1.1 (h := H)
    rw [q2] at hF
    have hs1 : sbS H (piPut C 1070 p') l cap := by
      obtain ⟨a1, a2, a3⟩ := hs
      exact ⟨by rw [piPut_1 (by decide)]; exact a1, by rw [piPut_1 (by decide)]; exact a2, a3⟩
    have hf5 := rcP_5 hR e
    have hw1 : wcN (piPut C 1070 p') M N := hw
    obtain ⟨H', C', cap', r1, s1, s2⟩ := k300 (z := z) (H := H) (C := piPut C 1070 p') (M := M) (N := N) (A := alb C) (b := cAp C f.toNat) (rc := rc) (NM := NM) (LN := LN) (hK e p' hOK) (cAp_ph hR.1 hf5) ⟨hw1, q2⟩ hst hd hs1
    have kl := k324 (z := z) s1
    refine ⟨0, _, C', H', ?_, Or.inr ⟨e, rfl, ⟨p', cap', s1, s2⟩, rfl⟩⟩
    rw [oR_0 rfl]
    simp (disch := omega) only [en299, e299_0, e299_1, e299_4, e299_5, e299_6, e299_9, e299_10, e299_11, e299_14, e299_15, e299_18, e299_21, e299_24, e299_25, e299_28, e299_31, e299_34, ↓reduceIte, Bool.false_eq_true, not_false_eq_true, not_true_eq_false, Nat.reduceLeDiff, Nat.reduceAdd, Nat.reduceEqDiff, Int.reduceToNat, Int.toNat_natCast, iB0, iB1, ru_klI, ru_klR, ru_klF, ru_klJ, ru_kl0, ru_cs0, ru_csI, ru_csR, ru_csF, ru_csJ, wI_add, wI_sub, wI_mul, wI_lt, wI_le, wI_inj, ru_fdE, ru_fdN, ru_iaN, ru_baN, ru_laN, ru_qaN, ru_pfN, ru_isN, ru_bsN, ru_jsN, ru_qsN, ru_set2, Nat.add_right_cancel_iff, if_true, if_false, ite_self, Int.reduceEq, and_self, Int.add_neg_cancel_right, Int.add_zero, Int.zero_add, cl_e0, cl_g0_8, e1, e2, hF, r1, cl_g7, kl]
  · have e1 := c187x (z := z) (h := H) hR g e
    refine ⟨rcP C f, 0, C, thr H, ?_, Or.inl ⟨e, rfl, rfl, rfl⟩⟩
    rw [oR_n e]
    simp (disch := omega) only [en299, e299_0, e299_1, e299_4, e299_5, e299_6, e299_9, e299_10, e299_11, e299_14, e299_15, e299_18, e299_21, e299_24, e299_25, e299_28, e299_31, e299_34, ↓reduceIte, Bool.false_eq_true, not_false_eq_true, not_true_eq_false, Nat.reduceLeDiff, Nat.reduceAdd, Nat.reduceEqDiff, Int.reduceToNat, Int.toNat_natCast, iB0, iB1, ru_klI, ru_klR, ru_klF, ru_klJ, ru_kl0, ru_cs0, ru_csI, ru_csR, ru_csF, ru_csJ, wI_add, wI_sub, wI_mul, wI_lt, wI_le, wI_inj, ru_fdE, ru_fdN, ru_iaN, ru_baN, ru_laN, ru_qaN, ru_pfN, ru_isN, ru_bsN, ru_jsN, ru_qsN, ru_set2, Nat.add_right_cancel_iff, if_true, if_false, ite_self, Int.reduceEq, and_self, Int.add_neg_cancel_right, Int.add_zero, Int.zero_add, cl_e0, cl_g0_8, e1]
theorem p326 {h : am_H} (hM : mdR M) (hst : strs h) {f : Int} (g : -2147483648 ≤ f ∧ f < 2147483648) (hK : rfP M f = 0 → ∀ rc' R L Q, lrOK M f.toNat rc' R L Q → rc' = (rc : Int) ∧ rc ≤ 12 ∧ (∀ r, r < rc → wmP (mdQ (mdT M 0) rc' R L Q) N f.toNat r (LN r) (NM r)) ∧ 10 * rc + 24 * sLN LN rc 0 ≤ 490) : ∃ b M', ru_ev z 326 [.ref 1315, .int (wI f)] (mdPut h M) = some (.inl (some (.int (wI b))), mdPut h M') ∧ ((¬ rfP M f = 0 ∧ M' = mdT M (rfP M f)) ∨ (rfP M f = 0 ∧ ∃ rc' R L Q, lrOK M f.toNat rc' R L Q ∧ wrS (mdQ (mdT M 0) rc' R L Q) M' (rcT (mdQ (mdT M 0) rc' R L Q) NM LN rc) ∧ b = ((rcT (mdQ (mdT M 0) rc' R L Q) NM LN rc).length : Int))) := by
  have e := p117 (z := z) (h := h) hM g
  by_cases e1 : rfP M f = 0
  · obtain ⟨n, hn, rfl, hq⟩ := mph_at hM e1
    obtain ⟨rc', R, L, Q, q1, q2⟩ := p120 (z := z) (h := h) (M := mdT M 0) (f := n) hn hq hM.2.2.2.2.2.1
    rw [lrOK_T] at q1
    obtain ⟨k1, k2, k3, k4⟩ := hK e1 rc' R L Q (by rw [Int.toNat_natCast]; exact q1)
    rw [Int.toNat_natCast] at k3
    generalize hM0 : mdQ (mdT M 0) rc' R L Q = M0 at *
    have h34 : M0.1 34 = (rc : Int) := by rw [← hM0, ← k1]; rfl
    have s38 : am_pf (mdPut h M0) 1315 10 38 0 (.int (wI 0)) = some (mdPut h (up1 M0.1 38 0, M0.2)) := md_s38
    have hw0 : wrS M0 (up1 M0.1 38 0, M0.2) [] := ⟨fun k hk => up1_n hk, fun _ _ => rfl, by show up1 M0.1 38 0 38 = 0; rw [up1_e], fun i hi => absurd hi (Nat.not_lt_zero _)⟩
    have g34 : am_fd (mdPut h (up1 M0.1 38 0, M0.2)) 1315 10 34 = some (.int (wI (rc : Nat))) := by
      rw [md_f34]
      show some (Value.int (wI (up1 M0.1 38 0 34))) = _
      rw [up1_n (by decide), h34]
    have l75 : (sbT 75).length = 6 := by decide
    simp only [e1, if_true] at e
    simp only [Int.toNat_natCast]
    have g38 : ∀ S l, wrS M0 S l → am_fd (mdPut h S) 1315 10 38 = some (.int (wI (l.length : Nat))) := fun S l hw => by rw [md_f38, hw.2.2.1]
    by_cases c : rc = 0
    · have d1 : (((rc : Nat) : Int) = 0) = True := eq_true (by omega)
      obtain ⟨S1, r1, w1⟩ := p327 (z := z) (h := h) (hst 75 (by decide)) (by decide) (sbT_ok 75 (by decide)).2 (by show 0 + _ ≤ 1000; omega) hw0
      obtain ⟨S2, l3', r', r2, w2⟩ := p326l (z := z) (h := h) (N := N) (f := n) (NM := NM) (LN := LN) h34 k2 k3 hst rc 0 (by omega) _ S1 none w1 (by rw [List.nil_append]; omega)
      rw [show ((0 : Nat) : Int) = 0 from rfl] at r2
      have eT : rcT M0 NM LN rc = ([] ++ sbT 75) ++ rCap M0 NM LN rc 0 := by unfold rcT; rw [if_pos c, List.nil_append]
      have gl := g38 S2 _ w2
      refine ⟨_, S2, ?_, Or.inr ⟨e1, rc', R, L, Q, q1, by rw [hM0, eT]; exact w2, by rw [hM0, eT]⟩⟩
      have r1 : ru_ev z 327 [.ref 1315, .ref 375] (mdPut h (up1 M0.1 38 0, M0.2)) = some (.inl none, mdPut h S1) := r1
      simp (disch := omega) only [e326_0, e326_1, e326_2, e326_5, e326_8, e326_9, e326_10, e326_11, e326_12, e326_15, e326_16, e326_17, e326_20, e326_21, e326_24, e326_27, e326_28, e326_31, e326_34, e326_35, en326, ↓reduceIte, Bool.false_eq_true, not_false_eq_true, not_true_eq_false, Nat.reduceLeDiff, Nat.reduceAdd, Nat.reduceEqDiff, Int.reduceToNat, Int.toNat_natCast, iB0, iB1, ru_klI, ru_klR, ru_klF, ru_klJ, ru_kl0, ru_cs0, ru_csI, ru_csR, ru_csF, ru_csJ, wI_add, wI_sub, wI_mul, wI_lt, wI_le, wI_inj, ru_fdE, ru_fdN, ru_iaN, ru_baN, ru_laN, ru_qaN, ru_pfN, ru_isN, ru_bsN, ru_jsN, ru_qsN, ru_set2, Nat.add_right_cancel_iff, if_true, if_false, ite_self, Int.reduceEq, and_self, Int.add_neg_cancel_right, Int.add_zero, Int.zero_add, md_e, e, q2, s38, g34, d1, r1, not_true, Int.reduceEq]
      rw [r2]
      simp (disch := omega) only [e326_114, e326_115, e326_118, ↓reduceIte, Bool.false_eq_true, not_false_eq_true, not_true_eq_false, Nat.reduceLeDiff, Nat.reduceAdd, Nat.reduceEqDiff, Int.reduceToNat, Int.toNat_natCast, iB0, iB1, ru_klI, ru_klR, ru_klF, ru_klJ, ru_kl0, ru_cs0, ru_csI, ru_csR, ru_csF, ru_csJ, wI_add, wI_sub, wI_mul, wI_lt, wI_le, wI_inj, ru_fdE, ru_fdN, ru_iaN, ru_baN, ru_laN, ru_qaN, ru_pfN, ru_isN, ru_bsN, ru_jsN, ru_qsN, ru_set2, Nat.add_right_cancel_iff, if_true, if_false, ite_self, Int.reduceEq, and_self, Int.add_neg_cancel_right, Int.add_zero, Int.zero_add, md_e, gl]
    · have d1 : (((rc : Nat) : Int) = 0) = False := eq_false (by omega)
      obtain ⟨S2, l3', r', r2, w2⟩ := p326l (z := z) (h := h) (N := N) (f := n) (NM := NM) (LN := LN) h34 k2 k3 hst rc 0 (by omega) _ (up1 M0.1 38 0, M0.2) none hw0 (by show 0 + 10 * rc + _ ≤ 500; omega)
      rw [show ((0 : Nat) : Int) = 0 from rfl] at r2
      have eT : rcT M0 NM LN rc = [] ++ rCap M0 NM LN rc 0 := by unfold rcT; rw [if_neg c]
      have gl := g38 S2 _ w2
      refine ⟨_, S2, ?_, Or.inr ⟨e1, rc', R, L, Q, q1, by rw [hM0, eT]; exact w2, by rw [hM0, eT]⟩⟩
      simp (disch := omega) only [e326_0, e326_1, e326_2, e326_5, e326_8, e326_9, e326_10, e326_11, e326_12, e326_15, e326_16, e326_17, e326_20, e326_21, e326_24, e326_27, e326_28, e326_31, e326_34, e326_35, en326, ↓reduceIte, Bool.false_eq_true, not_false_eq_true, not_true_eq_false, Nat.reduceLeDiff, Nat.reduceAdd, Nat.reduceEqDiff, Int.reduceToNat, Int.toNat_natCast, iB0, iB1, ru_klI, ru_klR, ru_klF, ru_klJ, ru_kl0, ru_cs0, ru_csI, ru_csR, ru_csF, ru_csJ, wI_add, wI_sub, wI_mul, wI_lt, wI_le, wI_inj, ru_fdE, ru_fdN, ru_iaN, ru_baN, ru_laN, ru_qaN, ru_pfN, ru_isN, ru_bsN, ru_jsN, ru_qsN, ru_set2, Nat.add_right_cancel_iff, if_true, if_false, ite_self, Int.reduceEq, and_self, Int.add_neg_cancel_right, Int.add_zero, Int.zero_add, md_e, e, q2, s38, g34, d1, not_false_iff, Int.reduceEq]
      rw [r2]
      simp (disch := omega) only [e326_114, e326_115, e326_118, ↓reduceIte, Bool.false_eq_true, not_false_eq_true, not_true_eq_false, Nat.reduceLeDiff, Nat.reduceAdd, Nat.reduceEqDiff, Int.reduceToNat, Int.toNat_natCast, iB0, iB1, ru_klI, ru_klR, ru_klF, ru_klJ, ru_kl0, ru_cs0, ru_csI, ru_csR, ru_csF, ru_csJ, wI_add, wI_sub, wI_mul, wI_lt, wI_le, wI_inj, ru_fdE, ru_fdN, ru_iaN, ru_baN, ru_laN, ru_qaN, ru_pfN, ru_isN, ru_bsN, ru_jsN, ru_qsN, ru_set2, Nat.add_right_cancel_iff, if_true, if_false, ite_self, Int.reduceEq, and_self, Int.add_neg_cancel_right, Int.add_zero, Int.zero_add, md_e, gl]
  · refine ⟨0, mdT M (rfP M f), ?_, Or.inl ⟨e1, rfl⟩⟩
    simp only [e1, if_false] at e
    simp (disch := omega) only [en326, e326_0, e326_1, e326_2, e326_5, e326_8, e326_9, e326_10, e326_11, e326_12, e326_15, e326_16, e326_17, e326_20, e326_21, e326_24, e326_27, e326_28, e326_31, e326_34, e326_35, e326_36, e326_37, e326_38, e326_41, e326_44, e326_45, e326_48, e326_49, e326_52, e326_55, e326_56, e326_59, e326_62, e326_63, e326_64, e326_67, e326_68, e326_71, e326_74, e326_75, e326_76, e326_77, e326_78, e326_81, e326_82, e326_83, e326_86, e326_87, e326_90, e326_91, e326_94, e326_97, e326_98, e326_99, e326_100, e326_101, e326_104, e326_105, e326_108, e326_111, e326_114, e326_115, e326_118, ↓reduceIte, Bool.false_eq_true, not_false_eq_true, not_true_eq_false, Nat.reduceLeDiff, Nat.reduceAdd, Nat.reduceEqDiff, Int.reduceToNat, Int.toNat_natCast, iB0, iB1, ru_klI, ru_klR, ru_klF, ru_klJ, ru_kl0, ru_cs0, ru_csI, ru_csR, ru_csF, ru_csJ, wI_add, wI_sub, wI_mul, wI_lt, wI_le, wI_inj, ru_fdE, ru_fdN, ru_iaN, ru_baN, ru_laN, ru_qaN, ru_pfN, ru_isN, ru_bsN, ru_jsN, ru_qsN, ru_set2, Nat.add_right_cancel_iff, if_true, if_false, ite_self, Int.reduceEq, and_self, Int.add_neg_cancel_right, Int.add_zero, Int.zero_add, md_e, e, Int.reduceEq]
end WRT
