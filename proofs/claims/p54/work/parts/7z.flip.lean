/-! ===== flip ===== -/
theorem cph_hi (C : tCl) (a c : Nat) (hc : 4 ≤ c) : (cph C a).2 c = fun _ => 0 := if_neg (by omega)
theorem phP_eq {C : tCl} {a : Nat} {q' : tPh} (hz : ∀ c, 4 ≤ c → q'.2 c = fun _ => 0) : cph (phP C a q') a = q' := by
  obtain ⟨s1, s2⟩ := phP_self (C := C) (a := a) (q := q')
  refine Prod.ext (funext s1) (funext fun c => ?_)
  by_cases e : c < 4
  · exact s2 c e
  · rw [cph_hi _ _ c (by omega), hz c (by omega)]
theorem hs_ph {C C1 : tCl} (hR : clR C) (hs : hsOK C C1 (alb C + 4)) {f : Nat} (hf : f < 5) : phP C1 (cAp C f) (cph C (cAp C f)) = C1 ∧ cph C1 (cAp C f) = cph C (cAp C f) := by
  obtain ⟨-, -, -, -, -, -, -, a1, a2⟩ := clA_k hR.1
  obtain ⟨s1, s2, s3, s', t1, t2, t3, t4, t5, t6, t7⟩ := hs
  have e : cph C1 (cAp C f) = cph C (cAp C f) := cph_eq ((t7 _ (by unfold cAp; omega)).1 (by unfold cAp; omega)) (fun c hc => (t7 _ (by unfold cAp; omega)).2)
  exact ⟨by rw [← e]; exact phP_get _ _, e⟩
/-- a change of photo f: refused, or recorded and done -/
def chG (C : tCl) (n tc : Nat) (T : tPh → Int → Prop) (t : Nat) (v : Int) (C' : tCl) : Prop := (¬ tc = 0 ∧ t = tc ∧ C' = C) ∨ (tc = 0 ∧ t = 0 ∧ ∃ C1 q', hsOK C C1 (alb C + 4) ∧ C' = phP C1 (cAp C n) q' ∧ T q' v)
def chH (M : tMd) (tm : Int) (T : (Nat → Int) → Int → Prop) (b : Int) (M' : tMd) : Prop := (¬ tm = 0 ∧ M' = mdT M tm) ∨ (tm = 0 ∧ ∃ n' G' S', ktOK (M.1 4) n' (lyF (M.2 1) (M.2 0) 0 270) G' ∧ M' = (up1 (mdT M 0).1 4 n', upC (upC M.2 1 G') 0 S') ∧ T S' b)
theorem rf_has {M : tMd} (hM : mdR M) {f : Int} (e : rfP M f = 0) : M.1 1 = 1 := by
  have := (rfP_0 e).1
  have := hM.2.1
  omega
theorem ch_fin {C C1 : tCl} {M : tMd} {n' : Int} {G' S' : Nat → Int} {n : Nat} {q' : tPh} (h : coI C M) (ha : M.1 1 = 1) (hs : hsOK C C1 (alb C + 4)) (hk : ktOK (M.1 4) n' (lyF (M.2 1) (M.2 0) 0 270) G') (hn : (n : Int) < M.1 25) (hz : ∀ c, 4 ≤ c → q'.2 c = fun _ => 0) (hR' : phR q') (hS : ∀ j, 0 ≤ S' j ∧ S' j ≤ 999) (hsr : srR S') (hE : pheq q' (msf S' (M.2 8) (M.2 9) n)) (hN : phN (msf S' (M.2 8) (M.2 9) n) (M.1 20)) (hoth : ∀ f, f < 5 → f ≠ n → ∀ j, 54 * f ≤ j → j < 54 * f + 54 → S' j = M.2 0 j) : coI (phP C1 (cAp C n) q') (up1 (mdT M 0).1 4 n', upC (upC M.2 1 G') 0 S') ∧ chC C (phP C1 (cAp C n) q') ∧ chM M (up1 (mdT M 0).1 4 n', upC (upC M.2 1 G') 0 S') := by
  obtain ⟨r1, r2, r3, r4, r5⟩ := ch_rec (coI_T h (t := 0) (by omega)) ha hs hk
  have eq : cph (phP C1 (cAp C n) q') (cAp C n) = q' := phP_eq hz
  have ec : cAp C1 n = cAp C n := by unfold cAp; rw [r4]
  obtain ⟨p1, p2, p3, p4⟩ := ch_ph (n := n) (q' := q') (S' := S') r1 ha hn (by rw [ec, eq]; exact hR') hS hsr (by rw [ec, eq]; exact hE) hN hoth
  rw [ec] at p1 p2
  exact ⟨p1, chC_tr r2 p2 r4, chM_tr (chM_T M 0) (chM_tr r3 p3)⟩
theorem srR_up {S : Nat → Int} (h : srR S) {k : Nat} {v : Int} (hv : ∀ f, f < 5 → (k = 54 * f + 4 → v ≤ 1) ∧ (k = 54 * f + 5 → v ≤ 12) ∧ ∀ i, i < 12 → (k = 54 * f + 6 + 4 * i + 2 → v ≤ 1) ∧ (k = 54 * f + 6 + 4 * i + 3 → v ≤ 20)) : srR (up1 S k v) := fun f hf => by
  obtain ⟨a1, a2, a3⟩ := h f hf
  obtain ⟨b1, b2, b3⟩ := hv f hf
  unfold up1
  refine ⟨?_, ?_, fun i hi => ⟨?_, ?_⟩⟩
  · split
    · exact b1 (by omega)
    · exact a1
  · split
    · exact b2 (by omega)
    · exact a2
  · split
    · exact (b3 i hi).1 (by omega)
    · exact (a3 i hi).1
  · split
    · exact (b3 i hi).2 (by omega)
    · exact (a3 i hi).2
section FLIP
variable {z : Bool} {h : am_H} {C : tCl} {M : tMd}
theorem c352 (hR : clR C) (hH : hiC C) (hA : phA C) {f : Int} (g : -2147483648 ≤ f ∧ f < 2147483648) : ∃ t v C', ru_ev z 352 [.ref 1000, .int (wI f)] (clPut h C) = oR t (some (.int (wI v))) (clPut h C') (clPut (thr h) C') ∧ chG C f.toNat (rcP C f) (fun q' v => q' = (up1 (cph C (cAp C f.toNat)).1 6 (1 - (cph C (cAp C f.toNat)).1 6), (cph C (cAp C f.toNat)).2) ∧ v = 1 - (cph C (cAp C f.toNat)).1 6) t v C' := by
  have e1 := d78 (z := z) (h := h) hR g
  by_cases e : rcP C f = 0
  · rw [oR_0 e] at e1
    have hf := rcP_5 hR e
    have ha := cAp_ph hR.1 hf
    have hq := (dph (h := h) hR e).2
    have s := phR_s hq
    obtain ⟨-, -, -, -, hst, -, -, a1, a2⟩ := clA_k hR.1
    obtain ⟨C1, k1, k2⟩ := c113 (z := z) (h := h) hH hA hst (by omega)
    obtain ⟨p1, p2⟩ := hs_ph hR k1 hf
    have k3 : ru_ev z 113 [.ref 1092, .ref (alb C + 4)] (clPut h C) = some (.inl none, clPut h (phP C1 (cAp C f.toNat) (cph C (cAp C f.toNat)))) := by rw [p1]; exact k2
    refine ⟨0, 1 - (cph C (cAp C f.toNat)).1 6, phP C1 (cAp C f.toNat) (up1 (cph C (cAp C f.toNat)).1 6 (1 - (cph C (cAp C f.toNat)).1 6), (cph C (cAp C f.toNat)).2), ?_, Or.inr ⟨e, rfl, C1, _, k1, rfl, rfl, rfl⟩⟩
    rw [oR_0 rfl]
    by_cases c : (cph C (cAp C f.toNat)).1 6 = 0
    · have e1' : (1 : Int) - (cph C (cAp C f.toNat)).1 6 = 1 := by omega
      have c' : ((cph C (cAp C f.toNat)).1 6 = 0) = True := eq_true c
      rw [e1']
      simp (disch := omega) only [en352, e352_0, e352_1, e352_2, e352_5, e352_6, e352_7, e352_10, e352_11, e352_14, e352_17, e352_20, e352_21, e352_22, e352_25, e352_28, e352_29, e352_32, e352_33, e352_36, e352_37, e352_40, ↓reduceIte, Bool.false_eq_true, not_false_eq_true, not_true_eq_false, Nat.reduceLeDiff, Nat.reduceAdd, Nat.reduceEqDiff, Int.reduceToNat, Int.toNat_natCast, iB0, iB1, ru_klI, ru_klR, ru_klF, ru_klJ, ru_kl0, ru_cs0, ru_csI, ru_csR, ru_csF, ru_csJ, wI_add, wI_sub, wI_mul, wI_lt, wI_le, wI_inj, ru_fdE, ru_fdN, ru_iaN, ru_baN, ru_laN, ru_qaN, ru_pfN, ru_isN, ru_bsN, ru_jsN, ru_qsN, ru_set2, Nat.add_right_cancel_iff, if_true, if_false, ite_self, Int.reduceEq, and_self, Int.add_neg_cancel_right, Int.add_zero, Int.zero_add, ph_e ha, ph_f0 ha, ph_s0 ha, ph_f1 ha, ph_s1 ha, ph_f2 ha, ph_s2 ha, ph_f3 ha, ph_s3 ha, ph_f4 ha, ph_s4 ha, ph_f5 ha, ph_s5 ha, ph_f6 ha, ph_s6 ha, ph_f7 ha, ph_s7 ha, ph_f8 ha, ph_a0 ha, ph_w0 ha, ph_f9 ha, ph_a1 ha, ph_w1 ha, ph_f10 ha, ph_a2 ha, ph_w2 ha, ph_f11 ha, ph_a3 ha, ph_w3 ha, Int.reduceEq, ru_ctR, ru_ctI, upC_e, upC_n, upC_up, up1_e, up1_n, cl_e0, cl_g0_6, clF hR.1, e1, k3, c', wI_and1]
    · have e1' : (1 : Int) - (cph C (cAp C f.toNat)).1 6 = 0 := by omega
      have c' : ((cph C (cAp C f.toNat)).1 6 = 0) = False := eq_false c
      rw [e1']
      simp (disch := omega) only [en352, e352_0, e352_1, e352_2, e352_5, e352_6, e352_7, e352_10, e352_11, e352_14, e352_17, e352_20, e352_21, e352_22, e352_25, e352_28, e352_29, e352_32, e352_33, e352_36, e352_37, e352_40, ↓reduceIte, Bool.false_eq_true, not_false_eq_true, not_true_eq_false, Nat.reduceLeDiff, Nat.reduceAdd, Nat.reduceEqDiff, Int.reduceToNat, Int.toNat_natCast, iB0, iB1, ru_klI, ru_klR, ru_klF, ru_klJ, ru_kl0, ru_cs0, ru_csI, ru_csR, ru_csF, ru_csJ, wI_add, wI_sub, wI_mul, wI_lt, wI_le, wI_inj, ru_fdE, ru_fdN, ru_iaN, ru_baN, ru_laN, ru_qaN, ru_pfN, ru_isN, ru_bsN, ru_jsN, ru_qsN, ru_set2, Nat.add_right_cancel_iff, if_true, if_false, ite_self, Int.reduceEq, and_self, Int.add_neg_cancel_right, Int.add_zero, Int.zero_add, ph_e ha, ph_f0 ha, ph_s0 ha, ph_f1 ha, ph_s1 ha, ph_f2 ha, ph_s2 ha, ph_f3 ha, ph_s3 ha, ph_f4 ha, ph_s4 ha, ph_f5 ha, ph_s5 ha, ph_f6 ha, ph_s6 ha, ph_f7 ha, ph_s7 ha, ph_f8 ha, ph_a0 ha, ph_w0 ha, ph_f9 ha, ph_a1 ha, ph_w1 ha, ph_f10 ha, ph_a2 ha, ph_w2 ha, ph_f11 ha, ph_a3 ha, ph_w3 ha, Int.reduceEq, ru_ctR, ru_ctI, upC_e, upC_n, upC_up, up1_e, up1_n, cl_e0, cl_g0_6, clF hR.1, e1, k3, c', wI_and1]
  · rw [oR_n e] at e1
    refine ⟨rcP C f, 0, C, ?_, Or.inl ⟨e, rfl, rfl⟩⟩
    rw [oR_n e]
    simp (disch := omega) only [en352, e352_0, e352_1, e352_2, e352_5, e352_6, e352_7, e352_10, e352_11, e352_14, e352_17, e352_20, e352_21, e352_22, e352_25, e352_28, e352_29, e352_32, e352_33, e352_36, e352_37, e352_40, ↓reduceIte, Bool.false_eq_true, not_false_eq_true, not_true_eq_false, Nat.reduceLeDiff, Nat.reduceAdd, Nat.reduceEqDiff, Int.reduceToNat, Int.toNat_natCast, iB0, iB1, ru_klI, ru_klR, ru_klF, ru_klJ, ru_kl0, ru_cs0, ru_csI, ru_csR, ru_csF, ru_csJ, wI_add, wI_sub, wI_mul, wI_lt, wI_le, wI_inj, ru_fdE, ru_fdN, ru_iaN, ru_baN, ru_laN, ru_qaN, ru_pfN, ru_isN, ru_bsN, ru_jsN, ru_qsN, ru_set2, Nat.add_right_cancel_iff, if_true, if_false, ite_self, Int.reduceEq, and_self, Int.add_neg_cancel_right, Int.add_zero, Int.zero_add, cl_e0, e1]
theorem sw0 {N : tMd} {i v : Int} (h1 : 0 ≤ i) (h2 : i < 270) : am_is (mdPut h N) 1316 (wI i) (wI v) = some (mdPut h (N.1, upC N.2 0 (up1 (N.2 0) i.toNat v))) := by
  rw [md_w0 h1 h2, up2_C]
theorem p353 (hM : mdR M) {f : Int} (g : -2147483648 ≤ f ∧ f < 2147483648) : ∃ b M', ru_ev z 353 [.ref 1315, .int (wI f)] (mdPut h M) = some (.inl (some (.int (wI b))), mdPut h M') ∧ chH M (rfP M f) (fun S' b => S' = up1 (M.2 0) (54 * f.toNat + 4) (1 - M.2 0 (54 * f.toNat + 4)) ∧ b = 1 - M.2 0 (54 * f.toNat + 4)) b M' ∧ (b = 0 ∨ b = 1) := by
  have e := p117 (z := z) (h := h) hM g
  by_cases e1 : rfP M f = 0
  · obtain ⟨n, hn, rfl, hq⟩ := mph_at hM e1
    have s := phR_s hq
    have s6 : 0 ≤ M.2 0 (54 * n + 4) ∧ M.2 0 (54 * n + 4) ≤ 1 := s.2.2.2.2.2.2.1
    simp only [e1, if_true] at e
    obtain ⟨n', G', k1, k2⟩ := p350 (z := z) (h := h) (M := mdT M 0) hM.2.2.1
    simp only [Int.toNat_natCast]
    refine ⟨1 - M.2 0 (54 * n + 4), _, ?_, Or.inr ⟨e1, n', G', _, k1, rfl, rfl, rfl⟩, by omega⟩
    have r1 := p123 (z := z) (h := h) (M := (up1 (mdT M 0).1 4 n', upC (mdT M 0).2 1 G')) (f := n) hn (w := 4) (by omega) (by omega)
    have r2 := p123 (z := z) (h := h) (M := (up1 (mdT M 0).1 4 n', upC (upC (mdT M 0).2 1 G') 0 (up1 (M.2 0) (54 * n + 4) (1 - M.2 0 (54 * n + 4))))) (f := n) hn (w := 4) (by omega) (by omega)
    have ei : (54 * (n : Int) + 4).toNat = 54 * n + 4 := by omega
    have e4 : 54 * n + (4 : Int).toNat = 54 * n + 4 := by omega
    rw [e4] at r1 r2
    dsimp only at r1 r2
    have q0 : upC (mdT M 0).2 1 G' 0 = M.2 0 := upC_n (by decide)
    rw [q0] at r1
    rw [upC_e, up1_e] at r2
    have w0 : am_is (mdPut h (up1 (mdT M 0).1 4 n', upC (mdT M 0).2 1 G')) 1316 (wI (54 * (n : Int) + 4)) (wI (1 - M.2 0 (54 * n + 4))) = some (mdPut h (up1 (mdT M 0).1 4 n', upC (upC (mdT M 0).2 1 G') 0 (up1 (M.2 0) (54 * n + 4) (1 - M.2 0 (54 * n + 4))))) := by
      rw [sw0 (by omega) (by omega), ei]
      dsimp only
      rw [q0]
    by_cases c : M.2 0 (54 * n + 4) = 0
    · have c2 : (1 - M.2 0 (54 * n + 4) = 1) = True := eq_true (by omega)
      have c3 : 1 - M.2 0 (54 * n + 4) = 1 := by omega
      simp (disch := omega) only [en353, e353_0, e353_1, e353_2, e353_5, e353_8, e353_9, e353_10, e353_11, e353_14, e353_15, e353_18, e353_20, e353_21, e353_22, e353_23, e353_24, e353_25, e353_26, e353_27, e353_28, e353_31, e353_32, e353_33, e353_34, e353_35, e353_36, e353_39, e353_40, e353_43, e353_44, e353_47, e353_48, ↓reduceIte, Bool.false_eq_true, not_false_eq_true, not_true_eq_false, Nat.reduceLeDiff, Nat.reduceAdd, Nat.reduceEqDiff, Int.reduceToNat, Int.toNat_natCast, iB0, iB1, ru_klI, ru_klR, ru_klF, ru_klJ, ru_kl0, ru_cs0, ru_csI, ru_csR, ru_csF, ru_csJ, wI_add, wI_sub, wI_mul, wI_lt, wI_le, wI_inj, ru_fdE, ru_fdN, ru_iaN, ru_baN, ru_laN, ru_qaN, ru_pfN, ru_isN, ru_bsN, ru_jsN, ru_qsN, ru_set2, Nat.add_right_cancel_iff, if_true, if_false, ite_self, Int.reduceEq, and_self, Int.add_neg_cancel_right, Int.add_zero, Int.zero_add, md_e, md_f2, e, k2, r1, r2, w0, c2, not_true, wI_and1]
      rw [c3]; rfl
    · have c2 : (1 - M.2 0 (54 * n + 4) = 1) = False := eq_false (by omega)
      have c3 : 1 - M.2 0 (54 * n + 4) = 0 := by omega
      simp (disch := omega) only [en353, e353_0, e353_1, e353_2, e353_5, e353_8, e353_9, e353_10, e353_11, e353_14, e353_15, e353_18, e353_20, e353_21, e353_22, e353_23, e353_24, e353_25, e353_26, e353_27, e353_28, e353_31, e353_32, e353_33, e353_34, e353_35, e353_36, e353_39, e353_40, e353_43, e353_44, e353_47, e353_48, ↓reduceIte, Bool.false_eq_true, not_false_eq_true, not_true_eq_false, Nat.reduceLeDiff, Nat.reduceAdd, Nat.reduceEqDiff, Int.reduceToNat, Int.toNat_natCast, iB0, iB1, ru_klI, ru_klR, ru_klF, ru_klJ, ru_kl0, ru_cs0, ru_csI, ru_csR, ru_csF, ru_csJ, wI_add, wI_sub, wI_mul, wI_lt, wI_le, wI_inj, ru_fdE, ru_fdN, ru_iaN, ru_baN, ru_laN, ru_qaN, ru_pfN, ru_isN, ru_bsN, ru_jsN, ru_qsN, ru_set2, Nat.add_right_cancel_iff, if_true, if_false, ite_self, Int.reduceEq, and_self, Int.add_neg_cancel_right, Int.add_zero, Int.zero_add, md_e, md_f2, e, k2, r1, r2, w0, c2, not_false_iff, wI_and1]
      rw [c3]; rfl
  · refine ⟨0, mdT M (rfP M f), ?_, Or.inl ⟨e1, rfl⟩, Or.inl rfl⟩
    simp only [e1, if_false] at e
    simp (disch := omega) only [en353, e353_0, e353_1, e353_2, e353_5, e353_8, e353_9, e353_10, e353_11, e353_14, e353_15, e353_18, e353_20, e353_21, e353_22, e353_23, e353_24, e353_25, e353_26, e353_27, e353_28, e353_31, e353_32, e353_33, e353_34, e353_35, e353_36, e353_39, e353_40, e353_43, e353_44, e353_47, e353_48, ↓reduceIte, Bool.false_eq_true, not_false_eq_true, not_true_eq_false, Nat.reduceLeDiff, Nat.reduceAdd, Nat.reduceEqDiff, Int.reduceToNat, Int.toNat_natCast, iB0, iB1, ru_klI, ru_klR, ru_klF, ru_klJ, ru_kl0, ru_cs0, ru_csI, ru_csR, ru_csF, ru_csJ, wI_add, wI_sub, wI_mul, wI_lt, wI_le, wI_inj, ru_fdE, ru_fdN, ru_iaN, ru_baN, ru_laN, ru_qaN, ru_pfN, ru_isN, ru_bsN, ru_jsN, ru_qsN, ru_set2, Nat.add_right_cancel_iff, if_true, if_false, ite_self, Int.reduceEq, and_self, Int.add_neg_cancel_right, Int.add_zero, Int.zero_add, md_e, e, wI_and1]
end FLIP
