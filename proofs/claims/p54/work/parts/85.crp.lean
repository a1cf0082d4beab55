/-! ===== crop: both sides ===== -/
def crL (q : tPh) (x1 x2 : Int) : Int := if q.1 6 = 1 then q.1 4 - x2 else q.1 2 + x1
def crR (q : tPh) (x1 x2 : Int) : Int := if q.1 6 = 1 then q.1 4 - x1 else q.1 2 + x2
def crQ (q : tPh) (x1 y1 x2 y2 : Int) : tPh := frQ q (crL q x1 x2) (q.1 3 + y1) (crR q x1 x2) (q.1 3 + y2)
theorem up1_sw {F : Nat → Int} {i j : Nat} {a b : Int} (h : i ≠ j) : up1 (up1 F i a) j b = up1 (up1 F j b) i a := by
  funext x
  unfold up1
  by_cases c : x = j
  · rw [if_pos c, if_neg (by omega), if_pos c]
  · rw [if_neg c]
    by_cases c2 : x = i
    · rw [if_pos c2, if_pos c2]
    · rw [if_neg c2, if_neg c2, if_neg c]
theorem cr_rng {q : tPh} (hr : phR q) {x1 y1 x2 y2 : Int} (hc : isCr q x1 y1 x2 y2 = true) : (0 ≤ crL q x1 x2 ∧ crL q x1 x2 ≤ 999) ∧ (0 ≤ q.1 3 + y1 ∧ q.1 3 + y1 ≤ 999) ∧ (0 ≤ crR q x1 x2 ∧ crR q x1 x2 ≤ 999) ∧ (0 ≤ q.1 3 + y2 ∧ q.1 3 + y2 ≤ 999) ∧ crL q x1 x2 ≤ crR q x1 x2 ∧ q.1 3 + y1 ≤ q.1 3 + y2 := by
  have s := phR_s hr
  obtain ⟨a1, a2, a3, a4⟩ := isCr_t.mp hc
  unfold crL crR
  refine ⟨?_, by omega, ?_, by omega, ?_, by omega⟩ <;> split <;> omega
section CRP
variable {z : Bool} {h : am_H} {C : tCl} {M : tMd} {a : Nat} {q : tPh}
theorem m348 (ha : isPh a) (hr : phR q) {x1 y1 x2 y2 : Int} (hc : isCr q x1 y1 x2 y2 = true) : ru_ev z 348 [.ref a, .int (wI x1), .int (wI y1), .int (wI x2), .int (wI y2)] (clPut h (phP C a q)) = some (.inl none, clPut h (phP C a (crQ q x1 y1 x2 y2))) := by
  have s := phR_s hr
  obtain ⟨a1, a2, a3, a4⟩ := isCr_t.mp hc
  have e : crQ q x1 y1 x2 y2 = (up1 (up1 (up1 (up1 q.1 2 (crL q x1 x2)) 4 (crR q x1 x2)) 5 (q.1 3 + y2)) 3 (q.1 3 + y1), q.2) := by
    unfold crQ frQ
    refine Prod.ext ?_ rfl
    dsimp only
    rw [up1_sw (i := 5) (j := 3) (by decide), up1_sw (i := 4) (j := 3) (by decide)]
  rw [e]
  unfold crL crR
  by_cases c : q.1 6 = 1
  · rw [if_pos c, if_pos c]
    have d1 : (q.1 6 = 0) = False := eq_false (by omega)
    simp (disch := omega) only [en348, e348_0, e348_1, e348_4, e348_6, e348_7, e348_10, e348_12, e348_13, e348_14, e348_17, e348_20, e348_22, e348_23, e348_24, e348_27, e348_29, e348_30, e348_31, e348_34, e348_35, e348_36, e348_39, e348_42, e348_44, e348_45, e348_46, e348_49, e348_51, e348_52, e348_53, e348_56, e348_57, e348_58, e348_61, e348_63, e348_64, e348_67, e348_68, e348_69, e348_72, e348_73, e348_74, e348_77, ↓reduceIte, Bool.false_eq_true, not_false_eq_true, not_true_eq_false, Nat.reduceLeDiff, Nat.reduceAdd, Nat.reduceEqDiff, Int.reduceToNat, Int.toNat_natCast, iB0, iB1, ru_klI, ru_klR, ru_klF, ru_klJ, ru_kl0, ru_cs0, ru_csI, ru_csR, ru_csF, ru_csJ, wI_add, wI_sub, wI_mul, wI_lt, wI_le, wI_inj, ru_fdE, ru_fdN, ru_iaN, ru_baN, ru_laN, ru_qaN, ru_pfN, ru_isN, ru_bsN, ru_jsN, ru_qsN, ru_set2, Nat.add_right_cancel_iff, if_true, if_false, ite_self, Int.reduceEq, and_self, Int.add_neg_cancel_right, Int.add_zero, Int.zero_add, ph_e ha, ph_f0 ha, ph_s0 ha, ph_f1 ha, ph_s1 ha, ph_f2 ha, ph_s2 ha, ph_f3 ha, ph_s3 ha, ph_f4 ha, ph_s4 ha, ph_f5 ha, ph_s5 ha, ph_f6 ha, ph_s6 ha, ph_f7 ha, ph_s7 ha, ph_f8 ha, ph_a0 ha, ph_w0 ha, ph_f9 ha, ph_a1 ha, ph_w1 ha, ph_f10 ha, ph_a2 ha, ph_w2 ha, ph_f11 ha, ph_a3 ha, ph_w3 ha, Int.reduceEq, ru_ctR, ru_ctI, upC_e, upC_n, upC_up, up1_e, up1_n, d1]
  · rw [if_neg c, if_neg c]
    have d1 : (q.1 6 = 0) = True := eq_true (by omega)
    simp (disch := omega) only [en348, e348_0, e348_1, e348_4, e348_6, e348_7, e348_10, e348_12, e348_13, e348_14, e348_17, e348_20, e348_22, e348_23, e348_24, e348_27, e348_29, e348_30, e348_31, e348_34, e348_35, e348_36, e348_39, e348_42, e348_44, e348_45, e348_46, e348_49, e348_51, e348_52, e348_53, e348_56, e348_57, e348_58, e348_61, e348_63, e348_64, e348_67, e348_68, e348_69, e348_72, e348_73, e348_74, e348_77, ↓reduceIte, Bool.false_eq_true, not_false_eq_true, not_true_eq_false, Nat.reduceLeDiff, Nat.reduceAdd, Nat.reduceEqDiff, Int.reduceToNat, Int.toNat_natCast, iB0, iB1, ru_klI, ru_klR, ru_klF, ru_klJ, ru_kl0, ru_cs0, ru_csI, ru_csR, ru_csF, ru_csJ, wI_add, wI_sub, wI_mul, wI_lt, wI_le, wI_inj, ru_fdE, ru_fdN, ru_iaN, ru_baN, ru_laN, ru_qaN, ru_pfN, ru_isN, ru_bsN, ru_jsN, ru_qsN, ru_set2, Nat.add_right_cancel_iff, if_true, if_false, ite_self, Int.reduceEq, and_self, Int.add_neg_cancel_right, Int.add_zero, Int.zero_add, ph_e ha, ph_f0 ha, ph_s0 ha, ph_f1 ha, ph_s1 ha, ph_f2 ha, ph_s2 ha, ph_f3 ha, ph_s3 ha, ph_f4 ha, ph_s4 ha, ph_f5 ha, ph_s5 ha, ph_f6 ha, ph_s6 ha, ph_f7 ha, ph_s7 ha, ph_f8 ha, ph_a0 ha, ph_w0 ha, ph_f9 ha, ph_a1 ha, ph_w1 ha, ph_f10 ha, ph_a2 ha, ph_w2 ha, ph_f11 ha, ph_a3 ha, ph_w3 ha, Int.reduceEq, ru_ctR, ru_ctI, upC_e, upC_n, upC_up, up1_e, up1_n, d1]
theorem c347 (hR : clR C) (hH : hiC C) (hA : phA C) {f x1 y1 x2 y2 : Int} (g : -2147483648 ≤ f ∧ f < 2147483648) (g1 : -2147483648 ≤ x1 ∧ x1 < 2147483648) (g2 : -2147483648 ≤ y1 ∧ y1 < 2147483648) (g3 : -2147483648 ≤ x2 ∧ x2 < 2147483648) (g4 : -2147483648 ≤ y2 ∧ y2 < 2147483648) : ∃ t v C', ru_ev z 347 [.ref 1000, .int (wI f), .int (wI x1), .int (wI y1), .int (wI x2), .int (wI y2)] (clPut h C) = oR t (some (.int (wI v))) (clPut h C') (clPut (thr h) C') ∧ chG C f.toNat (if rcP C f = 0 then (if isCr (cph C (cAp C f.toNat)) x1 y1 x2 y2 = true then 0 else 3) else rcP C f) (fun q' v => q' = crQ (cph C (cAp C f.toNat)) x1 y1 x2 y2 ∧ v = (cnB (shw (cph C (cAp C f.toNat))) ((cph C (cAp C f.toNat)).1 7).toNat : Nat) - (cnB (shw q') ((cph C (cAp C f.toNat)).1 7).toNat : Nat)) t v C' := by
  have e1 := d78 (z := z) (h := h) hR g
  by_cases e : rcP C f = 0
  · rw [oR_0 e] at e1
    rw [if_pos e]
    have hf := rcP_5 hR e
    have ha := cAp_ph hR.1 hf
    obtain ⟨hp, hq⟩ := dph (h := h) hR e
    have e2 := m285 (z := z) hp hq g1 g2 g3 g4
    by_cases e3 : isCr (cph C (cAp C f.toNat)) x1 y1 x2 y2 = true
    · rw [if_pos e3, oR_0 rfl] at e2
      rw [if_pos e3]
      obtain ⟨C1, k1, k2⟩ := c113p (z := z) (h := h) hR hH hA hf
      generalize hqq : cph C (cAp C f.toNat) = q at *
      have hz : ∀ c, 4 ≤ c → q.2 c = fun _ => 0 := fun c hc => by rw [← hqq]; exact cph_hi _ _ c hc
      have s := phR_s hq
      obtain ⟨r1, r2, r3, r4, -, -⟩ := cr_rng hq e3
      have hqR := frQ_R hq r1 r2 r3 r4
      obtain ⟨m1, m2⟩ := k_cnt (z := z) (h := clPut h (phP C1 (cAp C f.toNat) q)) (ph_at ha hz) hq
      obtain ⟨m3, m4⟩ := k_cnt (z := z) (h := clPut h (phP C1 (cAp C f.toNat) (crQ q x1 y1 x2 y2))) (ph_at ha hz) hqR
      have e8 : crQ q x1 y1 x2 y2 = frQ q (crL q x1 x2) (q.1 3 + y1) (crR q x1 x2) (q.1 3 + y2) := rfl
      have m5 := m348 (z := z) (h := h) (C := C1) ha hq e3
      have e7 : (crQ q x1 y1 x2 y2).1 7 = q.1 7 := rfl
      rw [e7] at m3
      rw [e7] at m4
      refine ⟨0, _, phP C1 (cAp C f.toNat) (crQ q x1 y1 x2 y2), ?_, Or.inr ⟨rfl, rfl, C1, _, k1, rfl, rfl, rfl⟩⟩
      rw [oR_0 rfl]
      simp (disch := omega) only [en347, e347_0, e347_1, e347_2, e347_5, e347_7, e347_9, e347_10, e347_11, e347_13, e347_15, e347_18, e347_19, e347_22, e347_23, e347_26, e347_29, e347_32, e347_34, e347_37, e347_40, e347_42, e347_44, e347_45, e347_46, e347_48, e347_50, e347_53, e347_55, e347_57, e347_60, e347_63, e347_64, ↓reduceIte, Bool.false_eq_true, not_false_eq_true, not_true_eq_false, Nat.reduceLeDiff, Nat.reduceAdd, Nat.reduceEqDiff, Int.reduceToNat, Int.toNat_natCast, iB0, iB1, ru_klI, ru_klR, ru_klF, ru_klJ, ru_kl0, ru_cs0, ru_csI, ru_csR, ru_csF, ru_csJ, wI_add, wI_sub, wI_mul, wI_lt, wI_le, wI_inj, ru_fdE, ru_fdN, ru_iaN, ru_baN, ru_laN, ru_qaN, ru_pfN, ru_isN, ru_bsN, ru_jsN, ru_qsN, ru_set2, Nat.add_right_cancel_iff, if_true, if_false, ite_self, Int.reduceEq, and_self, Int.add_neg_cancel_right, Int.add_zero, Int.zero_add, cl_e0, cl_g0_6, clF hR.1, e1, e2, k2, m1, m2, m3, m4, m5]
    · rw [if_neg e3, oR_n (by decide)] at e2
      rw [if_neg e3]
      refine ⟨3, 0, C, ?_, Or.inl ⟨by decide, rfl, rfl⟩⟩
      rw [oR_n (by decide)]
      simp (disch := omega) only [en347, e347_0, e347_1, e347_2, e347_5, e347_7, e347_9, e347_10, e347_11, e347_13, e347_15, e347_18, e347_19, e347_22, e347_23, e347_26, e347_29, e347_32, e347_34, e347_37, e347_40, e347_42, e347_44, e347_45, e347_46, e347_48, e347_50, e347_53, e347_55, e347_57, e347_60, e347_63, e347_64, ↓reduceIte, Bool.false_eq_true, not_false_eq_true, not_true_eq_false, Nat.reduceLeDiff, Nat.reduceAdd, Nat.reduceEqDiff, Int.reduceToNat, Int.toNat_natCast, iB0, iB1, ru_klI, ru_klR, ru_klF, ru_klJ, ru_kl0, ru_cs0, ru_csI, ru_csR, ru_csF, ru_csJ, wI_add, wI_sub, wI_mul, wI_lt, wI_le, wI_inj, ru_fdE, ru_fdN, ru_iaN, ru_baN, ru_laN, ru_qaN, ru_pfN, ru_isN, ru_bsN, ru_jsN, ru_qsN, ru_set2, Nat.add_right_cancel_iff, if_true, if_false, ite_self, Int.reduceEq, and_self, Int.add_neg_cancel_right, Int.add_zero, Int.zero_add, cl_e0, e1, e2]
      rfl
  · rw [oR_n e] at e1
    rw [if_neg e]
    refine ⟨rcP C f, 0, C, ?_, Or.inl ⟨e, rfl, rfl⟩⟩
    rw [oR_n e]
    simp (disch := omega) only [en347, e347_0, e347_1, e347_2, e347_5, e347_7, e347_9, e347_10, e347_11, e347_13, e347_15, e347_18, e347_19, e347_22, e347_23, e347_26, e347_29, e347_32, e347_34, e347_37, e347_40, e347_42, e347_44, e347_45, e347_46, e347_48, e347_50, e347_53, e347_55, e347_57, e347_60, e347_63, e347_64, ↓reduceIte, Bool.false_eq_true, not_false_eq_true, not_true_eq_false, Nat.reduceLeDiff, Nat.reduceAdd, Nat.reduceEqDiff, Int.reduceToNat, Int.toNat_natCast, iB0, iB1, ru_klI, ru_klR, ru_klF, ru_klJ, ru_kl0, ru_cs0, ru_csI, ru_csR, ru_csF, ru_csJ, wI_add, wI_sub, wI_mul, wI_lt, wI_le, wI_inj, ru_fdE, ru_fdN, ru_iaN, ru_baN, ru_laN, ru_qaN, ru_pfN, ru_isN, ru_bsN, ru_jsN, ru_qsN, ru_set2, Nat.add_right_cancel_iff, if_true, if_false, ite_self, Int.reduceEq, and_self, Int.add_neg_cancel_right, Int.add_zero, Int.zero_add, cl_e0, e1]
theorem p349 (hM : mdR M) (hg : rgI M) {f x1 y1 x2 y2 : Int} (g : -2147483648 ≤ f ∧ f < 2147483648) (g1 : -2147483648 ≤ x1 ∧ x1 < 2147483648) (g2 : -2147483648 ≤ y1 ∧ y1 < 2147483648) (g3 : -2147483648 ≤ x2 ∧ x2 < 2147483648) (g4 : -2147483648 ≤ y2 ∧ y2 < 2147483648) : ∃ b M', ru_ev z 349 [.ref 1315, .int (wI f), .int (wI x1), .int (wI y1), .int (wI x2), .int (wI y2)] (mdPut h M) = some (.inl (some (.int (wI b))), mdPut h M') ∧ chH M (rfC M f x1 y1 x2 y2) (fun S' b => S' = frS (M.2 0) f.toNat (crL (mph M f.toNat) x1 x2) ((mph M f.toNat).1 3 + y1) (crR (mph M f.toNat) x1 x2) ((mph M f.toNat).1 3 + y2) ∧ b = (cnB (shw (mph M f.toNat)) ((mph M f.toNat).1 7).toNat : Nat) - (cnB (shw (msf S' (M.2 8) (M.2 9) f.toNat)) ((mph M f.toNat).1 7).toNat : Nat)) b M' := by
  have e := p117 (z := z) (h := h) hM g
  unfold rfC
  by_cases e1 : rfP M f = 0
  · obtain ⟨n, hn, rfl, hq⟩ := mph_at hM e1
    have s := phR_s hq
    simp only [e1, if_true] at e ⊢
    simp only [Int.toNat_natCast]
    have ec := p287 (z := z) (h := h) (M := mdT M 0) hn (by rw [mph_T]; exact hq) g1 g2 g3 g4
    rw [mph_T] at ec
    by_cases e3 : isCr (mph M n) x1 y1 x2 y2 = true
    · simp only [if_pos e3] at ec ⊢
      obtain ⟨n', G', k1, k2⟩ := p350 (z := z) (h := h) (M := mdT M 0) hM.2.2.1
      have q0 : upC (mdT M 0).2 1 G' 0 = M.2 0 := upC_n (by decide)
      have eN : (up1 (mdT M 0).1 4 n', upC (mdT M 0).2 1 G') = ((up1 (mdT M 0).1 4 n', upC (mdT M 0).2 1 G').1, upC (up1 (mdT M 0).1 4 n', upC (mdT M 0).2 1 G').2 0 (M.2 0)) := by
        dsimp only
        rw [← q0, upC_self]
      obtain ⟨r1, r2, r3, r4, -, -⟩ := cr_rng hq e3
      generalize hNN : (up1 (mdT M 0).1 4 n', upC (mdT M 0).2 1 G') = N at *
      have n8 : N.2 8 = M.2 8 := by rw [← hNN]; rfl
      have n9 : N.2 9 = M.2 9 := by rw [← hNN]; rfl
      have n0 : N.2 0 = M.2 0 := by rw [← hNN]; exact q0
      have hmp : mph N n = mph M n := by rw [mph_f, mph_f, n8, n9, n0]
      obtain ⟨m1, m2⟩ := p_cn2 (z := z) (h := h) (M := N) hn (by rw [hmp]; exact hq)
      rw [hmp] at m1 m2
      have x4 := p123 (z := z) (h := h) (M := N) hn (w := 4) (by decide) (by decide)
      have x0 := p123 (z := z) (h := h) (M := N) hn (w := 0) (by decide) (by decide)
      have x2' := p123 (z := z) (h := h) (M := N) hn (w := 2) (by decide) (by decide)
      have x1' := p123 (z := z) (h := h) (M := N) hn (w := 1) (by decide) (by decide)
      rw [n0, show M.2 0 (54 * n + (4 : Int).toNat) = (mph M n).1 6 from rfl] at x4
      rw [n0, show M.2 0 (54 * n + (0 : Int).toNat) = (mph M n).1 2 from rfl] at x0
      rw [n0, show M.2 0 (54 * n + (2 : Int).toNat) = (mph M n).1 4 from rfl] at x2'
      rw [n0, show M.2 0 (54 * n + (1 : Int).toNat) = (mph M n).1 3 from rfl] at x1'
      have hsr : srR (frS (M.2 0) n (crL (mph M n) x1 x2) ((mph M n).1 3 + y1) (crR (mph M n) x1 x2) ((mph M n).1 3 + y2)) := by
        unfold frS
        exact srR_up (srR_up (srR_up (srR_up (srR_of hM) (fun f hf => ⟨fun c => by omega, fun c => by omega, fun i hi => ⟨fun c => by omega, fun c => by omega⟩⟩)) (fun f hf => ⟨fun c => by omega, fun c => by omega, fun i hi => ⟨fun c => by omega, fun c => by omega⟩⟩)) (fun f hf => ⟨fun c => by omega, fun c => by omega, fun i hi => ⟨fun c => by omega, fun c => by omega⟩⟩)) (fun f hf => ⟨fun c => by omega, fun c => by omega, fun i hi => ⟨fun c => by omega, fun c => by omega⟩⟩)
      have hcw : ∀ (l t r b : Int), up1 (up1 (up1 (up1 (M.2 0) (54 * n) l) (54 * n + 2) r) (54 * n + 1) t) (54 * n + 3) b = frS (M.2 0) n l t r b := fun l t r b => by
        unfold frS
        rw [up1_sw (i := 54 * n + 2) (j := 54 * n + 1) (by omega)]
      obtain ⟨l, hl⟩ : ∃ l, l = crL (mph M n) x1 x2 := ⟨_, rfl⟩
      obtain ⟨r, hrr⟩ : ∃ r, r = crR (mph M n) x1 x2 := ⟨_, rfl⟩
      rw [← hl] at r1 hsr ⊢
      rw [← hrr] at r3 hsr ⊢
      have hrg : ∀ j, 0 ≤ frS (M.2 0) n l ((mph M n).1 3 + y1) r ((mph M n).1 3 + y2) j ∧ frS (M.2 0) n l ((mph M n).1 3 + y1) r ((mph M n).1 3 + y2) j ≤ 999 := fun j => by
        have := hg.1 j
        unfold frS up1
        repeat' split
        all_goals omega
      have hpm := frS_ph (M := M) (n := n) (l := l) (t := (mph M n).1 3 + y1) (r := r) (b := (mph M n).1 3 + y2) (N := N) n0 n8 n9
      obtain ⟨m3, m4⟩ := p_cn2 (z := z) (h := h) (M := (N.1, upC N.2 0 (frS (M.2 0) n l ((mph M n).1 3 + y1) r ((mph M n).1 3 + y2)))) hn (by rw [hpm]; exact phR_msf hrg hg.2.2.1 hg.2.2.2.1 hsr hn)
      rw [hpm] at m3 m4
      have e7 : (msf (frS (M.2 0) n l ((mph M n).1 3 + y1) r ((mph M n).1 3 + y2)) (M.2 8) (M.2 9) n).1 7 = (mph M n).1 7 := by
        show frS (M.2 0) n l ((mph M n).1 3 + y1) r ((mph M n).1 3 + y2) (54 * n + 5) = M.2 0 (54 * n + 5)
        unfold frS up1
        rw [if_neg (by omega), if_neg (by omega), if_neg (by omega), if_neg (by omega)]
      rw [e7] at m3 m4
      have w0 := fr_w (h := h) (N := N) hn (S0 := M.2 0) (i := 0) (by decide) (v := l)
      have w1 := fr_w (h := h) (N := N) hn (S0 := up1 (M.2 0) (54 * n) l) (i := 2) (by decide) (v := r)
      have w2 := fr_w (h := h) (N := N) hn (S0 := up1 (up1 (M.2 0) (54 * n) l) (54 * n + 2) r) (i := 1) (by decide) (v := (mph M n).1 3 + y1)
      have w3 := fr_w (h := h) (N := N) hn (S0 := up1 (up1 (up1 (M.2 0) (54 * n) l) (54 * n + 2) r) (54 * n + 1) ((mph M n).1 3 + y1)) (i := 3) (by decide) (v := (mph M n).1 3 + y2)
      rw [← eN] at w0
      rw [hcw] at w3
      simp only [Int.natCast_zero, Int.add_zero, Int.natCast_one, Nat.add_zero] at w0 w2
      rw [show ((2 : Nat) : Int) = 2 from rfl] at w1
      rw [show ((3 : Nat) : Int) = 3 from rfl] at w3
      refine ⟨_, (N.1, upC N.2 0 (frS (M.2 0) n l ((mph M n).1 3 + y1) r ((mph M n).1 3 + y2))), ?_, Or.inr ⟨rfl, n', G', frS (M.2 0) n l ((mph M n).1 3 + y1) r ((mph M n).1 3 + y2), k1, by rw [← hNN]; rfl, rfl, rfl⟩⟩
      unfold crL at hl
      unfold crR at hrr
      by_cases c : (mph M n).1 6 = 1
      · rw [if_pos c] at hl hrr
        have d1 : ((mph M n).1 6 = 1) = True := eq_true c
        rw [hl] at w0 w1 w2 w3 m3 m4 ⊢
        rw [hrr] at w1 w2 w3 m3 m4 ⊢
        simp (disch := omega) only [en349, e349_0, e349_1, e349_2, e349_5, e349_8, e349_9, e349_10, e349_11, e349_12, e349_13, e349_15, e349_17, e349_20, e349_23, e349_24, e349_27, e349_28, e349_29, e349_32, e349_35, e349_36, e349_37, e349_38, e349_41, e349_42, e349_43, e349_46, e349_49, e349_51, e349_52, e349_53, e349_54, e349_57, e349_58, e349_61, e349_62, e349_65, e349_66, e349_68, e349_69, e349_70, e349_71, e349_74, e349_76, e349_77, e349_78, e349_79, e349_82, e349_84, e349_85, e349_86, e349_87, e349_90, e349_92, e349_93, e349_96, e349_98, e349_99, e349_100, e349_101, e349_102, e349_104, e349_107, e349_109, e349_111, e349_112, e349_115, e349_117, e349_118, e349_119, e349_120, e349_121, e349_124, e349_126, e349_127, e349_128, e349_129, e349_130, e349_132, e349_135, e349_137, e349_138, e349_139, e349_142, e349_144, e349_146, e349_147, e349_148, e349_149, e349_152, e349_154, e349_155, e349_156, e349_157, e349_158, e349_160, e349_161, e349_162, e349_163, e349_164, e349_167, e349_169, e349_170, e349_171, e349_172, e349_173, e349_175, e349_177, e349_178, e349_179, e349_181, e349_182, e349_183, e349_186, e349_189, e349_190, ↓reduceIte, Bool.false_eq_true, not_false_eq_true, not_true_eq_false, Nat.reduceLeDiff, Nat.reduceAdd, Nat.reduceEqDiff, Int.reduceToNat, Int.toNat_natCast, iB0, iB1, ru_klI, ru_klR, ru_klF, ru_klJ, ru_kl0, ru_cs0, ru_csI, ru_csR, ru_csF, ru_csJ, wI_add, wI_sub, wI_mul, wI_lt, wI_le, wI_inj, ru_fdE, ru_fdN, ru_iaN, ru_baN, ru_laN, ru_qaN, ru_pfN, ru_isN, ru_bsN, ru_jsN, ru_qsN, ru_set2, Nat.add_right_cancel_iff, if_true, if_false, ite_self, Int.reduceEq, and_self, Int.add_neg_cancel_right, Int.add_zero, Int.zero_add, md_e, md_f2, e, ec, p54, k2, m1, m2, m3, m4, w0, w1, w2, w3, x0, x1', x2', x4, d1, not_true]
      · rw [if_neg c] at hl hrr
        have d1 : ((mph M n).1 6 = 1) = False := eq_false c
        rw [hl] at w0 w1 w2 w3 m3 m4 ⊢
        rw [hrr] at w1 w2 w3 m3 m4 ⊢
        simp (disch := omega) only [en349, e349_0, e349_1, e349_2, e349_5, e349_8, e349_9, e349_10, e349_11, e349_12, e349_13, e349_15, e349_17, e349_20, e349_23, e349_24, e349_27, e349_28, e349_29, e349_32, e349_35, e349_36, e349_37, e349_38, e349_41, e349_42, e349_43, e349_46, e349_49, e349_51, e349_52, e349_53, e349_54, e349_57, e349_58, e349_61, e349_62, e349_65, e349_66, e349_68, e349_69, e349_70, e349_71, e349_74, e349_76, e349_77, e349_78, e349_79, e349_82, e349_84, e349_85, e349_86, e349_87, e349_90, e349_92, e349_93, e349_96, e349_98, e349_99, e349_100, e349_101, e349_102, e349_104, e349_107, e349_109, e349_111, e349_112, e349_115, e349_117, e349_118, e349_119, e349_120, e349_121, e349_124, e349_126, e349_127, e349_128, e349_129, e349_130, e349_132, e349_135, e349_137, e349_138, e349_139, e349_142, e349_144, e349_146, e349_147, e349_148, e349_149, e349_152, e349_154, e349_155, e349_156, e349_157, e349_158, e349_160, e349_161, e349_162, e349_163, e349_164, e349_167, e349_169, e349_170, e349_171, e349_172, e349_173, e349_175, e349_177, e349_178, e349_179, e349_181, e349_182, e349_183, e349_186, e349_189, e349_190, ↓reduceIte, Bool.false_eq_true, not_false_eq_true, not_true_eq_false, Nat.reduceLeDiff, Nat.reduceAdd, Nat.reduceEqDiff, Int.reduceToNat, Int.toNat_natCast, iB0, iB1, ru_klI, ru_klR, ru_klF, ru_klJ, ru_kl0, ru_cs0, ru_csI, ru_csR, ru_csF, ru_csJ, wI_add, wI_sub, wI_mul, wI_lt, wI_le, wI_inj, ru_fdE, ru_fdN, ru_iaN, ru_baN, ru_laN, ru_qaN, ru_pfN, ru_isN, ru_bsN, ru_jsN, ru_qsN, ru_set2, Nat.add_right_cancel_iff, if_true, if_false, ite_self, Int.reduceEq, and_self, Int.add_neg_cancel_right, Int.add_zero, Int.zero_add, md_e, md_f2, e, ec, p54, k2, m1, m2, m3, m4, w0, w1, w2, w3, x0, x1', x2', x4, d1, not_false_iff]
    · simp only [if_neg e3] at ec ⊢
      refine ⟨0, mdT M 3, ?_, Or.inl ⟨by decide, rfl⟩⟩
      simp (disch := omega) only [en349, e349_0, e349_1, e349_2, e349_5, e349_8, e349_9, e349_10, e349_11, e349_12, e349_13, e349_15, e349_17, e349_20, e349_23, e349_24, e349_27, e349_28, e349_29, e349_32, e349_35, e349_36, e349_37, e349_38, e349_41, e349_42, e349_43, e349_46, e349_49, e349_51, e349_52, e349_53, e349_54, e349_57, e349_58, e349_61, e349_62, e349_65, e349_66, e349_68, e349_69, e349_70, e349_71, e349_74, e349_76, e349_77, e349_78, e349_79, e349_82, e349_84, e349_85, e349_86, e349_87, e349_90, e349_92, e349_93, e349_96, e349_98, e349_99, e349_100, e349_101, e349_102, e349_104, e349_107, e349_109, e349_111, e349_112, e349_115, e349_117, e349_118, e349_119, e349_120, e349_121, e349_124, e349_126, e349_127, e349_128, e349_129, e349_130, e349_132, e349_135, e349_137, e349_138, e349_139, e349_142, e349_144, e349_146, e349_147, e349_148, e349_149, e349_152, e349_154, e349_155, e349_156, e349_157, e349_158, e349_160, e349_161, e349_162, e349_163, e349_164, e349_167, e349_169, e349_170, e349_171, e349_172, e349_173, e349_175, e349_177, e349_178, e349_179, e349_181, e349_182, e349_183, e349_186, e349_189, e349_190, ↓reduceIte, Bool.false_eq_true, not_false_eq_true, not_true_eq_false, Nat.reduceLeDiff, Nat.reduceAdd, Nat.reduceEqDiff, Int.reduceToNat, Int.toNat_natCast, iB0, iB1, ru_klI, ru_klR, ru_klF, ru_klJ, ru_kl0, ru_cs0, ru_csI, ru_csR, ru_csF, ru_csJ, wI_add, wI_sub, wI_mul, wI_lt, wI_le, wI_inj, ru_fdE, ru_fdN, ru_iaN, ru_baN, ru_laN, ru_qaN, ru_pfN, ru_isN, ru_bsN, ru_jsN, ru_qsN, ru_set2, Nat.add_right_cancel_iff, if_true, if_false, ite_self, Int.reduceEq, and_self, Int.add_neg_cancel_right, Int.add_zero, Int.zero_add, md_e, e, ec, p54, mdT_T]
  · simp only [e1, if_false] at e ⊢
    refine ⟨0, mdT M (rfP M f), ?_, Or.inl ⟨e1, rfl⟩⟩
    simp (disch := omega) only [en349, e349_0, e349_1, e349_2, e349_5, e349_8, e349_9, e349_10, e349_11, e349_12, e349_13, e349_15, e349_17, e349_20, e349_23, e349_24, e349_27, e349_28, e349_29, e349_32, e349_35, e349_36, e349_37, e349_38, e349_41, e349_42, e349_43, e349_46, e349_49, e349_51, e349_52, e349_53, e349_54, e349_57, e349_58, e349_61, e349_62, e349_65, e349_66, e349_68, e349_69, e349_70, e349_71, e349_74, e349_76, e349_77, e349_78, e349_79, e349_82, e349_84, e349_85, e349_86, e349_87, e349_90, e349_92, e349_93, e349_96, e349_98, e349_99, e349_100, e349_101, e349_102, e349_104, e349_107, e349_109, e349_111, e349_112, e349_115, e349_117, e349_118, e349_119, e349_120, e349_121, e349_124, e349_126, e349_127, e349_128, e349_129, e349_130, e349_132, e349_135, e349_137, e349_138, e349_139, e349_142, e349_144, e349_146, e349_147, e349_148, e349_149, e349_152, e349_154, e349_155, e349_156, e349_157, e349_158, e349_160, e349_161, e349_162, e349_163, e349_164, e349_167, e349_169, e349_170, e349_171, e349_172, e349_173, e349_175, e349_177, e349_178, e349_179, e349_181, e349_182, e349_183, e349_186, e349_189, e349_190, ↓reduceIte, Bool.false_eq_true, not_false_eq_true, not_true_eq_false, Nat.reduceLeDiff, Nat.reduceAdd, Nat.reduceEqDiff, Int.reduceToNat, Int.toNat_natCast, iB0, iB1, ru_klI, ru_klR, ru_klF, ru_klJ, ru_kl0, ru_cs0, ru_csI, ru_csR, ru_csF, ru_csJ, wI_add, wI_sub, wI_mul, wI_lt, wI_le, wI_inj, ru_fdE, ru_fdN, ru_iaN, ru_baN, ru_laN, ru_qaN, ru_pfN, ru_isN, ru_bsN, ru_jsN, ru_qsN, ru_set2, Nat.add_right_cancel_iff, if_true, if_false, ite_self, Int.reduceEq, and_self, Int.add_neg_cancel_right, Int.add_zero, Int.zero_add, md_e, e]
end CRP
