/-! ===== a person added: both sides ===== -/
def adX (q : tPh) (x : Int) : Int := if q.1 6 = 1 then q.1 4 - x else q.1 2 + x
def adQ (q : tPh) (px py : Int) : tPh := (up1 q.1 7 (q.1 7 + 1), upC (upC (upC (upC q.2 0 (up1 (q.2 0) (q.1 7).toNat px)) 1 (up1 (q.2 1) (q.1 7).toNat py)) 2 (up1 (q.2 2) (q.1 7).toNat 0)) 3 (up1 (q.2 3) (q.1 7).toNat (-1)))
def adS (S : Nat → Int) (n m : Nat) (px py : Int) : Nat → Int := up1 (up1 (up1 (up1 (up1 S (54 * n + 5) ((m : Int) + 1)) (54 * n + 6 + 4 * m + 0) px) (54 * n + 6 + 4 * m + 1) py) (54 * n + 6 + 4 * m + 2) 0) (54 * n + 6 + 4 * m + 3) 0
theorem adS_n {S : Nat → Int} {n m : Nat} {px py : Int} {x : Nat} (h : x ≠ 54 * n + 5) (h0 : x < 54 * n + 6 + 4 * m ∨ 54 * n + 6 + 4 * m + 3 < x) : adS S n m px py x = S x := by
  unfold adS up1
  rw [if_neg (by omega), if_neg (by omega), if_neg (by omega), if_neg (by omega), if_neg (by omega)]
theorem adS_5 {S : Nat → Int} {n m : Nat} {px py : Int} : adS S n m px py (54 * n + 5) = m + 1 := by
  unfold adS up1
  rw [if_neg (by omega), if_neg (by omega), if_neg (by omega), if_neg (by omega), if_pos rfl]
theorem adS_x {S : Nat → Int} {n m : Nat} {px py : Int} : adS S n m px py (54 * n + 6 + 4 * m + 0) = px ∧ adS S n m px py (54 * n + 6 + 4 * m + 1) = py ∧ adS S n m px py (54 * n + 6 + 4 * m + 2) = 0 ∧ adS S n m px py (54 * n + 6 + 4 * m + 3) = 0 := by
  unfold adS up1
  refine ⟨?_, ?_, ?_, ?_⟩
  · rw [if_neg (by omega), if_neg (by omega), if_neg (by omega), if_pos rfl]
  · rw [if_neg (by omega), if_neg (by omega), if_pos rfl]
  · rw [if_neg (by omega), if_pos rfl]
  · rw [if_pos rfl]
theorem msf_c {S W H : Nat → Int} {f i : Nat} (hi : i < 12) : (msf S W H f).2 0 i = S (54 * f + 6 + 4 * i + 0) ∧ (msf S W H f).2 1 i = S (54 * f + 6 + 4 * i + 1) ∧ (msf S W H f).2 2 i = S (54 * f + 6 + 4 * i + 2) ∧ (msf S W H f).2 3 i = S (54 * f + 6 + 4 * i + 3) - 1 := by
  unfold msf
  dsimp only
  simp only [Nat.reduceEqDiff, if_false, Nat.reduceLT, if_true, if_pos hi, and_self]
theorem adQ_c {q : tPh} {px py : Int} : (adQ q px py).2 0 = up1 (q.2 0) (q.1 7).toNat px ∧ (adQ q px py).2 1 = up1 (q.2 1) (q.1 7).toNat py ∧ (adQ q px py).2 2 = up1 (q.2 2) (q.1 7).toNat 0 ∧ (adQ q px py).2 3 = up1 (q.2 3) (q.1 7).toNat (-1) ∧ (∀ c, 4 ≤ c → (adQ q px py).2 c = q.2 c) ∧ (adQ q px py).1 7 = q.1 7 + 1 ∧ ∀ k, k ≠ 7 → (adQ q px py).1 k = q.1 k := by
  refine ⟨rfl, rfl, rfl, rfl, fun c hc => ?_, rfl, fun k hk => up1_n hk⟩
  show upC (upC (upC (upC q.2 0 (up1 (q.2 0) (q.1 7).toNat px)) 1 (up1 (q.2 1) (q.1 7).toNat py)) 2 (up1 (q.2 2) (q.1 7).toNat 0)) 3 (up1 (q.2 3) (q.1 7).toNat (-1)) c = q.2 c
  rw [upC_n (by omega), upC_n (by omega), upC_n (by omega), upC_n (by omega)]
theorem adQ_R {q : tPh} {px py : Int} (hr : phR q) (h12 : q.1 7 < 12) (hx : 0 ≤ px ∧ px ≤ 999) (hy : 0 ≤ py ∧ py ≤ 999) : phR (adQ q px py) := by
  obtain ⟨c0, c1, c2, c3, c4, f7, fk⟩ := adQ_c (q := q) (px := px) (py := py)
  have s := phR_s hr
  refine ⟨fun k => ?_, by rw [fk 6 (by decide)]; exact hr.2.1, by rw [f7]; omega, fun c i => ?_, fun i => ?_, fun i => ?_⟩
  · by_cases e : k = 7
    · subst e; rw [f7]; omega
    · rw [fk k e]; exact hr.1 k
  · have e := hr.2.2.2.1 c i
    have hc : c = 0 ∨ c = 1 ∨ c = 2 ∨ c = 3 ∨ 4 ≤ c := by omega
    rcases hc with rfl | rfl | rfl | rfl | hc
    · rw [c0]; unfold up1; split <;> omega
    · rw [c1]; unfold up1; split <;> omega
    · rw [c2]; unfold up1; split <;> omega
    · rw [c3]; unfold up1; split <;> omega
    · rw [c4 c hc]; exact e
  · have e := hr.2.2.2.2.1 i
    rw [c2]; unfold up1; split <;> omega
  · have e := hr.2.2.2.2.2 i
    rw [c3]; unfold up1; split <;> omega
section ADD
variable {z : Bool} {h : am_H} {C : tCl} {M : tMd} {a : Nat} {q : tPh}
theorem ad_ch {n m : Nat} {px py : Int} (hM : mdR M) (hg : rgI M) (hN : phN (mph M n) (M.1 20)) (hn : n < 5) (hm : (mph M n).1 7 = m) (h12 : m < 12) (hz : ∀ c, 4 ≤ c → q.2 c = fun _ => 0) (hr : phR q) (he : pheq q (mph M n)) (hx : 0 ≤ px ∧ px ≤ 999) (hy : 0 ≤ py ∧ py ≤ 999) : phCh M n (adQ q px py) (adS (M.2 0) n m px py) := by
  have e7 := he.1 7 (by decide)
  have hqm : (q.1 7).toNat = m := by omega
  obtain ⟨c0, c1, c2, c3, c4, f7, fk⟩ := adQ_c (q := q) (px := px) (py := py)
  rw [hqm] at c0 c1 c2 c3
  obtain ⟨s0, s1, s2, s3⟩ := adS_x (S := M.2 0) (n := n) (m := m) (px := px) (py := py)
  have m7 : (msf (adS (M.2 0) n m px py) (M.2 8) (M.2 9) n).1 7 = m + 1 := adS_5
  have h20 := hM.2.2.2.1
  refine ⟨fun c hc => by rw [c4 c hc]; exact hz c hc, adQ_R hr (by omega) hx hy, fun j => ?_, ?_, ⟨fun k hk => ?_, fun c i hc hi => ?_⟩, ⟨fun i hi => ?_, fun i j hi hj hij hne => ?_, phN_f (fun j hj => adS_n (by omega) (by omega)) hN.2.2⟩, fun f hf hne j h1 h2 => adS_n (by omega) (by omega)⟩
  · have := hg.1 j
    unfold adS up1
    repeat' split
    all_goals omega
  · unfold adS
    exact srR_up (srR_up (srR_up (srR_up (srR_up (srR_of hM) (fun f hf => ⟨fun c => by omega, fun c => by omega, fun i hi => ⟨fun c => by omega, fun c => by omega⟩⟩)) (fun f hf => ⟨fun c => by omega, fun c => by omega, fun i hi => ⟨fun c => by omega, fun c => by omega⟩⟩)) (fun f hf => ⟨fun c => by omega, fun c => by omega, fun i hi => ⟨fun c => by omega, fun c => by omega⟩⟩)) (fun f hf => ⟨fun c => by omega, fun c => by omega, fun i hi => ⟨fun c => by omega, fun c => by omega⟩⟩)) (fun f hf => ⟨fun c => by omega, fun c => by omega, fun i hi => ⟨fun c => by omega, fun c => by omega⟩⟩)
  · by_cases c : k = 7
    · subst c; rw [f7, m7]; omega
    · rw [fk k c, he.1 k hk, mph_f]
      unfold msf
      dsimp only
      rw [adS_n (by omega) (by omega)]
  · rw [f7] at hi
    have i12 : i < 12 := by omega
    obtain ⟨x0, x1, x2, x3⟩ := msf_c (S := adS (M.2 0) n m px py) (W := M.2 8) (H := M.2 9) (f := n) i12
    obtain ⟨y0, y1, y2, y3⟩ := msf_c (S := M.2 0) (W := M.2 8) (H := M.2 9) (f := n) i12
    rw [← mph_f] at y0 y1 y2 y3
    have hcc : c = 0 ∨ c = 1 ∨ c = 2 ∨ c = 3 := by omega
    by_cases e : i = m
    · subst e
      rcases hcc with rfl | rfl | rfl | rfl
      · rw [c0, x0, up1_e, s0]
      · rw [c1, x1, up1_e, s1]
      · rw [c2, x2, up1_e, s2]
      · rw [c3, x3, up1_e, s3]; rfl
    · have e9 := he.2 c i hc (by omega)
      rcases hcc with rfl | rfl | rfl | rfl
      · rw [c0, x0, up1_n e, adS_n (by omega) (by omega), e9, y0]
      · rw [c1, x1, up1_n e, adS_n (by omega) (by omega), e9, y1]
      · rw [c2, x2, up1_n e, adS_n (by omega) (by omega), e9, y2]
      · rw [c3, x3, up1_n e, adS_n (by omega) (by omega), e9, y3]
  · rw [m7] at hi
    obtain ⟨x0, x1, x2, x3⟩ := msf_c (S := adS (M.2 0) n m px py) (W := M.2 8) (H := M.2 9) (f := n) (i := i) (by omega)
    obtain ⟨y0, y1, y2, y3⟩ := msf_c (S := M.2 0) (W := M.2 8) (H := M.2 9) (f := n) (i := i) (by omega)
    rw [← mph_f] at y3
    rw [x3]
    by_cases e : i = m
    · subst e; rw [s3]; omega
    · rw [adS_n (by omega) (by omega), ← y3]
      exact hN.1 i (by omega)
  · rw [m7] at hi hj
    obtain ⟨-, -, -, x3⟩ := msf_c (S := adS (M.2 0) n m px py) (W := M.2 8) (H := M.2 9) (f := n) (i := i) (by omega)
    obtain ⟨-, -, -, y3⟩ := msf_c (S := M.2 0) (W := M.2 8) (H := M.2 9) (f := n) (i := i) (by omega)
    obtain ⟨-, -, -, z3⟩ := msf_c (S := adS (M.2 0) n m px py) (W := M.2 8) (H := M.2 9) (f := n) (i := j) (by omega)
    obtain ⟨-, -, -, w3⟩ := msf_c (S := M.2 0) (W := M.2 8) (H := M.2 9) (f := n) (i := j) (by omega)
    rw [← mph_f] at y3 w3
    rw [x3, z3] at hij
    rw [x3] at hne
    by_cases e : i = m
    · subst e; rw [s3] at hne; omega
    · by_cases e2 : j = m
      · subst e2; rw [s3] at hij; omega
      · rw [adS_n (by omega) (by omega), ← y3] at hij hne
        rw [adS_n (by omega) (by omega), ← w3] at hij
        exact hN.2.1 i j (by omega) (by omega) hij hne
theorem m50 (ha : isPh a) (hr : phR q) (h12 : q.1 7 < 12) {px py : Int} : ru_ev z 50 [.ref a, .int (wI px), .int (wI py)] (clPut h (phP C a q)) = some (.inl none, clPut h (phP C a (adQ q px py))) := by
  have s := phR_s hr
  have d1 : (12 ≤ q.1 7) = False := eq_false (by omega)
  simp (disch := omega) only [en50, e50_0, e50_1, e50_4, e50_6, e50_9, e50_10, e50_13, e50_14, e50_17, e50_18, e50_19, e50_20, e50_23, e50_24, e50_27, e50_28, e50_29, e50_30, e50_33, e50_34, e50_37, e50_38, e50_39, e50_40, e50_43, e50_44, e50_47, e50_48, e50_49, e50_50, e50_51, e50_54, e50_55, e50_56, e50_59, ↓reduceIte, Bool.false_eq_true, not_false_eq_true, not_true_eq_false, Nat.reduceLeDiff, Nat.reduceAdd, Nat.reduceEqDiff, Int.reduceToNat, Int.toNat_natCast, iB0, iB1, ru_klI, ru_klR, ru_klF, ru_klJ, ru_kl0, ru_cs0, ru_csI, ru_csR, ru_csF, ru_csJ, wI_add, wI_sub, wI_mul, wI_lt, wI_le, wI_inj, ru_fdE, ru_fdN, ru_iaN, ru_baN, ru_laN, ru_qaN, ru_pfN, ru_isN, ru_bsN, ru_jsN, ru_qsN, ru_set2, Nat.add_right_cancel_iff, if_true, if_false, ite_self, Int.reduceEq, and_self, Int.add_neg_cancel_right, Int.add_zero, Int.zero_add, ph_e ha, ph_f0 ha, ph_s0 ha, ph_f1 ha, ph_s1 ha, ph_f2 ha, ph_s2 ha, ph_f3 ha, ph_s3 ha, ph_f4 ha, ph_s4 ha, ph_f5 ha, ph_s5 ha, ph_f6 ha, ph_s6 ha, ph_f7 ha, ph_s7 ha, ph_f8 ha, ph_a0 ha, ph_w0 ha, ph_f9 ha, ph_a1 ha, ph_w1 ha, ph_f10 ha, ph_a2 ha, ph_w2 ha, ph_f11 ha, ph_a3 ha, ph_w3 ha, Int.reduceEq, ru_ctR, ru_ctI, upC_e, upC_n, upC_up, up1_e, up1_n, d1]
  rfl
def acR (q : tPh) (x y : Int) : Nat := if q.1 7 = 12 then 1 else if (0 ≤ x ∧ x ≤ q.1 4 - q.1 2) ∧ 0 ≤ y ∧ y ≤ q.1 5 - q.1 3 then 0 else 3
theorem c361 (hR : clR C) (hH : hiC C) (hA : phA C) {f x y : Int} (g : -2147483648 ≤ f ∧ f < 2147483648) (g1 : -2147483648 ≤ x ∧ x < 2147483648) (g2 : -2147483648 ≤ y ∧ y < 2147483648) : ∃ t v C', ru_ev z 361 [.ref 1000, .int (wI f), .int (wI x), .int (wI y)] (clPut h C) = oR t (some (.int (wI v))) (clPut h C') (clPut (thr h) C') ∧ chG C f.toNat (if rcP C f = 0 then acR (cph C (cAp C f.toNat)) x y else rcP C f) (fun q' v => q' = adQ (cph C (cAp C f.toNat)) (adX (cph C (cAp C f.toNat)) x) ((cph C (cAp C f.toNat)).1 3 + y) ∧ v = (cph C (cAp C f.toNat)).1 7) t v C' := by
  have e1 := d78 (z := z) (h := h) hR g
  by_cases e : rcP C f = 0
  · rw [oR_0 e] at e1
    rw [if_pos e]
    have hf := rcP_5 hR e
    have ha := cAp_ph hR.1 hf
    obtain ⟨hp, hq⟩ := dph (h := h) hR e
    have s := phR_s hq
    unfold acR
    have k1 : (cph C (cAp C f.toNat)).1 4 - (cph C (cAp C f.toNat)).1 2 + 1 - 1 = (cph C (cAp C f.toNat)).1 4 - (cph C (cAp C f.toNat)).1 2 := by omega
    have k2 : (cph C (cAp C f.toNat)).1 5 - (cph C (cAp C f.toNat)).1 3 + 1 - 1 = (cph C (cAp C f.toNat)).1 5 - (cph C (cAp C f.toNat)).1 3 := by omega
    by_cases c12 : (cph C (cAp C f.toNat)).1 7 = 12
    · rw [if_pos c12]
      have d1 : ((cph C (cAp C f.toNat)).1 7 < 12) = False := eq_false (by omega)
      have d2 : (12 ≤ (cph C (cAp C f.toNat)).1 7) = True := eq_true (by omega)
      refine ⟨1, 0, C, ?_, Or.inl ⟨by decide, rfl, rfl⟩⟩
      rw [oR_n (by decide)]
      simp (disch := omega) only [en361, e361_0, e361_1, e361_2, e361_5, e361_7, e361_9, e361_12, e361_14, e361_17, e361_20, e361_21, e361_28, e361_29, e361_30, e361_32, e361_35, e361_36, e361_37, e361_40, e361_41, e361_42, e361_44, e361_47, e361_48, e361_49, e361_52, e361_53, e361_56, e361_57, e361_60, e361_63, e361_66, e361_68, e361_70, e361_73, e361_76, e361_78, e361_81, e361_82, e361_83, e361_86, e361_88, e361_91, e361_92, e361_93, e361_95, e361_98, e361_99, e361_100, e361_103, e361_105, e361_108, e361_109, e361_110, ↓reduceIte, Bool.false_eq_true, not_false_eq_true, not_true_eq_false, Nat.reduceLeDiff, Nat.reduceAdd, Nat.reduceEqDiff, Int.reduceToNat, Int.toNat_natCast, iB0, iB1, ru_klI, ru_klR, ru_klF, ru_klJ, ru_kl0, ru_cs0, ru_csI, ru_csR, ru_csF, ru_csJ, wI_add, wI_sub, wI_mul, wI_lt, wI_le, wI_inj, ru_fdE, ru_fdN, ru_iaN, ru_baN, ru_laN, ru_qaN, ru_pfN, ru_isN, ru_bsN, ru_jsN, ru_qsN, ru_set2, Nat.add_right_cancel_iff, if_true, if_false, ite_self, Int.reduceEq, and_self, Int.add_neg_cancel_right, Int.add_zero, Int.zero_add, cl_e0, phF hp, e1, d1, d2]
      rfl
    · rw [if_neg c12]
      have d1 : ((cph C (cAp C f.toNat)).1 7 < 12) = True := eq_true (by omega)
      have d2 : (12 ≤ (cph C (cAp C f.toNat)).1 7) = False := eq_false (by omega)
      by_cases cx : 0 ≤ x ∧ x ≤ (cph C (cAp C f.toNat)).1 4 - (cph C (cAp C f.toNat)).1 2
      · by_cases cy : 0 ≤ y ∧ y ≤ (cph C (cAp C f.toNat)).1 5 - (cph C (cAp C f.toNat)).1 3
        · rw [if_pos ⟨cx, cy⟩]
          obtain ⟨C1, w1, w2⟩ := c113p (z := z) (h := h) hR hH hA hf
          have hm278 := m278 (z := z) hp
          have hm279 := m279 (z := z) hp
          have hpF := phF hp
          have hpe := hp.1
          generalize hqq : cph C (cAp C f.toNat) = q at *
          have m5 := fun px py => m50 (z := z) (h := h) (C := C1) ha hq (by omega) (px := px) (py := py)
          obtain ⟨c0, c1, c2, c3, c4, f7, fk⟩ := adQ_c (q := q) (px := adX q x) (py := q.1 3 + y)
          refine ⟨0, q.1 7, phP C1 (cAp C f.toNat) (adQ q (adX q x) (q.1 3 + y)), ?_, Or.inr ⟨rfl, rfl, C1, _, w1, rfl, rfl, rfl⟩⟩
          rw [oR_0 rfl]
          have e9 : q.1 7 + 1 - 1 = q.1 7 := by omega
          unfold adX at f7 ⊢
          by_cases c6 : q.1 6 = 1
          · rw [if_pos c6] at f7 ⊢
            have d6 : (q.1 6 = 0) = False := eq_false (by omega)
            simp (disch := omega) only [en361, e361_0, e361_1, e361_2, e361_5, e361_7, e361_9, e361_12, e361_14, e361_17, e361_20, e361_21, e361_28, e361_29, e361_30, e361_32, e361_35, e361_36, e361_37, e361_40, e361_41, e361_42, e361_44, e361_47, e361_48, e361_49, e361_52, e361_53, e361_56, e361_57, e361_60, e361_63, e361_66, e361_68, e361_70, e361_73, e361_76, e361_78, e361_81, e361_82, e361_83, e361_86, e361_88, e361_91, e361_92, e361_93, e361_95, e361_98, e361_99, e361_100, e361_103, e361_105, e361_108, e361_109, e361_110, ↓reduceIte, Bool.false_eq_true, not_false_eq_true, not_true_eq_false, Nat.reduceLeDiff, Nat.reduceAdd, Nat.reduceEqDiff, Int.reduceToNat, Int.toNat_natCast, iB0, iB1, ru_klI, ru_klR, ru_klF, ru_klJ, ru_kl0, ru_cs0, ru_csI, ru_csR, ru_csF, ru_csJ, wI_add, wI_sub, wI_mul, wI_lt, wI_le, wI_inj, ru_fdE, ru_fdN, ru_iaN, ru_baN, ru_laN, ru_qaN, ru_pfN, ru_isN, ru_bsN, ru_jsN, ru_qsN, ru_set2, Nat.add_right_cancel_iff, if_true, if_false, ite_self, Int.reduceEq, and_self, Int.add_neg_cancel_right, Int.add_zero, Int.zero_add, ph_e ha, ph_f0 ha, ph_s0 ha, ph_f1 ha, ph_s1 ha, ph_f2 ha, ph_s2 ha, ph_f3 ha, ph_s3 ha, ph_f4 ha, ph_s4 ha, ph_f5 ha, ph_s5 ha, ph_f6 ha, ph_s6 ha, ph_f7 ha, ph_s7 ha, ph_f8 ha, ph_a0 ha, ph_w0 ha, ph_f9 ha, ph_a1 ha, ph_w1 ha, ph_f10 ha, ph_a2 ha, ph_w2 ha, ph_f11 ha, ph_a3 ha, ph_w3 ha, Int.reduceEq, ru_ctR, ru_ctI, upC_e, upC_n, upC_up, up1_e, up1_n, cl_e0, cl_g0_6, clF hR.1, hpF, e1, d1, d2, hm278, hm279, k1, k2, c208, cx, cy, if_true, oR_0, w2, d6, m5, f7, e9]
          · rw [if_neg c6] at f7 ⊢
            have d6 : (q.1 6 = 0) = True := eq_true (by omega)
            simp (disch := omega) only [en361, e361_0, e361_1, e361_2, e361_5, e361_7, e361_9, e361_12, e361_14, e361_17, e361_20, e361_21, e361_28, e361_29, e361_30, e361_32, e361_35, e361_36, e361_37, e361_40, e361_41, e361_42, e361_44, e361_47, e361_48, e361_49, e361_52, e361_53, e361_56, e361_57, e361_60, e361_63, e361_66, e361_68, e361_70, e361_73, e361_76, e361_78, e361_81, e361_82, e361_83, e361_86, e361_88, e361_91, e361_92, e361_93, e361_95, e361_98, e361_99, e361_100, e361_103, e361_105, e361_108, e361_109, e361_110, ↓reduceIte, Bool.false_eq_true, not_false_eq_true, not_true_eq_false, Nat.reduceLeDiff, Nat.reduceAdd, Nat.reduceEqDiff, Int.reduceToNat, Int.toNat_natCast, iB0, iB1, ru_klI, ru_klR, ru_klF, ru_klJ, ru_kl0, ru_cs0, ru_csI, ru_csR, ru_csF, ru_csJ, wI_add, wI_sub, wI_mul, wI_lt, wI_le, wI_inj, ru_fdE, ru_fdN, ru_iaN, ru_baN, ru_laN, ru_qaN, ru_pfN, ru_isN, ru_bsN, ru_jsN, ru_qsN, ru_set2, Nat.add_right_cancel_iff, if_true, if_false, ite_self, Int.reduceEq, and_self, Int.add_neg_cancel_right, Int.add_zero, Int.zero_add, ph_e ha, ph_f0 ha, ph_s0 ha, ph_f1 ha, ph_s1 ha, ph_f2 ha, ph_s2 ha, ph_f3 ha, ph_s3 ha, ph_f4 ha, ph_s4 ha, ph_f5 ha, ph_s5 ha, ph_f6 ha, ph_s6 ha, ph_f7 ha, ph_s7 ha, ph_f8 ha, ph_a0 ha, ph_w0 ha, ph_f9 ha, ph_a1 ha, ph_w1 ha, ph_f10 ha, ph_a2 ha, ph_w2 ha, ph_f11 ha, ph_a3 ha, ph_w3 ha, Int.reduceEq, ru_ctR, ru_ctI, upC_e, upC_n, upC_up, up1_e, up1_n, cl_e0, cl_g0_6, clF hR.1, hpF, e1, d1, d2, hm278, hm279, k1, k2, c208, cx, cy, if_true, oR_0, w2, d6, m5, f7, e9]
        · rw [if_neg (fun c => cy c.2)]
          refine ⟨3, 0, C, ?_, Or.inl ⟨by decide, rfl, rfl⟩⟩
          rw [oR_n (by decide)]
          simp (disch := omega) only [en361, e361_0, e361_1, e361_2, e361_5, e361_7, e361_9, e361_12, e361_14, e361_17, e361_20, e361_21, e361_28, e361_29, e361_30, e361_32, e361_35, e361_36, e361_37, e361_40, e361_41, e361_42, e361_44, e361_47, e361_48, e361_49, e361_52, e361_53, e361_56, e361_57, e361_60, e361_63, e361_66, e361_68, e361_70, e361_73, e361_76, e361_78, e361_81, e361_82, e361_83, e361_86, e361_88, e361_91, e361_92, e361_93, e361_95, e361_98, e361_99, e361_100, e361_103, e361_105, e361_108, e361_109, e361_110, ↓reduceIte, Bool.false_eq_true, not_false_eq_true, not_true_eq_false, Nat.reduceLeDiff, Nat.reduceAdd, Nat.reduceEqDiff, Int.reduceToNat, Int.toNat_natCast, iB0, iB1, ru_klI, ru_klR, ru_klF, ru_klJ, ru_kl0, ru_cs0, ru_csI, ru_csR, ru_csF, ru_csJ, wI_add, wI_sub, wI_mul, wI_lt, wI_le, wI_inj, ru_fdE, ru_fdN, ru_iaN, ru_baN, ru_laN, ru_qaN, ru_pfN, ru_isN, ru_bsN, ru_jsN, ru_qsN, ru_set2, Nat.add_right_cancel_iff, if_true, if_false, ite_self, Int.reduceEq, and_self, Int.add_neg_cancel_right, Int.add_zero, Int.zero_add, cl_e0, phF hp, e1, d1, d2, m278 hp, m279 hp, k1, k2, c208, cx, cy, if_true, if_false, oR_0, oR_n]
          rfl
      · rw [if_neg (fun c => cx c.1)]
        refine ⟨3, 0, C, ?_, Or.inl ⟨by decide, rfl, rfl⟩⟩
        rw [oR_n (by decide)]
        simp (disch := omega) only [en361, e361_0, e361_1, e361_2, e361_5, e361_7, e361_9, e361_12, e361_14, e361_17, e361_20, e361_21, e361_28, e361_29, e361_30, e361_32, e361_35, e361_36, e361_37, e361_40, e361_41, e361_42, e361_44, e361_47, e361_48, e361_49, e361_52, e361_53, e361_56, e361_57, e361_60, e361_63, e361_66, e361_68, e361_70, e361_73, e361_76, e361_78, e361_81, e361_82, e361_83, e361_86, e361_88, e361_91, e361_92, e361_93, e361_95, e361_98, e361_99, e361_100, e361_103, e361_105, e361_108, e361_109, e361_110, ↓reduceIte, Bool.false_eq_true, not_false_eq_true, not_true_eq_false, Nat.reduceLeDiff, Nat.reduceAdd, Nat.reduceEqDiff, Int.reduceToNat, Int.toNat_natCast, iB0, iB1, ru_klI, ru_klR, ru_klF, ru_klJ, ru_kl0, ru_cs0, ru_csI, ru_csR, ru_csF, ru_csJ, wI_add, wI_sub, wI_mul, wI_lt, wI_le, wI_inj, ru_fdE, ru_fdN, ru_iaN, ru_baN, ru_laN, ru_qaN, ru_pfN, ru_isN, ru_bsN, ru_jsN, ru_qsN, ru_set2, Nat.add_right_cancel_iff, if_true, if_false, ite_self, Int.reduceEq, and_self, Int.add_neg_cancel_right, Int.add_zero, Int.zero_add, cl_e0, phF hp, e1, d1, d2, m278 hp, m279 hp, k1, k2, c208, cx, if_true, if_false, oR_0, oR_n]
        rfl
  · rw [oR_n e] at e1
    rw [if_neg e]
    refine ⟨rcP C f, 0, C, ?_, Or.inl ⟨e, rfl, rfl⟩⟩
    rw [oR_n e]
    simp (disch := omega) only [en361, e361_0, e361_1, e361_2, e361_5, e361_7, e361_9, e361_12, e361_14, e361_17, e361_20, e361_21, e361_28, e361_29, e361_30, e361_32, e361_35, e361_36, e361_37, e361_40, e361_41, e361_42, e361_44, e361_47, e361_48, e361_49, e361_52, e361_53, e361_56, e361_57, e361_60, e361_63, e361_66, e361_68, e361_70, e361_73, e361_76, e361_78, e361_81, e361_82, e361_83, e361_86, e361_88, e361_91, e361_92, e361_93, e361_95, e361_98, e361_99, e361_100, e361_103, e361_105, e361_108, e361_109, e361_110, ↓reduceIte, Bool.false_eq_true, not_false_eq_true, not_true_eq_false, Nat.reduceLeDiff, Nat.reduceAdd, Nat.reduceEqDiff, Int.reduceToNat, Int.toNat_natCast, iB0, iB1, ru_klI, ru_klR, ru_klF, ru_klJ, ru_kl0, ru_cs0, ru_csI, ru_csR, ru_csF, ru_csJ, wI_add, wI_sub, wI_mul, wI_lt, wI_le, wI_inj, ru_fdE, ru_fdN, ru_iaN, ru_baN, ru_laN, ru_qaN, ru_pfN, ru_isN, ru_bsN, ru_jsN, ru_qsN, ru_set2, Nat.add_right_cancel_iff, if_true, if_false, ite_self, Int.reduceEq, and_self, Int.add_neg_cancel_right, Int.add_zero, Int.zero_add, cl_e0, e1]
end ADD
