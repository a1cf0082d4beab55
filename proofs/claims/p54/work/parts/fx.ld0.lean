/-! ===== the fresh object: what it throws, what it loads ===== -/
section LD0
variable {z : Bool} {X : am_H}
theorem fr_thr {C : tCl} (hc : clI X C) : clPut (thr X) C = thr X := by
  have e : clPut (thr X) C = thr (clPut X C) := rfl
  rw [e, ← hc]
theorem fr_I {C : tCl} (hc : clI X C) : clI (thr X) C := (fr_thr hc).symm
theorem fr_rc (f : Int) : rcP C0i f = 1 := by
  have : cPm C0i = 0 := by unfold cPm; exact C0i_z (by have : alb C0i = 1003 := rfl; omega)
  unfold rcP
  rw [if_pos this]
theorem fr_R : clR C0i ∧ hiC C0i ∧ phA C0i := ⟨co_0.1, co_0.2.2.2.2.2.2.1.1, co_0.2.1⟩
theorem tf_0 (hc : clI X C0i) : ru_ev z 399 [.ref 1000, .int (wI 0), .int (wI 0), .int (wI 0), .int (wI 0)] X = some (.inl (some (.int (wI 1))), thr X) := by
  have k := c164 (z := z) (h := X) fr_R.1 (f := 0) (by omega)
  rw [fr_rc, oR_n (by decide), ← hc, fr_thr hc] at k
  exact t399 (E := 0) (by decide) (t400_0 k)
theorem tf_14 (hc : clI X C0i) : ru_ev z 399 [.ref 1000, .int (wI 14), .int (wI 0), .int (wI 0), .int (wI 0)] X = some (.inl (some (.int (wI 1))), thr X) := by
  have k := c187x (z := z) (h := X) fr_R.1 (f := 0) (by omega) (by rw [fr_rc]; decide)
  rw [fr_rc, ← hc, fr_thr hc] at k
  have k' : ru_ev z 187 [.ref 1000, .int (wI 0)] X = some (.inr 0, thr X) := k
  have e0 : X.1 1000 = some (.inr (0, clL0 C0i 1000)) := by
    have e : X.1 1000 = (clPut X C0i).1 1000 := congrArg (fun Y : am_H => Y.1 1000) hc
    rw [e, cl_e0]
  have g8 : am_fd X 1000 0 8 = some (.ref 1257) := by
    have e : am_fd X 1000 0 8 = am_fd (clPut X C0i) 1000 0 8 := congrArg (fun Y : am_H => am_fd Y 1000 0 8) hc
    rw [e, cl_g0_8]
  have k299 : ru_ev z 299 [.ref 1000, .int (wI 0)] X = some (.inr 0, thr X) := by
    simp (disch := omega) only [en299, e299_0, e299_1, e299_4, e299_5, e299_6, ↓reduceIte, Bool.false_eq_true, not_false_eq_true, not_true_eq_false, Nat.reduceLeDiff, Nat.reduceAdd, Nat.reduceEqDiff, Int.reduceToNat, Int.toNat_natCast, iB0, iB1, ru_klI, ru_klR, ru_klF, ru_klJ, ru_kl0, ru_cs0, ru_csI, ru_csR, ru_csF, ru_csJ, wI_add, wI_sub, wI_mul, wI_lt, wI_le, wI_inj, ru_fdE, ru_fdN, ru_iaN, ru_baN, ru_laN, ru_qaN, ru_pfN, ru_isN, ru_bsN, ru_jsN, ru_qsN, ru_set2, Nat.add_right_cancel_iff, if_true, if_false, ite_self, Int.reduceEq, and_self, Int.add_neg_cancel_right, Int.add_zero, Int.zero_add, e0, g8, k']
  exact t399 (E := 0) (by decide) (t400_14 k299)
theorem tf_21 (hc : clI X C0i) : ru_ev z 399 [.ref 1000, .int (wI 21), .int (wI 0), .int (wI 0), .int (wI 0)] X = some (.inl (some (.int (wI 1))), thr X) := by
  obtain ⟨t, v, C', k, r⟩ := c371 (z := z) (h := X) fr_R.1 fr_R.2.1 fr_R.2.2
  have e0 : C0i.1 1092 0 = 0 := C0i_z (by decide)
  rcases r with ⟨-, rfl, rfl⟩ | ⟨r, -⟩
  · rw [oR_n (by decide), ← hc, fr_thr hc] at k
    exact t399 (E := 0) (by decide) (t400_21 k)
  · omega
theorem tf_16 (hc : clI X C0i) : ru_ev z 399 [.ref 1000, .int (wI 16), .int (wI 0), .int (wI 0), .int (wI 0)] X = some (.inl (some (.int (wI 2))), thr X) := by
  have g3 : am_fd X 1258 11 3 = some (.int (wI 0)) := by
    have e : am_fd X 1258 11 3 = am_fd (clPut X C0i) 1258 11 3 := congrArg (fun Y : am_H => am_fd Y 1258 11 3) hc
    rw [e, cl_g11_3, C0i_z (by decide)]
  have e0 : X.1 1000 = some (.inr (0, clL0 C0i 1000)) := by
    have e : X.1 1000 = (clPut X C0i).1 1000 := congrArg (fun Y : am_H => Y.1 1000) hc
    rw [e, cl_e0]
  have e9 : X.1 1258 = some (.inr (11, clL11 C0i 1258)) := by
    have e : X.1 1258 = (clPut X C0i).1 1258 := congrArg (fun Y : am_H => Y.1 1258) hc
    rw [e, cl_e11]
  have g8 : am_fd X 1000 0 8 = some (.ref 1257) := by
    have e : am_fd X 1000 0 8 = am_fd (clPut X C0i) 1000 0 8 := congrArg (fun Y : am_H => am_fd Y 1000 0 8) hc
    rw [e, cl_g0_8]
  have g7 : am_fd X 1257 7 0 = some (.ref 1258) := by
    have e : am_fd X 1257 7 0 = am_fd (clPut X C0i) 1257 7 0 := congrArg (fun Y : am_H => am_fd Y 1257 7 0) hc
    rw [e, cl_g7_0]
  have e325 : ru_ev z 325 [.ref 1258] X = some (.inl (some (.int (wI 0))), X) := by
    simp (disch := omega) only [en325, e325_0, e325_1, e325_4, ↓reduceIte, Bool.false_eq_true, not_false_eq_true, not_true_eq_false, Nat.reduceLeDiff, Nat.reduceAdd, Nat.reduceEqDiff, Int.reduceToNat, Int.toNat_natCast, iB0, iB1, ru_klI, ru_klR, ru_klF, ru_klJ, ru_kl0, ru_cs0, ru_csI, ru_csR, ru_csF, ru_csJ, wI_add, wI_sub, wI_mul, wI_lt, wI_le, wI_inj, ru_fdE, ru_fdN, ru_iaN, ru_baN, ru_laN, ru_qaN, ru_pfN, ru_isN, ru_bsN, ru_jsN, ru_qsN, ru_set2, Nat.add_right_cancel_iff, if_true, if_false, ite_self, Int.reduceEq, and_self, Int.add_neg_cancel_right, Int.add_zero, Int.zero_add, e9, g3]
  have e324 : ru_ev z 324 [.ref 1258] X = some (.inl (some (.int (wI 0))), X) := by
    simp (disch := omega) only [en324, e324_0, e324_1, e324_4, ↓reduceIte, Bool.false_eq_true, not_false_eq_true, not_true_eq_false, Nat.reduceLeDiff, Nat.reduceAdd, Nat.reduceEqDiff, Int.reduceToNat, Int.toNat_natCast, iB0, iB1, ru_klI, ru_klR, ru_klF, ru_klJ, ru_kl0, ru_cs0, ru_csI, ru_csR, ru_csF, ru_csJ, wI_add, wI_sub, wI_mul, wI_lt, wI_le, wI_inj, ru_fdE, ru_fdN, ru_iaN, ru_baN, ru_laN, ru_qaN, ru_pfN, ru_isN, ru_bsN, ru_jsN, ru_qsN, ru_set2, Nat.add_right_cancel_iff, if_true, if_false, ite_self, Int.reduceEq, and_self, Int.add_neg_cancel_right, Int.add_zero, Int.zero_add, e9, e325]
  have d0 : ((0 : Int) < 0) = False := eq_false (by decide)
  have th : ((X.1, X.2.1 + 1, X.2.2 + 6) : am_H) = thr X := rfl
  have k : ru_ev z 342 [.ref 1000, .int (wI 0)] X = some (.inr 1, thr X) := by
    simp (disch := omega) only [en342, e342_0, e342_1, e342_4, e342_5, e342_6, e342_9, e342_12, e342_15, e342_18, e342_21, e342_22, e342_29, e342_30, e342_33, e342_36, e342_37, e342_40, ↓reduceIte, Bool.false_eq_true, not_false_eq_true, not_true_eq_false, Nat.reduceLeDiff, Nat.reduceAdd, Nat.reduceEqDiff, Int.reduceToNat, Int.toNat_natCast, iB0, iB1, ru_klI, ru_klR, ru_klF, ru_klJ, ru_kl0, ru_cs0, ru_csI, ru_csR, ru_csF, ru_csJ, wI_add, wI_sub, wI_mul, wI_lt, wI_le, wI_inj, ru_fdE, ru_fdN, ru_iaN, ru_baN, ru_laN, ru_qaN, ru_pfN, ru_isN, ru_bsN, ru_jsN, ru_qsN, ru_set2, Nat.add_right_cancel_iff, if_true, if_false, ite_self, Int.reduceEq, and_self, Int.add_neg_cancel_right, Int.add_zero, Int.zero_add, e0, g8, g7, e324, d0, th]
  exact t399 (E := 1) (by decide) (t400_16 k)
theorem tf_25 (hc : clI X C0i) : ru_ev z 399 [.ref 1000, .int (wI 25), .int (wI 0), .int (wI 9), .int (wI 0)] X = some (.inl (some (.int (wI 1))), thr X) := by
  have k := d78 (z := z) (h := X) fr_R.1 (f := 0) (by omega)
  rw [fr_rc, oR_n (by decide), ← hc, fr_thr hc] at k
  have k' : ru_ev z 78 [.ref 1000, .int (wI 0)] X = some (.inr 0, thr X) := k
  have e0 : X.1 1000 = some (.inr (0, clL0 C0i 1000)) := by
    have e : X.1 1000 = (clPut X C0i).1 1000 := congrArg (fun Y : am_H => Y.1 1000) hc
    rw [e, cl_e0]
  have k77 : ru_ev z 77 [.ref 1000, .int (wI 0), .int (wI 9)] X = some (.inr 0, thr X) := by
    simp (disch := omega) only [en77, e77_0, e77_1, e77_2, ↓reduceIte, Bool.false_eq_true, not_false_eq_true, not_true_eq_false, Nat.reduceLeDiff, Nat.reduceAdd, Nat.reduceEqDiff, Int.reduceToNat, Int.toNat_natCast, iB0, iB1, ru_klI, ru_klR, ru_klF, ru_klJ, ru_kl0, ru_cs0, ru_csI, ru_csR, ru_csF, ru_csJ, wI_add, wI_sub, wI_mul, wI_lt, wI_le, wI_inj, ru_fdE, ru_fdN, ru_iaN, ru_baN, ru_laN, ru_qaN, ru_pfN, ru_isN, ru_bsN, ru_jsN, ru_qsN, ru_set2, Nat.add_right_cancel_iff, if_true, if_false, ite_self, Int.reduceEq, and_self, Int.add_neg_cancel_right, Int.add_zero, Int.zero_add, e0, k']
  exact t399 (E := 0) (by decide) (t400_25 k77)
theorem tf_160 (hc : clI X C0i) : ru_ev z 160 [.ref 1000] X = some (.inl (some (.int (wI 0))), X) := by
  have k := c160 (z := z) (h := X) fr_R.1.1
  have : cPm C0i = 0 := by unfold cPm; exact C0i_z (by have : alb C0i = 1003 := rfl; omega)
  rw [this, ← hc] at k
  exact k
theorem ld0 {h : am_H} (hst : strs h) {gap : Nat} (hg : gap ≤ 99) {ls : List tLn} (ho : lsO s0L ls) (hl : ls.length ≤ 900) (hP : 0 < (lsZ s0L ls).2.2.2.1) {w : List Nat} (hw : w = lwT 0 ++ (numT gap ++ lsT ls)) {nn : Nat} {f : Nat → Int} (hn : w.length ≤ nn ∧ nn ≤ 1200) (hf : ∀ q, q < w.length → f q = ((w.getD q 0 : Nat) : Int)) (h7 : ∀ q, q < w.length → w.getD q 0 ≤ 127) : ∃ D : tCl, ru_ev z 17 [.ref 1000, .int (wI (w.length : Nat))] (clPut h (ibP C0i (nn : Int) f)) = some (.inl (some (.int (wI ((lsZ s0L ls).2.2.2.1 : Nat)))), clPut h D) ∧ yqI D (gap : Int) (lsZ s0L ls).1 (lsZ s0L ls).2.1 (lsZ s0L ls).2.2.1 ∧ ypI D (lsZ s0L ls).2.2.2.1 (lsZ s0L ls).2.2.2.2 ∧ D.1 1001 1 = 0 ∧ D.1 1001 2 = 0 ∧ D.1 1001 3 = -1 := by
  obtain ⟨C, hC⟩ : ∃ C, C = ibP C0i (nn : Int) f := ⟨_, rfl⟩
  have cn : C.1 1001 1 = (nn : Int) := by rw [hC]; exact ibP_1
  have cf : C.2.1 1002 = f := by rw [hC]; exact ibP_2
  have c1 : ∀ q, q ≠ 1001 → C.1 q = C0i.1 q := fun q hq => by rw [hC]; exact upI_n hq
  have c2 : ∀ q, q ≠ 1002 → C.2.1 q = C0i.2.1 q := fun q hq => by rw [hC]; exact if_neg hq
  have c3 : C.2.2 = C0i.2.2 := by rw [hC]; rfl
  have hpo : poR (bgC C w.length) w.length 0 w := ⟨rfl, rfl, by omega, fun i hi => by
    show -128 ≤ C.2.1 1002 i ∧ C.2.1 1002 i ≤ 127
    rw [cf, hf i hi]
    have := h7 i hi
    omega, Nat.zero_add _, fun i hi => by
    show C.2.1 1002 (0 + i) = _
    rw [Nat.zero_add, cf]
    exact hf i hi⟩
  have ew : w = sbT 1 ++ ([32] ++ (sbT 3 ++ ([32] ++ (numT gap ++ lsT ls)))) := by rw [hw, lw0]; simp only [List.append_assoc]
  obtain ⟨l, hll⟩ : ∃ l, l = w.length := ⟨_, rfl⟩
  rw [← hll] at hpo hn ⊢
  rw [ew] at hpo
  obtain ⟨C1, a1, a2, a3⟩ := av_w (z := z) (sp := []) hpo spK_0 (W := sbT 1) ⟨by decide, by decide, by decide⟩ (Or.inr (by decide : isL 32 = false))
  have k1 : ∀ h, ru_ev z 19 [.ref 1001, .int (wI l)] (clPut h C) = some (.inl none, clPut h C1) := fun h => bgn a1 h
  have d1 : ∀ q, q ≠ 1001 → C1.1 q = C0i.1 q := fun q hq => by rw [a3.1 q hq, bgC_o hq, c1 q hq]
  have d2 : ∀ q, q ≠ 1002 → C1.2.1 q = C0i.2.1 q := fun q hq => by rw [a3.2.2.1]; exact c2 q hq
  have d3 : ∀ q j, q ≠ 1001 → C1.2.2.2 q j = C0i.2.2.2 q j := fun q j hq => by
    rw [a3.2.2.2.2 q j (by omega)]
    show C.2.2.2 q j = _
    rw [c3]
  have d4 : ∀ i, i < 4 → C1.1 1001 i = (bgC C l).1 1001 i := fun i hi => a3.2.1 i (by omega)
  have dp : ∀ a, a ≠ 1001 → (a + 4 < 1002 ∨ 1002 < a) → cph C1 a = cph C0i a := fun a h1 h2 => cph_eq (d1 a h1) (fun c hc => d2 _ (by omega))
  obtain ⟨C2, k2, s2, fr, hgap⟩ := f25 (z := z) (h := h) (B := 1034) (C := C1) (Or.inr rfl) hst (fun i hi => by rw [dp _ (by omega) (by omega)]; exact C0i_ph _ (by omega)) hg ho hl hP a2
  obtain ⟨w1, w2, w3, w4, w5⟩ := fr
  have q1 : C2.2.2.2 1000 2 = 1034 := by rw [w5 _ _ (by decide), d3 _ _ (by decide)]; rfl
  have k17 := c17o (z := z) (h := h) (C := C) (C1 := C1) (C2 := C2) (A := 1003) (B := 1034) (by rw [cn]; omega) (v := (l : Int)) (by omega) (by rw [cn]; omega) (Or.inr rfl) (by rw [d3 _ _ (by decide)]; rfl) q1 (by rw [w5 _ _ (by decide), d3 _ _ (by decide)]; rfl) (fun s hs => by rw [w5 _ _ (by decide), d3 _ _ (by decide)]; rfl) (k1 h) k2
  rw [s2.2.1] at k17
  obtain ⟨D, hD⟩ : ∃ D, D = ldE C2 1003 1034 := ⟨_, rfl⟩
  have o1 : ∀ q, q ≠ 1092 → q ≠ 1261 → q ≠ 1288 → D.1 q = C2.1 q := fun q q1 q2 q3 => by rw [hD]; unfold ldE; rw [upI_n q3, upI_n q2, upI_n q1]; rfl
  have o2 : D.2.1 = C2.2.1 := by rw [hD]; rfl
  have o3 : D.2.2.1 = C2.2.2.1 := by rw [hD]; rfl
  have o4 : ∀ q, q ≠ 1000 → D.2.2.2 q = C2.2.2.2 q := fun q hq => by
    rw [hD]
    show (fun j => if q = 1000 then (if j = 2 then 1003 else _) else (if q = 1000 then (if j = 1 then 1034 else _) else C2.2.2.2 q j)) = _
    funext j
    rw [if_neg hq, if_neg hq]
  have oB : D.2.2.2 1000 1 = 1034 := by rw [hD]; rfl
  have oA : D.2.2.2 1000 2 = 1003 := by rw [hD]; rfl
  have z1 : D.1 1092 0 = 0 := by rw [hD]; rfl
  have hdA : alb D = 1034 := oB
  have dph : ∀ t, isSt t → ∀ i, i < 5 → cph D (t + 2 + 5 * i) = cph C2 (t + 2 + 5 * i) := fun t ht i hi => by
    have key : ∀ t ∈ stS, ∀ i : Fin 5, t + 2 + 5 * i.val ≠ 1092 ∧ t + 2 + 5 * i.val ≠ 1261 ∧ t + 2 + 5 * i.val ≠ 1288 := by decide +kernel
    obtain ⟨k1, k2, k3⟩ := key t ht ⟨i, hi⟩
    exact cph_eq (o1 _ k1 k2 k3) (fun c hc => by rw [o2])
  have rph : ∀ t, isSt t → ∀ i, i < 5 → phR (cph D (t + 2 + 5 * i)) := fun t ht i hi => by
    rw [dph t ht i hi]
    by_cases e : t = 1034 + 4
    · rw [e]; exact s2.2.2.2.2 i hi
    · have k := isSt_sp ht (B := 1034) (Or.inr rfl) e
      have ks := isSt_k ht
      rw [cph_eq (D := C2) (C := C1) (w1 _ (by omega) (by omega)) (fun c hc => w3 _ (by omega)), dp _ (by omega) (by omega)]
      exact C0i_ph _ (by omega)
  obtain ⟨n1, n2, n3, n4⟩ := s2.1
  have hst0 : isSt 1038 := by unfold isSt; decide
  refine ⟨D, ?_, ⟨⟨Or.inr ⟨oB, oA⟩, ?_, ?_, ?_, fun i hi => ?_⟩, ⟨?_, ?_, by rw [z1]; decide⟩, ⟨rph, ?_⟩, ?_, ?_⟩, ⟨?_, s2.2.2.1, fun f hf => ?_⟩, ?_, ?_, ?_⟩
  · rw [hD, ← hC]; exact k17
  · have h5 := s2.2.2.1
    have h6 := s2.2.1
    unfold cPm
    rw [hdA, o1 _ (by decide) (by decide) (by decide), h6]
    omega
  · unfold cNm
    rw [hdA, o1 _ (by decide) (by decide) (by decide), n2]
    omega
  · rw [hdA, o1 _ (by decide) (by decide) (by decide), hgap]
    omega
  · have := rph 1038 hst0 i hi
    unfold cAp
    rw [hdA]
    exact this
  · rw [o4 _ (by decide), show C2.2.2.2 1093 = C0i.2.2.2 1093 from funext fun j => by rw [w5 _ _ (by decide), d3 _ _ (by decide)]]; exact fr_R.2.1.1
  · rw [o4 _ (by decide), show C2.2.2.2 1093 = C0i.2.2.2 1093 from funext fun j => by rw [w5 _ _ (by decide), d3 _ _ (by decide)]]; exact fr_R.2.1.2.1
  · rw [cph_eq (D := D) (C := C1) (by rw [o1 _ (by decide) (by decide) (by decide), w1 _ (by decide) (by omega)]) (fun c hc => by rw [o2, w3 _ (by omega)]), dp _ (by decide) (by decide)]
    exact C0i_ph _ (by decide)
  · rw [hdA]
    exact nmS_c s2.1 (o1 _ (by decide) (by decide) (by decide)) (fun j => by rw [o3]) (fun j => by rw [o3])
  · rw [hdA, o1 _ (by decide) (by decide) (by decide), hgap]
  · unfold cPm
    rw [hdA, o1 _ (by decide) (by decide) (by decide), s2.2.1]
  · have h5 := s2.2.2.1
    have := dph 1038 hst0 f (by omega)
    unfold cAp
    rw [hdA, show 1034 + 4 + 2 + 5 * f = 1038 + 2 + 5 * f by omega, this]
    exact (s2.2.2.2.1 f hf).1
  · rw [o1 _ (by decide) (by decide) (by decide), w2 1 (by decide), d4 1 (by decide)]; rfl
  · rw [o1 _ (by decide) (by decide) (by decide), w2 2 (by decide), d4 2 (by decide)]; rfl
  · rw [o1 _ (by decide) (by decide) (by decide), w2 3 (by decide), d4 3 (by decide)]; rfl
end LD0
