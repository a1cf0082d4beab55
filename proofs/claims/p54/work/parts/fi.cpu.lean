/-! ===== the law copies names, all of it ===== -/
/-- two pictures of one photo tell the same rows -/
theorem pi_uni {p p' : tPi} {q : tPh} {gap : Int} (hq : phR q) (ok : piOK p q gap) (ok' : piOK p' q gap) : p.1 1 = p'.1 1 ∧ ∀ r : Nat, (r : Int) < p.1 1 → lenC p r = lenC p' r ∧ ∀ j : Nat, (j : Int) < lenC p r → plC p r j = plC p' r j := by
  have w' : rwOK (shS q) (shY q) gap (p'.2 3) (p'.1 1) := by
    obtain ⟨n, eo, er, -, -, -, -, o5, -⟩ := ok'
    exact o5
  obtain ⟨r1, r2⟩ := pk_row (pheq_r q) hq ok w'
  refine ⟨r1, fun r hr => ?_⟩
  obtain ⟨n, e, he⟩ := enO_ex (S := fun o => shS q o && decide (p'.2 3 o = (r : Int))) (key := kyX (shX q)) (fun a b ha hb _ _ hab => by unfold kyX at hab; omega)
  obtain ⟨a1, a2⟩ := pk_at (pheq_r q) hq ok w' he (by omega)
  obtain ⟨b1, b2⟩ := pk_at (pheq_r q) hq ok' w' he (by omega)
  exact ⟨a1.trans b1.symm, fun j hj => (a2 j (by omega)).trans (b2 j (by omega)).symm⟩
theorem cpF_c {D N D' N' : Nat → Int} {s : tPh × Nat} : ∀ n, (∀ j, j < n → D j = D' j ∧ N j = N' j) → cpF D N n s = cpF D' N' n s
  | 0, _ => rfl
  | n + 1, h => by
    obtain ⟨h1, h2⟩ := h n (by omega)
    rw [cpF, cpF, cpF_c n (fun j hj => h j (by omega)), h1, h2]
theorem cpG_c {p1 p2 p1' p2' : tPi} {qk : tPh} {s : tPh × Nat} : ∀ m, (∀ i, i < m → cpN p1 p2 i = cpN p1' p2' i ∧ ∀ j, j < cpN p1 p2 i → plC p1 i j = plC p1' i j ∧ plC p2 i j = plC p2' i j) → cpG p1 p2 qk m s = cpG p1' p2' qk m s
  | 0, _ => rfl
  | m + 1, h => by
    obtain ⟨h1, h2⟩ := h m (by omega)
    rw [cpG, cpG, cpG_c m (fun i hi => h i (by omega)), ← h1, cpF_c (N' := nmC p2' qk m) (cpN p1 p2 m) (fun j hj => ⟨(h2 j hj).1, by unfold nmC; rw [(h2 j hj).2]⟩)]
theorem cpG_u {p1 p2 p1' p2' : tPi} {q qk : tPh} {gap : Int} {s : tPh × Nat} (hq : phR q) (hk : phR qk) (o1 : piOK p1 q gap) (o1' : piOK p1' q gap) (o2 : piOK p2 qk gap) (o2' : piOK p2' qk gap) : mnI (p1.1 1) (p2.1 1) = mnI (p1'.1 1) (p2'.1 1) ∧ cpG p1 p2 qk (mnI (p1.1 1) (p2.1 1)).toNat s = cpG p1' p2' qk (mnI (p1.1 1) (p2.1 1)).toNat s := by
  obtain ⟨a1, a2⟩ := pi_uni hq o1 o1'
  obtain ⟨b1, b2⟩ := pi_uni hk o2 o2'
  have z1 := pi_rc o1
  have z2 := pi_rc o2
  refine ⟨by rw [a1, b1], cpG_c _ (fun i hi => ?_)⟩
  have i1 : (i : Int) < p1.1 1 ∧ (i : Int) < p2.1 1 := by
    unfold mnI at hi
    split at hi <;> omega
  obtain ⟨c1, c2⟩ := a2 i i1.1
  obtain ⟨d1, d2⟩ := b2 i i1.2
  have e1 := pi_len o1 i1.1
  have e2 := pi_len o2 i1.2
  refine ⟨by unfold cpN; rw [c1, d1], fun j hj => ?_⟩
  have f1 : (j : Int) < lenC p1 i ∧ (j : Int) < lenC p2 i := by
    unfold cpN mnI at hj
    unfold lenC at hj ⊢
    split at hj <;> omega
  exact ⟨c2 j f1.1, d2 j f1.2⟩
theorem cpG_z {p1 p2 : tPi} {qk : tPh} {s : tPh × Nat} (hk : phR qk) (hr : phR s.1) (hz : ∀ c, 4 ≤ c → s.1.2 c = fun _ => 0) : ∀ n, phR (cpG p1 p2 qk n s).1 ∧ ∀ c, 4 ≤ c → (cpG p1 p2 qk n s).1.2 c = fun _ => 0
  | 0 => ⟨hr, hz⟩
  | n + 1 => by
    obtain ⟨a1, a2⟩ := cpG_z (p1 := p1) (p2 := p2) hk hr hz n
    obtain ⟨b1, b2, -⟩ := cpF_R (D := plC p1 n) (N := nmC p2 qk n) (s := ((cpG p1 p2 qk n s).1, 0)) a1 a2 (cpN p1 p2 n) (fun j _ => by have := phR_i hk (plC p2 n j).toNat; unfold nmC; omega)
    exact ⟨b1, b2⟩
section CPYA
variable {z : Bool} {B : Nat} {A : tLw} {n : Nat} {g : Nat → Int32} {F L : Nat → List Nat} {C : tCl} {NN P : Nat}
theorem d415 (hk : txK B n) {X : am_H} {t f o : Nat} (h : acI X B A n g t F L C NN P) (hf : f < P) (ho : o < P) (hne : o ≠ f) : ∃ X', acO B n g F L NN P X t X' 0 200 3000 ∧ ru_ev z 415 [.ref 1000, .ref (B + 1), .int (wI f), .int (wI o)] X = some (.inl (some (.int (wI 1))), X') := by
  obtain ⟨hl, hw, hc, hX, hI, hP, hb⟩ := h
  obtain ⟨w1, w2, w3, w4, w5, w6, w7⟩ := id hw
  obtain ⟨kB1, kB2, kB3⟩ := id hk
  have hf3 : f < 3 := by omega
  have ho3 : o < 3 := by omega
  obtain ⟨hR, hiC1, hA, hS, hG⟩ := id hI
  have e1 : rcP C (f : Int) = 0 := by have := hP.1; unfold rcP; rw [if_neg (by omega), if_pos (by omega)]
  have e2 : rcP C (o : Int) = 0 := by have := hP.1; unfold rcP; rw [if_neg (by omega), if_pos (by omega)]
  have eQ : rcQ C (f : Int) (o : Int) = 0 := by unfold rcQ; rw [if_pos e1, if_pos e2, if_neg (by omega)]
  have q1 : phR (cph C (cAp C f)) := hR.2.2.2.2 f (by omega)
  have q2 : phR (cph C (cAp C o)) := hR.2.2.2.2 o (by omega)
  have run0 := fun H : am_H => c367 (z := z) (h := H) hR hiC1 hA (f := (f : Int)) (k := (o : Int)) (by omega) (by omega)
  have cls : ∀ H : am_H, ∃ C1 p1 p2, hsOK C C1 (alb C + 4) ∧ piOK p1 (cph C (cAp C f)) (A.1 0) ∧ piOK p2 (cph C (cAp C o)) (A.1 0) ∧ ru_ev z 367 [.ref 1000, .int (wI f), .int (wI o)] (clPut H C) = some (.inl (some (.int (wI ((cpG p1 p2 (cph C (cAp C o)) (mnI (p1.1 1) (p2.1 1)).toNat (cph C (cAp C f), 0)).2 : Nat)))), clPut H (stQ C1 (cAp C f) p1 p2 (cpG p1 p2 (cph C (cAp C o)) (mnI (p1.1 1) (p2.1 1)).toNat (cph C (cAp C f), 0)).1)) := fun H => by
    obtain ⟨tt, v, C', r1, r2⟩ := run0 H
    rcases r2 with ⟨r2, -⟩ | ⟨-, rfl, C1, p1, p2, s1, s2, s3, rfl, rfl⟩
    · exact absurd eQ r2
    · rw [hG] at s2 s3
      simp only [Int.toNat_natCast] at r1 s2 s3
      exact ⟨C1, p1, p2, s1, s2, s3, r1⟩
  obtain ⟨-, p1, p2, -, o1, o2, -⟩ := cls X
  have z1 := pi_rc o1
  have z2 := pi_rc o2
  obtain ⟨m, hm⟩ : ∃ m : Nat, mnI (p1.1 1) (p2.1 1) = (m : Int) := ⟨(mnI (p1.1 1) (p2.1 1)).toNat, by unfold mnI; split <;> omega⟩
  have m12 : m ≤ 12 := by unfold mnI at hm; split at hm <;> omega
  have hl1 := hl.1
  have hPf := hP.2.2 f hf
  have hPo := hP.2.2 o ho
  obtain ⟨Y, q'', l6, l7, l8, y1, y2, y3, y4, y5, y6, y7⟩ := d415l (z := z) w6 hf3 ho3 hne (by omega) (NN := (NN : Int)) (by omega) (w7 o ho).1 hPf hPo q1 q2 o1 o2 hm m 0 (by omega) X (A.2.1 f) none none none (by rw [ylU_self]; exact hl1) (by omega) (w6 f) (w7 f hf).1 (psE_refl _) hPf
  obtain ⟨C1, p1', p2', s1, s2, s3, s4⟩ := cls Y
  obtain ⟨u1, u2⟩ := cpG_u (s := (cph C (cAp C f), 0)) q1 q2 o1 s2 o2 s3
  rw [← u1, ← u2, hm, Int.toNat_natCast] at s4
  have hcY : clI Y C := clI_same hc (fun q h1 h2 => y6.1 q (by omega) (by omega))
  rw [← hcY] at s4
  obtain ⟨g1, g2⟩ := cpG_z (s := (cph C (cAp C f), 0)) (p1 := p1) (p2 := p2) q2 q1 (fun c hc => cph_hi C _ c hc) m
  obtain ⟨r1, r2, r3, r4⟩ := yc_chg (n := f) (q' := (cpG p1 p2 (cph C (cAp C o)) m (cph C (cAp C f), 0)).1) (p' := q'') hI hP (by omega) s1 g2 g1 y5
  obtain ⟨C2, hC2⟩ : ∃ C2, C2 = phP C1 (cAp C f) (cpG p1 p2 (cph C (cAp C o)) m (cph C (cAp C f), 0)).1 := ⟨_, rfl⟩
  rw [← hC2] at r1 r2 r3 r4
  obtain ⟨t1, t2, t3⟩ := yc_pi (P1 := 1070) (p := p1') (Or.inl rfl) r1
  obtain ⟨v1, v2, v3⟩ := yc_pi (P1 := 1081) (p := p2') (Or.inr rfl) t1
  have e9 : stQ C1 (cAp C f) p1' p2' (cpG p1 p2 (cph C (cAp C o)) m (cph C (cAp C f), 0)).1 = piPut (piPut C2 1070 p1') 1081 p2' := by rw [hC2]; rfl
  rw [e9] at s4
  have sY : ∀ q, q < 1000 → (q ≤ B ∨ B + 30 ≤ q) → Y.1 q = X.1 q := fun q h1 h2 => y6.1 q (by omega) h2
  have hh := y6.2
  refine ⟨clPut Y (piPut (piPut C2 1070 p1') 1081 p2'), ⟨ylU A f q'', piPut (piPut C2 1070 p1') 1081 p2', t, ⟨?_, ⟨w1, w2, w3, w4, w5, ylU_R w6 y2, fun i hi => ?_⟩, clI_put _ _, ?_, v1, v2 _ _ (t2 _ _ r2), ?_⟩, ⟨Nat.le_refl _, Nat.le_refl _⟩, ?_, ?_⟩, ?_⟩
  · have e : ∀ q, q < 1000 → (clPut Y (piPut (piPut C2 1070 p1') 1081 p2')).1 q = Y.1 q := fun q hq => by rw [clPut_o (by omega)]
    exact laI_W hk hl (fun q h1 h2 => by rw [e q h1, sY q h1 (by omega)]) (ylP_ag y1 (fun q h1 h2 => e q (by omega))) (dwP_ag hl.2.1 (by rw [e 1 (by omega), sY 1 (by omega) (by omega)]) (by rw [e B (by omega), sY B (by omega) (by omega)])) rfl rfl
  · by_cases e : i = f
    · subst e
      rw [ylU_s]
      exact ⟨y3, by rw [y4.1 0 (by decide)]; exact (w7 i hf).2.1, by rw [y4.1 1 (by decide)]; exact (w7 i hf).2.2.1, fun j hj => by rw [y4.2 2 (by decide)]; rw [y4.1 7 (by decide)] at hj; exact (w7 i hf).2.2.2.1 j hj, by rw [y4.1 4 (by decide), y4.1 0 (by decide)]; exact (w7 i hf).2.2.2.2⟩
    · rw [ylU_n e]; exact w7 i hi
  · show 1315 ≤ Y.2.1
    omega
  · rw [piPut_1 (by decide), piPut_1 (by decide), r3]; exact hb
  · show Y.2.1 ≤ _
    omega
  · show Y.2.2 ≤ _
    omega
  · have a1 : wI 1 &&& 1 = wI 1 := by decide +kernel
    have y7' : ru_n z 415 6 [some (.ref 1000), some (.ref (B + 1)), some (.int (wI f)), some (.int (wI o)), some (.int (wI 0)), some (.int (wI 0)), none, none, none] [] X = ru_n z 415 114 [some (.ref 1000), some (.ref (B + 1)), some (.int (wI f)), some (.int (wI o)), some (.int (wI (((cpG p1 p2 (cph C (cAp C o)) m (cph C (cAp C f), 0)).2 : Nat) : Int))), some (.int (wI m)), l6, l7, l8] [] Y := y7
    simp (disch := omega) only [en415, e415_0, e415_1, e415_3, e415_4, e415_114, e415_115, e415_116, e415_117, e415_120, e415_122, e415_125, e415_126, e415_129, e415_130, ↓reduceIte, Bool.false_eq_true, not_false_eq_true, not_true_eq_false, Nat.reduceLeDiff, Nat.reduceAdd, Nat.reduceEqDiff, Int.reduceToNat, Int.toNat_natCast, iB0, iB1, ru_klI, ru_klR, ru_klF, ru_klJ, ru_kl0, ru_cs0, ru_csI, ru_csR, ru_csF, ru_csJ, wI_add, wI_sub, wI_mul, wI_lt, wI_le, wI_inj, ru_fdE, ru_fdN, ru_iaN, ru_baN, ru_laN, ru_qaN, ru_pfN, ru_isN, ru_bsN, ru_jsN, ru_qsN, ru_set2, Nat.add_right_cancel_iff, if_true, if_false, ite_self, Int.reduceEq, and_self, Int.add_neg_cancel_right, Int.add_zero, Int.zero_add, y7', s4, a1, not_true, not_false_iff]
end CPYA
