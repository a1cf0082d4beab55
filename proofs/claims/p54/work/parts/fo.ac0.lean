/-! ===== acts: crop ===== -/
theorem crQ_sh {q : tPh} {x1 y1 x2 y2 : Int} {i : Nat} (hr : phR q) (hc : isCr q x1 y1 x2 y2 = true) : shw (crQ q x1 y1 x2 y2) i = inR q x1 y1 x2 y2 i := by
  have s := phR_s hr
  obtain ⟨a1, a2, a3, a4⟩ := isCr_t.mp hc
  have e2 : (crQ q x1 y1 x2 y2).1 2 = crL q x1 x2 := rfl
  have e3 : (crQ q x1 y1 x2 y2).1 3 = q.1 3 + y1 := rfl
  have e4 : (crQ q x1 y1 x2 y2).1 4 = crR q x1 x2 := rfl
  have e5 : (crQ q x1 y1 x2 y2).1 5 = q.1 3 + y2 := rfl
  have ec : ∀ c, (crQ q x1 y1 x2 y2).2 c = q.2 c := fun c => rfl
  rw [Bool.eq_iff_iff]
  unfold inR
  rw [Bool.and_eq_true, decide_eq_true_eq]
  unfold shw
  rw [decide_eq_true_eq, decide_eq_true_eq, e2, e3, e4, e5, ec 0, ec 1, ec 2]
  unfold crL crR shX shY
  have : q.1 6 = 0 ∨ q.1 6 = 1 := by omega
  rcases this with e | e
  · rw [if_neg (by omega), if_neg (by omega), if_pos e]; omega
  · rw [if_pos e, if_pos e, if_neg (by omega)]; omega
theorem crQ_eq {q : tPh} {x1 y1 x2 y2 : Int} : crQ q x1 y1 x2 y2 = (up1 (up1 (up1 (up1 q.1 2 (crL q x1 x2)) 4 (crR q x1 x2)) 3 (q.1 3 + y1)) 5 (q.1 3 + y2), q.2) := by
  unfold crQ frQ
  refine Prod.ext ?_ rfl
  dsimp only
  rw [up1_sw (i := 3) (j := 4) (by decide)]
theorem crQ_ph {q p : tPh} (h : pheq q p) {x1 y1 x2 y2 : Int} : pheq (crQ q x1 y1 x2 y2) (crQ p x1 y1 x2 y2) := by
  unfold crQ
  rw [(crX_eq h x1 x2).1, (crX_eq h x1 x2).2, h.1 3 (by decide)]
  exact pheq_fr h
theorem crQ_R {q : tPh} (hr : phR q) {x1 y1 x2 y2 : Int} (hc : isCr q x1 y1 x2 y2 = true) : phR (crQ q x1 y1 x2 y2) := by
  obtain ⟨a1, a2, a3, a4, -, -⟩ := cr_rng hr hc
  exact frQ_R hr a1 a2 a3 a4
section AC0
variable {z : Bool} {B f : Nat} {A : tLw} {n : Nat} {g : Nat → Int32} {F L : Nat → List Nat} {C : tCl} {NN P : Nat}
theorem act0 (hk : txK B n) {X : am_H} {t : Nat} (h : acI X B A n g t F L C NN P) (hf : f < P) (ht : t ≤ 900000) : ∃ X', acO B n g F L NN P X t X' 4 0 0 ∧ ru_n z 412 71 [some (.ref 1000), some (.ref (B + 1)), some (.ref B), some (.int (wI 0)), some (.int (wI f)), some (.int (wI ((A.2.1 f).1 4 - (A.2.1 f).1 2))), some (.int (wI ((A.2.1 f).1 5 - (A.2.1 f).1 3))), some (.int (wI (cnB (shw (A.2.1 f)) ((A.2.1 f).1 7).toNat : Nat))), none, none, none, none, none, none, none, none] [] X = some (.inl (some (.int (wI 1))), X') := by
  obtain ⟨-, -, -, hf3, rp⟩ := ac_rc h hf
  obtain ⟨kB1, kB2, kB3⟩ := id hk
  have s := phR_s rp
  have fr := (h.2.1.2.2.2.2.2.2 f hf).1.2.2
  obtain ⟨W, hW⟩ : ∃ W : Int, W = (A.2.1 f).1 4 - (A.2.1 f).1 2 := ⟨_, rfl⟩
  obtain ⟨G, hG⟩ : ∃ G : Int, G = (A.2.1 f).1 5 - (A.2.1 f).1 3 := ⟨_, rfl⟩
  rw [← hW, ← hG]
  obtain ⟨x1, X1, v1, v2, k1, h1, e1⟩ := ac_drw (z := z) hk h (by omega) (lo := 0) (hi := W / 3) (by omega) (by omega) (by omega)
  obtain ⟨M1, hM1⟩ : ∃ M : Int, M = if W - W / 3 ≤ x1 then x1 else W - W / 3 := ⟨_, rfl⟩
  have b1 : x1 ≤ M1 ∧ M1 ≤ W := by rw [hM1]; split <;> omega
  obtain ⟨x2, X2, v3, v4, k2, h2, e2⟩ := ac_drw (z := z) hk h1 (by omega) (lo := M1) (hi := W) (by omega) (by omega) (by omega)
  obtain ⟨y1, X3, v5, v6, k3, h3, e3⟩ := ac_drw (z := z) hk h2 (by omega) (lo := 0) (hi := G / 3) (by omega) (by omega) (by omega)
  obtain ⟨M2, hM2⟩ : ∃ M : Int, M = if G - G / 3 ≤ y1 then y1 else G - G / 3 := ⟨_, rfl⟩
  have b2 : y1 ≤ M2 ∧ M2 ≤ G := by rw [hM2]; split <;> omega
  obtain ⟨y2, X4, v7, v8, k4, h4, e4⟩ := ac_drw (z := z) hk h3 (by omega) (lo := M2) (hi := G) (by omega) (by omega) (by omega)
  obtain ⟨rc, pq, rq, -, -⟩ := ac_rc h4 hf
  obtain ⟨hl, hw, hc, hX, hI, hP, hb⟩ := id h4
  obtain ⟨hR, hH, hA, -, -⟩ := id hI
  obtain ⟨hN, hw1, hw2, hw3, hw4⟩ := hw.2.2.2.2.2.2 f hf
  have s2 := phR_s rq
  have cr : isCr (A.2.1 f) x1 y1 x2 y2 = true := isCr_t.mpr ⟨by omega, by omega, by omega, by omega⟩
  have crc : isCr (cph C (cAp C f)) x1 y1 x2 y2 = true := by rw [pheq_isCr pq]; exact cr
  have m1 := fun H : am_H => m271 (z := z) (h := H) (a := x1) (b := W - W / 3) (by omega) (by omega)
  have m2 := fun H : am_H => m271 (z := z) (h := H) (a := y1) (b := G - G / 3) (by omega) (by omega)
  rw [← hM1] at m1
  rw [← hM2] at m2
  have dW : wI W / wI 3 = wI (W / 3) := wI_div (by omega) (by omega) (by omega) (by omega)
  have dG : wI G / wI 3 = wI (G / 3) := wI_div (by omega) (by omega) (by omega) (by omega)
  have d3 : (wI 3 = 0) = False := wI_ne0 (by omega) (by omega)
  -- keeps
  have kk := c284 (z := z) (h := X4) hR (f := (f : Int)) (x1 := x1) (y1 := y1) (x2 := x2) (y2 := y2) (by omega) (by omega) (by omega) (by omega) (by omega)
  rw [if_pos rc, Int.toNat_natCast, if_pos crc, oR_0 rfl, ← hc] at kk
  have bb0 := bsN_b (P := inR (cph C (cAp C f)) x1 y1 x2 y2) (k := ((cph C (cAp C f)).1 7).toNat) (by omega)
  have kb := m233 (z := z) (h := X4) (s := bsN (inR (cph C (cAp C f)) x1 y1 x2 y2) ((cph C (cAp C f)).1 7).toNat) (by omega)
  rw [pcN_bs _ 20 _ (by omega)] at kb
  -- the law's frame
  have y0 : ylP X4 B (ylU A f (A.2.1 f)) := by rw [ylU_self]; exact hl.1
  obtain ⟨Y1, a1, u1, z1⟩ := yl_wg y0 (k := 0) (v := crL (A.2.1 f) x1 x2) hf3 (by omega) (by omega)
  obtain ⟨Y2, a2, u2, z2⟩ := yl_wg u1 (k := 2) (v := crR (A.2.1 f) x1 x2) hf3 (by omega) (by omega)
  obtain ⟨Y3, a3, u3, z3⟩ := yl_wg u2 (k := 1) (v := (A.2.1 f).1 3 + y1) hf3 (by omega) (by omega)
  obtain ⟨Y, a4, u4, z4⟩ := yl_wg u3 (k := 3) (v := (A.2.1 f).1 3 + y2) hf3 (by omega) (by omega)
  have cE := ylE_t (ylE_t (ylE_t z1 z2) z3) z4
  have u4' : ylP Y B (ylU A f (crQ (A.2.1 f) x1 y1 x2 y2)) := by rw [crQ_eq]; exact u4
  have hcY : clI Y C := clI_same hc (fun q h1 h2 => cE.1 q (by omega))
  obtain ⟨u, C1, q', t1, ⟨t2, t3⟩, t4⟩ := ch_get (by rw [if_pos rc, Int.toNat_natCast, if_pos crc]) (c347 (z := z) (h := Y) hR hH hA (f := (f : Int)) (x1 := x1) (y1 := y1) (x2 := x2) (y2 := y2) (by omega) (by omega) (by omega) (by omega) (by omega))
  simp only [Int.toNat_natCast] at t2 t3 t4
  rw [← hcY] at t4
  have eq' : pheq q' (crQ (A.2.1 f) x1 y1 x2 y2) := by rw [t2]; exact crQ_ph pq
  have rng := cr_rng rp cr
  have O := ac_chg (C := C) (C1 := C1) (q' := q') (t := t + 1 + 1 + 1 + 1) hk h4 hf u4' (agA_e cE) (crQ_R rp cr) (phN_1 (q := A.2.1 f) rfl (fun i _ => rfl) rng.2.2.2.2 hN) rfl rfl hw3 (show crR (A.2.1 f) x1 x2 < (A.2.1 f).1 0 by unfold crR; split <;> omega) t1 (by rw [t2]; exact fun c hc => cph_hi C _ c hc) (by rw [t2]; exact crQ_R rq crc) eq'
  have O2 := acO_t (X := X) (t := t) (dt' := 4) (c' := 0) (s' := 0) (by omega) (by rw [e4, e3, e2, e1]; omega) (by rw [e4, e3, e2, e1]; omega) O
  refine ⟨_, acO_m O2 (by omega) (by omega) (by omega), ?_⟩
  have hy9 : ylP (clPut Y (phP C1 (cAp C f) q')) B (ylU A f (crQ (A.2.1 f) x1 y1 x2 y2)) := ylP_ag u4' (fun q h1 h2 => by rw [clPut_o (by omega)])
  have c407 := d407 (z := z) u4' (ylU_R hw.2.2.2.2.2.1 (crQ_R rp cr)) (f := f) hf3
  have c407' := d407 (z := z) hy9 (ylU_R hw.2.2.2.2.2.1 (crQ_R rp cr)) (f := f) hf3
  have q7 : (q'.1 7).toNat = ((cph C (cAp C f)).1 7).toNat := by rw [t2]; rfl
  have kc : cnB (inR (cph C (cAp C f)) x1 y1 x2 y2) ((cph C (cAp C f)).1 7).toNat = cnB (shw q') ((cph C (cAp C f)).1 7).toNat := cnB_ext (Nat.le_refl _) (fun o _ => by rw [t2, crQ_sh rq crc]) (fun o h1 h2 => by omega)
  rw [ylU_s, ← pheq_cn eq', q7] at c407 c407'
  rw [kc] at kb
  rw [t3, pheq_cn pq] at t4
  have bb := cnB_le (shw q') ((cph C (cAp C f)).1 7).toNat
  have bb2 := cnB_le (shw (A.2.1 f)) ((A.2.1 f).1 7).toNat
  have r25 := yl_25 hl.1 hf3
  have r25a := yl_25 u1 hf3
  rw [ylU_s] at r25a
  have r25b : am_ba Y1 (B + 25) (wI f) = some (wI ((A.2.1 f).1 6)) := r25a
  have g2 := yl_fr hl.1 hf3 (k := 2) (by omega) (by omega)
  have g0 := yl_fr hl.1 hf3 (k := 0) (by omega) (by omega)
  have g1 := yl_fr hl.1 hf3 (k := 1) (by omega) (by omega)
  simp only [Int.reduceToNat, Nat.reduceAdd] at g0 g1 g2
  have w1 : wI 1 &&& 1 = wI 1 := by decide +kernel
  have d0 : ((0 : Int) = 0) = True := eq_true rfl
  have d1 : ((1 : Int) = 0) = False := eq_false (by decide)
  have : (A.2.1 f).1 6 = 0 ∨ (A.2.1 f).1 6 = 1 := by omega
  unfold crL at a1
  unfold crR at a2
  rcases this with e | e
  · rw [e] at r25 r25b
    rw [if_neg (by omega)] at a1 a2
    simp (disch := omega) only [e412_71, e412_72, e412_75, e412_76, e412_77, e412_79, e412_80, e412_81, e412_84, e412_86, e412_87, e412_89, e412_91, e412_93, e412_94, e412_95, e412_96, e412_99, e412_101, e412_104, e412_106, e412_107, e412_108, e412_110, e412_111, e412_112, e412_115, e412_117, e412_118, e412_120, e412_122, e412_124, e412_125, e412_126, e412_127, e412_130, e412_132, e412_135, e412_137, e412_138, e412_141, e412_143, e412_144, e412_145, e412_146, e412_148, e412_149, e412_152, e412_154, e412_155, e412_156, e412_157, e412_159, e412_160, e412_163, e412_165, e412_166, e412_167, e412_168, e412_170, e412_171, e412_173, e412_175, e412_177, e412_179, e412_181, e412_184, e412_187, e412_189, e412_190, e412_193, e412_195, e412_196, e412_197, e412_198, e412_201, e412_203, e412_204, e412_207, e412_209, e412_211, e412_212, e412_215, e412_217, e412_219, e412_220, e412_221, e412_222, e412_225, e412_227, e412_228, e412_229, e412_230, e412_233, e412_235, e412_236, e412_239, e412_241, e412_243, e412_244, e412_247, e412_249, e412_251, e412_252, e412_253, e412_254, e412_257, e412_259, e412_260, e412_261, e412_263, e412_265, e412_266, e412_267, e412_268, e412_271, e412_273, e412_274, e412_275, e412_277, e412_279, e412_280, e412_281, e412_283, e412_284, e412_286, e412_289, e412_292, e412_293, e412_295, e412_297, e412_299, e412_301, e412_303, e412_306, e412_308, e412_309, e412_311, e412_314, e412_315, e412_318, e412_319, e412_322, e412_323, ↓reduceIte, Bool.false_eq_true, not_false_eq_true, not_true_eq_false, Nat.reduceLeDiff, Nat.reduceAdd, Nat.reduceEqDiff, Int.reduceToNat, Int.toNat_natCast, iB0, iB1, ru_klI, ru_klR, ru_klF, ru_klJ, ru_kl0, ru_cs0, ru_csI, ru_csR, ru_csF, ru_csJ, wI_add, wI_sub, wI_mul, wI_lt, wI_le, wI_inj, ru_fdE, ru_fdN, ru_iaN, ru_baN, ru_laN, ru_qaN, ru_pfN, ru_isN, ru_bsN, ru_jsN, ru_qsN, ru_set2, Nat.add_right_cancel_iff, if_true, if_false, ite_self, Int.reduceEq, and_self, Int.add_neg_cancel_right, Int.add_zero, Int.zero_add, yl_o hl.1, yl_o u1, yl_o u2, yl_o u3, yl_o u4, yl_o hy9, k1, k2, k3, k4, m1, m2, dW, dG, d3, kk, kb, yl_f9 hl.1, yl_f9 u1, yl_f9 u2, yl_f9 u3, yl_f13 hl.1, yl_f13 u1, yl_q9 hl.1 hf3, yl_q9 u1 hf3, yl_q9 u2 hf3, yl_q9 u3 hf3, r25, r25b, g0, g1, g2, a1, a2, a3, a4, c407, c407', t4, d0, d1, w1, not_true, not_false_iff]
  · rw [e] at r25 r25b
    rw [if_pos e] at a1 a2
    simp (disch := omega) only [e412_71, e412_72, e412_75, e412_76, e412_77, e412_79, e412_80, e412_81, e412_84, e412_86, e412_87, e412_89, e412_91, e412_93, e412_94, e412_95, e412_96, e412_99, e412_101, e412_104, e412_106, e412_107, e412_108, e412_110, e412_111, e412_112, e412_115, e412_117, e412_118, e412_120, e412_122, e412_124, e412_125, e412_126, e412_127, e412_130, e412_132, e412_135, e412_137, e412_138, e412_141, e412_143, e412_144, e412_145, e412_146, e412_148, e412_149, e412_152, e412_154, e412_155, e412_156, e412_157, e412_159, e412_160, e412_163, e412_165, e412_166, e412_167, e412_168, e412_170, e412_171, e412_173, e412_175, e412_177, e412_179, e412_181, e412_184, e412_187, e412_189, e412_190, e412_193, e412_195, e412_196, e412_197, e412_198, e412_201, e412_203, e412_204, e412_207, e412_209, e412_211, e412_212, e412_215, e412_217, e412_219, e412_220, e412_221, e412_222, e412_225, e412_227, e412_228, e412_229, e412_230, e412_233, e412_235, e412_236, e412_239, e412_241, e412_243, e412_244, e412_247, e412_249, e412_251, e412_252, e412_253, e412_254, e412_257, e412_259, e412_260, e412_261, e412_263, e412_265, e412_266, e412_267, e412_268, e412_271, e412_273, e412_274, e412_275, e412_277, e412_279, e412_280, e412_281, e412_283, e412_284, e412_286, e412_289, e412_292, e412_293, e412_295, e412_297, e412_299, e412_301, e412_303, e412_306, e412_308, e412_309, e412_311, e412_314, e412_315, e412_318, e412_319, e412_322, e412_323, ↓reduceIte, Bool.false_eq_true, not_false_eq_true, not_true_eq_false, Nat.reduceLeDiff, Nat.reduceAdd, Nat.reduceEqDiff, Int.reduceToNat, Int.toNat_natCast, iB0, iB1, ru_klI, ru_klR, ru_klF, ru_klJ, ru_kl0, ru_cs0, ru_csI, ru_csR, ru_csF, ru_csJ, wI_add, wI_sub, wI_mul, wI_lt, wI_le, wI_inj, ru_fdE, ru_fdN, ru_iaN, ru_baN, ru_laN, ru_qaN, ru_pfN, ru_isN, ru_bsN, ru_jsN, ru_qsN, ru_set2, Nat.add_right_cancel_iff, if_true, if_false, ite_self, Int.reduceEq, and_self, Int.add_neg_cancel_right, Int.add_zero, Int.zero_add, yl_o hl.1, yl_o u1, yl_o u2, yl_o u3, yl_o u4, yl_o hy9, k1, k2, k3, k4, m1, m2, dW, dG, d3, kk, kb, yl_f9 hl.1, yl_f9 u1, yl_f9 u2, yl_f9 u3, yl_f13 hl.1, yl_f13 u1, yl_q9 hl.1 hf3, yl_q9 u1 hf3, yl_q9 u2 hf3, yl_q9 u3 hf3, r25, r25b, g0, g1, g2, a1, a2, a3, a4, c407, c407', t4, d0, d1, w1, not_true, not_false_iff]
end AC0
