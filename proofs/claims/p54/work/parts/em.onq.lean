/-! ===== the law writes a phrase of one: beside, between ===== -/
section ONQ
variable {z : Bool} {B : Nat} {A : tLw} {n : Nat} {g : Nat → Int32} {F L : Nat → List Nat} {S : Nat}
/-- between two -/
theorem d420d (hk : txK B n) (hA : ylR A) {X : am_H} {f NN t r cap a b c at_ far km N ha : Nat} {w : Nat → Int} {l : List Nat} (hf : f < 3) (hNN : A.1 1 = (NN : Int)) (hNN6 : NN ≤ 6) (ha' : a < NN) (hb : b < NN) (hc : c < NN) (hl : l.length ≤ 440) (h : txS X B A n g t F L S r l cap) (hN : N ≤ 12) (i1 : at_ < N) (i2 : far < N) (i3 : at_ + 2 = far ∨ far + 2 = at_) (hx : X.1 ha = some (ylI 0 N w)) (hw : w ((at_ + far) / 2) = (km : Int)) (hkm : km < 12) (hh : B + 30 ≤ ha ∧ ha < X.2.1 ∧ ha ≠ S ∧ ha ≠ r) {a7 a8 a9 : Int32} {l10 l14 : Option Value} : ∃ (X' : am_H) (r' cap' : Nat), txS X' B (ylU A f (lgv (A.2.1 f) km c)) n g t F L S r' (l ++ (lwT 15 ++ pfT F L a ++ [32] ++ pfT F L b ++ [32] ++ pfT F L c)) cap' ∧ agT B S r cap r' cap' X X' 3030 9300 ∧
    ru_n z 420 176 [some (.ref (B + 1)), some (.ref B), some (.int (wI f)), some (.ref S), some (.int (wI c)), some (.int (wI a)), some (.int (wI b)), some (.int a7), some (.int a8), some (.int a9), l10, some (.ref ha), some (.int (wI at_)), some (.int (wI far)), l14] [] X = some (.inl (some (.int (wI 1))), X') := by
  have haA : (a : Int) < A.1 1 := by omega
  have hbA : (b : Int) < A.1 1 := by omega
  have hcA : (c : Int) < A.1 1 := by omega
  have n1 := pfT_len h.2.2.1 haA
  have n2 := pfT_len h.2.2.1 hbA
  have n3 := pfT_len h.2.2.1 hcA
  obtain ⟨X3, r3, cap3, c1, c2, c3⟩ := tx_con (z := z) hk h (i := 15) (by decide) (by omega)
  have l3 : (l ++ lwT 15).length ≤ 448 := by rw [List.length_append]; show _ + 8 ≤ _; omega
  obtain ⟨X4, Q4, X5, r5, cap5, d1, d2, d3, d4⟩ := tx_full (z := z) (k := a) hk c2 haA (by omega) (by omega)
  have l5 : (l ++ lwT 15 ++ pfT F L a).length ≤ 454 := by rw [List.length_append]; omega
  obtain ⟨X6, r6, cap6, e1, e2, e3⟩ := tx_sp (z := z) hk d3 (show (l ++ lwT 15 ++ pfT F L a).length + 1 ≤ 500 by omega)
  have l6 : (l ++ lwT 15 ++ pfT F L a ++ [32]).length ≤ 455 := by rw [List.length_append]; show _ + 1 ≤ _; omega
  obtain ⟨X7, Q7, X8, r8, cap8, f1, f2, f3, f4⟩ := tx_full (z := z) (k := b) hk e2 hbA (by omega) (show (l ++ lwT 15 ++ pfT F L a ++ [32]).length ≤ 480 by omega)
  have l8 : (l ++ lwT 15 ++ pfT F L a ++ [32] ++ pfT F L b).length ≤ 461 := by rw [List.length_append]; omega
  obtain ⟨X9, r9, cap9, g1, g2, g3⟩ := tx_sp (z := z) hk f3 (show (l ++ lwT 15 ++ pfT F L a ++ [32] ++ pfT F L b).length + 1 ≤ 500 by omega)
  have l9 : (l ++ lwT 15 ++ pfT F L a ++ [32] ++ pfT F L b ++ [32]).length ≤ 462 := by rw [List.length_append]; show _ + 1 ≤ _; omega
  obtain ⟨X10, Q10, X11, r11, cap11, h1, h2, h3, h4⟩ := tx_full (z := z) (k := c) hk g2 hcA (by omega) (show (l ++ lwT 15 ++ pfT F L a ++ [32] ++ pfT F L b ++ [32]).length ≤ 480 by omega)
  have ag := agT_t c3 (agT_t d4 (agT_t e3 (agT_t f4 (agT_t g3 h4))))
  have hx11 : X11.1 ha = some (ylI 0 N w) := by rw [ag.1 ha hh.2.1 (Or.inr hh.1) hh.2.2.1 hh.2.2.2]; exact hx
  have ia := yl_ia hx11 (k := (((at_ + far) / 2 : Nat) : Int)) (by omega) (by omega) (by omega)
  rw [Int.toNat_natCast, hw, show (((at_ + far) / 2 : Nat) : Int) = ((at_ : Int) + (far : Int)) / 2 by omega] at ia
  have dv : wI ((at_ : Int) + (far : Int)) / wI 2 = wI (((at_ : Int) + (far : Int)) / 2) := wI_div (by omega) (by omega) (by omega) (by omega)
  have n0 := wI_ne0 (a := 2) (by omega) (by omega)
  obtain ⟨X12, j1, j2, j3, -, -⟩ := tx_giv (z := z) hk h3 hA (f := f) (k := km) (nm := (c : Int)) hf hkm (by omega)
  have e0 : l ++ lwT 15 ++ (F a ++ [32] ++ L a) ++ [32] ++ (F b ++ [32] ++ L b) ++ [32] ++ (F c ++ [32] ++ L c) = l ++ (lwT 15 ++ pfT F L a ++ [32] ++ pfT F L b ++ [32] ++ pfT F L c) := by unfold pfT; simp only [List.append_assoc]
  rw [e0] at j2
  have ab : abF ((far : Int) - (at_ : Int)) = 2 := by unfold abF; split <;> omega
  have m1 := m112 (z := z) (h := X) (a := (far : Int) - (at_ : Int)) (by omega)
  rw [ab] at m1
  refine ⟨X12, r11, cap11, j2, agT_m (agT_t ag j3) (by omega) (by omega), ?_⟩
  simp (disch := omega) only [e420_176, e420_178, e420_180, e420_181, e420_184, e420_185, e420_188, e420_189, e420_192, e420_195, e420_196, e420_198, e420_201, e420_204, e420_206, e420_209, e420_210, e420_212, e420_215, e420_218, e420_220, e420_223, e420_224, e420_226, e420_229, e420_232, e420_233, e420_234, e420_235, e420_237, e420_239, e420_241, e420_242, e420_243, e420_244, e420_245, e420_247, e420_250, e420_251, ↓reduceIte, Bool.false_eq_true, not_false_eq_true, not_true_eq_false, Nat.reduceLeDiff, Nat.reduceAdd, Nat.reduceEqDiff, Int.reduceToNat, Int.toNat_natCast, iB0, iB1, ru_klI, ru_klR, ru_klF, ru_klJ, ru_kl0, ru_cs0, ru_csI, ru_csR, ru_csF, ru_csJ, wI_add, wI_sub, wI_mul, wI_lt, wI_le, wI_inj, ru_fdE, ru_fdN, ru_iaN, ru_baN, ru_laN, ru_qaN, ru_pfN, ru_isN, ru_bsN, ru_jsN, ru_qsN, ru_set2, Nat.add_right_cancel_iff, if_true, if_false, ite_self, Int.reduceEq, and_self, Int.add_neg_cancel_right, Int.add_zero, Int.zero_add, ru_ctR, m1, c1, d1, d2, e1, f1, f2, g1, h1, h2, ia, dv, n0, j1, not_true]
/-- beside one -/
theorem d420e (hk : txK B n) (hA : ylR A) {X : am_H} {f NN t r cap a c at_ km N ha j : Nat} {w : Nat → Int} {l : List Nat} {far lf : Int} (hf : f < 3) (hNN : A.1 1 = (NN : Int)) (hNN6 : NN ≤ 6) (ha' : a < NN) (hc : c < NN) (hl : l.length ≤ 440) (h : txS X B A n g t F L S r l cap) (hN : N ≤ 12) (i1 : at_ < N) (i2 : -9 ≤ far ∧ far ≤ 12) (i3 : ¬ abF (far - (at_ : Int)) = 2) (ij : (lf = 1 ∧ j + 1 = at_) ∨ (lf = 0 ∧ j = at_ + 1)) (i4 : j < N) (hx : X.1 ha = some (ylI 0 N w)) (hw : w j = (km : Int)) (hkm : km < 12) (hh : B + 30 ≤ ha ∧ ha < X.2.1 ∧ ha ≠ S ∧ ha ≠ r) {a6 a7 a8 : Int32} {l10 : Option Value} {v14 : Int32} : ∃ (X' : am_H) (r' cap' : Nat), txS X' B (ylU A f (lgv (A.2.1 f) km c)) n g t F L S r' (l ++ (lwT 16 ++ pfT F L a ++ (if lf = 1 then lwT 17 else lwT 18) ++ pfT F L c)) cap' ∧ agT B S r cap r' cap' X X' 3030 9300 ∧
    ru_n z 420 176 [some (.ref (B + 1)), some (.ref B), some (.int (wI f)), some (.ref S), some (.int (wI c)), some (.int (wI a)), some (.int a6), some (.int a7), some (.int a8), some (.int (wI lf)), l10, some (.ref ha), some (.int (wI at_)), some (.int (wI far)), some (.int v14)] [] X = some (.inl (some (.int (wI 1))), X') := by
  have haA : (a : Int) < A.1 1 := by omega
  have hcA : (c : Int) < A.1 1 := by omega
  have n1 := pfT_len h.2.2.1 haA
  have n3 := pfT_len h.2.2.1 hcA
  obtain ⟨X3, r3, cap3, c1, c2, c3⟩ := tx_con (z := z) hk h (i := 16) (by decide) (by omega)
  have l3 : (l ++ lwT 16).length ≤ 447 := by rw [List.length_append]; show _ + 7 ≤ _; omega
  obtain ⟨X4, Q4, X5, r5, cap5, d1, d2, d3, d4⟩ := tx_full (z := z) (k := a) hk c2 haA (by omega) (by omega)
  have l5 : (l ++ lwT 16 ++ pfT F L a).length ≤ 453 := by rw [List.length_append]; omega
  have sid : ∃ (X6 : am_H) (r6 cap6 : Nat), ru_ev z 307 [.ref S, .ref (if lf = 1 then 517 else 518)] X5 = some (.inl (some (.ref S)), X6) ∧ txS X6 B A n g t F L S r6 (l ++ lwT 16 ++ pfT F L a ++ (if lf = 1 then lwT 17 else lwT 18)) cap6 ∧ agT B S r5 cap5 r6 cap6 X5 X6 0 0 := by
    by_cases c : lf = 1
    · rw [if_pos c, if_pos c]; exact tx_con (z := z) hk d3 (i := 17) (by decide) (show (l ++ lwT 16 ++ pfT F L a).length ≤ 480 by omega)
    · rw [if_neg c, if_neg c]; exact tx_con (z := z) hk d3 (i := 18) (by decide) (show (l ++ lwT 16 ++ pfT F L a).length ≤ 480 by omega)
  obtain ⟨X6, r6, cap6, e1, e2, e3⟩ := sid
  have sl : (if lf = 1 then lwT 17 else lwT 18).length ≤ 7 := by split <;> decide
  have l6 : (l ++ lwT 16 ++ pfT F L a ++ (if lf = 1 then lwT 17 else lwT 18)).length ≤ 460 := by rw [List.length_append]; omega
  obtain ⟨X10, Q10, X11, r11, cap11, h1, h2, h3, h4⟩ := tx_full (z := z) (k := c) hk e2 hcA (by omega) (show (l ++ lwT 16 ++ pfT F L a ++ (if lf = 1 then lwT 17 else lwT 18)).length ≤ 480 by omega)
  have ag := agT_t c3 (agT_t d4 (agT_t e3 h4))
  have hx11 : X11.1 ha = some (ylI 0 N w) := by rw [ag.1 ha hh.2.1 (Or.inr hh.1) hh.2.2.1 hh.2.2.2]; exact hx
  have ia := yl_ia hx11 (k := (j : Int)) (by omega) (by omega) (by omega)
  rw [Int.toNat_natCast, hw] at ia
  have al : am_al X ha = some (wI N) := ru_al hx (by decide)
  obtain ⟨X12, j1, j2, j3, -, -⟩ := tx_giv (z := z) hk h3 hA (f := f) (k := km) (nm := (c : Int)) hf hkm (by omega)
  have e0 : l ++ lwT 16 ++ pfT F L a ++ (if lf = 1 then lwT 17 else lwT 18) ++ (F c ++ [32] ++ L c) = l ++ (lwT 16 ++ pfT F L a ++ (if lf = 1 then lwT 17 else lwT 18) ++ pfT F L c) := by unfold pfT; simp only [List.append_assoc]
  rw [e0] at j2
  have ab : 0 ≤ abF (far - (at_ : Int)) ∧ abF (far - (at_ : Int)) ≤ 30 := by unfold abF; split <;> omega
  have m1 := m112 (z := z) (h := X) (a := far - (at_ : Int)) (by omega)
  refine ⟨X12, r11, cap11, j2, agT_m (agT_t ag j3) (by omega) (by omega), ?_⟩
  have dj : ((j : Int) < 0) = False := eq_false (by omega)
  have dN : ((N : Int) ≤ (j : Int)) = False := eq_false (by omega)
  rcases ij with ⟨rfl, ij⟩ | ⟨rfl, ij⟩
  · rw [if_pos rfl] at e1
    rw [show (j : Int) = (at_ : Int) - 1 by omega] at ia dj dN
    have d10 : ((1 : Int) = 0) = False := eq_false (by decide)
    simp (disch := omega) only [e420_176, e420_178, e420_180, e420_181, e420_184, e420_185, e420_188, e420_189, e420_192, e420_195, e420_196, e420_198, e420_201, e420_204, e420_206, e420_209, e420_210, e420_212, e420_215, e420_218, e420_220, e420_223, e420_224, e420_226, e420_229, e420_232, e420_233, e420_234, e420_235, e420_237, e420_239, e420_241, e420_242, e420_243, e420_244, e420_245, e420_247, e420_250, e420_251, e420_252, e420_254, e420_257, e420_259, e420_260, e420_261, e420_264, e420_266, e420_267, e420_268, e420_270, e420_272, e420_275, e420_277, e420_279, e420_280, e420_283, e420_284, e420_287, e420_290, e420_291, e420_293, e420_296, e420_299, e420_301, e420_304, e420_307, e420_310, e420_313, e420_316, e420_317, e420_319, e420_322, e420_325, e420_326, e420_327, e420_328, e420_330, e420_332, e420_333, e420_335, e420_338, e420_339, ↓reduceIte, Bool.false_eq_true, not_false_eq_true, not_true_eq_false, Nat.reduceLeDiff, Nat.reduceAdd, Nat.reduceEqDiff, Int.reduceToNat, Int.toNat_natCast, iB0, iB1, ru_klI, ru_klR, ru_klF, ru_klJ, ru_kl0, ru_cs0, ru_csI, ru_csR, ru_csF, ru_csJ, wI_add, wI_sub, wI_mul, wI_lt, wI_le, wI_inj, ru_fdE, ru_fdN, ru_iaN, ru_baN, ru_laN, ru_qaN, ru_pfN, ru_isN, ru_bsN, ru_jsN, ru_qsN, ru_set2, Nat.add_right_cancel_iff, if_true, if_false, ite_self, Int.reduceEq, and_self, Int.add_neg_cancel_right, Int.add_zero, Int.zero_add, ru_ctR, m1, i3, dj, dN, al, c1, d1, d2, e1, h1, h2, ia, j1, d10, not_false_iff]
  · rw [if_neg (by decide)] at e1
    rw [show (j : Int) = (at_ : Int) + 1 by omega] at ia dj dN
    simp (disch := omega) only [e420_176, e420_178, e420_180, e420_181, e420_184, e420_185, e420_188, e420_189, e420_192, e420_195, e420_196, e420_198, e420_201, e420_204, e420_206, e420_209, e420_210, e420_212, e420_215, e420_218, e420_220, e420_223, e420_224, e420_226, e420_229, e420_232, e420_233, e420_234, e420_235, e420_237, e420_239, e420_241, e420_242, e420_243, e420_244, e420_245, e420_247, e420_250, e420_251, e420_252, e420_254, e420_257, e420_259, e420_260, e420_261, e420_264, e420_266, e420_267, e420_268, e420_270, e420_272, e420_275, e420_277, e420_279, e420_280, e420_283, e420_284, e420_287, e420_290, e420_291, e420_293, e420_296, e420_299, e420_301, e420_304, e420_307, e420_310, e420_313, e420_316, e420_317, e420_319, e420_322, e420_325, e420_326, e420_327, e420_328, e420_330, e420_332, e420_333, e420_335, e420_338, e420_339, ↓reduceIte, Bool.false_eq_true, not_false_eq_true, not_true_eq_false, Nat.reduceLeDiff, Nat.reduceAdd, Nat.reduceEqDiff, Int.reduceToNat, Int.toNat_natCast, iB0, iB1, ru_klI, ru_klR, ru_klF, ru_klJ, ru_kl0, ru_cs0, ru_csI, ru_csR, ru_csF, ru_csJ, wI_add, wI_sub, wI_mul, wI_lt, wI_le, wI_inj, ru_fdE, ru_fdN, ru_iaN, ru_baN, ru_laN, ru_qaN, ru_pfN, ru_isN, ru_bsN, ru_jsN, ru_qsN, ru_set2, Nat.add_right_cancel_iff, if_true, if_false, ite_self, Int.reduceEq, and_self, Int.add_neg_cancel_right, Int.add_zero, Int.zero_add, ru_ctR, m1, i3, dj, dN, al, c1, d1, d2, e1, h1, h2, ia, j1, not_false_iff]
end ONQ
