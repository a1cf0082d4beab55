/-! ===== acts: flip, uncrop ===== -/
theorem pheq_up {q p : tPh} {k : Nat} {v : Int} (h : pheq q p) (hk : k ≠ 7) : pheq (up1 q.1 k v, q.2) (up1 p.1 k v, p.2) := by
  refine ⟨fun j hj => ?_, fun c i hc hi => ?_⟩
  · show up1 q.1 k v j = up1 p.1 k v j
    by_cases e : j = k
    · rw [e, up1_e, up1_e]
    · rw [up1_n e, up1_n e]; exact h.1 j hj
  · have hi' : ((i : Nat) : Int) < up1 q.1 k v 7 := hi
    rw [up1_n hk.symm] at hi'
    exact h.2 c i hc hi'
section AC2
variable {z : Bool} {B f : Nat} {A : tLw} {n : Nat} {g : Nat → Int32} {F L : Nat → List Nat} {C : tCl} {NN P : Nat}
theorem act1 (hk : txK B n) {X : am_H} {t : Nat} (h : acI X B A n g t F L C NN P) (hf : f < P) {wd hg hd : Int32} : ∃ X', acO B n g F L NN P X t X' 0 0 0 ∧ ru_n z 412 71 [some (.ref 1000), some (.ref (B + 1)), some (.ref B), some (.int (wI 1)), some (.int (wI f)), some (.int wd), some (.int hg), some (.int hd), none, none, none, none, none, none, none, none] [] X = some (.inl (some (.int (wI 1))), X') := by
  obtain ⟨rc, pq, rq, hf3, rp⟩ := ac_rc h hf
  obtain ⟨hl, hw, hc, hX, hI, hP, hb⟩ := id h
  obtain ⟨hR, hH, hA, -, -⟩ := id hI
  obtain ⟨kB1, kB2, kB3⟩ := id hk
  have s := phR_s rp
  have hN := (hw.2.2.2.2.2.2 f hf).1
  obtain ⟨v, hv⟩ : ∃ v, v = 1 - (A.2.1 f).1 6 := ⟨_, rfl⟩
  obtain ⟨Y, y1, y2, y3⟩ := yl_w25 hl.1 hf3 (v := v) (by omega)
  have hcY : clI Y C := clI_same hc (fun q h1 h2 => y3.1 q (by omega))
  obtain ⟨u, C1, q', k1, ⟨k2, k3⟩, k4⟩ := ch_get rc (c352 (z := z) (h := Y) hR hH hA (f := (f : Int)) (by omega))
  simp only [Int.toNat_natCast] at k2 k3 k4
  rw [← hcY] at k4
  have e6 := pq.1 6 (by decide)
  have s2 := phR_s rq
  have O := ac_chg (C := C) (C1 := C1) (q' := q') (t := t) hk h hf y2 (agA_e y3) (phR_up rp (by omega) (fun _ => by omega) (fun e => by omega)) (phN_1 (q := A.2.1 f) rfl (fun i _ => rfl) ⟨by show up1 _ 6 v 2 ≤ up1 _ 6 v 4; rw [up1_n (by decide), up1_n (by decide)]; exact hN.2.2.1, by show up1 _ 6 v 3 ≤ up1 _ 6 v 5; rw [up1_n (by decide), up1_n (by decide)]; exact hN.2.2.2⟩ hN) rfl rfl (hw.2.2.2.2.2.2 f hf).2.2.2.1 (hw.2.2.2.2.2.2 f hf).2.2.2.2 k1 (by rw [k2]; exact fun c hc => cph_hi C _ c hc) (by rw [k2]; exact phR_up rq (by omega) (fun _ => by omega) (fun e => by omega)) (by rw [k2, show 1 - (cph C (cAp C f)).1 6 = v by omega]; exact pheq_up pq (by decide))
  refine ⟨_, O, ?_⟩
  have hy9 : ylP (clPut Y (phP C1 (cAp C f) q')) B (ylU A f (up1 (A.2.1 f).1 6 v, (A.2.1 f).2)) := ylP_ag y2 (fun q h1 h2 => by rw [clPut_o (by omega)])
  have r25 := yl_25 hl.1 hf3
  have r25' := yl_25 hy9 hf3
  rw [ylU_s] at r25'
  have r25'' : am_ba (clPut Y (phP C1 (cAp C f) q')) (B + 25) (wI f) = some (wI v) := by
    rw [r25']
    show some (wI (up1 (A.2.1 f).1 6 v 6)) = _
    rw [up1_e]
  have f13 := yl_f13 hl.1
  have f13' := yl_f13 hy9
  have a1 : wI 1 &&& 1 = wI 1 := by decide +kernel
  have d1 : ((1 : Int) = 0) = False := eq_false (by decide)
  have d0 : ((0 : Int) = 0) = True := eq_true rfl
  have eu : u = v := by omega
  rw [eu] at k4
  have : (A.2.1 f).1 6 = 0 ∨ (A.2.1 f).1 6 = 1 := by omega
  rcases this with e | e
  · rw [e] at r25 hv
    have hv1 : v = 1 := by omega
    rw [hv1] at y1 k4 r25''
    simp (disch := omega) only [e412_71, e412_72, e412_324, e412_325, e412_326, e412_329, e412_330, e412_333, e412_335, e412_336, e412_339, e412_341, e412_342, e412_345, e412_346, e412_349, e412_350, e412_351, e412_352, e412_354, e412_357, e412_358, e412_361, e412_363, e412_364, e412_367, e412_368, e412_371, e412_372, ↓reduceIte, Bool.false_eq_true, not_false_eq_true, not_true_eq_false, Nat.reduceLeDiff, Nat.reduceAdd, Nat.reduceEqDiff, Int.reduceToNat, Int.toNat_natCast, iB0, iB1, ru_klI, ru_klR, ru_klF, ru_klJ, ru_kl0, ru_cs0, ru_csI, ru_csR, ru_csF, ru_csJ, wI_add, wI_sub, wI_mul, wI_lt, wI_le, wI_inj, ru_fdE, ru_fdN, ru_iaN, ru_baN, ru_laN, ru_qaN, ru_pfN, ru_isN, ru_bsN, ru_jsN, ru_qsN, ru_set2, Nat.add_right_cancel_iff, if_true, if_false, ite_self, Int.reduceEq, and_self, Int.add_neg_cancel_right, Int.add_zero, Int.zero_add, yl_o hl.1, yl_o hy9, f13, f13', r25, r25'', y1, k4, d0, d1, a1, not_true, not_false_iff]
  · rw [e] at r25 hv
    have hv1 : v = 0 := by omega
    rw [hv1] at y1 k4 r25''
    simp (disch := omega) only [e412_71, e412_72, e412_324, e412_325, e412_326, e412_329, e412_330, e412_333, e412_335, e412_336, e412_339, e412_341, e412_342, e412_345, e412_346, e412_349, e412_350, e412_351, e412_352, e412_354, e412_357, e412_358, e412_361, e412_363, e412_364, e412_367, e412_368, e412_371, e412_372, ↓reduceIte, Bool.false_eq_true, not_false_eq_true, not_true_eq_false, Nat.reduceLeDiff, Nat.reduceAdd, Nat.reduceEqDiff, Int.reduceToNat, Int.toNat_natCast, iB0, iB1, ru_klI, ru_klR, ru_klF, ru_klJ, ru_kl0, ru_cs0, ru_csI, ru_csR, ru_csF, ru_csJ, wI_add, wI_sub, wI_mul, wI_lt, wI_le, wI_inj, ru_fdE, ru_fdN, ru_iaN, ru_baN, ru_laN, ru_qaN, ru_pfN, ru_isN, ru_bsN, ru_jsN, ru_qsN, ru_set2, Nat.add_right_cancel_iff, if_true, if_false, ite_self, Int.reduceEq, and_self, Int.add_neg_cancel_right, Int.add_zero, Int.zero_add, yl_o hl.1, yl_o hy9, f13, f13', r25, r25'', y1, k4, d0, d1, a1, not_true, not_false_iff]
theorem yl_wg {X : am_H} {p : tPh} (h : ylP X B (ylU A f p)) {k v : Int} (hf : f < 3) (h1 : 0 ≤ k) (h2 : k < 4) : ∃ X', am_is X (B + 10 + f) (wI k) (wI v) = some X' ∧ ylP X' B (ylU A f (up1 p.1 (k.toNat + 2) v, p.2)) ∧ ylE X X' B := by
  obtain ⟨X', a1, a2, a3⟩ := yl_wf h (v := v) hf h1 h2
  rw [ylU_s, ylU_up] at a2
  exact ⟨X', a1, a2, a3⟩
theorem pheq_fr {q p : tPh} (h : pheq q p) {l t r b : Int} : pheq (frQ q l t r b) (frQ p l t r b) := pheq_up (pheq_up (pheq_up (pheq_up h (k := 2) (by decide)) (k := 3) (by decide)) (k := 4) (by decide)) (k := 5) (by decide)
theorem pheq_cn {q p : tPh} (h : pheq q p) : cnB (shw q) (q.1 7).toNat = cnB (shw p) (p.1 7).toNat := by
  rw [← h.1 7 (by decide)]
  exact cnB_ext (Nat.le_refl _) (fun o ho => pheq_shw h (by omega)) (fun o h1 h2 => by omega)
theorem act2 (hk : txK B n) {X : am_H} {t : Nat} (h : acI X B A n g t F L C NN P) (hf : f < P) {wd hg : Int32} : ∃ X', acO B n g F L NN P X t X' 0 0 0 ∧ ru_n z 412 71 [some (.ref 1000), some (.ref (B + 1)), some (.ref B), some (.int (wI 2)), some (.int (wI f)), some (.int wd), some (.int hg), some (.int (wI (cnB (shw (A.2.1 f)) ((A.2.1 f).1 7).toNat : Nat))), none, none, none, none, none, none, none, none] [] X = some (.inl (some (.int (wI 1))), X') := by
  obtain ⟨rc, pq, rq, hf3, rp⟩ := ac_rc h hf
  obtain ⟨hl, hw, hc, hX, hI, hP, hb⟩ := id h
  obtain ⟨hR, hH, hA, -, -⟩ := id hI
  obtain ⟨kB1, kB2, kB3⟩ := id hk
  have s := phR_s rp
  obtain ⟨hN, hw1, hw2, hw3, hw4⟩ := hw.2.2.2.2.2.2 f hf
  have y0 : ylP X B (ylU A f (A.2.1 f)) := by rw [ylU_self]; exact hl.1
  obtain ⟨Y1, a1, b1, c1⟩ := yl_wg y0 (k := 0) (v := 0) hf3 (by omega) (by omega)
  obtain ⟨Y2, a2, b2, c2⟩ := yl_wg b1 (k := 1) (v := 0) hf3 (by omega) (by omega)
  obtain ⟨Y3, a3, b3, c3⟩ := yl_wg b2 (k := 2) (v := (A.2.1 f).1 0 - 1) hf3 (by omega) (by omega)
  obtain ⟨Y, a4, b4, c4⟩ := yl_wg b3 (k := 3) (v := (A.2.1 f).1 1 - 1) hf3 (by omega) (by omega)
  have cE := ylE_t (ylE_t (ylE_t c1 c2) c3) c4
  have b4' : ylP Y B (ylU A f (frQ (A.2.1 f) 0 0 ((A.2.1 f).1 0 - 1) ((A.2.1 f).1 1 - 1))) := b4
  have hcY : clI Y C := clI_same hc (fun q h1 h2 => cE.1 q (by omega))
  have e0 := pq.1 0 (by decide)
  have e1 := pq.1 1 (by decide)
  obtain ⟨u, C1, q', k1, ⟨k2, k3⟩, k4⟩ := ch_get rc (c355 (z := z) (h := Y) hR hH hA (f := (f : Int)) (by omega) (fun _ => by rw [Int.toNat_natCast]; omega))
  simp only [Int.toNat_natCast] at k2 k3 k4
  rw [← hcY] at k4
  rw [e0, e1] at k2
  have eq' : pheq q' (frQ (A.2.1 f) 0 0 ((A.2.1 f).1 0 - 1) ((A.2.1 f).1 1 - 1)) := by rw [k2]; exact pheq_fr pq
  have O := ac_chg (C := C) (C1 := C1) (q' := q') (t := t) hk h hf b4' (agA_e cE) (frQ_R rp (by omega) (by omega) (by omega) (by omega)) (phN_1 (q := A.2.1 f) rfl (fun i _ => rfl) ⟨show (0 : Int) ≤ (A.2.1 f).1 0 - 1 by omega, show (0 : Int) ≤ (A.2.1 f).1 1 - 1 by omega⟩ hN) rfl rfl hw3 (show (A.2.1 f).1 0 - 1 < (A.2.1 f).1 0 by omega) k1 (by rw [k2]; exact fun c hc => cph_hi C _ c hc) (by rw [k2]; exact frQ_R rq (by omega) (by omega) (by omega) (by omega)) eq'
  refine ⟨_, O, ?_⟩
  have hy9 : ylP (clPut Y (phP C1 (cAp C f) q')) B (ylU A f (frQ (A.2.1 f) 0 0 ((A.2.1 f).1 0 - 1) ((A.2.1 f).1 1 - 1))) := ylP_ag b4' (fun q h1 h2 => by rw [clPut_o (by omega)])
  have k407 := d407 (z := z) hy9 (ylU_R hw.2.2.2.2.2.1 (frQ_R rp (by omega) (by omega) (by omega) (by omega))) (f := f) hf3
  rw [ylU_s, ← pheq_cn eq'] at k407
  have cn9 : (cnB (shw (cph C (cAp C f))) ((cph C (cAp C f)).1 7).toNat : Nat) = cnB (shw (A.2.1 f)) ((A.2.1 f).1 7).toNat := pheq_cn pq
  have q7 : (q'.1 7).toNat = ((cph C (cAp C f)).1 7).toNat := by rw [k2]; rfl
  rw [q7] at k407
  have r6 := yl_6 b2 hf3
  have r7 := yl_7 b3 hf3
  rw [ylU_s] at r6 r7
  have r6' : am_ia Y2 (B + 6) (wI f) = some (wI ((A.2.1 f).1 0)) := r6
  have r7' : am_ia Y3 (B + 7) (wI f) = some (wI ((A.2.1 f).1 1)) := r7
  have w1 : wI 1 &&& 1 = wI 1 := by decide +kernel
  have d20 : ((2 : Int) = 0) = False := eq_false (by decide)
  have d21 : ((2 : Int) = 1) = False := eq_false (by decide)
  rw [k3, cn9] at k4
  have bb := cnB_le (shw q') ((cph C (cAp C f)).1 7).toNat
  have bb2 := cnB_le (shw (A.2.1 f)) ((A.2.1 f).1 7).toNat
  have s2 := phR_s rq
  simp (disch := omega) only [e412_71, e412_72, e412_324, e412_325, e412_326, e412_373, e412_374, e412_375, e412_378, e412_379, e412_382, e412_384, e412_385, e412_386, e412_387, e412_388, e412_389, e412_392, e412_394, e412_395, e412_396, e412_397, e412_398, e412_399, e412_402, e412_404, e412_405, e412_406, e412_407, e412_410, e412_412, e412_413, e412_414, e412_415, e412_416, e412_417, e412_420, e412_422, e412_423, e412_424, e412_425, e412_428, e412_430, e412_431, e412_432, e412_433, e412_434, e412_435, e412_437, e412_440, e412_441, e412_443, e412_446, e412_448, e412_449, e412_452, e412_453, e412_456, e412_457, ↓reduceIte, Bool.false_eq_true, not_false_eq_true, not_true_eq_false, Nat.reduceLeDiff, Nat.reduceAdd, Nat.reduceEqDiff, Int.reduceToNat, Int.toNat_natCast, iB0, iB1, ru_klI, ru_klR, ru_klF, ru_klJ, ru_kl0, ru_cs0, ru_csI, ru_csR, ru_csF, ru_csJ, wI_add, wI_sub, wI_mul, wI_lt, wI_le, wI_inj, ru_fdE, ru_fdN, ru_iaN, ru_baN, ru_laN, ru_qaN, ru_pfN, ru_isN, ru_bsN, ru_jsN, ru_qsN, ru_set2, Nat.add_right_cancel_iff, if_true, if_false, ite_self, Int.reduceEq, and_self, Int.add_neg_cancel_right, Int.add_zero, Int.zero_add, yl_o hl.1, yl_o b1, yl_o b2, yl_o b3, yl_o hy9, yl_f9 hl.1, yl_f9 b1, yl_f9 b2, yl_f9 b3, yl_f6 b2, yl_f7 b3, yl_q9 hl.1 hf3, yl_q9 b1 hf3, yl_q9 b2 hf3, yl_q9 b3 hf3, a1, a2, a3, a4, r6', r7', k4, k407, d20, d21, w1, not_true, not_false_iff]
end AC2
