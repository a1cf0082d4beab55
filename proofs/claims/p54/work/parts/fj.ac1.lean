/-! ===== an act: draws; a change of the class beside the law's own ===== -/
theorem phR_up {q : tPh} {k : Nat} {v : Int} (hr : phR q) (h : 0 ≤ v ∧ v ≤ 999) (h6 : k = 6 → v ≤ 1) (h7 : k = 7 → v ≤ 12) : phR (up1 q.1 k v, q.2) := by
  obtain ⟨a1, a2, a3, a4, a5, a6⟩ := hr
  refine ⟨fun j => ?_, ?_, ?_, a4, a5, a6⟩
  · show 0 ≤ up1 q.1 k v j ∧ up1 q.1 k v j ≤ 999
    by_cases e : j = k
    · rw [e, up1_e]; exact h
    · rw [up1_n e]; exact a1 j
  · show up1 q.1 k v 6 ≤ 1
    by_cases e : 6 = k
    · rw [← e, up1_e]; exact h6 e.symm
    · rw [up1_n e]; exact a2
  · show up1 q.1 k v 7 ≤ 12
    by_cases e : 7 = k
    · rw [← e, up1_e]; exact h7 e.symm
    · rw [up1_n e]; exact a3
section AC1
variable {z : Bool} {B : Nat} {A : tLw} {n : Nat} {g : Nat → Int32} {F L : Nat → List Nat} {C : tCl} {NN P : Nat}
theorem ac_drw (hk : txK B n) {X : am_H} {t : Nat} (h : acI X B A n g t F L C NN P) (ht : t ≤ 1000000) {lo hi : Int} (g1 : -1000 ≤ lo) (g2 : lo ≤ hi) (g3 : hi ≤ 100000) : ∃ v X', lo ≤ v ∧ v ≤ hi ∧ ru_ev z 390 [.ref B, .int (wI lo), .int (wI hi)] X = some (.inl (some (.int (wI v))), X') ∧ acI X' B A n g (t + 1) F L C NN P ∧ X'.2 = X.2 := by
  obtain ⟨hl, hw, hc, hX, hI, hP, hb⟩ := h
  obtain ⟨kB1, kB2, kB3⟩ := id hk
  obtain ⟨v, v1, v2, k⟩ := d390 (z := z) hl.2.1 kB3 ht g1 g2 g3
  have e : ∀ q, q ≠ B → (am_set X B (dwC (t + 1))).1 q = X.1 q := fun q hq => ru_setN hq
  refine ⟨v, am_set X B (dwC (t + 1)), v1, v2, k, ⟨?_, hw, clI_same hc (fun q h1 h2 => e q (by omega)), hX, hI, hP, hb⟩, rfl⟩
  exact laI_W hk hl (fun q h1 h2 => e q (by omega)) (ylP_set hl.1 (Or.inl (Nat.le_refl _))) ⟨by rw [e 1 (by omega)]; exact hl.2.1.1, ru_setE _ _ _⟩ rfl rfl
theorem ch_get {h : am_H} {j m tc : Nat} {args : List Value} {T : tPh → Int → Prop} (e : tc = 0) (k : ∃ t v C', ru_ev z j args (clPut h C) = oR t (some (.int (wI v))) (clPut h C') (clPut (thr h) C') ∧ chG C m tc T t v C') : ∃ v C1 q', hsOK C C1 (alb C + 4) ∧ T q' v ∧ ru_ev z j args (clPut h C) = some (.inl (some (.int (wI v))), clPut h (phP C1 (cAp C m) q')) := by
  obtain ⟨t, v, C', k1, k2⟩ := k
  rcases k2 with ⟨k2, -⟩ | ⟨-, rfl, C1, q', k3, rfl, k4⟩
  · exact absurd e k2
  · exact ⟨v, C1, q', k3, k4, k1⟩
theorem ac_chg (hk : txK B n) {X Y : am_H} {t f c s : Nat} {p' q' : tPh} {C1 : tCl} (h : acI X B A n g t F L C NN P) (hf : f < P) (hy : ylP Y B (ylU A f p')) (he : agA B X Y c s) (hp' : phR p') (hN : phN p' (NN : Int)) (h0 : p'.1 0 = (A.2.1 f).1 0) (h1 : p'.1 1 = (A.2.1 f).1 1) (ha : ∀ i : Nat, p'.1 7 ≤ (i : Int) → p'.2 2 i = 0) (hri : p'.1 4 < p'.1 0) (hs : hsOK C C1 (alb C + 4)) (hz : ∀ c, 4 ≤ c → q'.2 c = fun _ => 0) (hq' : phR q') (hE : pheq q' p') : acO B n g F L NN P X t (clPut Y (phP C1 (cAp C f) q')) 0 c s := by
  obtain ⟨hl, hw, hc, hX, hI, hP, hb⟩ := h
  obtain ⟨w1, w2, w3, w4, w5, w6, w7⟩ := id hw
  obtain ⟨kB1, kB2, kB3⟩ := id hk
  obtain ⟨r1, r2, r3, r4⟩ := yc_chg (n := f) (q' := q') (p' := p') hI hP (by omega) hs hz hq' hE
  have e : ∀ q, q < 1000 → (clPut Y (phP C1 (cAp C f) q')).1 q = Y.1 q := fun q hq => by rw [clPut_o (by omega)]
  have sY : ∀ q, q < 1000 → (q ≤ B ∨ B + 30 ≤ q) → Y.1 q = X.1 q := fun q h1 h2 => he.1 q (by omega) h2
  refine ⟨ylU A f p', phP C1 (cAp C f) q', t, ⟨?_, ⟨w1, w2, w3, w4, w5, ylU_R w6 hp', fun i hi => ?_⟩, clI_put _ _, ?_, r1, r2, by rw [r3]; exact hb⟩, ⟨Nat.le_refl _, Nat.le_refl _⟩, he.2.2.1, he.2.2.2⟩
  · exact laI_W hk hl (fun q h1 h2 => by rw [e q h1, sY q h1 (by omega)]) (ylP_ag hy (fun q h1 h2 => e q (by omega))) (dwP_ag hl.2.1 (by rw [e 1 (by omega), sY 1 (by omega) (by omega)]) (by rw [e B (by omega), sY B (by omega) (by omega)])) rfl rfl
  · by_cases e : i = f
    · subst e
      rw [ylU_s]
      exact ⟨hN, by rw [h0]; exact (w7 i hf).2.1, by rw [h1]; exact (w7 i hf).2.2.1, ha, hri⟩
    · rw [ylU_n e]; exact w7 i hi
  · show 1315 ≤ Y.2.1
    have := he.2.1
    omega
theorem ac_rc {X : am_H} {t f : Nat} (h : acI X B A n g t F L C NN P) (hf : f < P) : rcP C (f : Int) = 0 ∧ pheq (cph C (cAp C f)) (A.2.1 f) ∧ phR (cph C (cAp C f)) ∧ f < 3 ∧ phR (A.2.1 f) := by
  obtain ⟨hl, hw, hc, hX, hI, hP, hb⟩ := h
  obtain ⟨w1, w2, w3, w4, w5, w6, w7⟩ := hw
  have := hP.1
  refine ⟨?_, hP.2.2 f hf, hI.1.2.2.2.2 f (by omega), by omega, w6 f⟩
  unfold rcP
  rw [if_neg (by omega), if_pos (by omega)]
theorem acO_m {X X' : am_H} {t dt c s dt' c' s' : Nat} (h : acO B n g F L NN P X t X' dt c s) (h1 : dt ≤ dt') (h2 : c ≤ c') (h3 : s ≤ s') : acO B n g F L NN P X t X' dt' c' s' := by
  obtain ⟨A', C', t', a1, a2, a3, a4⟩ := h
  exact ⟨A', C', t', a1, by omega, by omega, by omega⟩
theorem acO_t {X Y W : am_H} {t t1 dt c s dt' c' s' : Nat} (h1 : t ≤ t1 ∧ t1 ≤ t + dt') (h2 : Y.2.1 ≤ X.2.1 + c') (h3 : Y.2.2 ≤ X.2.2 + s') (h : acO B n g F L NN P Y t1 W dt c s) : acO B n g F L NN P X t W (dt' + dt) (c' + c) (s' + s) := by
  obtain ⟨A', C', t', a1, a2, a3, a4⟩ := h
  exact ⟨A', C', t', a1, by omega, by omega, by omega⟩
/-- the start: what, which photo, how wide, how many -/
theorem d412s (hk : txK B n) {X : am_H} {t : Nat} (h : acI X B A n g t F L C NN P) (ht : t ≤ 900000) : ∃ (w f : Nat) (X2 : am_H), w ≤ 9 ∧ f < P ∧ acI X2 B A n g (t + 2) F L C NN P ∧ X2.2 = X.2 ∧ ru_ev z 412 [.ref 1000, .ref (B + 1), .ref B] X = ru_n z 412 71 [some (.ref 1000), some (.ref (B + 1)), some (.ref B), some (.int (wI w)), some (.int (wI f)), some (.int (wI ((A.2.1 f).1 4 - (A.2.1 f).1 2))), some (.int (wI ((A.2.1 f).1 5 - (A.2.1 f).1 3))), some (.int (wI (cnB (shw (A.2.1 f)) ((A.2.1 f).1 7).toNat : Nat))), none, none, none, none, none, none, none, none] [] X2 := by
  obtain ⟨w, X1, v1, v2, k1, h1, e1⟩ := ac_drw (z := z) hk h (by omega) (lo := 0) (hi := 9) (by omega) (by omega) (by omega)
  have hw := h1.2.1
  obtain ⟨w1, w2, w3, w4, w5, w6, w7⟩ := id hw
  obtain ⟨f, X2, u1, u2, k2, h2, e2⟩ := ac_drw (z := z) hk h1 (by omega) (lo := 0) (hi := (P : Int) - 1) (by omega) (by omega) (by omega)
  obtain ⟨w, rfl⟩ : ∃ m : Nat, w = (m : Int) := ⟨w.toNat, by omega⟩
  obtain ⟨f, rfl⟩ : ∃ m : Nat, f = (m : Int) := ⟨f.toNat, by omega⟩
  refine ⟨w, f, X2, by omega, by omega, h2, e2.trans e1, ?_⟩
  have y1 := h1.1.1
  have y2 := h2.1.1
  have f3 := yl_f3 y1
  rw [w3] at f3
  have hf3 : f < 3 := by omega
  have f9 := yl_f9 y2
  have q9 := yl_q9 y2 hf3
  have r2 := yl_fr y2 hf3 (k := 2) (by omega) (by omega)
  have r0 := yl_fr y2 hf3 (k := 0) (by omega) (by omega)
  have r3 := yl_fr y2 hf3 (k := 3) (by omega) (by omega)
  have r1 := yl_fr y2 hf3 (k := 1) (by omega) (by omega)
  have k407 := d407 (z := z) y2 w6 (f := f) hf3
  simp only [Int.reduceToNat, Nat.reduceAdd] at r0 r1 r2 r3
  simp (disch := omega) only [en412, e412_0, e412_1, e412_2, e412_4, e412_7, e412_8, e412_9, e412_10, e412_11, e412_14, e412_15, e412_16, e412_19, e412_21, e412_22, e412_25, e412_27, e412_28, e412_29, e412_30, e412_31, e412_34, e412_36, e412_37, e412_38, e412_39, e412_40, e412_42, e412_43, e412_46, e412_48, e412_49, e412_50, e412_51, e412_52, e412_55, e412_57, e412_58, e412_59, e412_60, e412_61, e412_63, e412_64, e412_66, e412_69, ↓reduceIte, Bool.false_eq_true, not_false_eq_true, not_true_eq_false, Nat.reduceLeDiff, Nat.reduceAdd, Nat.reduceEqDiff, Int.reduceToNat, Int.toNat_natCast, iB0, iB1, ru_klI, ru_klR, ru_klF, ru_klJ, ru_kl0, ru_cs0, ru_csI, ru_csR, ru_csF, ru_csJ, wI_add, wI_sub, wI_mul, wI_lt, wI_le, wI_inj, ru_fdE, ru_fdN, ru_iaN, ru_baN, ru_laN, ru_qaN, ru_pfN, ru_isN, ru_bsN, ru_jsN, ru_qsN, ru_set2, Nat.add_right_cancel_iff, if_true, if_false, ite_self, Int.reduceEq, and_self, Int.add_neg_cancel_right, Int.add_zero, Int.zero_add, yl_o y1, yl_o y2, f3, f9, q9, r0, r1, r2, r3, k1, k2, k407]
end AC1
