/-! ===== the law's constructor: one more name ===== -/
section CNS
variable {z : Bool} {X0 X X' : am_H} {B n N t : Nat} {g : Nat → Int32} {d d' : tCd} {l : List Nat} {o a : Nat → Nat} {gap : Nat} {ls : List tLn}
theorem cn_nm (hk : cnK gap ls d N o a) (hN : N < 6) (ht : t ≤ 900000) (hn : n ≤ 1000) (hl : (txG gap ls).length ≤ 12 + 12 * N) : ∃ (d' : tCd) (x : tLn) (o' a' : Nat → Nat), cnK gap (ls ++ [x]) d' (N + 1) o' a' ∧ x.1 = 0 ∧ (txG gap (ls ++ [x])).length ≤ 12 + 12 * (N + 1) ∧ ∀ (z : Bool) (X0 X : am_H) (B nm : Nat) (l4 l5 l6 : Option Value), bI X0 n g → 600 ≤ B → cI X0 X B d (txG gap ls) t → cnP X B (gap : Int) 0 0 N (fun i => B + o i) a → cnT X B N o (lsZ s0L ls).2.1 → N < nm → nm ≤ 6 → ∃ X', ru_n z 386 150 [some (.ref (B + 1)), some (.ref B), some (.int (wI ((nm : Nat) : Int))), some (.int (wI ((N : Nat) : Int))), l4, l5, l6] [] X = ru_n z 386 150 [some (.ref (B + 1)), some (.ref B), some (.int (wI ((nm : Nat) : Int))), some (.int (wI ((N + 1 : Nat) : Int))), l4, l5, l6] [] X' ∧ cI X0 X' B d' (txG gap (ls ++ [x])) (t + 2) ∧ cnP X' B (gap : Int) 0 0 (N + 1) (fun i => B + o' i) a' ∧ cnT X' B (N + 1) o' (lsZ s0L (ls ++ [x])).2.1 := by
  obtain ⟨⟨ho, hz, h6⟩, k, hi⟩ := hk
  obtain ⟨d0, hd0⟩ : ∃ d0 : tCd, d0 = (d.1, d.2.1 + 4, d.2.2.1, d.2.2.2.1, d.2.2.2.2 + 30) := ⟨_, rfl⟩
  obtain ⟨q1, q2, q3, q4, q5, q6, q7⟩ := id k
  have k0 : cdK d0 (N + 1) (txG gap ls) := by
    rw [hd0]
    exact ⟨q1, by show d.1 < d.2.1 + 4; omega, by show d.2.1 + 4 = 30 + 4 * (N + 1) + d.2.2.1; omega, q4, q5, by show d.2.2.2.2 + 30 ≤ 600 + 2 * d.2.2.2.1 + 30 * (N + 1); omega, q7⟩
  have u0 : cdU d d0 := by rw [hd0]; exact ⟨by show d.2.1 ≤ d.2.1 + 4; omega, Or.inl rfl⟩
  obtain ⟨b, hb⟩ : ∃ b, b = dN n g t 0 1 := ⟨_, rfl⟩
  have b1 : b ≤ 1 := by rw [hb]; exact (dN_b (by omega)).2.1
  obtain ⟨j, hj⟩ : ∃ j, j = dN n g (t + 1) 0 1 := ⟨_, rfl⟩
  have j1 : j ≤ 1 := by rw [hj]; exact (dN_b (by omega)).2.1
  obtain ⟨W, hW⟩ : ∃ W : List Nat, W = [101 + N / 2, 109 + b + 2 * (N % 2)] := ⟨_, rfl⟩
  have lW : W.length = 2 := by rw [hW]; rfl
  have wW : wok W := by rw [hW]; exact wok_W ⟨N, hN⟩ ⟨b, by omega⟩
  have l4' : (lwT 4).length = 6 := by decide
  have lV : (lwT (2 + j)).length ≤ 3 := by rcases (show j = 0 ∨ j = 1 by omega) with rfl | rfl <;> decide
  have wV : wok (lwT (2 + j)) := by rcases (show j = 0 ∨ j = 1 by omega) with rfl | rfl; exact wok_V.1; exact wok_V.2
  obtain ⟨d1, k1, u1, r1⟩ := ci_lit k0 (i := 4) (by decide) (by omega)
  have m1 : (txG gap ls ++ lwT 4).length = (txG gap ls).length + 6 := by rw [List.length_append, l4']
  obtain ⟨d2, k2, u2, r2⟩ := ci_txt k1 W (by omega) (by omega)
  have m2 : (txG gap ls ++ lwT 4 ++ W).length = (txG gap ls).length + 8 := by rw [List.length_append, m1, lW]
  obtain ⟨d3, k3, u3, r3⟩ := ci_chr k2 (c := 32) (by decide) (by omega)
  have m3 : (txG gap ls ++ lwT 4 ++ W ++ [32]).length = (txG gap ls).length + 9 := by rw [List.length_append, m2]; rfl
  obtain ⟨d4, k4, u4, r4⟩ := ci_lit k3 (i := 2 + j) (by omega) (by omega)
  obtain ⟨x, hx⟩ : ∃ x : tLn, x = (0, W, lwT (2 + j), 0, 0, 0) := ⟨_, rfl⟩
  have et : txG gap ls ++ lwT 4 ++ W ++ [32] ++ lwT (2 + j) = txG gap (ls ++ [x]) := by
    rw [txG_s, hx]
    show _ = txG gap ls ++ (lwT 4 ++ (W ++ ([32] ++ lwT (2 + j))))
    simp only [List.append_assoc]
  have m4 : (txG gap (ls ++ [x])).length ≤ (txG gap ls).length + 12 := by rw [← et, List.length_append, m3]; omega
  rw [et] at k4 r4
  have es : lst (lsZ s0L ls) x = (N + 1, upW (lsZ s0L ls).2.1 N W, upW (lsZ s0L ls).2.2.1 N (lwT (2 + j)), (lsZ s0L ls).2.2.2) := by
    rw [hx]
    unfold lst
    rw [if_pos rfl, hz]
  have uu : cdU d0 d4 := cdU_t u1 (cdU_t u2 (cdU_t u3 u4))
  have c0 : d0.1 = d.1 ∧ d0.2.1 = d.2.1 + 4 := by rw [hd0]; exact ⟨rfl, rfl⟩
  have hno : ∀ m, m < N → ¬ ((lsZ s0L ls).2.1 m = W ∧ (lsZ s0L ls).2.2.1 m = lwT (2 + j)) := fun m hm e => by
    obtain ⟨-, -, b', hb', e'⟩ := hi m hm
    rw [e', hW] at e
    have e1 := (List.cons.inj e.1).1
    have e2 := (List.cons.inj (List.cons.inj e.1).2).1
    omega
  have hok : ok1 (lsZ s0L ls) x := Or.inl (by rw [hx]; exact ⟨rfl, by omega, wW, wV, by rw [hz]; exact hno⟩)
  refine ⟨d4, x, upW o N (d.2.1 + 2), upW a N (502 + j), ⟨⟨lsO_s ls s0L x ho hok, by rw [lsZ_s, es], by omega⟩, k4, fun i hiN => ?_⟩, by rw [hx], by omega, fun z X0 X B nm l4 l5 l6 hbI hB h hp hT hnm hnm6 => ?_⟩
  · rw [lsZ_s, es]
    show _ ∧ (_ ∧ upW (lsZ s0L ls).2.2.1 N (lwT (2 + j)) i = _) ∧ ∃ b, b ≤ 1 ∧ upW (lsZ s0L ls).2.1 N W i = _
    obtain ⟨v1, v2⟩ := uu
    by_cases e : i = N
    · rw [e]
      simp only [upW_e]
      refine ⟨⟨⟨by omega, by omega⟩, by omega, by omega⟩, ⟨by omega, ?_⟩, b, b1, hW⟩
      rw [show 502 + j - 500 = 2 + j by omega]
    · simp only [upW_n e]
      obtain ⟨p1, p2⟩ := hi i (by omega)
      exact ⟨by omega, p2⟩
  · obtain ⟨X1, e1, a1, a2, a3⟩ := cn_w (z := z) (X0 := X0) hbI hn hB h k (by omega) hN (l2 := some (.int (wI ((nm : Nat) : Int)))) (l4 := l4) (l5 := l5) (l6 := l6)
    rw [← hd0] at a1
    rw [← hb, ← hW] at a2
    have h1 := hp.1
    have x11 : X1.1 (B + 1) = X.1 (B + 1) := a3 _ (by omega) (by omega)
    have x14 : X1.1 (B + 4) = X.1 (B + 4) := a3 _ (by omega) (by omega)
    have sg1 : X1.1 (B + d.2.1 + 2) = some (.inr (50, [.ref (B + d.2.1 + 3), .int (wI 0)])) := a2.1
    have w1 := ru_qs7 (h := X1) (z := ((N : Nat) : Int)) (x14.trans hp.2.1) sg1 ⟨rfl, rfl⟩ (by omega) (by omega) (by omega)
    rw [Int.toNat_natCast, ylS_up (a2 := fun i => B + upW o N (d.2.1 + 2) i) (fun i hi => by show B + upW o N (d.2.1 + 2) i = _; rw [upW_n (by omega)]) (by show B + upW o N (d.2.1 + 2) N = _; rw [upW_e]; omega)] at w1
    obtain ⟨X2, hX2⟩ : ∃ X2, X2 = am_set X1 (B + 4) (ylQ 7 (ylS ((N + 1 : Nat) : Int) (fun i => B + upW o N (d.2.1 + 2) i)) 8) := ⟨_, rfl⟩
    have w1' : am_qs X1 (B + 4) (wI ((N : Nat) : Int)) (B + d.2.1 + 2) = some X2 := by rw [hX2]; exact w1
    have i2 : cI X0 X2 B d0 (txG gap ls) (t + 1) := by rw [hX2]; exact ci_set a1 k0.1 (by omega)
    obtain ⟨e3, i3, f3⟩ := ci_drw (z := z) hbI hn hB i2 k0.1 (by omega) (lo := 0) (hi := 1) (by omega) (by omega)
    rw [← hj] at e3
    obtain ⟨X3, hX3⟩ : ∃ X3, X3 = am_set X2 B (dwC (t + 1 + 1)) := ⟨_, rfl⟩
    rw [← hX3] at e3 i3 f3
    have x35 : X3.1 (B + 5) = X.1 (B + 5) := by rw [hX3, ru_setN (by omega), hX2, ru_setN (by omega)]; exact a3 _ (by omega) (by omega)
    have sgV : X3.1 (502 + j) = some (.inr (50, [.ref (522 + j), .int (wI 0)])) := by
      rw [i3.1 _ (by omega)]
      have := (hbI.2.1 (2 + j) (by omega)).1
      rw [show 500 + (2 + j) = 502 + j by omega, show 520 + (2 + j) = 522 + j by omega] at this
      exact this
    have w4 := ru_qs7 (h := X3) (z := ((N : Nat) : Int)) (x35.trans hp.2.2.1) sgV ⟨rfl, rfl⟩ (by omega) (by omega) (by omega)
    rw [Int.toNat_natCast, ylS_up (a2 := upW a N (502 + j)) (fun i hi => upW_n (by omega)) upW_e] at w4
    obtain ⟨X4, hX4⟩ : ∃ X4, X4 = am_set X3 (B + 5) (ylQ 7 (ylS ((N + 1 : Nat) : Int) (upW a N (502 + j))) 8) := ⟨_, rfl⟩
    have w4' : am_qs X3 (B + 5) (wI ((N : Nat) : Int)) (502 + j) = some X4 := by rw [hX4]; exact w4
    have i4 : cI X0 X4 B d0 (txG gap ls) (t + 2) := by rw [hX4]; exact ci_set i3 k0.1 (by omega)
    obtain ⟨X5, e5, i5, f5⟩ := r1 z X0 X4 B (t + 2) n g hB hbI i4
    have gW4 : gT X4 (B + d.2.1 + 2) (B + d.2.1 + 3) W := by
      obtain ⟨s1, kk, f, s2, s3, s4⟩ := a2
      exact ⟨by rw [hX4, ru_setN (by omega), hX3, ru_setN (by omega), hX2, ru_setN (by omega)]; exact s1, kk, f, s2, by rw [hX4, ru_setN (by omega), hX3, ru_setN (by omega), hX2, ru_setN (by omega)]; exact s3, s4⟩
    have gW5 := gT_F gW4 f5 ⟨by omega, by omega, by omega, by omega⟩ ⟨by omega, by omega, by omega, by omega⟩
    obtain ⟨v1, v2⟩ := u1
    obtain ⟨X6, e6, i6, f6⟩ := r2 z X0 X5 B (t + 2) (B + d.2.1 + 2) (B + d.2.1 + 3) i5 gW5 (by omega) (by omega)
    obtain ⟨X7, e7, i7, f7⟩ := r3 z X0 X6 B (t + 2) i6
    obtain ⟨X8, e8, i8, f8⟩ := r4 z X0 X7 B (t + 2) n g hB hbI i7
    have f46 : cF X4 X6 B d0 := cF_t k0.2.1 ⟨v1, v2⟩ f5 f6
    have u02 : cdU d0 d2 := cdU_t ⟨v1, v2⟩ u2
    have f47 : cF X4 X7 B d0 := cF_t k0.2.1 u02 f46 f7
    have f48 : cF X4 X8 B d0 := cF_t k0.2.1 (cdU_t u02 u3) f47 f8
    have y44 : X4.1 (B + 4) = some (ylQ 7 (ylS ((N + 1 : Nat) : Int) (fun i => B + upW o N (d.2.1 + 2) i)) 8) := by
      rw [hX4, ru_setN (by omega), hX3, ru_setN (by omega), hX2]; exact ru_setE _ _ _
    have y45 : X4.1 (B + 5) = some (ylQ 7 (ylS ((N + 1 : Nat) : Int) (upW a N (502 + j))) 8) := by rw [hX4]; exact ru_setE _ _ _
    have yo : ∀ q, q < B + d.2.1 → q ≠ B → q ≠ B + 4 → q ≠ B + 5 → X4.1 q = X.1 q := fun q h1 h2 h3 h4 => by
      rw [hX4, ru_setN h4, hX3, ru_setN h2, hX2, ru_setN h3]; exact a3 q h1 h2
    have y41 : X4.1 (B + 1) = X.1 (B + 1) := yo _ (by omega) (by omega) (by omega) (by omega)
    have z1 : ∀ q, q ≠ B → q ≠ B + 2 → q ≠ B + d0.1 → q < B + d0.2.1 → X5.1 q = X4.1 q ∧ X6.1 q = X4.1 q ∧ X7.1 q = X4.1 q := fun q h1 h2 h3 h4 => ⟨f5 q h4 h1 h2 h3, f46 q h4 h1 h2 h3, f47 q h4 h1 h2 h3⟩
    refine ⟨X8, ?_, i8, ?_, fun i hiN => ?_⟩
    · have g0 : am_fd X (B + 1) 13 4 = some (.ref (B + 4)) := ru_fd h1 rfl
      have g2 : am_fd X2 (B + 1) 13 5 = some (.ref (B + 5)) := ru_fd (by rw [hX2, ru_setN (by omega), x11]; exact h1) rfl
      have g4 : am_fd X4 (B + 1) 13 0 = some (.ref (B + 2)) := ru_fd (by rw [y41]; exact h1) rfl
      have o51 := (z1 (B + 1) (by omega) (by omega) (by omega) (by omega)).1
      have g5 : am_fd X5 (B + 1) 13 4 = some (.ref (B + 4)) := ru_fd (by rw [o51, y41]; exact h1) rfl
      have o71 := (z1 (B + 1) (by omega) (by omega) (by omega) (by omega)).2.2
      have g7 : am_fd X7 (B + 1) 13 5 = some (.ref (B + 5)) := ru_fd (by rw [o71, y41]; exact h1) rfl
      have o54 := (z1 (B + 4) (by omega) (by omega) (by omega) (by omega)).1
      have o75 := (z1 (B + 5) (by omega) (by omega) (by omega) (by omega)).2.2
      have a5 : am_qa X5 (B + 4) (wI ((N : Nat) : Int)) = some (B + d.2.1 + 2) := by
        rw [ru_qa2 (o54.trans y44) (by decide) (by omega) (by omega) (by omega), Int.toNat_natCast]
        unfold ylS
        rw [if_pos (by omega)]
        show some (B + upW o N (d.2.1 + 2) N) = _
        rw [upW_e]
        exact congrArg some (by omega)
      have a7 : am_qa X7 (B + 5) (wI ((N : Nat) : Int)) = some (502 + j) := by
        rw [ru_qa2 (o75.trans y45) (by decide) (by omega) (by omega) (by omega), Int.toNat_natCast]
        unfold ylS
        rw [if_pos (by omega), upW_e]
      have e5' : ru_ev z 307 [.ref (B + 2), .ref 504] X4 = some (.inl (some (.ref (B + 2))), X5) := e5
      have e8' : ru_ev z 307 [.ref (B + 2), .ref (502 + j)] X7 = some (.inl (some (.ref (B + 2))), X8) := by rw [show 502 + j = 500 + (2 + j) by omega]; exact e8
      have d1 : ((nm : Int) ≤ (N : Int)) = False := eq_false (by omega)
      have e3' : ru_ev z 390 [.ref B, .int (wI 0), .int (wI 1)] X2 = some (.inl (some (.int (wI ((j : Nat) : Int)))), X3) := e3
      have e7' : ru_ev z 319 [.ref (B + 2), .int (wI 32)] X6 = some (.inl (some (.ref (B + 2))), X7) := e7
      simp only [Int.natCast_add, Int.natCast_one]
      rcases (show j = 0 ∨ j = 1 by omega) with rfl | rfl
      · have dj : (((0 : Nat) : Int) = 0) = True := eq_true rfl
        simp (disch := omega) only [e386_150, e386_151, e386_152, e386_155, e386_156, e386_159, e386_204, e386_205, e386_206, e386_209, e386_210, e386_211, e386_212, e386_213, e386_216, e386_219, e386_221, e386_224, e386_226, e386_227, e386_228, e386_231, e386_233, e386_236, e386_237, e386_240, e386_241, e386_242, e386_245, e386_247, e386_250, e386_251, e386_254, e386_255, e386_256, e386_259, e386_260, e386_263, ↓reduceIte, Bool.false_eq_true, not_false_eq_true, not_true_eq_false, Nat.reduceLeDiff, Nat.reduceAdd, Nat.reduceEqDiff, Int.reduceToNat, Int.toNat_natCast, iB0, iB1, ru_klI, ru_klR, ru_klF, ru_klJ, ru_kl0, ru_cs0, ru_csI, ru_csR, ru_csF, ru_csJ, wI_add, wI_sub, wI_mul, wI_lt, wI_le, wI_inj, ru_fdE, ru_fdN, ru_iaN, ru_baN, ru_laN, ru_qaN, ru_pfN, ru_isN, ru_bsN, ru_jsN, ru_qsN, ru_set2, Nat.add_right_cancel_iff, if_true, if_false, ite_self, Int.reduceEq, and_self, Int.add_neg_cancel_right, Int.add_zero, Int.zero_add, ru_ctR, ru_ctI, d1, g0, e1, w1', g2, e3', dj, w4', g4, e5', g5, a5, e6, e7', g7, a7, e8', not_true, not_false_iff]
      · have dj : (((1 : Nat) : Int) = 0) = False := eq_false (by decide)
        simp (disch := omega) only [e386_150, e386_151, e386_152, e386_155, e386_156, e386_159, e386_204, e386_205, e386_206, e386_209, e386_210, e386_211, e386_212, e386_213, e386_216, e386_219, e386_221, e386_224, e386_226, e386_227, e386_228, e386_231, e386_233, e386_236, e386_237, e386_240, e386_241, e386_242, e386_245, e386_247, e386_250, e386_251, e386_254, e386_255, e386_256, e386_259, e386_260, e386_263, ↓reduceIte, Bool.false_eq_true, not_false_eq_true, not_true_eq_false, Nat.reduceLeDiff, Nat.reduceAdd, Nat.reduceEqDiff, Int.reduceToNat, Int.toNat_natCast, iB0, iB1, ru_klI, ru_klR, ru_klF, ru_klJ, ru_kl0, ru_cs0, ru_csI, ru_csR, ru_csF, ru_csJ, wI_add, wI_sub, wI_mul, wI_lt, wI_le, wI_inj, ru_fdE, ru_fdN, ru_iaN, ru_baN, ru_laN, ru_qaN, ru_pfN, ru_isN, ru_bsN, ru_jsN, ru_qsN, ru_set2, Nat.add_right_cancel_iff, if_true, if_false, ite_self, Int.reduceEq, and_self, Int.add_neg_cancel_right, Int.add_zero, Int.zero_add, ru_ctR, ru_ctI, d1, g0, e1, w1', g2, e3', dj, w4', g4, e5', g5, a5, e6, e7', g7, a7, e8', not_true, not_false_iff]
    · have z8 : ∀ q, q ≠ B → q ≠ B + 2 → q ≠ B + d0.1 → q < B + d0.2.1 → X8.1 q = X4.1 q := fun q h1 h2 h3 h4 => f48 q h4 h1 h2 h3
      refine ⟨?_, ?_, ?_, fun i i1 i2 => ?_⟩
      · rw [z8 _ (by omega) (by omega) (by omega) (by omega), y41]; exact h1
      · rw [z8 _ (by omega) (by omega) (by omega) (by omega)]; exact y44
      · rw [z8 _ (by omega) (by omega) (by omega) (by omega)]; exact y45
      · rw [z8 _ (by omega) (by omega) (by omega) (by omega), yo _ (by omega) (by omega) (by omega) (by omega)]
        exact hp.2.2.2 i i1 i2
    · rw [lsZ_s, es]
      show gT X8 (B + upW o N (d.2.1 + 2) i) (B + upW o N (d.2.1 + 2) i + 1) (upW (lsZ s0L ls).2.1 N W i)
      by_cases e : i = N
      · rw [e, upW_e, upW_e]
        rw [show B + (d.2.1 + 2) = B + d.2.1 + 2 by omega]
        exact gT_F gW4 f48 ⟨by omega, by omega, by omega, by omega⟩ ⟨by omega, by omega, by omega, by omega⟩
      · rw [upW_n e, upW_n e]
        obtain ⟨⟨s1, s2⟩, s3, s4⟩ := (hi i (by omega)).1
        obtain ⟨s5, kk, f, s6, s7, s8⟩ := hT i (by omega)
        have g4 : gT X4 (B + o i) (B + o i + 1) ((lsZ s0L ls).2.1 i) := ⟨by rw [yo _ (by omega) (by omega) (by omega) (by omega)]; exact s5, kk, f, s6, by rw [yo _ (by omega) (by omega) (by omega) (by omega)]; exact s7, s8⟩
        exact gT_F g4 f48 ⟨by omega, by omega, by omega, by omega⟩ ⟨by omega, by omega, by omega, by omega⟩
end CNS
