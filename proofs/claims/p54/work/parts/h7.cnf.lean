/-! ===== the law's constructor: a photo ===== -/
section CNF
variable {n N t : Nat} {g : Nat → Int32} {d d' : tCd} {o a : Nat → Nat} {gap : Nat} {ls : List tLn}
theorem cn_pps (hn : n ≤ 1000) (g : Nat → Int32) {f : Nat} (hf : f < 3) : ∀ (e m : Nat) (ls : List tLn) (d : tCd) (t : Nat), cnQ gap ls d N o a (f + 1) → ((lsZ s0L ls).2.2.2.2 f).1 7 = (m : Int) → m + e ≤ 7 → (txG gap ls).length + 15 * e ≤ 500 → t + 2 * e ≤ 900000 → ∃ (d' : tCd) (ls' : List tLn), cnQ gap ls' d' N o a (f + 1) ∧ ls'.length = ls.length + e ∧ (txG gap ls').length ≤ (txG gap ls).length + 15 * e ∧ ∀ (z : Bool) (X0 X : am_H) (B P : Nat) (l2 l5 l6 : Option Value), bI X0 n g → 600 ≤ B → cnJ X0 X B d gap ls t N P o a → ∃ (X' : am_H) (l5' l6' : Option Value), ru_n z 386 391 [some (.ref (B + 1)), some (.ref B), l2, some (.int (wI ((f : Nat) : Int))), some (.int (wI ((e : Nat) : Int))), l5, l6] [] X = ru_n z 386 475 [some (.ref (B + 1)), some (.ref B), l2, some (.int (wI ((f : Nat) : Int))), some (.int (wI 0)), l5', l6'] [] X' ∧ cnJ X0 X' B d' gap ls' (t + 2 * e) N P o a := by
  intro e
  induction e with
  | zero =>
    intro m ls d t hk hm h7 hl ht
    refine ⟨d, ls, hk, rfl, by omega, fun z X0 X B P l2 l5 l6 hb hB hJ => ⟨X, l5, l6, ?_, hJ⟩⟩
    have d1 : ((0 : Int) ≤ 0) = True := eq_true (by decide)
    show ru_n z 386 391 [some (.ref (B + 1)), some (.ref B), l2, some (.int (wI ((f : Nat) : Int))), some (.int (wI 0)), l5, l6] [] X = _
    simp (disch := omega) only [e386_391, e386_393, ↓reduceIte, Bool.false_eq_true, not_false_eq_true, not_true_eq_false, Nat.reduceLeDiff, Nat.reduceAdd, Nat.reduceEqDiff, Int.reduceToNat, Int.toNat_natCast, iB0, iB1, ru_klI, ru_klR, ru_klF, ru_klJ, ru_kl0, ru_cs0, ru_csI, ru_csR, ru_csF, ru_csJ, wI_add, wI_sub, wI_mul, wI_lt, wI_le, wI_inj, ru_fdE, ru_fdN, ru_iaN, ru_baN, ru_laN, ru_qaN, ru_pfN, ru_isN, ru_bsN, ru_jsN, ru_qsN, ru_set2, Nat.add_right_cancel_iff, if_true, if_false, ite_self, Int.reduceEq, and_self, Int.add_neg_cancel_right, Int.add_zero, Int.zero_add, d1]
  | succ e ih =>
    intro m ls d t hk hm h7 hl ht
    obtain ⟨d1, x, k1, m1, n1, r1⟩ := cn_pp hn g hk hf hm (by omega) (by omega) (t := t) (by omega)
    obtain ⟨d2, ls2, k2, q2, n2, r2⟩ := ih (m + 1) (ls ++ [x]) d1 (t + 2) k1 m1 (by omega) (by omega) (by omega)
    refine ⟨d2, ls2, k2, by rw [q2, List.length_append]; show ls.length + 1 + e = _; omega, by omega, fun z X0 X B P l2 l5 l6 hb hB hJ => ?_⟩
    obtain ⟨X1, y5, y6, e1, j1⟩ := r1 z X0 X B P e l2 l5 l6 hb hB (by omega) hJ
    obtain ⟨X2, w5, w6, e2, j2⟩ := r2 z X0 X1 B P l2 y5 y6 hb hB j1
    exact ⟨X2, w5, w6, e1.trans e2, by rw [show t + 2 * (e + 1) = t + 2 + 2 * e by omega]; exact j2⟩
theorem yl_u6 {X : am_H} {B f : Nat} {A : tLw} {p : tPh} {v : Int} (h : ylP X B (ylU A f p)) (hf : f < 3) : ∃ X', am_is X (B + 6) (wI f) (wI v) = some X' ∧ ylP X' B (ylU A f (up1 p.1 0 v, p.2)) := by
  obtain ⟨X', a, b, -⟩ := yl_w6 h (v := v) hf
  rw [ylU_up, ylU_s] at b
  exact ⟨X', a, b⟩
theorem yl_u7 {X : am_H} {B f : Nat} {A : tLw} {p : tPh} {v : Int} (h : ylP X B (ylU A f p)) (hf : f < 3) : ∃ X', am_is X (B + 7) (wI f) (wI v) = some X' ∧ ylP X' B (ylU A f (up1 p.1 1 v, p.2)) := by
  obtain ⟨X', a, b, -⟩ := yl_w7 h (v := v) hf
  rw [ylU_up, ylU_s] at b
  exact ⟨X', a, b⟩
theorem cn_ph (hn : n ≤ 1000) (g : Nat → Int32) {f : Nat} (hk : cnQ gap ls d N o a f) (hf : f < 3) (hl : (txG gap ls).length + 117 ≤ 500) (ht : t ≤ 800000) : ∃ (d' : tCd) (ls' : List tLn) (t' : Nat), cnQ gap ls' d' N o a (f + 1) ∧ ls'.length ≤ ls.length + 8 ∧ (txG gap ls').length ≤ (txG gap ls).length + 117 ∧ t' ≤ t + 17 ∧ ∀ (z : Bool) (X0 X : am_H) (B P : Nat) (l4 l5 l6 : Option Value), bI X0 n g → 600 ≤ B → f < P → P ≤ 3 → cnJ X0 X B d gap ls t N P o a → ∃ (X' : am_H) (l4' l5' l6' : Option Value), ru_n z 386 283 [some (.ref (B + 1)), some (.ref B), some (.int (wI ((N : Nat) : Int))), some (.int (wI ((f : Nat) : Int))), l4, l5, l6] [] X = ru_n z 386 283 [some (.ref (B + 1)), some (.ref B), some (.int (wI ((N : Nat) : Int))), some (.int (wI ((f + 1 : Nat) : Int))), l4', l5', l6'] [] X' ∧ cnJ X0 X' B d' gap ls' t' N P o a := by
  obtain ⟨⟨⟨ho, hz, h6⟩, k, hi⟩, hP, hg, hz0⟩ := hk
  obtain ⟨Q, hQ⟩ : ∃ Q, Q = (lsZ s0L ls).2.2.2.2 := ⟨_, rfl⟩
  rw [← hQ] at hg hz0
  obtain ⟨w, hw⟩ : ∃ w, w = dN n g t 1 90 := ⟨_, rfl⟩
  have bw := dN_b (n := n) (g := g) (t := t) (lo := 1) (hi := 90) (by omega)
  rw [← hw] at bw
  obtain ⟨h, hh⟩ : ∃ h, h = dN n g (t + 1) 1 60 := ⟨_, rfl⟩
  have bh := dN_b (n := n) (g := g) (t := t + 1) (lo := 1) (hi := 60) (by omega)
  rw [← hh] at bh
  obtain ⟨e, he⟩ : ∃ e, e = dN n g (t + 2) 0 7 := ⟨_, rfl⟩
  have be := dN_b (n := n) (g := g) (t := t + 2) (lo := 0) (hi := 7) (by omega)
  rw [← he] at be
  have nl : ∀ v, (numT v).length ≤ 2 := fun v => by rw [numT_len]; split <;> omega
  have l5' : (lwT 5).length = 7 := by decide
  have nw := nl w
  have nh := nl h
  obtain ⟨d1, k1, u1, r1⟩ := ci_lit k (i := 5) (by decide) (by omega)
  have m1 : (txG gap ls ++ lwT 5).length = (txG gap ls).length + 7 := by rw [List.length_append, l5']
  obtain ⟨d2, k2, u2, r2⟩ := ci_num k1 (v := w) (by omega) (by omega)
  have m2 : (txG gap ls ++ lwT 5 ++ numT w).length ≤ (txG gap ls).length + 9 := by rw [List.length_append, m1]; omega
  obtain ⟨d3, k3, u3, r3⟩ := ci_chr k2 (c := 32) (by decide) (by omega)
  have m3 : (txG gap ls ++ lwT 5 ++ numT w ++ [32]).length ≤ (txG gap ls).length + 10 := by
    rw [List.length_append]
    show _ + 1 ≤ _
    omega
  obtain ⟨d4, k4, u4, r4⟩ := ci_num k3 (v := h) (by omega) (by omega)
  obtain ⟨x, hxx⟩ : ∃ x : tLn, x = (1, [], [], w, h, 0) := ⟨_, rfl⟩
  have et : txG gap ls ++ lwT 5 ++ numT w ++ [32] ++ numT h = txG gap (ls ++ [x]) := by
    rw [txG_s, hxx]
    show _ = txG gap ls ++ (lwT 5 ++ (numT w ++ ([32] ++ numT h)))
    simp only [List.append_assoc]
  have m4 : (txG gap (ls ++ [x])).length ≤ (txG gap ls).length + 12 := by rw [← et, List.length_append]; omega
  rw [et] at k4 r4
  have es : lst (lsZ s0L ls) x = ((lsZ s0L ls).1, (lsZ s0L ls).2.1, (lsZ s0L ls).2.2.1, f + 1, upW Q f (nph w h)) := by
    rw [hxx, hQ]
    unfold lst
    rw [if_neg (show ¬ 1 = 0 by decide), if_pos (show 1 = 1 from rfl), hP]
  have hok : ok1 (lsZ s0L ls) x := Or.inr (Or.inl (by
    rw [hxx]
    show 1 = 1 ∧ (lsZ s0L ls).2.2.2.1 < 5 ∧ (1 ≤ w ∧ w ≤ 99) ∧ 1 ≤ h ∧ h ≤ 99
    rw [hP]
    exact ⟨rfl, by omega, by omega, by omega⟩))
  have uu : cdU d d4 := cdU_t u1 (cdU_t u2 (cdU_t u3 u4))
  have hv := cnK_d (gap := gap) (ls := ls) (a := a) (d := d) (fun i hN => (hi i hN).1) uu
  have K4 : cnQ gap (ls ++ [x]) d4 N o a (f + 1) := by
    refine ⟨⟨⟨lsO_s ls s0L x ho hok, by rw [lsZ_s, es]; exact hz, h6⟩, k4, fun i hN => ?_⟩, by rw [lsZ_s, es], fun i hi3 => ?_, fun i hi3 => ?_⟩
    · rw [lsZ_s, es]
      exact ⟨hv i hN, (hi i hN).2⟩
    · rw [lsZ_s, es]
      show phg (upW Q f (nph w h) i)
      by_cases ei : i = f
      · rw [ei, upW_e]; exact phg_new (by omega) (by omega)
      · rw [upW_n ei]; exact hg i (by omega)
    · rw [lsZ_s, es]
      show upW Q f (nph w h) i = z0P
      rw [upW_n (by omega)]
      exact hz0 i (by omega)
  have c4 : ((lsZ s0L (ls ++ [x])).2.2.2.2 f).1 7 = ((0 : Nat) : Int) := by
    rw [lsZ_s, es]
    show (upW Q f (nph w h) f).1 7 = _
    rw [upW_e]; rfl
  obtain ⟨d5, ls5, k5, q5, n5, r5⟩ := cn_pps hn g hf e 0 (ls ++ [x]) d4 (t + 3) K4 c4 (by omega) (by omega) (by omega)
  have lx : (ls ++ [x]).length = ls.length + 1 := by rw [List.length_append]; rfl
  refine ⟨d5, ls5, t + 3 + 2 * e, k5, by omega, by omega, by omega, fun z X0 X B P l4 l5 l6 hb hB hfP hP3 hJ => ?_⟩
  obtain ⟨hI, hY, hT⟩ := hJ
  rw [← hQ] at hY
  obtain ⟨A, hA⟩ : ∃ A : tLw, A = (vA gap N P, Q, (fun i => B + o i), a) := ⟨_, rfl⟩
  rw [← hA] at hY
  have af : A.2.1 f = z0P := by rw [hA]; exact hz0 f (Nat.le_refl _)
  have hY0 : ylP X B (ylU A f z0P) := by rw [← af, ylU_self]; exact hY
  have dd : (d.1 = 3 ∨ 30 ≤ d.1) ∧ 30 ≤ d.2.1 := ⟨k.1, by have := k.2.2.1; omega⟩
  have oi : ∀ i, i < N → 30 ≤ o i := fun i hN => (hi i hN).1.1.1
  have ci : ∀ i, i < N → (30 ≤ o i ∧ o i + 1 < d.2.1) ∧ (d.1 ≠ o i ∧ d.1 ≠ o i + 1) := fun i hN => (hi i hN).1
  obtain ⟨e1, i1, f1⟩ := ci_drw (z := z) hb hn hB hI k.1 (by omega) (lo := 1) (hi := 90) (by omega) (by omega)
  rw [← hw] at e1
  obtain ⟨X1, hX1⟩ : ∃ X1, X1 = am_set X B (dwC (t + 1)) := ⟨_, rfl⟩
  rw [← hX1] at e1 i1 f1
  have y1 := yl_cF hY0 f1 dd
  have t1 := cnT_cF hT ci f1
  obtain ⟨X2, s2, y2⟩ := yl_u6 (v := (w : Int)) y1 hf
  have w2 := cW_i (B := B) s2 (by omega)
  have i2 := ci_W i1 w2 k.1
  have t2 := cnT_W t1 oi w2
  obtain ⟨e3, i3, f3⟩ := ci_drw (z := z) hb hn hB i2 k.1 (by omega) (lo := 1) (hi := 60) (by omega) (by omega)
  rw [← hh] at e3
  obtain ⟨X3, hX3⟩ : ∃ X3, X3 = am_set X2 B (dwC (t + 1 + 1)) := ⟨_, rfl⟩
  rw [← hX3] at e3 i3 f3
  have y3 := yl_cF y2 f3 dd
  have t3 := cnT_cF t2 ci f3
  obtain ⟨X4, s4, y4⟩ := yl_u7 (v := (h : Int)) y3 hf
  have w4 := cW_i (B := B) s4 (by omega)
  have i4 := ci_W i3 w4 k.1
  have t4 := cnT_W t3 oi w4
  obtain ⟨X5, s5, y5, -⟩ := yl_wg y4 (k := 2) (v := (w : Int) - 1) hf (by decide) (by decide)
  have w5 := cW_i (B := B) s5 (by omega)
  have i5 := ci_W i4 w5 k.1
  have t5 := cnT_W t4 oi w5
  obtain ⟨X6, s6, y6, -⟩ := yl_wg y5 (k := 3) (v := (h : Int) - 1) hf (by decide) (by decide)
  have w6 := cW_i (B := B) s6 (by omega)
  have i6 := ci_W i5 w6 k.1
  have t6 := cnT_W t5 oi w6
  obtain ⟨X7, e7, i7, f7⟩ := r1 z X0 X6 B (t + 2) n g hB hb i6
  obtain ⟨X8, e8, i8, f8⟩ := r2 z X0 X7 B (t + 2) n g hB hb i7
  obtain ⟨X9, e9, i9, f9⟩ := r3 z X0 X8 B (t + 2) i8
  obtain ⟨Xa, ea, ia, fa⟩ := r4 z X0 X9 B (t + 2) n g hB hb i9
  have v2 := cdU_t u1 u2
  have v3 := cdU_t v2 u3
  have g8 : cF X6 X8 B d := cF_t k.2.1 u1 f7 f8
  have g9 : cF X6 X9 B d := cF_t k.2.1 v2 g8 f9
  have ga : cF X6 Xa B d := cF_t k.2.1 v3 g9 fa
  have y7 := yl_cF y6 f7 dd
  have y9 := yl_cF y6 g9 dd
  have ya := yl_cF y6 ga dd
  have ta := cnT_cF t6 ci ga
  obtain ⟨eb, ib, fb⟩ := ci_drw (z := z) hb hn hB ia k4.1 (by omega) (lo := 0) (hi := 7) (by omega) (by omega)
  rw [← he] at eb
  obtain ⟨Xb, hXb⟩ : ∃ Xb, Xb = am_set Xa B (dwC (t + 2 + 1)) := ⟨_, rfl⟩
  rw [← hXb] at eb ib fb
  have d44 : (d4.1 = 3 ∨ 30 ≤ d4.1) ∧ 30 ≤ d4.2.1 := ⟨k4.1, by have := k4.2.2.1; omega⟩
  have yb := yl_cF ya fb d44
  have tb := cnT_cF ta hv fb
  have hJb : cnJ X0 Xb B d4 gap (ls ++ [x]) (t + 3) N P o a := by
    refine ⟨ib, ?_, ?_⟩
    · rw [lsZ_s, es]
      rw [hA] at yb
      exact yb
    · rw [lsZ_s, es]
      exact tb
  obtain ⟨Xc, y5', y6', ec, jc⟩ := r5 z X0 Xb B P (some (.int (wI ((N : Nat) : Int)))) l5 l6 hb hB hJb
  refine ⟨Xc, some (.int (wI 0)), y5', y6', ?_, jc⟩
  have gP : am_fd X (B + 1) 13 3 = some (.int (wI ((P : Nat) : Int))) := (yl_f3 hY).trans (by rw [hA]; rfl)
  have dP : ((P : Int) ≤ (f : Int)) = False := eq_false (by omega)
  have e1' : ru_ev z 390 [.ref B, .int (wI 1), .int (wI 90)] X = some (.inl (some (.int (wI ((w : Nat) : Int)))), X1) := e1
  have e3' : ru_ev z 390 [.ref B, .int (wI 1), .int (wI 60)] X2 = some (.inl (some (.int (wI ((h : Nat) : Int)))), X3) := e3
  have eb' : ru_ev z 390 [.ref B, .int (wI 0), .int (wI 7)] Xa = some (.inl (some (.int (wI ((e : Nat) : Int)))), Xb) := eb
  have e7' : ru_ev z 307 [.ref (B + 2), .ref 505] X6 = some (.inl (some (.ref (B + 2))), X7) := e7
  have e9' : ru_ev z 319 [.ref (B + 2), .int (wI 32)] X8 = some (.inl (some (.ref (B + 2))), X9) := e9
  have q4 : am_ia X4 (B + 6) (wI ((f : Nat) : Int)) = some (wI (w : Int)) := (yl_6 y4 hf).trans (by rw [ylU_s]; rfl)
  have q5' : am_ia X5 (B + 7) (wI ((f : Nat) : Int)) = some (wI (h : Int)) := (yl_7 y5 hf).trans (by rw [ylU_s]; rfl)
  have q7 : am_ia X7 (B + 6) (wI ((f : Nat) : Int)) = some (wI (w : Int)) := (yl_6 y7 hf).trans (by rw [ylU_s]; rfl)
  have q9 : am_ia X9 (B + 7) (wI ((f : Nat) : Int)) = some (wI (h : Int)) := (yl_7 y9 hf).trans (by rw [ylU_s]; rfl)
  rw [e386_283]
  simp only [Int.natCast_add, Int.natCast_one]
  simp (disch := omega) only [e386_284, e386_285, e386_288, e386_291, e386_292, e386_295, e386_296, e386_297, e386_298, e386_300, e386_303, e386_304, e386_305, e386_308, e386_309, e386_310, e386_311, e386_313, e386_316, e386_317, e386_318, e386_321, e386_322, e386_323, e386_324, e386_325, e386_328, e386_329, e386_330, e386_331, e386_332, e386_333, e386_334, e386_337, e386_338, e386_339, e386_340, e386_341, e386_344, e386_345, e386_346, e386_347, e386_348, e386_349, e386_350, e386_353, e386_355, e386_358, e386_359, e386_362, e386_363, e386_364, e386_367, e386_369, e386_372, e386_373, e386_376, e386_377, e386_378, e386_381, e386_382, e386_383, e386_384, e386_386, e386_389, e386_475, e386_478, ↓reduceIte, Bool.false_eq_true, not_false_eq_true, not_true_eq_false, Nat.reduceLeDiff, Nat.reduceAdd, Nat.reduceEqDiff, Int.reduceToNat, Int.toNat_natCast, iB0, iB1, ru_klI, ru_klR, ru_klF, ru_klJ, ru_kl0, ru_cs0, ru_csI, ru_csR, ru_csF, ru_csJ, wI_add, wI_sub, wI_mul, wI_lt, wI_le, wI_inj, ru_fdE, ru_fdN, ru_iaN, ru_baN, ru_laN, ru_qaN, ru_pfN, ru_isN, ru_bsN, ru_jsN, ru_qsN, ru_set2, Nat.add_right_cancel_iff, if_true, if_false, ite_self, Int.reduceEq, and_self, Int.add_neg_cancel_right, Int.add_zero, Int.zero_add, ru_ctR, ru_ctI, gP, dP, yl_f6 hY, e1', s2, yl_f7 y2, e3', s4, yl_f9 y4, yl_q9 y4 hf, yl_f6 y4, q4, s5, yl_f9 y5, yl_q9 y5 hf, yl_f7 y5, q5', s6, yl_f0 y6, e7', yl_f6 y7, q7, e8, e9', yl_f7 y9, q9, ea, eb', ec]
end CNF
