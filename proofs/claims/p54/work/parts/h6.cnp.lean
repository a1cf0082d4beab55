/-! ===== the law's constructor: a person ===== -/
def cW (X X' : am_H) (B : Nat) : Prop := (∀ q, (q < B + 4 ∨ B + 30 ≤ q) → X'.1 q = X.1 q) ∧ X'.2 = X.2
section CNP
variable {z : Bool} {X0 X X' : am_H} {B n N P t : Nat} {g : Nat → Int32} {d d' : tCd} {o a : Nat → Nat} {gap : Nat} {ls : List tLn} {A : tLw} {l : List Nat}
theorem cW_t {Y W : am_H} (h : cW X Y B) (k : cW Y W B) : cW X W B := ⟨fun q hq => (k.1 q hq).trans (h.1 q hq), k.2.trans h.2⟩
theorem cW_i {q : Nat} {i v : Int32} (h : am_is X q i v = some X') (hq : B + 4 ≤ q ∧ q < B + 30) : cW X X' B := by
  obtain ⟨k1, k2⟩ := am_is_o h
  exact ⟨fun p hp => k1 p (by omega), k2⟩
theorem ci_W (h : cI X0 X B d l t) (k : cW X X' B) (hd : d.1 = 3 ∨ 30 ≤ d.1) : cI X0 X' B d l t := by
  obtain ⟨h1, h2, ⟨f, h3⟩, h4, h5⟩ := h
  obtain ⟨k1, k2⟩ := k
  exact ⟨fun q hq => by rw [k1 q (by omega)]; exact h1 q hq, by rw [k1 B (by omega)]; exact h2, ⟨f, gbS_ag h3 (k1 _ (by omega)) (k1 _ (by omega)) (by rw [k2]; exact Nat.le_refl _)⟩, by rw [k2]; exact h4, by rw [k2]; exact h5⟩
theorem cnT_W {F : Nat → List Nat} (h : cnT X B N o F) (hk : ∀ i, i < N → 30 ≤ o i) (k : cW X X' B) : cnT X' B N o F := fun i hi => by
  have := hk i hi
  obtain ⟨s5, kk, f, s6, s7, s8⟩ := h i hi
  exact ⟨by rw [k.1 _ (by omega)]; exact s5, kk, f, s6, by rw [k.1 _ (by omega)]; exact s7, s8⟩
theorem d398s (h : ylP X B A) {f m : Nat} {px py : Int} (hf : f < 3) (hm : (A.2.1 f).1 7 = (m : Int)) (hm2 : m < 12) : ∃ X', ru_ev z 398 [.ref (B + 1), .int (wI f), .int (wI px), .int (wI py)] X = some (.inl none, X') ∧ ylP X' B (ylU A f (laQ (A.2.1 f) m px py)) ∧ cW X X' B := by
  obtain ⟨X1, a1, a2, -⟩ := yl_wx h (k := (m : Int)) (v := px) hf (by omega) (by omega)
  obtain ⟨X2, b1, b2, -⟩ := yl_wy a2 (k := (m : Int)) (v := py) hf (by omega) (by omega)
  obtain ⟨X3, c1, c2, -⟩ := yl_wn b2 (k := (m : Int)) (v := -1) hf (by omega) (by omega)
  obtain ⟨X4, d1, d2, -⟩ := yl_w8 c2 (v := (m : Int) + 1) hf
  refine ⟨X4, ?_, ?_, cW_t (cW_i a1 (by omega)) (cW_t (cW_i b1 (by omega)) (cW_t (cW_i c1 (by omega)) (cW_i d1 (by omega))))⟩
  · have m1 : am_ia X1 (B + 8) (wI f) = some (wI m) := by rw [yl_8 a2 hf, ylU_s, hm]
    have m2 : am_ia X2 (B + 8) (wI f) = some (wI m) := by rw [yl_8 b2 hf, ylU_s]; show some (wI (((ylU A f _).2.1 f).1 7)) = _; rw [ylU_s, hm]
    have m3 : am_ia X3 (B + 8) (wI f) = some (wI m) := by rw [yl_8 c2 hf, ylU_s]; show some (wI (((ylU (ylU A f _) f _).2.1 f).1 7)) = _; rw [ylU_s]; show some (wI (((ylU A f _).2.1 f).1 7)) = _; rw [ylU_s, hm]
    simp (disch := omega) only [en398, e398_0, e398_1, e398_4, e398_5, e398_6, e398_7, e398_10, e398_11, e398_12, e398_13, e398_14, e398_15, e398_18, e398_19, e398_20, e398_21, e398_24, e398_25, e398_26, e398_27, e398_28, e398_29, e398_32, e398_33, e398_34, e398_35, e398_38, e398_39, e398_40, e398_41, e398_42, e398_43, e398_46, e398_47, e398_48, e398_49, e398_50, e398_51, e398_52, ↓reduceIte, Bool.false_eq_true, not_false_eq_true, not_true_eq_false, Nat.reduceLeDiff, Nat.reduceAdd, Nat.reduceEqDiff, Int.reduceToNat, Int.toNat_natCast, iB0, iB1, ru_klI, ru_klR, ru_klF, ru_klJ, ru_kl0, ru_cs0, ru_csI, ru_csR, ru_csF, ru_csJ, wI_add, wI_sub, wI_mul, wI_lt, wI_le, wI_inj, ru_fdE, ru_fdN, ru_iaN, ru_baN, ru_laN, ru_qaN, ru_pfN, ru_isN, ru_bsN, ru_jsN, ru_qsN, ru_set2, Nat.add_right_cancel_iff, if_true, if_false, ite_self, Int.reduceEq, and_self, Int.add_neg_cancel_right, Int.add_zero, Int.zero_add, ru_ctR, ru_ctI, yl_o h, yl_f8 h, yl_f10 h, yl_f11 h, yl_f12 h, yl_q13 h, yl_8 h, hm, a1, yl_o a2, yl_f8 a2, yl_f11 a2, yl_f12 a2, yl_q17 a2, m1, b1, yl_o b2, yl_f8 b2, yl_f12 b2, yl_q21 b2, m2, c1, yl_o c2, yl_f8 c2, m3, d1]
  · simp only [ylU_up, ylU_s, Int.toNat_natCast] at d2
    have e1 : (upC (upC (A.2.1 f).2 0 (up1 ((A.2.1 f).2 0) m px)) 1 (up1 (upC (A.2.1 f).2 0 (up1 ((A.2.1 f).2 0) m px) 1) m py)) = upC (upC (A.2.1 f).2 0 (up1 ((A.2.1 f).2 0) m px)) 1 (up1 ((A.2.1 f).2 1) m py) := by rw [upC_n (c := 0) (j := 1) (by decide)]
    rw [e1, upC_n (c := 1) (j := 3) (by decide), upC_n (c := 0) (j := 3) (by decide)] at d2
    exact d2
theorem cn_pp (hn : n ≤ 1000) (g : Nat → Int32) {f m : Nat} (hk : cnQ gap ls d N o a (f + 1)) (hf : f < 3) (hm : ((lsZ s0L ls).2.2.2.2 f).1 7 = (m : Int)) (h7 : m < 7) (hl : (txG gap ls).length + 15 ≤ 500) (ht : t ≤ 900000) : ∃ (d' : tCd) (x : tLn), cnQ gap (ls ++ [x]) d' N o a (f + 1) ∧ ((lsZ s0L (ls ++ [x])).2.2.2.2 f).1 7 = ((m + 1 : Nat) : Int) ∧ (txG gap (ls ++ [x])).length ≤ (txG gap ls).length + 15 ∧ ∀ (z : Bool) (X0 X : am_H) (B P e : Nat) (l2 l5 l6 : Option Value), bI X0 n g → 600 ≤ B → e ≤ 100 → cnJ X0 X B d gap ls t N P o a → ∃ (X' : am_H) (l5' l6' : Option Value), ru_n z 386 391 [some (.ref (B + 1)), some (.ref B), l2, some (.int (wI ((f : Nat) : Int))), some (.int (wI ((e + 1 : Nat) : Int))), l5, l6] [] X = ru_n z 386 391 [some (.ref (B + 1)), some (.ref B), l2, some (.int (wI ((f : Nat) : Int))), some (.int (wI ((e : Nat) : Int))), l5', l6'] [] X' ∧ cnJ X0 X' B d' gap (ls ++ [x]) (t + 2) N P o a := by
  obtain ⟨⟨⟨ho, hz, h6⟩, k, hi⟩, hP, hg, hz0⟩ := hk
  obtain ⟨Q, hQ⟩ : ∃ Q, Q = (lsZ s0L ls).2.2.2.2 := ⟨_, rfl⟩
  rw [← hQ] at hm hg hz0
  have pg := hg f (by omega)
  obtain ⟨w, hw⟩ : ∃ w : Nat, (Q f).1 0 = (w : Int) := ⟨((Q f).1 0).toNat, by have := pg.1; omega⟩
  obtain ⟨h, hh⟩ : ∃ h : Nat, (Q f).1 1 = (h : Int) := ⟨((Q f).1 1).toNat, by have := pg.1; omega⟩
  have pw := pg.1
  obtain ⟨px, hx⟩ : ∃ px, px = dN n g t 0 (w - 1) := ⟨_, rfl⟩
  have bx := dN_b (n := n) (g := g) (t := t) (lo := 0) (hi := w - 1) (by omega)
  rw [← hx] at bx
  obtain ⟨py, hy⟩ : ∃ py, py = dN n g (t + 1) 0 (h - 1) := ⟨_, rfl⟩
  have byy := dN_b (n := n) (g := g) (t := t + 1) (lo := 0) (hi := h - 1) (by omega)
  rw [← hy] at byy
  have nl : ∀ v, (numT v).length ≤ 2 := fun v => by rw [numT_len]; split <;> omega
  have l6' : (lwT 6).length = 8 := by decide
  have nf : (numT f).length = 1 := by rw [numT_len, if_pos (by omega)]
  obtain ⟨d1, k1, u1, r1⟩ := ci_lit k (i := 6) (by decide) (by omega)
  have m1 : (txG gap ls ++ lwT 6).length = (txG gap ls).length + 8 := by rw [List.length_append, l6']
  obtain ⟨d2, k2, u2, r2⟩ := ci_num k1 (v := f) (by omega) (by omega)
  have m2 : (txG gap ls ++ lwT 6 ++ numT f).length = (txG gap ls).length + 9 := by rw [List.length_append, m1, nf]
  obtain ⟨d3, k3, u3, r3⟩ := ci_chr k2 (c := 32) (by decide) (by omega)
  have m3 : (txG gap ls ++ lwT 6 ++ numT f ++ [32]).length = (txG gap ls).length + 10 := by rw [List.length_append, m2]; rfl
  have nx := nl px
  have ny := nl py
  obtain ⟨d4, k4, u4, r4⟩ := ci_num k3 (v := px) (by omega) (by omega)
  have m4 : (txG gap ls ++ lwT 6 ++ numT f ++ [32] ++ numT px).length ≤ (txG gap ls).length + 12 := by rw [List.length_append, m3]; omega
  obtain ⟨d5, k5, u5, r5⟩ := ci_chr k4 (c := 32) (by decide) (by omega)
  have m5 : (txG gap ls ++ lwT 6 ++ numT f ++ [32] ++ numT px ++ [32]).length ≤ (txG gap ls).length + 13 := by
    rw [List.length_append]
    show _ + 1 ≤ _
    omega
  obtain ⟨d6, k6, u6, r6⟩ := ci_num k5 (v := py) (by omega) (by omega)
  obtain ⟨x, hxx⟩ : ∃ x : tLn, x = (2, [], [], f, px, py) := ⟨_, rfl⟩
  have et : txG gap ls ++ lwT 6 ++ numT f ++ [32] ++ numT px ++ [32] ++ numT py = txG gap (ls ++ [x]) := by
    rw [txG_s, hxx]
    show _ = txG gap ls ++ (lwT 6 ++ (numT f ++ ([32] ++ (numT px ++ ([32] ++ numT py)))))
    simp only [List.append_assoc]
  have m6 : (txG gap (ls ++ [x])).length ≤ (txG gap ls).length + 15 := by rw [← et, List.length_append]; omega
  rw [et] at k6 r6
  have mt : ((m : Int)).toNat = m := Int.toNat_natCast m
  have es : lst (lsZ s0L ls) x = ((lsZ s0L ls).1, (lsZ s0L ls).2.1, (lsZ s0L ls).2.2.1, (lsZ s0L ls).2.2.2.1, upW Q f (laQ (Q f) m (px : Int) (py : Int))) := by
    rw [hxx, hQ]
    unfold lst
    rw [if_neg (show ¬ 2 = 0 by decide), if_neg (show ¬ 2 = 1 by decide)]
    show (_, _, _, _, upW (lsZ s0L ls).2.2.2.2 f (laQ ((lsZ s0L ls).2.2.2.2 f) (((lsZ s0L ls).2.2.2.2 f).1 7).toNat (px : Int) (py : Int))) = _
    rw [← hQ, hm, mt]
  have hok : ok1 (lsZ s0L ls) x := Or.inr (Or.inr (by
    rw [hxx]
    show 2 = 2 ∧ f < (lsZ s0L ls).2.2.2.1 ∧ ((px : Nat) : Int) < ((lsZ s0L ls).2.2.2.2 f).1 0 ∧ ((py : Nat) : Int) < ((lsZ s0L ls).2.2.2.2 f).1 1 ∧ ((lsZ s0L ls).2.2.2.2 f).1 7 < 12 ∧ px ≤ 99 ∧ py ≤ 99
    rw [← hQ, hP]
    exact ⟨rfl, by omega, by omega, by omega, by omega, by omega, by omega⟩))
  have uu : cdU d d6 := cdU_t u1 (cdU_t u2 (cdU_t u3 (cdU_t u4 (cdU_t u5 u6))))
  have hv := cnK_d (gap := gap) (ls := ls) (a := a) (d := d) (fun i hN => (hi i hN).1) uu
  refine ⟨d6, x, ⟨⟨⟨lsO_s ls s0L x ho hok, by rw [lsZ_s, es]; exact hz, h6⟩, k6, fun i hN => ?_⟩, by rw [lsZ_s, es]; exact hP, fun i hi3 => ?_, fun i hi3 => ?_⟩, ?_, m6, fun z X0 X B P e l2 l5 l6 hb hB he hJ => ?_⟩
  · rw [lsZ_s, es]
    exact ⟨hv i hN, (hi i hN).2⟩
  · rw [lsZ_s, es]
    show phg (upW Q f (laQ (Q f) m (px : Int) (py : Int)) i)
    by_cases ei : i = f
    · rw [ei, upW_e]; exact phg_laQ pg hm h7 (by omega) (by omega)
    · rw [upW_n ei]; exact hg i hi3
  · rw [lsZ_s, es]
    show upW Q f (laQ (Q f) m (px : Int) (py : Int)) i = z0P
    rw [upW_n (by omega)]
    exact hz0 i hi3
  · rw [lsZ_s, es]
    show (upW Q f (laQ (Q f) m (px : Int) (py : Int)) f).1 7 = _
    rw [upW_e]
    show (m : Int) + 1 = _
    omega
  · obtain ⟨hI, hY, hT⟩ := hJ
    rw [← hQ] at hY
    have q6 : am_ia X (B + 6) (wI ((f : Nat) : Int)) = some (wI (w : Int)) := (yl_6 hY hf).trans (congrArg (fun v => some (wI v)) hw)
    obtain ⟨e1, i1, f1⟩ := ci_drw (z := z) hb hn hB hI k.1 (by omega) (lo := 0) (hi := w - 1) (by omega) (by omega)
    rw [← hx, show ((w - 1 : Nat) : Int) = (w : Int) - 1 by omega] at e1
    obtain ⟨X1, hX1⟩ : ∃ X1, X1 = am_set X B (dwC (t + 1)) := ⟨_, rfl⟩
    rw [← hX1] at e1 i1 f1
    have dd : (d.1 = 3 ∨ 30 ≤ d.1) ∧ 30 ≤ d.2.1 := ⟨k.1, by have := k.2.2.1; omega⟩
    have y1 := yl_cF hY f1 dd
    have q7 : am_ia X1 (B + 7) (wI ((f : Nat) : Int)) = some (wI (h : Int)) := (yl_7 y1 hf).trans (congrArg (fun v => some (wI v)) hh)
    obtain ⟨e2, i2, f2⟩ := ci_drw (z := z) hb hn hB i1 k.1 (by omega) (lo := 0) (hi := h - 1) (by omega) (by omega)
    rw [← hy, show ((h - 1 : Nat) : Int) = (h : Int) - 1 by omega] at e2
    obtain ⟨X2, hX2⟩ : ∃ X2, X2 = am_set X1 B (dwC (t + 1 + 1)) := ⟨_, rfl⟩
    rw [← hX2] at e2 i2 f2
    have y2 := yl_cF y1 f2 dd
    obtain ⟨X3, e3, i3, f3⟩ := r1 z X0 X2 B (t + 2) n g hB hb i2
    obtain ⟨X4, e4, i4, f4⟩ := r2 z X0 X3 B (t + 2) n g hB hb i3
    obtain ⟨X5, e5, i5, f5⟩ := r3 z X0 X4 B (t + 2) i4
    obtain ⟨X6, e6, i6, f6⟩ := r4 z X0 X5 B (t + 2) n g hB hb i5
    obtain ⟨X7, e7, i7, f7⟩ := r5 z X0 X6 B (t + 2) i6
    obtain ⟨X8, e8, i8, f8⟩ := r6 z X0 X7 B (t + 2) n g hB hb i7
    have v2 := cdU_t u1 u2
    have v3 := cdU_t v2 u3
    have v4 := cdU_t v3 u4
    have v5 := cdU_t v4 u5
    have g8 : cF X X8 B d := cF_t k.2.1 v5 (cF_t k.2.1 v4 (cF_t k.2.1 v3 (cF_t k.2.1 v2 (cF_t k.2.1 u1 (cF_t k.2.1 (cdU_r d) (cF_t k.2.1 (cdU_r d) f1 f2) f3) f4) f5) f6) f7) f8
    have y8 := yl_cF hY g8 dd
    obtain ⟨X9, e9, y9, w9⟩ := d398s (z := z) y8 (f := f) (m := m) (px := (px : Int)) (py := (py : Int)) hf hm (by omega)
    have g0 := yl_f0 y2
    refine ⟨X9, some (.int (wI (px : Int))), some (.int (wI (py : Int))), ?_, ci_W i8 w9 k6.1, ?_, ?_⟩
    · have e1' : ru_ev z 390 [.ref B, .int (wI 0), .int (wI ((w : Int) - 1))] X = some (.inl (some (.int (wI ((px : Nat) : Int)))), X1) := e1
      have e2' : ru_ev z 390 [.ref B, .int (wI 0), .int (wI ((h : Int) - 1))] X1 = some (.inl (some (.int (wI ((py : Nat) : Int)))), X2) := e2
      have e3' : ru_ev z 307 [.ref (B + 2), .ref 506] X2 = some (.inl (some (.ref (B + 2))), X3) := e3
      have e5' : ru_ev z 319 [.ref (B + 2), .int (wI 32)] X4 = some (.inl (some (.ref (B + 2))), X5) := e5
      have e7' : ru_ev z 319 [.ref (B + 2), .int (wI 32)] X6 = some (.inl (some (.ref (B + 2))), X7) := e7
      have de : (((e + 1 : Nat) : Int) ≤ 0) = False := eq_false (by omega)
      have dm : ((e + 1 : Nat) : Int) + -1 = (e : Int) := by omega
      rw [e386_391]
      simp (disch := omega) only [e386_393, e386_396, e386_397, e386_398, e386_399, e386_402, e386_403, e386_404, e386_405, e386_406, e386_409, e386_411, e386_412, e386_413, e386_414, e386_417, e386_418, e386_419, e386_420, e386_421, e386_424, e386_426, e386_427, e386_430, e386_432, e386_435, e386_436, e386_439, e386_441, e386_444, e386_446, e386_449, e386_451, e386_454, e386_456, e386_459, e386_460, e386_461, e386_462, e386_464, e386_466, e386_469, e386_472, ↓reduceIte, Bool.false_eq_true, not_false_eq_true, not_true_eq_false, Nat.reduceLeDiff, Nat.reduceAdd, Nat.reduceEqDiff, Int.reduceToNat, Int.toNat_natCast, iB0, iB1, ru_klI, ru_klR, ru_klF, ru_klJ, ru_kl0, ru_cs0, ru_csI, ru_csR, ru_csF, ru_csJ, wI_add, wI_sub, wI_mul, wI_lt, wI_le, wI_inj, ru_fdE, ru_fdN, ru_iaN, ru_baN, ru_laN, ru_qaN, ru_pfN, ru_isN, ru_bsN, ru_jsN, ru_qsN, ru_set2, Nat.add_right_cancel_iff, if_true, if_false, ite_self, Int.reduceEq, and_self, Int.add_neg_cancel_right, Int.add_zero, Int.zero_add, ru_ctR, ru_ctI, de, dm, yl_f6 hY, q6, e1', yl_f7 y1, q7, e2', g0, e3', e4, e5', e6, e7', e8, e9]
    · rw [lsZ_s, es]
      exact y9
    · rw [lsZ_s, es]
      exact cnT_W (cnT_cF hT (fun i hN => (hi i hN).1) g8) (fun i hN => (hi i hN).1.1.1) w9
end CNP
