/-! ===== the law writes a phrase of a row: its head ===== -/
def prRow (p : tPh) (gap : Int) (NN : Nat) (hd : List Nat) (N : Nat) (e : Nat → Nat) (lf : Int) (ns : Nat → Int) (most : Nat) : Prop :=
  ((hd = lwT 7 ∧ enO (shS p) (kyO (shX p) (shY p)) N e) ∨ ∃ (r : Nat) (R : Nat → Int) (rc : Int), (r : Int) < rc ∧ rwOK (shS p) (shY p) gap R rc ∧ hd = lwT 8 ++ numT r ∧ enO (fun o => shS p o && decide (R o = (r : Int))) (kyX (shX p)) N e) ∧ (lf = 0 ∨ lf = 1) ∧ (1 ≤ most ∧ most ≤ N) ∧ ∀ i, i < most → -1 ≤ ns i ∧ ns i < NN
def prT (F L : Nat → List Nat) (hd : List Nat) (lf : Int) (ns : Nat → Int) (most : Nat) : List Nat := hd ++ (if lf = 1 then lwT 9 else lwT 10) ++ itT F L ns most
def sdE (e : Nat → Nat) (N : Nat) (lf : Int) : Nat → Nat := fun i => e (if lf = 1 then i else N - 1 - i)
theorem agX_lo {X Y : am_H} {c s : Nat} (h : agX X Y c s) : (∀ q, q < 1000 → q < X.2.1 → Y.1 q = X.1 q) := fun q _ h2 => h.1 q h2
theorem rwd_s {X : am_H} {z : Bool} (hs : lwS X) (hd : dgI X) (hX : 1000 ≤ X.2.1) {r : Nat} (hr : r ≤ 99) : ∃ (X1 X2 X3 X4 : am_H) (Q V : Nat), ru_ev z 10 [.ref X.2.1] (am_new X (.inr (11, [.null, .int (wI 0), .int (wI 0), .int (wI 0)])) 4) = some (.inl none, X1) ∧ ru_ev z 307 [.ref X.2.1, .ref 508] X1 = some (.inl (some (.ref X.2.1)), X2) ∧ ru_ev z 312 [.ref X.2.1, .int (wI r)] X2 = some (.inl (some (.ref X.2.1)), X3) ∧ ru_ev z 391 [.ref X.2.1] X3 = some (.inl (some (.ref Q)), X4) ∧ gT X4 Q V (lwT 8 ++ numT r) ∧ (X.2.1 ≤ Q ∧ Q < X4.2.1) ∧ (X.2.1 ≤ V ∧ V < X4.2.1) ∧ agX X X4 1010 3100 := by
  obtain ⟨X1, f1, a1, a2, a3, a4, a5⟩ := g10 (z := z) (X := X)
  have t1 : gT X1 508 528 (lwT 8) := gT_ag (hs 8 (by decide)) a3 (by omega) (by omega)
  obtain ⟨X2, r2, f2, c2, b1, b2, b3⟩ := g307 (z := z) a2 t1 (by omega) (by omega) (by show 0 + 4 ≤ 500; omega) (by decide)
  obtain ⟨o2, r2b⟩ := gbOn_x (X := X) b3 (by omega) (Nat.le_refl _) (by omega)
  have m2 : ∀ q, q < X.2.1 → X2.1 q = X.1 q := fun q hq => (o2 q hq).trans (a3 q hq)
  have nl : (numT r).length ≤ 2 := by rw [numT_len]; split <;> omega
  obtain ⟨X3, r3, f3, c3, d1, d2, d3⟩ := g312 (z := z) b2 (dgI_ag hd (fun q hq => m2 q (by omega))) (by omega) (by omega) hr (by show 4 + (numT r).length ≤ 500; omega)
  obtain ⟨o3, r3b⟩ := gbOn_x (X := X) d3 (by have := b3.2.1; omega) (Nat.le_refl _) r2b
  have m3 : ∀ q, q < X.2.1 → X3.1 q = X.1 q := fun q hq => (o3 q hq).trans (m2 q hq)
  obtain ⟨X4, k1, k2, k3, k4, k5⟩ := g391 (z := z) d2
  have g2 := b3.2.1; have g3 := d3.2.1
  have s1 := b3.2.2.1; have s2 := d3.2.2.1
  have u1 := b3.2.2.2.1; have u2 := d3.2.2.2.1
  have cc := d2.2.2.2.2.1
  have lc := d2.2.2.2.1
  refine ⟨X1, X2, X3, X4, X3.2.1, X3.2.1 + 1, a1, b1, d1, k1, k2, ⟨by omega, by omega⟩, ⟨by omega, by omega⟩, ⟨fun q hq => by rw [k3 q (by omega)]; exact m3 q hq, by omega, by omega, by omega⟩⟩
theorem ylU_self {A : tLw} {f : Nat} : ylU A f (A.2.1 f) = A := by
  refine Prod.ext rfl (Prod.ext (funext fun i => ?_) rfl)
  show (if i = f then A.2.1 f else A.2.1 i) = A.2.1 i
  by_cases c : i = f
  · rw [if_pos c, c]
  · rw [if_neg c]
section ROWP
variable {z : Bool} {B : Nat} {A : tLw} {n : Nat} {g : Nat → Int32} {F L : Nat → List Nat} {S : Nat}
theorem d418 (hk : txK B n) (hA : ylR A) {X : am_H} {f NN t r cap : Nat} {l : List Nat} (hf : f < 3) (hgap : 0 ≤ A.1 0 ∧ A.1 0 ≤ 99) (hNN : A.1 1 = (NN : Int)) (hNN6 : NN ≤ 6) (hl : l.length ≤ 340) (hne : ¬ cnB (shS (A.2.1 f)) 12 = 0) (ht : t ≤ 900000) (h : txS X B A n g t F L S r l cap) : ∃ (X' : am_H) (r' cap' t' : Nat) (hd : List Nat) (N : Nat) (e : Nat → Nat) (lf : Int) (ns : Nat → Int) (most : Nat), prRow (A.2.1 f) (A.1 0) NN hd N e lf ns most ∧ txS X' B (ylU A f (gfL (sdE e N lf) ns most (A.2.1 f))) n g t' F L S r' (l ++ prT F L hd lf ns most) cap' ∧ (prT F L hd lf ns most).length ≤ 120 ∧ (t ≤ t' ∧ t' ≤ t + 15) ∧ agT B S r cap r' cap' X X' 14000 45000 ∧
    ru_ev z 418 [.ref (B + 1), .ref B, .int (wI f), .ref S] X = some (.inl (some (.int (wI (gfN ns most : Nat)))), X') := by
  have hk2 := hk.2.1
  have hX := tx_X h
  obtain ⟨N1, g1, R1, rc, a1, a2, a3⟩ := d404 (z := z) h.1 hA (by omega) hf hgap
  have ag1 : agX X (nw2 X R1 N1 g1) 2 24 := agX_nw2 a2
  have h1 := tx_new hk h ag1
  obtain ⟨X1, hX1⟩ : ∃ X1, X1 = nw2 X R1 N1 g1 := ⟨_, rfl⟩
  rw [← hX1] at a3 ag1 h1
  have rcb := rwOK_rc a1
  have rc0 : 1 ≤ rc := by have := rcb.2.2.2; omega
  obtain ⟨rr, X2, r1, r2, r3, r4, r5, r6, r7⟩ := tx_drw (z := z) hk h1 (by omega) (lo := 0) (hi := rc) (by omega) (by omega) (by omega)
  obtain ⟨sv, X3, s1, s2, s3, s4, s5, s6, s7⟩ := tx_drw (z := z) hk r4 (by omega) (lo := 0) (hi := 1) (by omega) (by omega) (by omega)
  have hX3 := tx_X s4
  obtain ⟨N4, g4, R4, rc4, b1, b2, b3⟩ := d404 (z := z) s4.1 hA (by omega) hf hgap
  have ag4 : agX X3 (nw2 X3 R4 N4 g4) 2 24 := agX_nw2 b2
  have h4 := tx_new hk s4 ag4
  obtain ⟨X4, hX4⟩ : ∃ X4, X4 = nw2 X3 R4 N4 g4 := ⟨_, rfl⟩
  rw [← hX4] at b3 ag4 h4
  obtain ⟨rfl, -⟩ := rwOK_uni b1 a1 (fun _ _ => rfl) (fun _ _ _ => rfl)
  have hX4' := tx_X h4
  -- the people
  have peo : ∃ (X5 : am_H) (N : Nat) (e : Nat → Nat) (w : Nat → Int) (ha : Nat) (hd : List Nat), agX X4 X5 4 60 ∧ X4.2.1 ≤ ha ∧ ha < X5.2.1 ∧ X5.1 ha = some (ylI 0 N w) ∧ (∀ i, i < N → w i = (e i : Int) ∧ e i < 12) ∧ 1 ≤ N ∧ N ≤ 12 ∧ ((hd = lwT 7 ∧ enO (shS (A.2.1 f)) (kyO (shX (A.2.1 f)) (shY (A.2.1 f))) N e) ∨ ∃ (r : Nat) (R : Nat → Int) (rc : Int), (r : Int) < rc ∧ rwOK (shS (A.2.1 f)) (shY (A.2.1 f)) (A.1 0) R rc ∧ hd = lwT 8 ++ numT r ∧ enO (fun o => shS (A.2.1 f) o && decide (R o = (r : Int))) (kyX (shX (A.2.1 f))) N e) ∧ (rr = rc4 → hd = lwT 7) ∧ (¬ rr = rc4 → hd = lwT 8 ++ numT rr.toNat) ∧
      ru_n z 418 33 [some (.ref (B + 1)), some (.ref B), some (.int (wI f)), some (.ref S), some (.int (wI rr)), some (.int (wI 0)), some (.int (wI (1 - sv))), none, none, none, none, none] [.int (wI rr)] X3 = ru_n z 418 59 [some (.ref (B + 1)), some (.ref B), some (.int (wI f)), some (.ref S), some (.int (wI rr)), some (.int (wI 0)), some (.int (wI (1 - sv))), some (.ref ha), none, none, none, none] [] X5 := by
    by_cases c : rr = rc4
    · obtain ⟨N, e, w, p1, p2, p3⟩ := d406 (z := z) (all := 1) h4.1 hA (by omega) hf (by decide)
      have hN12 := enO_12 p1
      have hN0 := enO_n p1
      refine ⟨am_new X4 (ylI 0 N w) N, N, e, w, X4.2.1, lwT 7, agX_m agX_new (by omega) (by omega), Nat.le_refl _, Nat.lt_succ_self _, nw_e, fun i hi => ⟨p2 i hi, (p1.1 i hi).1⟩, by omega, hN12, Or.inl ⟨rfl, p1⟩, fun _ => rfl, fun h => absurd c h, ?_⟩
      simp (disch := omega) only [e418_33, e418_34, e418_35, e418_38, e418_41, e418_42, e418_43, e418_44, e418_47, e418_50, e418_51, e418_52, e418_54, e418_57, ↓reduceIte, Bool.false_eq_true, not_false_eq_true, not_true_eq_false, Nat.reduceLeDiff, Nat.reduceAdd, Nat.reduceEqDiff, Int.reduceToNat, Int.toNat_natCast, iB0, iB1, ru_klI, ru_klR, ru_klF, ru_klJ, ru_kl0, ru_cs0, ru_csI, ru_csR, ru_csF, ru_csJ, wI_add, wI_sub, wI_mul, wI_lt, wI_le, wI_inj, ru_fdE, ru_fdN, ru_iaN, ru_baN, ru_laN, ru_qaN, ru_pfN, ru_isN, ru_bsN, ru_jsN, ru_qsN, ru_set2, Nat.add_right_cancel_iff, if_true, if_false, ite_self, Int.reduceEq, and_self, Int.add_neg_cancel_right, Int.add_zero, Int.zero_add, yl_o s4.1, b3, yl_o h4.1, p3, c, not_true]
    · obtain ⟨X5, N, e, w, R, rc5, p1, p2, p3, p4, p5, p6, p7⟩ := d416 (z := z) h4.1 hA (by omega) (f := f) (rr := rr) hf hgap (by omega)
      obtain ⟨rfl, -⟩ := rwOK_uni p1 b1 (fun _ _ => rfl) (fun _ _ _ => rfl)
      have hN12 := enO_12 p2
      obtain ⟨rn, hrn⟩ := Int.eq_ofNat_of_zero_le r1
      have hN0 : 1 ≤ N := by
        obtain ⟨k, k1, k2, k3⟩ := rwOK_surj p1 (r := rn) (by omega)
        obtain ⟨i, i1, -⟩ := p2.2.2 k k1 (by simp only [k2, Bool.true_and, decide_eq_true_eq]; omega)
        omega
      refine ⟨X5, N, e, w, X4.2.1 + 3, lwT 8 ++ numT rr.toNat, p4, by omega, by omega, p5, fun i hi => ⟨p3 i hi, (p2.1 i hi).1⟩, hN0, hN12, Or.inr ⟨rn, R, rc5, by omega, p1, by rw [hrn, Int.toNat_natCast], by rw [← hrn]; exact p2⟩, fun h => absurd h c, fun _ => rfl, ?_⟩
      simp (disch := omega) only [e418_33, e418_34, e418_35, e418_38, e418_41, e418_42, e418_43, e418_44, e418_47, e418_50, e418_51, e418_52, e418_54, e418_57, ↓reduceIte, Bool.false_eq_true, not_false_eq_true, not_true_eq_false, Nat.reduceLeDiff, Nat.reduceAdd, Nat.reduceEqDiff, Int.reduceToNat, Int.toNat_natCast, iB0, iB1, ru_klI, ru_klR, ru_klF, ru_klJ, ru_kl0, ru_cs0, ru_csI, ru_csR, ru_csF, ru_csJ, wI_add, wI_sub, wI_mul, wI_lt, wI_le, wI_inj, ru_fdE, ru_fdN, ru_iaN, ru_baN, ru_laN, ru_qaN, ru_pfN, ru_isN, ru_bsN, ru_jsN, ru_qsN, ru_set2, Nat.add_right_cancel_iff, if_true, if_false, ite_self, Int.reduceEq, and_self, Int.add_neg_cancel_right, Int.add_zero, Int.zero_add, yl_o s4.1, b3, yl_o h4.1, p7, c, not_false_iff]
  obtain ⟨X5, N, e, w, ha, hd, q1, q2, q3, q4, q5, q6, q7, q8, q9, q10, q11⟩ := peo
  have h5 := tx_new hk h4 q1
  have hX5 := tx_X h5
  obtain ⟨N6, g6, R6, rc6, c1, c2, c3⟩ := d404 (z := z) h5.1 hA (by omega) hf hgap
  have ag6 : agX X5 (nw2 X5 R6 N6 g6) 2 24 := agX_nw2 c2
  have h6 := tx_new hk h5 ag6
  obtain ⟨X6, hX6⟩ : ∃ X6, X6 = nw2 X5 R6 N6 g6 := ⟨_, rfl⟩
  rw [← hX6] at c3 ag6 h6
  obtain ⟨rfl, -⟩ := rwOK_uni c1 b1 (fun _ _ => rfl) (fun _ _ _ => rfl)
  have hX6' := tx_X h6
  have hSX : S < X4.2.1 ∧ r < X4.2.1 := by obtain ⟨-, -, -, -, -, ⟨m, fb, hb⟩, -⟩ := h4; exact ⟨hb.2.2.2.2.2.1, hb.2.2.2.2.2.2.1⟩
  have o1 := q1.2.1
  have o2 := ag6.2.1
  have hSr : 1000 ≤ S ∧ 1000 ≤ r := h6.2.2.2.2.2.2
  have hdl : hd.length ≤ 6 := by
    by_cases c : rr = rc6
    · rw [q9 c]; decide
    · rw [q10 c, List.length_append, numT_len]; show 4 + _ ≤ 6; split <;> omega
  have hea : ∃ (X7 : am_H) (Q V : Nat), agX X6 X7 1010 3100 ∧ gT X7 Q V hd ∧ (Q < X7.2.1 ∧ Q ≠ S ∧ Q ≠ r) ∧ (V < X7.2.1 ∧ V ≠ S ∧ V ≠ r) ∧ ru_n z 418 59 [some (.ref (B + 1)), some (.ref B), some (.int (wI f)), some (.ref S), some (.int (wI rr)), some (.int (wI 0)), some (.int (wI (1 - sv))), some (.ref ha), none, none, none, none] [] X5 = ru_n z 418 97 [some (.ref (B + 1)), some (.ref B), some (.int (wI f)), some (.ref S), some (.int (wI rr)), some (.int (wI 0)), some (.int (wI (1 - sv))), some (.ref ha), none, none, none, none] [.ref Q, .ref S] X7 := by
    by_cases c : rr = rc6
    · refine ⟨X6, 507, 527, agX_m agX_r (by omega) (by omega), by rw [q9 c]; exact h6.2.2.2.1 7 (by decide), by omega, by omega, ?_⟩
      simp (disch := omega) only [e418_59, e418_60, e418_62, e418_63, e418_64, e418_67, e418_70, e418_73, ↓reduceIte, Bool.false_eq_true, not_false_eq_true, not_true_eq_false, Nat.reduceLeDiff, Nat.reduceAdd, Nat.reduceEqDiff, Int.reduceToNat, Int.toNat_natCast, iB0, iB1, ru_klI, ru_klR, ru_klF, ru_klJ, ru_kl0, ru_cs0, ru_csI, ru_csR, ru_csF, ru_csJ, wI_add, wI_sub, wI_mul, wI_lt, wI_le, wI_inj, ru_fdE, ru_fdN, ru_iaN, ru_baN, ru_laN, ru_qaN, ru_pfN, ru_isN, ru_bsN, ru_jsN, ru_qsN, ru_set2, Nat.add_right_cancel_iff, if_true, if_false, ite_self, Int.reduceEq, and_self, Int.add_neg_cancel_right, Int.add_zero, Int.zero_add, yl_o h5.1, c3, c, not_true]
    · obtain ⟨rn, hrn⟩ := Int.eq_ofNat_of_zero_le r1
      obtain ⟨Y1, Y2, Y3, Y4, Q, V, y1, y2, y3, y4, y5, y6, y7, y8⟩ := rwd_s (z := z) h6.2.2.2.1 h6.2.2.2.2.1 hX6' (r := rn) (by omega)
      refine ⟨Y4, Q, V, y8, by rw [q10 c, hrn, Int.toNat_natCast]; exact y5, by omega, by omega, ?_⟩
      rw [hrn] at c ⊢
      simp (disch := omega) only [e418_59, e418_60, e418_62, e418_63, e418_64, e418_67, e418_70, e418_73, e418_76, e418_79, e418_80, e418_83, e418_86, e418_89, e418_91, e418_94, ↓reduceIte, Bool.false_eq_true, not_false_eq_true, not_true_eq_false, Nat.reduceLeDiff, Nat.reduceAdd, Nat.reduceEqDiff, Int.reduceToNat, Int.toNat_natCast, iB0, iB1, ru_klI, ru_klR, ru_klF, ru_klJ, ru_kl0, ru_cs0, ru_csI, ru_csR, ru_csF, ru_csJ, wI_add, wI_sub, wI_mul, wI_lt, wI_le, wI_inj, ru_fdE, ru_fdN, ru_iaN, ru_baN, ru_laN, ru_qaN, ru_pfN, ru_isN, ru_bsN, ru_jsN, ru_qsN, ru_set2, Nat.add_right_cancel_iff, if_true, if_false, ite_self, Int.reduceEq, and_self, Int.add_neg_cancel_right, Int.add_zero, Int.zero_add, yl_o h5.1, c3, c, not_false_iff, ru_ctR, y1, y2, y3, y4]
  obtain ⟨X7, Q, V, e1, e2, e3, e4, e5⟩ := hea
  have h7 := tx_new hk h6 e1
  obtain ⟨X8, r8, cap8, f1, f2, f3⟩ := tx_app (z := z) hk h7 e2 e3 e4 (by omega) (by omega)
  have l8 : (l ++ hd).length ≤ 346 := by rw [List.length_append]; omega
  obtain ⟨lf, hlf⟩ : ∃ lf, lf = 1 - sv := ⟨_, rfl⟩
  rw [← hlf] at e5 q11
  have sid : ∃ (X9 : am_H) (r9 cap9 : Nat), txS X9 B A n g (t + 1 + 1) F L S r9 (l ++ hd ++ (if lf = 1 then lwT 9 else lwT 10)) cap9 ∧ agT B S r8 cap8 r9 cap9 X8 X9 0 0 ∧ ru_n z 418 97 [some (.ref (B + 1)), some (.ref B), some (.int (wI f)), some (.ref S), some (.int (wI rr)), some (.int (wI 0)), some (.int (wI lf)), some (.ref ha), none, none, none, none] [.ref Q, .ref S] X7 = ru_n z 418 118 [some (.ref (B + 1)), some (.ref B), some (.int (wI f)), some (.ref S), some (.int (wI rr)), some (.int (wI 0)), some (.int (wI lf)), some (.ref ha), none, none, none, none] [] X9 := by
    by_cases c : lf = 1
    · rw [if_pos c]
      obtain ⟨X9, r9, cap9, i1, i2, i3⟩ := tx_con (z := z) hk f2 (i := 9) (by decide) (by omega)
      refine ⟨X9, r9, cap9, i2, i3, ?_⟩
      have d0 : (lf = 0) = False := eq_false (by omega)
      simp (disch := omega) only [e418_97, e418_100, e418_102, e418_105, e418_108, e418_111, e418_114, e418_117, ↓reduceIte, Bool.false_eq_true, not_false_eq_true, not_true_eq_false, Nat.reduceLeDiff, Nat.reduceAdd, Nat.reduceEqDiff, Int.reduceToNat, Int.toNat_natCast, iB0, iB1, ru_klI, ru_klR, ru_klF, ru_klJ, ru_kl0, ru_cs0, ru_csI, ru_csR, ru_csF, ru_csJ, wI_add, wI_sub, wI_mul, wI_lt, wI_le, wI_inj, ru_fdE, ru_fdN, ru_iaN, ru_baN, ru_laN, ru_qaN, ru_pfN, ru_isN, ru_bsN, ru_jsN, ru_qsN, ru_set2, Nat.add_right_cancel_iff, if_true, if_false, ite_self, Int.reduceEq, and_self, Int.add_neg_cancel_right, Int.add_zero, Int.zero_add, f1, d0, i1, ru_ctR]
    · rw [if_neg c]
      obtain ⟨X9, r9, cap9, i1, i2, i3⟩ := tx_con (z := z) hk f2 (i := 10) (by decide) (by omega)
      refine ⟨X9, r9, cap9, i2, i3, ?_⟩
      have d0 : (lf = 0) = True := eq_true (by omega)
      simp (disch := omega) only [e418_97, e418_100, e418_102, e418_105, e418_108, e418_111, e418_114, e418_117, ↓reduceIte, Bool.false_eq_true, not_false_eq_true, not_true_eq_false, Nat.reduceLeDiff, Nat.reduceAdd, Nat.reduceEqDiff, Int.reduceToNat, Int.toNat_natCast, iB0, iB1, ru_klI, ru_klR, ru_klF, ru_klJ, ru_kl0, ru_cs0, ru_csI, ru_csR, ru_csF, ru_csJ, wI_add, wI_sub, wI_mul, wI_lt, wI_le, wI_inj, ru_fdE, ru_fdN, ru_iaN, ru_baN, ru_laN, ru_qaN, ru_pfN, ru_isN, ru_bsN, ru_jsN, ru_qsN, ru_set2, Nat.add_right_cancel_iff, if_true, if_false, ite_self, Int.reduceEq, and_self, Int.add_neg_cancel_right, Int.add_zero, Int.zero_add, f1, d0, i1, ru_ctR]
  obtain ⟨X9, r9, cap9, i2, i3, i4⟩ := sid
  have sl : (if lf = 1 then lwT 9 else lwT 10).length ≤ 6 := by split <;> decide
  have agA1 := agT_t (agT_x (S := S) (r := r) (cap := cap) (B := B) e1) (agT_t f3 i3)
  have ha9 : X9.1 ha = some (ylI 0 N w) := by rw [agA1.1 ha (by have := ag6.2.1; omega) (by omega) (by omega) (by omega), ag6.1 ha q3]; exact q4
  have hal9 : am_al X9 ha = some (wI N) := ru_al ha9 (by decide)
  obtain ⟨mv, X10, j1, j2, j3, j4, j5, j6, j7⟩ := tx_drw (z := z) hk i2 (by omega) (lo := 1) (hi := (N : Int)) (by omega) (by omega) (by omega)
  obtain ⟨most, hmost⟩ := Int.eq_ofNat_of_zero_le (show 0 ≤ mv by omega)
  have ha10 : X10.1 ha = some (ylI 0 N w) := by rw [j7 ha (by omega)]; exact ha9
  have l9 : (l ++ hd ++ (if lf = 1 then lwT 9 else lwT 10)).length ≤ 352 := by rw [List.length_append]; omega
  have u0 : ylU A f (gfL (fun i => e (if lf = 1 then i else N - 1 - i)) (fun _ => 0) 0 (A.2.1 f)) = A := ylU_self
  have t0 : (l ++ hd ++ (if lf = 1 then lwT 9 else lwT 10)) ++ itT F L (fun _ => 0) 0 = l ++ hd ++ (if lf = 1 then lwT 9 else lwT 10) := List.append_nil _
  obtain ⟨X', r', cap', ns, z1, z2, z3, z4, z5⟩ := d418l (z := z) (S := S) (F := F) (L := L) (g := g) hk hA (f := f) (N := N) (ha := ha) (most := most) (NN := NN) (w := w) (e := e) (l0 := l ++ hd ++ (if lf = 1 then lwT 9 else lwT 10)) (v4 := rr) (lf := lf) hf q7 (by omega) q5 (by omega) hNN hNN6 (by omega) (by omega) most 0 (Nat.zero_add _) X10 (t + 1 + 1 + 1) r9 cap9 (fun _ => 0) none none (fun i hi => by omega) (by rw [u0, t0]; exact j4) (by show 0 ≤ 9 * 0; omega) (by omega) (by rw [j6]; have := agA1.2.1; have := ag6.2.1; omega) (by rcases agA1.2.2.2.2.1 with h | h <;> omega) ha10
  have agF := agT_t (agT_x (S := S) (r := r) (cap := cap) (B := B) ag1) (agT_t r5 (agT_t s5 (agT_t (agT_x (S := S) (r := r) (cap := cap) (B := B) ag4) (agT_t (agT_x (S := S) (r := r) (cap := cap) (B := B) q1) (agT_t (agT_x (S := S) (r := r) (cap := cap) (B := B) ag6) (agT_t agA1 (agT_t j5 z4)))))))
  refine ⟨X', r', cap', t + 1 + 1 + 1 + most, hd, N, e, lf, ns, most, ⟨q8, by omega, by omega, z1⟩, ?_, ?_, by omega, agT_m agF (by omega) (by omega), ?_⟩
  · have e0 : l ++ hd ++ (if lf = 1 then lwT 9 else lwT 10) ++ itT F L ns most = l ++ prT F L hd lf ns most := by unfold prT; rw [List.append_assoc, List.append_assoc, List.append_assoc]
    rw [e0] at z2
    exact z2
  · unfold prT
    rw [List.length_append, List.length_append]
    omega
  · have eg : ((gfN (fun _ => 0) 0 : Nat) : Int) = 0 := rfl
    rw [eg] at z5
    simp only [Int.natCast_zero, Int.ofNat_zero] at z5
    rw [← z5]
    rw [hmost] at j3
    have b1' : (if sv = 0 then wI 1 else wI 0) = wI lf := by
      by_cases c : sv = 0
      · rw [if_pos c, hlf, c]; rfl
      · rw [if_neg c, hlf, show sv = 1 by omega]; rfl
    have pre : ru_ev z 418 [.ref (B + 1), .ref B, .int (wI f), .ref S] X = ru_n z 418 33 [some (.ref (B + 1)), some (.ref B), some (.int (wI f)), some (.ref S), some (.int (wI rr)), some (.int (wI 0)), some (.int (wI lf)), none, none, none, none, none] [.int (wI rr)] X3 := by
      by_cases c : sv = 0
      · have d0 : (sv = 0) = True := eq_true c
        rw [hlf, c]
        rw [c] at s3
        simp (disch := omega) only [en418, e418_0, e418_1, e418_2, e418_3, e418_4, e418_7, e418_10, e418_12, e418_13, e418_15, e418_16, e418_17, e418_18, e418_21, e418_24, e418_25, e418_28, e418_29, e418_31, ↓reduceIte, Bool.false_eq_true, not_false_eq_true, not_true_eq_false, Nat.reduceLeDiff, Nat.reduceAdd, Nat.reduceEqDiff, Int.reduceToNat, Int.toNat_natCast, iB0, iB1, ru_klI, ru_klR, ru_klF, ru_klJ, ru_kl0, ru_cs0, ru_csI, ru_csR, ru_csF, ru_csJ, wI_add, wI_sub, wI_mul, wI_lt, wI_le, wI_inj, ru_fdE, ru_fdN, ru_iaN, ru_baN, ru_laN, ru_qaN, ru_pfN, ru_isN, ru_bsN, ru_jsN, ru_qsN, ru_set2, Nat.add_right_cancel_iff, if_true, if_false, ite_self, Int.reduceEq, and_self, Int.add_neg_cancel_right, Int.add_zero, Int.zero_add, yl_o h.1, a3, r3, s3, not_true, Int.sub_zero]
      · have e1 : sv = 1 := by omega
        rw [hlf, e1]
        rw [e1] at s3
        simp (disch := omega) only [en418, e418_0, e418_1, e418_2, e418_3, e418_4, e418_7, e418_10, e418_12, e418_13, e418_15, e418_16, e418_17, e418_18, e418_21, e418_24, e418_25, e418_28, e418_29, e418_31, ↓reduceIte, Bool.false_eq_true, not_false_eq_true, not_true_eq_false, Nat.reduceLeDiff, Nat.reduceAdd, Nat.reduceEqDiff, Int.reduceToNat, Int.toNat_natCast, iB0, iB1, ru_klI, ru_klR, ru_klF, ru_klJ, ru_kl0, ru_cs0, ru_csI, ru_csR, ru_csF, ru_csJ, wI_add, wI_sub, wI_mul, wI_lt, wI_le, wI_inj, ru_fdE, ru_fdN, ru_iaN, ru_baN, ru_laN, ru_qaN, ru_pfN, ru_isN, ru_bsN, ru_jsN, ru_qsN, ru_set2, Nat.add_right_cancel_iff, if_true, if_false, ite_self, Int.reduceEq, and_self, Int.add_neg_cancel_right, Int.add_zero, Int.zero_add, yl_o h.1, a3, r3, s3, not_true, not_false_iff, Int.sub_self]
    rw [pre, q11, e5, i4]
    simp (disch := omega) only [e418_118, e418_119, e418_120, e418_122, e418_123, e418_126, e418_128, e418_129, ↓reduceIte, Bool.false_eq_true, not_false_eq_true, not_true_eq_false, Nat.reduceLeDiff, Nat.reduceAdd, Nat.reduceEqDiff, Int.reduceToNat, Int.toNat_natCast, iB0, iB1, ru_klI, ru_klR, ru_klF, ru_klJ, ru_kl0, ru_cs0, ru_csI, ru_csR, ru_csF, ru_csJ, wI_add, wI_sub, wI_mul, wI_lt, wI_le, wI_inj, ru_fdE, ru_fdN, ru_iaN, ru_baN, ru_laN, ru_qaN, ru_pfN, ru_isN, ru_bsN, ru_jsN, ru_qsN, ru_set2, Nat.add_right_cancel_iff, if_true, if_false, ite_self, Int.reduceEq, and_self, Int.add_neg_cancel_right, Int.add_zero, Int.zero_add, hal9, j3]
end ROWP
