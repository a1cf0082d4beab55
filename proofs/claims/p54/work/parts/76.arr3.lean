/-! ===== the class arranges a picture: all ===== -/
def piOK (p : tPi) (q : tPh) (gap : Int) : Prop := ∃ (n : Nat) (eo er : Nat → Nat), p.1 0 = (n : Int) ∧ (∀ k, k < 12 → shS q k = true → p.2 0 k = shX q k ∧ p.2 1 k = shY q k) ∧
  enO (shS q) (kyO (shX q) (shY q)) n eo ∧ (∀ i, i < n → p.2 2 i = (eo i : Int)) ∧ rwOK (shS q) (shY q) gap (p.2 3) (p.1 1) ∧ (∀ k, k < 12 → p.2 4 k = plF (shS q) (p.2 3) (shX q) k) ∧
  enO (shS q) (kyR (p.2 3) (shX q)) n er ∧ (∀ i, i < n → p.2 5 i = (er i : Int)) ∧ ∀ r : Nat, (r : Int) ≤ p.1 1 → p.2 6 r = (rsN (shS q) (p.2 3) r : Nat)
/-- while people are gone through -/
def arI (q : tPh) (k : Nat) (p : tPi) : Prop := ∃ (c : Nat) (o : Nat → Nat), p.1 0 = (c : Int) ∧ c ≤ k ∧ (∀ i, i < c → p.2 2 i = (o i : Int) ∧ o i < k ∧ shS q (o i) = true) ∧ (∀ i j, i < j → j < c → o i < o j) ∧ (∀ i, i < k → shS q i = true → ∃ j, j < c ∧ o j = i) ∧
  (∀ i, i < k → p.2 3 i = -1 ∧ p.2 4 i = -1) ∧ ∀ i, i < k → shS q i = true → p.2 0 i = shX q i ∧ p.2 1 i = shY q i
section ARR3
variable {z : Bool} {h : am_H} {C : tCl} {P : Nat}
theorem k81l (hP : isPi P) {a : Nat} {q : tPh} (ha : isPh a) (hfar : a + 4 < P ∨ P + 10 < a) (hq : cph C a = q) (hr : phR q) {gap : Int} : ∀ d k, k + d = 12 → ∀ p, arI q k p → ∃ p', arI q 12 p' ∧
    ru_n z 81 7 [some (.ref P), some (.ref a), some (.int (wI gap)), some (.int (wI k))] [] (clPut h (piPut C P p)) = ru_n z 81 91 [some (.ref P), some (.ref a), some (.int (wI gap)), some (.int (wI 12))] [] (clPut h (piPut C P p')) := by
  have s := phR_s hr
  have hp : ∀ p, phAt (clPut h (piPut C P p)) a q := fun p => by
    have := cl_ph (h := h) (C := piPut C P p) ha
    rw [piPut_ph hfar, hq] at this
    exact this
  intro d
  induction d with
  | zero =>
    intro k hk p hp
    obtain rfl : k = 12 := by omega
    refine ⟨p, hp, ?_⟩
    have c : ((12 : Int) ≤ ((12 : Nat) : Int)) = True := eq_true (by omega)
    have e12 : (((12 : Nat) : Int)) = 12 := rfl
    simp (disch := omega) only [e81_7, e81_8, e81_10, ↓reduceIte, Bool.false_eq_true, not_false_eq_true, not_true_eq_false, Nat.reduceLeDiff, Nat.reduceAdd, Nat.reduceEqDiff, Int.reduceToNat, Int.toNat_natCast, iB0, iB1, ru_klI, ru_klR, ru_klF, ru_klJ, ru_kl0, ru_cs0, ru_csI, ru_csR, ru_csF, ru_csJ, wI_add, wI_sub, wI_mul, wI_lt, wI_le, wI_inj, ru_fdE, ru_fdN, ru_iaN, ru_baN, ru_laN, ru_qaN, ru_pfN, ru_isN, ru_bsN, ru_jsN, ru_qsN, ru_set2, Nat.add_right_cancel_iff, if_true, if_false, ite_self, e12, Int.le_refl]
  | succ d ih =>
    intro k hk p hI
    obtain ⟨c, o, i1, i2, i3, i4, i5, i6, i7⟩ := hI
    have cc : ((12 : Int) ≤ (k : Int)) = False := eq_false (by omega)
    have hm := fun p => m82 (z := z) (hp p) hr (i := (k : Int)) (by omega) (by omega)
    have hX := fun p => m83 (z := z) (hp p) hr (i := (k : Int)) (by omega) (by omega)
    have hY := fun p => m84 (z := z) (hp p) (i := (k : Int)) (by omega) (by omega)
    simp only [Int.toNat_natCast] at hm hX hY
    by_cases hs : shS q k = true
    · obtain ⟨r1, r2, r3, r4, r5⟩ := shS_rng hr hs
      have c7 : (q.1 7 ≤ (k : Int)) = False := eq_false (by omega)
      obtain ⟨p', t1, t2⟩ := ih (k + 1) (by omega) (up1 p.1 0 ((c : Int) + 1), upC (upC (upC (upC (upC p.2 3 (up1 (p.2 3) k (-1))) 4 (up1 (p.2 4) k (-1))) 0 (up1 (p.2 0) k (shX q k))) 1 (up1 (p.2 1) k (shY q k))) 2 (up1 (p.2 2) c k)) ⟨c + 1, fun i => if i = c then k else o i, by dsimp only; rw [up1_e]; omega, by omega, fun i hi => by
          simp only [upC, Nat.reduceEqDiff, if_true, if_false, up1]
          by_cases e : i = c
          · rw [if_pos e, if_pos e]; exact ⟨rfl, by omega, hs⟩
          · rw [if_neg e, if_neg e]
            have := i3 i (by omega)
            exact ⟨this.1, by omega, this.2.2⟩, fun i j hij hj => by
          show (if i = c then k else o i) < (if j = c then k else o j)
          rw [if_neg (by omega)]
          by_cases e : j = c
          · rw [if_pos e]; exact (i3 i (by omega)).2.1
          · rw [if_neg e]; exact i4 i j hij (by omega), fun i hi hsi => by
          by_cases e : i = k
          · exact ⟨c, by omega, by dsimp only; rw [if_pos rfl, e]⟩
          · obtain ⟨j, j1, j2⟩ := i5 i (by omega) hsi
            exact ⟨j, by omega, by dsimp only; rw [if_neg (by omega)]; exact j2⟩, fun i hi => by
          simp only [upC, Nat.reduceEqDiff, if_true, if_false, up1]
          by_cases e : i = k
          · rw [if_pos e, if_pos e]; exact ⟨rfl, rfl⟩
          · rw [if_neg e, if_neg e]; exact i6 i (by omega), fun i hi hsi => by
          simp only [upC, Nat.reduceEqDiff, if_true, if_false, up1]
          by_cases e : i = k
          · rw [if_pos e, if_pos e, e]; exact ⟨rfl, rfl⟩
          · rw [if_neg e, if_neg e]; exact i7 i (by omega) hsi⟩
      refine ⟨p', t1, ?_⟩
      rw [← t2, e81_7]
      simp (disch := omega) only [e81_8, e81_10, e81_13, e81_14, e81_17, e81_18, e81_19, e81_20, e81_21, e81_24, e81_25, e81_26, e81_27, e81_28, e81_29, e81_32, e81_35, e81_36, e81_37, e81_40, e81_43, e81_44, e81_47, e81_48, e81_49, e81_50, e81_53, e81_54, e81_55, e81_58, e81_59, e81_60, e81_61, e81_64, e81_65, e81_66, e81_69, e81_70, e81_73, e81_74, e81_75, e81_76, e81_77, e81_80, e81_81, e81_82, e81_85, e81_88, ↓reduceIte, Bool.false_eq_true, not_false_eq_true, not_true_eq_false, Nat.reduceLeDiff, Nat.reduceAdd, Nat.reduceEqDiff, Int.reduceToNat, Int.toNat_natCast, iB0, iB1, ru_klI, ru_klR, ru_klF, ru_klJ, ru_kl0, ru_cs0, ru_csI, ru_csR, ru_csF, ru_csJ, wI_add, wI_sub, wI_mul, wI_lt, wI_le, wI_inj, ru_fdE, ru_fdN, ru_iaN, ru_baN, ru_laN, ru_qaN, ru_pfN, ru_isN, ru_bsN, ru_jsN, ru_qsN, ru_set2, Nat.add_right_cancel_iff, if_true, if_false, ite_self, pi_e hP, pi_f0 hP, pi_s0 hP, pi_f1 hP, pi_s1 hP, pi_f2 hP, pi_a0 hP, pi_w0 hP, pi_f3 hP, pi_a1 hP, pi_w1 hP, pi_f4 hP, pi_a2 hP, pi_w2 hP, pi_f5 hP, pi_a3 hP, pi_w3 hP, pi_f6 hP, pi_a4 hP, pi_w4 hP, pi_f7 hP, pi_a5 hP, pi_w5 hP, pi_f8 hP, pi_a6 hP, pi_w6 hP, pi_f9 hP, pi_a7 hP, pi_w7 hP, pi_f10 hP, pi_a8 hP, pi_w8 hP, pi_f11 hP, pi_a9 hP, pi_w9 hP, Int.reduceEq, ru_ctR, ru_ctI, upC_e, upC_n, upC_up, up1_e, up1_n, cc, phF (hp _), c7, hm, hX, hY, r5, wI_b0, i1, Int.natCast_add, Int.natCast_one]
    · have hcase : ((q.1 7 ≤ (k : Int)) = True) ∨ ((q.1 7 ≤ (k : Int)) = False ∧ ¬ shw q k = true) := by
        by_cases e : q.1 7 ≤ (k : Int)
        · exact Or.inl (eq_true e)
        · refine Or.inr ⟨eq_false e, fun e2 => hs ?_⟩
          rw [shS_of (by omega)]; exact e2
      obtain ⟨p', t1, t2⟩ := ih (k + 1) (by omega) (p.1, upC (upC p.2 3 (up1 (p.2 3) k (-1))) 4 (up1 (p.2 4) k (-1))) ⟨c, o, i1, by omega, fun i hi => by
          simp only [upC, Nat.reduceEqDiff, if_false]
          have := i3 i hi
          exact ⟨this.1, by omega, this.2.2⟩, i4, fun i hi hsi => by
          by_cases e : i = k
          · subst e; exact absurd hsi hs
          · exact i5 i (by omega) hsi, fun i hi => by
          simp only [upC, Nat.reduceEqDiff, if_true, if_false, up1]
          by_cases e : i = k
          · rw [if_pos e, if_pos e]; exact ⟨rfl, rfl⟩
          · rw [if_neg e, if_neg e]; exact i6 i (by omega), fun i hi hsi => by
          simp only [upC, Nat.reduceEqDiff, if_false]
          by_cases e : i = k
          · subst e; exact absurd hsi hs
          · exact i7 i (by omega) hsi⟩
      refine ⟨p', t1, ?_⟩
      rw [← t2, e81_7]
      rcases hcase with c7 | ⟨c7, c8⟩
      · simp (disch := omega) only [e81_8, e81_10, e81_13, e81_14, e81_17, e81_18, e81_19, e81_20, e81_21, e81_24, e81_25, e81_26, e81_27, e81_28, e81_29, e81_32, e81_35, e81_36, e81_37, e81_40, e81_43, e81_44, e81_47, e81_48, e81_49, e81_50, e81_53, e81_54, e81_55, e81_58, e81_59, e81_60, e81_61, e81_64, e81_65, e81_66, e81_69, e81_70, e81_73, e81_74, e81_75, e81_76, e81_77, e81_80, e81_81, e81_82, e81_85, e81_88, ↓reduceIte, Bool.false_eq_true, not_false_eq_true, not_true_eq_false, Nat.reduceLeDiff, Nat.reduceAdd, Nat.reduceEqDiff, Int.reduceToNat, Int.toNat_natCast, iB0, iB1, ru_klI, ru_klR, ru_klF, ru_klJ, ru_kl0, ru_cs0, ru_csI, ru_csR, ru_csF, ru_csJ, wI_add, wI_sub, wI_mul, wI_lt, wI_le, wI_inj, ru_fdE, ru_fdN, ru_iaN, ru_baN, ru_laN, ru_qaN, ru_pfN, ru_isN, ru_bsN, ru_jsN, ru_qsN, ru_set2, Nat.add_right_cancel_iff, if_true, if_false, ite_self, pi_e hP, pi_f0 hP, pi_s0 hP, pi_f1 hP, pi_s1 hP, pi_f2 hP, pi_a0 hP, pi_w0 hP, pi_f3 hP, pi_a1 hP, pi_w1 hP, pi_f4 hP, pi_a2 hP, pi_w2 hP, pi_f5 hP, pi_a3 hP, pi_w3 hP, pi_f6 hP, pi_a4 hP, pi_w4 hP, pi_f7 hP, pi_a5 hP, pi_w5 hP, pi_f8 hP, pi_a6 hP, pi_w6 hP, pi_f9 hP, pi_a7 hP, pi_w7 hP, pi_f10 hP, pi_a8 hP, pi_w8 hP, pi_f11 hP, pi_a9 hP, pi_w9 hP, Int.reduceEq, ru_ctR, ru_ctI, upC_e, upC_n, upC_up, up1_e, up1_n, cc, phF (hp _), c7, Int.natCast_add, Int.natCast_one]
      · simp (disch := omega) only [e81_8, e81_10, e81_13, e81_14, e81_17, e81_18, e81_19, e81_20, e81_21, e81_24, e81_25, e81_26, e81_27, e81_28, e81_29, e81_32, e81_35, e81_36, e81_37, e81_40, e81_43, e81_44, e81_47, e81_48, e81_49, e81_50, e81_53, e81_54, e81_55, e81_58, e81_59, e81_60, e81_61, e81_64, e81_65, e81_66, e81_69, e81_70, e81_73, e81_74, e81_75, e81_76, e81_77, e81_80, e81_81, e81_82, e81_85, e81_88, ↓reduceIte, Bool.false_eq_true, not_false_eq_true, not_true_eq_false, Nat.reduceLeDiff, Nat.reduceAdd, Nat.reduceEqDiff, Int.reduceToNat, Int.toNat_natCast, iB0, iB1, ru_klI, ru_klR, ru_klF, ru_klJ, ru_kl0, ru_cs0, ru_csI, ru_csR, ru_csF, ru_csJ, wI_add, wI_sub, wI_mul, wI_lt, wI_le, wI_inj, ru_fdE, ru_fdN, ru_iaN, ru_baN, ru_laN, ru_qaN, ru_pfN, ru_isN, ru_bsN, ru_jsN, ru_qsN, ru_set2, Nat.add_right_cancel_iff, if_true, if_false, ite_self, pi_e hP, pi_f0 hP, pi_s0 hP, pi_f1 hP, pi_s1 hP, pi_f2 hP, pi_a0 hP, pi_w0 hP, pi_f3 hP, pi_a1 hP, pi_w1 hP, pi_f4 hP, pi_a2 hP, pi_w2 hP, pi_f5 hP, pi_a3 hP, pi_w3 hP, pi_f6 hP, pi_a4 hP, pi_w4 hP, pi_f7 hP, pi_a5 hP, pi_w5 hP, pi_f8 hP, pi_a6 hP, pi_w6 hP, pi_f9 hP, pi_a7 hP, pi_w7 hP, pi_f10 hP, pi_a8 hP, pi_w8 hP, pi_f11 hP, pi_a9 hP, pi_w9 hP, Int.reduceEq, ru_ctR, ru_ctI, upC_e, upC_n, upC_up, up1_e, up1_n, cc, phF (hp _), c7, hm, c8, wI_b0, Int.natCast_add, Int.natCast_one]
theorem k81 (hP : isPi P) {a : Nat} {q : tPh} (ha : isPh a) (hfar : a + 4 < P ∨ P + 10 < a) (hq : cph C a = q) (hr : phR q) {gap : Int} (hgap : 0 ≤ gap ∧ gap ≤ 99) (p : tPi) : ∃ p', piOK p' q gap ∧
    ru_ev z 81 [.ref P, .ref a, .int (wI gap)] (clPut h (piPut C P p)) = some (.inl none, clPut h (piPut C P p')) := by
  obtain ⟨p1, ⟨c, o, i1, i2, i3, i4, i5, i6, i7⟩, t1⟩ := k81l (z := z) (h := h) (C := C) hP ha hfar hq hr (gap := gap) 12 0 (by omega) (up1 p.1 0 0, p.2) ⟨0, fun _ => 0, by dsimp only; rw [up1_e]; rfl, by omega, fun i hi => by omega, fun i j _ hj => by omega, fun i hi => by omega, fun i hi => by omega, fun i hi => by omega⟩
  have ho : enO (shS q) (fun k => (k : Int)) c o := ⟨fun i hi => (i3 i hi).2, fun i j hij hj => by have := i4 i j hij hj; show ((o i : Nat) : Int) < (o j : Nat); omega, i5⟩
  obtain ⟨R, g, rc, u1, u2⟩ := k85 (z := z) (h := h) (C := C) hP (p := p1) (S := shS q) (y := shY q) hgap i2 i1 ho (fun i hi => (i3 i hi).1) (fun k hk hs => ⟨(i7 k hk hs).2, (shS_rng hr hs).2.1⟩) (fun k hk => (i6 k hk).1)
  obtain ⟨g2, T, B, L, er, v1, v2, v3, v4, v5⟩ := k87 (z := z) (h := h) (C := C) hP (p := (up1 p1.1 1 rc, upC (upC p1.2 7 g) 3 R)) (S := shS q) (row := R) (x := shX q) (y := shY q) (gap := gap) (rc := rc) i2 (by dsimp only; rw [up1_n (by decide)]; exact i1) (by dsimp only; rw [up1_e]) ho (fun i hi => by dsimp only; rw [upC_n (by decide), upC_n (by decide)]; exact (i3 i hi).1) (fun k hk hs => ⟨by dsimp only; rw [upC_n (by decide), upC_n (by decide)]; exact (i7 k hk hs).1, (shS_rng hr hs).1⟩) (by dsimp only; rw [upC_e]) u1 (fun k hk => by dsimp only; rw [upC_n (by decide), upC_n (by decide)]; exact (i6 k hk).2)
  obtain ⟨g3, O, eo, w1, w2, w3⟩ := k88 (z := z) (h := h) (C := C) hP (p := (up1 p1.1 1 rc, upC (upC (upC (upC (upC (upC p1.2 7 g) 3 R) 7 g2) 6 T) 5 B) 4 L)) (S := shS q) (x := shX q) (y := shY q) i2 (by dsimp only; rw [up1_n (by decide)]; exact i1) ho (fun i hi => by
      simp only [upC, Nat.reduceEqDiff, if_false]; exact (i3 i hi).1) (fun k hk hs => ⟨by simp only [upC, Nat.reduceEqDiff, if_false]; exact (i7 k hk hs).1, (shS_rng hr hs).1⟩) (fun k hk hs => ⟨by simp only [upC, Nat.reduceEqDiff, if_false]; exact (i7 k hk hs).2, (shS_rng hr hs).2.1⟩)
  refine ⟨(up1 p1.1 1 rc, upC (upC (upC (upC (upC (upC (upC (upC p1.2 7 g) 3 R) 7 g2) 6 T) 5 B) 4 L) 7 g3) 2 O), ⟨c, eo, er, ?_, ?_, w1, ?_, ?_, ?_, ?_, ?_, ?_⟩, ?_⟩
  rotate_left 8
  · simp (disch := omega) only [en81, e81_0, e81_1, e81_2, e81_5, e81_6, ↓reduceIte, Bool.false_eq_true, not_false_eq_true, not_true_eq_false, Nat.reduceLeDiff, Nat.reduceAdd, Nat.reduceEqDiff, Int.reduceToNat, Int.toNat_natCast, iB0, iB1, ru_klI, ru_klR, ru_klF, ru_klJ, ru_kl0, ru_cs0, ru_csI, ru_csR, ru_csF, ru_csJ, wI_add, wI_sub, wI_mul, wI_lt, wI_le, wI_inj, ru_fdE, ru_fdN, ru_iaN, ru_baN, ru_laN, ru_qaN, ru_pfN, ru_isN, ru_bsN, ru_jsN, ru_qsN, ru_set2, Nat.add_right_cancel_iff, if_true, if_false, ite_self, pi_e hP, pi_f0 hP, pi_s0 hP, pi_f1 hP, pi_s1 hP, pi_f2 hP, pi_a0 hP, pi_w0 hP, pi_f3 hP, pi_a1 hP, pi_w1 hP, pi_f4 hP, pi_a2 hP, pi_w2 hP, pi_f5 hP, pi_a3 hP, pi_w3 hP, pi_f6 hP, pi_a4 hP, pi_w4 hP, pi_f7 hP, pi_a5 hP, pi_w5 hP, pi_f8 hP, pi_a6 hP, pi_w6 hP, pi_f9 hP, pi_a7 hP, pi_w7 hP, pi_f10 hP, pi_a8 hP, pi_w8 hP, pi_f11 hP, pi_a9 hP, pi_w9 hP, Int.reduceEq, ru_ctR, ru_ctI, upC_e, upC_n, upC_up, up1_e, up1_n]
    rw [show ((0 : Nat) : Int) = 0 from rfl] at t1
    rw [t1]
    simp (disch := omega) only [e81_91, e81_92, e81_93, e81_96, e81_97, e81_100, e81_101, e81_104, ↓reduceIte, Bool.false_eq_true, not_false_eq_true, not_true_eq_false, Nat.reduceLeDiff, Nat.reduceAdd, Nat.reduceEqDiff, Int.reduceToNat, Int.toNat_natCast, iB0, iB1, ru_klI, ru_klR, ru_klF, ru_klJ, ru_kl0, ru_cs0, ru_csI, ru_csR, ru_csF, ru_csJ, wI_add, wI_sub, wI_mul, wI_lt, wI_le, wI_inj, ru_fdE, ru_fdN, ru_iaN, ru_baN, ru_laN, ru_qaN, ru_pfN, ru_isN, ru_bsN, ru_jsN, ru_qsN, ru_set2, Nat.add_right_cancel_iff, if_true, if_false, ite_self, u2, v5, w3, pi_e hP]
  · show up1 p1.1 1 rc 0 = _
    rw [up1_n (by decide)]; exact i1
  · intro k hk hs
    simp only [upC, Nat.reduceEqDiff, if_false]; exact i7 k hk hs
  · intro i hi
    simp only [upC, if_true]; exact w2 i hi
  · simp only [upC, Nat.reduceEqDiff, if_true, if_false, up1]
    exact u1
  · intro k hk
    simp only [upC, Nat.reduceEqDiff, if_true, if_false]; exact v3 k hk
  · simp only [upC, Nat.reduceEqDiff, if_true, if_false]; exact v1
  · intro i hi
    simp only [upC, Nat.reduceEqDiff, if_true, if_false]; exact v2 i hi
  · intro r hr2
    simp only [upC, Nat.reduceEqDiff, if_true, if_false, up1] at hr2 ⊢; exact v4 r hr2
end ARR3
