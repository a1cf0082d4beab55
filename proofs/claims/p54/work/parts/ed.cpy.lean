/-! ===== the law copies names ===== -/
def agA (B : Nat) (X Y : am_H) (c s : Nat) : Prop := (∀ q, q < X.2.1 → (q ≤ B ∨ B + 30 ≤ q) → Y.1 q = X.1 q) ∧ X.2.1 ≤ Y.2.1 ∧ Y.2.1 ≤ X.2.1 + c ∧ Y.2.2 ≤ X.2.2 + s
theorem agA_r {B : Nat} {X : am_H} : agA B X X 0 0 := ⟨fun _ _ _ => rfl, Nat.le_refl _, Nat.le_refl _, Nat.le_refl _⟩
theorem agA_x {B : Nat} {X Y : am_H} {c s : Nat} (h : agX X Y c s) : agA B X Y c s := ⟨fun q h1 _ => h.1 q h1, h.2⟩
theorem agA_e {B : Nat} {X Y : am_H} (h : ylE X Y B) : agA B X Y 0 0 := ⟨fun q _ h1 => h.1 q h1, by rw [h.2]; exact Nat.le_refl _, by rw [h.2]; exact Nat.le_refl _, by rw [h.2]; exact Nat.le_refl _⟩
theorem agA_t {B : Nat} {X Y W : am_H} {c s c' s' : Nat} (h : agA B X Y c s) (k : agA B Y W c' s') : agA B X W (c + c') (s + s') := ⟨fun q hq h2 => (k.1 q (by have := h.2.1; omega) h2).trans (h.1 q hq h2), by have := h.2.1; have := k.2.1; omega, by have := h.2.2.1; have := k.2.2.1; omega, by have := h.2.2.2; have := k.2.2.2; omega⟩
theorem agA_m {B : Nat} {X Y : am_H} {c s c' s' : Nat} (h : agA B X Y c s) (h1 : c ≤ c') (h2 : s ≤ s') : agA B X Y c' s' := ⟨h.1, h.2.1, by have := h.2.2.1; omega, by have := h.2.2.2; omega⟩
section CPY
variable {z : Bool} {B : Nat} {A : tLw}
theorem d415i (hA : ylR A) {f o n1 n2 m ha hb : Nat} {w1 w2 : Nat → Int} {NN : Int} {D N : Nat → Int} {s0 : tPh × Nat} {n0 : Nat} {vr : Int} (hf : f < 3) (ho : o < 3) (hne : o ≠ f) (h1 : n1 ≤ 12) (h2 : n2 ≤ 12) (hm : m = if n1 ≤ n2 then n1 else n2) (hNN : NN ≤ 20) (hD : ∀ j, j < m → D j = w1 j ∧ (0 ≤ w1 j ∧ w1 j < 12)) (hNj : ∀ j, j < m → N j = (A.2.1 o).2 3 (w2 j).toNat ∧ (0 ≤ w2 j ∧ w2 j < 12) ∧ N j < NN) (ka : B + 30 ≤ ha) (kb : B + 30 ≤ hb) : ∀ d k, k + d = m → ∀ (X : am_H) (q' : tPh), ylP X B (ylU A f q') → ha < X.2.1 → hb < X.2.1 → X.1 ha = some (ylI 0 n1 w1) → X.1 hb = some (ylI 0 n2 w2) → phR q' → phN q' NN → pheq (cpF D N k s0).1 q' →
    ∃ (X' : am_H) (q'' : tPh), ylP X' B (ylU A f q'') ∧ phR q'' ∧ phN q'' NN ∧ psE q'' q' ∧ pheq (cpF D N m s0).1 q'' ∧ agA B X X' 0 0 ∧
      ru_n z 415 45 [some (.ref 1000), some (.ref (B + 1)), some (.int (wI f)), some (.int (wI o)), some (.int (wI ((n0 + (cpF D N k s0).2 : Nat) : Int))), some (.int (wI vr)), some (.ref ha), some (.ref hb), some (.int (wI k))] [] X =
      ru_n z 415 108 [some (.ref 1000), some (.ref (B + 1)), some (.int (wI f)), some (.int (wI o)), some (.int (wI ((n0 + (cpF D N m s0).2 : Nat) : Int))), some (.int (wI vr)), some (.ref ha), some (.ref hb), some (.int (wI m))] [] X' := by
  have hmI : (if (n1 : Int) ≤ (n2 : Int) then (n1 : Int) else (n2 : Int)) = (m : Int) := by
    rw [hm]
    by_cases c : n1 ≤ n2
    · rw [if_pos c, if_pos (by omega)]
    · rw [if_neg c, if_neg (by omega)]
  intro d
  induction d with
  | zero =>
    intro k hk X q' hp k1 k2 a1 a2 r1 r2 r3
    obtain rfl : k = m := by omega
    refine ⟨X, q', hp, r1, r2, psE_refl _, r3, agA_r, ?_⟩
    have l1 : am_al X ha = some (wI n1) := ru_al a1 (by decide)
    have l2 : am_al X hb = some (wI n2) := ru_al a2 (by decide)
    simp (disch := omega) only [e415_45, e415_47, e415_49, e415_50, e415_52, e415_53, e415_56, ↓reduceIte, Bool.false_eq_true, not_false_eq_true, not_true_eq_false, Nat.reduceLeDiff, Nat.reduceAdd, Nat.reduceEqDiff, Int.reduceToNat, Int.toNat_natCast, iB0, iB1, ru_klI, ru_klR, ru_klF, ru_klJ, ru_kl0, ru_cs0, ru_csI, ru_csR, ru_csF, ru_csJ, wI_add, wI_sub, wI_mul, wI_lt, wI_le, wI_inj, ru_fdE, ru_fdN, ru_iaN, ru_baN, ru_laN, ru_qaN, ru_pfN, ru_isN, ru_bsN, ru_jsN, ru_qsN, ru_set2, Nat.add_right_cancel_iff, if_true, if_false, ite_self, Int.reduceEq, and_self, Int.add_neg_cancel_right, Int.add_zero, Int.zero_add, l1, l2, m264, hmI, Int.le_refl]
  | succ d ih =>
    intro k hk X q' hp k1 k2 a1 a2 r1 r2 r3
    have l1 : am_al X ha = some (wI n1) := ru_al a1 (by decide)
    have l2 : am_al X hb = some (wI n2) := ru_al a2 (by decide)
    have d1 : ((m : Int) ≤ (k : Int)) = False := eq_false (by omega)
    obtain ⟨t1, t2⟩ := hD k (by omega)
    obtain ⟨t3, t4, t5⟩ := hNj k (by omega)
    have km : k < n1 ∧ k < n2 := by rw [hm] at hk; split at hk <;> omega
    have i1 := yl_ia a1 (k := (k : Int)) (by omega) (by omega) (by omega)
    have i2 := yl_ia a2 (k := (k : Int)) (by omega) (by omega) (by omega)
    rw [Int.toNat_natCast] at i1 i2
    have i3 := yl_n hp (f := o) (k := w2 k) ho t4.1 t4.2
    rw [ylU_n hne, ← t3] at i3
    have nb := phR_i (hA o) (w2 k).toNat
    rw [← t3] at nb
    have ec : cpF D N (k + 1) s0 = if N k = -1 then cpF D N k s0 else (gvQ (cpF D N k s0).1 (D k).toNat (N k), (cpF D N k s0).2 + 1) := rfl
    by_cases c : N k = -1
    · rw [if_pos c] at ec
      obtain ⟨X', q'', b1, b2, b3, b4, b5, b6, b7⟩ := ih (k + 1) (by omega) X q' hp k1 k2 a1 a2 r1 r2 (by rw [ec]; exact r3)
      refine ⟨X', q'', b1, b2, b3, b4, b5, b6, ?_⟩
      rw [ec, show (((k + 1 : Nat)) : Int) = (k : Int) + 1 by omega] at b7
      have c2 : (0 ≤ N k) = False := eq_false (by omega)
      rw [← b7, e415_45]
      simp (disch := omega) only [e415_47, e415_49, e415_50, e415_52, e415_53, e415_56, e415_59, e415_60, e415_63, e415_64, e415_65, e415_67, e415_69, e415_70, e415_71, e415_74, e415_77, e415_78, e415_79, e415_81, e415_83, e415_84, e415_85, e415_88, e415_89, e415_90, e415_92, e415_94, e415_95, e415_96, e415_99, e415_102, e415_105, ↓reduceIte, Bool.false_eq_true, not_false_eq_true, not_true_eq_false, Nat.reduceLeDiff, Nat.reduceAdd, Nat.reduceEqDiff, Int.reduceToNat, Int.toNat_natCast, iB0, iB1, ru_klI, ru_klR, ru_klF, ru_klJ, ru_kl0, ru_cs0, ru_csI, ru_csR, ru_csF, ru_csJ, wI_add, wI_sub, wI_mul, wI_lt, wI_le, wI_inj, ru_fdE, ru_fdN, ru_iaN, ru_baN, ru_laN, ru_qaN, ru_pfN, ru_isN, ru_bsN, ru_jsN, ru_qsN, ru_set2, Nat.add_right_cancel_iff, if_true, if_false, ite_self, Int.reduceEq, and_self, Int.add_neg_cancel_right, Int.add_zero, Int.zero_add, l1, l2, m264, hmI, d1, i2, yl_o hp, yl_f12 hp, yl_q21 hp, i3, c2]
    · rw [if_neg c] at ec
      obtain ⟨e1, he1⟩ := Int.eq_ofNat_of_zero_le t2.1
      have g := d413 (z := z) hp (ylU_R hA r1) (f := f) (k := e1) (nm := N k) hf (by omega) (by omega)
      rw [ylU_s] at g
      obtain ⟨X1, g1, g2, g3⟩ := g
      rw [ylU_up] at g2
      have g2' : ylP X1 B (ylU A f (lgv q' e1 (N k))) := g2
      have q1 := lgv_R (k := e1) r1 (nm := N k) (by omega)
      have q2 := lgv_N (k := e1) r1 r2 (nm := N k) (by omega)
      have q3 := lgv_q (k := e1) (nm := N k) r3 r1 r2 (by omega)
      have x1 : X1.2 = X.2 := g3.2
      obtain ⟨X', q'', b1, b2, b3, b4, b5, b6, b7⟩ := ih (k + 1) (by omega) X1 _ g2' (by rw [x1]; exact k1) (by rw [x1]; exact k2) (by rw [g3.1 _ (Or.inr ka)]; exact a1) (by rw [g3.1 _ (Or.inr kb)]; exact a2) q1 q2 (by rw [ec, t1, he1, Int.toNat_natCast]; exact q3)
      refine ⟨X', q'', b1, b2, b3, psE_tr b4 lgv_E, b5, agA_t (agA_e g3) b6, ?_⟩
      rw [ec, show (((k + 1 : Nat)) : Int) = (k : Int) + 1 by omega] at b7
      have c2 : (0 ≤ N k) = True := eq_true (by omega)
      rw [← b7, e415_45]
      rw [he1] at i1
      simp (disch := omega) only [e415_47, e415_49, e415_50, e415_52, e415_53, e415_56, e415_59, e415_60, e415_63, e415_64, e415_65, e415_67, e415_69, e415_70, e415_71, e415_74, e415_77, e415_78, e415_79, e415_81, e415_83, e415_84, e415_85, e415_88, e415_89, e415_90, e415_92, e415_94, e415_95, e415_96, e415_99, e415_102, e415_105, ↓reduceIte, Bool.false_eq_true, not_false_eq_true, not_true_eq_false, Nat.reduceLeDiff, Nat.reduceAdd, Nat.reduceEqDiff, Int.reduceToNat, Int.toNat_natCast, iB0, iB1, ru_klI, ru_klR, ru_klF, ru_klJ, ru_kl0, ru_cs0, ru_csI, ru_csR, ru_csF, ru_csJ, wI_add, wI_sub, wI_mul, wI_lt, wI_le, wI_inj, ru_fdE, ru_fdN, ru_iaN, ru_baN, ru_laN, ru_qaN, ru_pfN, ru_isN, ru_bsN, ru_jsN, ru_qsN, ru_set2, Nat.add_right_cancel_iff, if_true, if_false, ite_self, Int.reduceEq, and_self, Int.add_neg_cancel_right, Int.add_zero, Int.zero_add, l1, l2, m264, hmI, d1, i1, i2, yl_o hp, yl_f12 hp, yl_q21 hp, i3, c2, g1]
      rw [show ((n0 + ((cpF D N k s0).2 + 1) : Nat) : Int) = ((n0 + (cpF D N k s0).2 : Nat) : Int) + 1 by omega]
theorem nmC_eq {p2 : tPi} {qk p' : tPh} {r j n : Nat} {e : Nat → Nat} (c : pheq qk p') (h : ∀ j, j < n → plC p2 r j = (e j : Int)) (hj : j < n) (he : ((e j : Nat) : Int) < qk.1 7) : nmC p2 qk r j = p'.2 3 (e j) := by
  unfold nmC
  rw [h j hj, Int.toNat_natCast]
  exact c.2 3 _ (by decide) he
theorem d415l (hA : ylR A) {f o m : Nat} {NN : Int} {p1 p2 : tPi} {q0 qk : tPh} (hf : f < 3) (ho : o < 3) (hne : o ≠ f) (hgap : 0 ≤ A.1 0 ∧ A.1 0 ≤ 99) (hNN : NN ≤ 20) (hN2 : phN (A.2.1 o) NN) (c1 : pheq q0 (A.2.1 f)) (c2 : pheq qk (A.2.1 o)) (hq1 : phR q0) (hq2 : phR qk) (o1 : piOK p1 q0 (A.1 0)) (o2 : piOK p2 qk (A.1 0)) (hm : mnI (p1.1 1) (p2.1 1) = (m : Int)) : ∀ d r, r + d = m → ∀ (X : am_H) (q' : tPh) (l6 l7 l8 : Option Value), ylP X B (ylU A f q') → B + 30 ≤ X.2.1 → phR q' → phN q' NN → psE q' (A.2.1 f) → pheq (cpG p1 p2 qk r (q0, 0)).1 q' →
    ∃ (X' : am_H) (q'' : tPh) (l6' l7' l8' : Option Value), ylP X' B (ylU A f q'') ∧ phR q'' ∧ phN q'' NN ∧ psE q'' (A.2.1 f) ∧ pheq (cpG p1 p2 qk m (q0, 0)).1 q'' ∧ agA B X X' (12 * d + 4) (168 * d + 48) ∧
      ru_n z 415 6 [some (.ref 1000), some (.ref (B + 1)), some (.int (wI f)), some (.int (wI o)), some (.int (wI (((cpG p1 p2 qk r (q0, 0)).2 : Nat) : Int))), some (.int (wI r)), l6, l7, l8] [] X =
      ru_n z 415 114 [some (.ref 1000), some (.ref (B + 1)), some (.int (wI f)), some (.int (wI o)), some (.int (wI (((cpG p1 p2 qk m (q0, 0)).2 : Nat) : Int))), some (.int (wI m)), l6', l7', l8'] [] X' := by
  have rc1 := pi_rc o1
  have rc2 := pi_rc o2
  have hm12 : m ≤ 12 ∧ (m : Int) ≤ p1.1 1 ∧ (m : Int) ≤ p2.1 1 := by unfold mnI at hm; split at hm <;> omega
  intro d
  induction d with
  | zero =>
    intro r hr X q' l6 l7 l8 hp hB r1 r2 r3 r4
    obtain rfl : r = m := by omega
    have hA1 := ylU_R (f := f) hA r1
    have sE := ps_sh r3
    obtain ⟨N1, g1, R1, k1, a1, a2, a3⟩ := d404 (z := z) hp hA1 hB hf hgap
    have hp1 := nw2_P (r := R1) (N := N1) (g := g1) hp hB
    obtain ⟨N2, g2, R2, k2, b1, b2, b3⟩ := d404 (z := z) hp1 hA1 (show B + 30 ≤ X.2.1 + 1 + 1 by omega) ho hgap
    have hp2 := nw2_P (r := R2) (N := N2) (g := g2) hp1 (show B + 30 ≤ X.2.1 + 1 + 1 by omega)
    rw [ylU_s, sE.2.2.1, sE.2.2.2] at a1
    rw [ylU_n hne] at b1
    obtain ⟨t1, -⟩ := pk_row c1 hq1 o1 a1
    obtain ⟨t2, -⟩ := pk_row c2 hq2 o2 b1
    refine ⟨nw2 (nw2 X R1 N1 g1) R2 N2 g2, q', l6, l7, l8, hp2, r1, r2, r3, r4, agA_x (agX_m (agX_t (agX_nw2 a2) (agX_nw2 b2)) (by omega) (by omega)), ?_⟩
    rw [← t1] at a3
    rw [← t2] at b3
    have hm' : (if p1.1 1 ≤ p2.1 1 then p1.1 1 else p2.1 1) = (r : Int) := hm
    simp (disch := omega) only [e415_6, e415_8, e415_9, e415_10, e415_13, e415_14, e415_15, e415_18, e415_21, ↓reduceIte, Bool.false_eq_true, not_false_eq_true, not_true_eq_false, Nat.reduceLeDiff, Nat.reduceAdd, Nat.reduceEqDiff, Int.reduceToNat, Int.toNat_natCast, iB0, iB1, ru_klI, ru_klR, ru_klF, ru_klJ, ru_kl0, ru_cs0, ru_csI, ru_csR, ru_csF, ru_csJ, wI_add, wI_sub, wI_mul, wI_lt, wI_le, wI_inj, ru_fdE, ru_fdN, ru_iaN, ru_baN, ru_laN, ru_qaN, ru_pfN, ru_isN, ru_bsN, ru_jsN, ru_qsN, ru_set2, Nat.add_right_cancel_iff, if_true, if_false, ite_self, Int.reduceEq, and_self, Int.add_neg_cancel_right, Int.add_zero, Int.zero_add, yl_o hp, a3, yl_o hp1, b3, m264, hm', Int.le_refl]
  | succ d ih =>
    intro r hr X q' l6 l7 l8 hp hB r1 r2 r3 r4
    have hA1 := ylU_R (f := f) hA r1
    have sE := ps_sh r3
    obtain ⟨N1, g1, R1, k1, a1, a2, a3⟩ := d404 (z := z) hp hA1 hB hf hgap
    have hp1 := nw2_P (r := R1) (N := N1) (g := g1) hp hB
    obtain ⟨N2, g2, R2, k2, b1, b2, b3⟩ := d404 (z := z) hp1 hA1 (show B + 30 ≤ X.2.1 + 1 + 1 by omega) ho hgap
    have hp2 := nw2_P (r := R2) (N := N2) (g := g2) hp1 (show B + 30 ≤ X.2.1 + 1 + 1 by omega)
    rw [ylU_s, sE.2.2.1, sE.2.2.2] at a1
    rw [ylU_n hne] at b1
    obtain ⟨t1, -⟩ := pk_row c1 hq1 o1 a1
    obtain ⟨t2, -⟩ := pk_row c2 hq2 o2 b1
    have ag2 : agX X (nw2 (nw2 X R1 N1 g1) R2 N2 g2) 4 48 := agX_t (agX_nw2 a2) (agX_nw2 b2)
    obtain ⟨X2, hX2⟩ : ∃ X2, X2 = nw2 (nw2 X R1 N1 g1) R2 N2 g2 := ⟨_, rfl⟩
    rw [← hX2] at ag2 hp2
    have hB2 : B + 30 ≤ X2.2.1 := by have := ag2.2.1; omega
    obtain ⟨X3, n1, e1, w1, R3, rc3, u1, u2, u3, u4, u5, u6, u7⟩ := d416 (z := z) hp2 hA1 hB2 (f := f) (rr := (r : Int)) hf hgap (by omega)
    have hp3 := agX_P u4 hp2 hB2
    have hB3 : B + 30 ≤ X3.2.1 := by have := u4.2.1; omega
    obtain ⟨X4, n2, e2, w2, R4, rc4, v1, v2, v3, v4, v5, v6, v7⟩ := d416 (z := z) hp3 hA1 hB3 (f := o) (rr := (r : Int)) ho hgap (by omega)
    have hp4 := agX_P v4 hp3 hB3
    rw [ylU_s, sE.2.2.1, sE.2.2.2] at u1
    rw [ylU_s, sE.2.1, sE.2.2.2] at u2
    rw [ylU_n hne] at v1 v2
    obtain ⟨t3, -⟩ := pk_row c1 hq1 o1 u1
    obtain ⟨t4, -⟩ := pk_row c2 hq2 o2 v1
    obtain ⟨y1, y2⟩ := pk_at c1 hq1 o1 u1 u2 (by omega)
    obtain ⟨y3, y4⟩ := pk_at c2 hq2 o2 v1 v2 (by omega)
    have n112 := enO_12 u2
    have n212 := enO_12 v2
    have a5 : X4.1 (X2.2.1 + 3) = some (ylI 0 n1 w1) := by rw [v4.1 _ (by omega)]; exact u5
    have km : cpN p1 p2 r = if n1 ≤ n2 then n1 else n2 := by
      unfold cpN mnI
      rw [y1, y3]
      by_cases c : n1 ≤ n2
      · rw [if_pos c, if_pos (by omega), Int.toNat_natCast]
      · rw [if_neg c, if_neg (by omega), Int.toNat_natCast]
    have e2s : ∀ j, j < n2 → e2 j < 12 ∧ ((e2 j : Nat) : Int) < (A.2.1 o).1 7 := fun j hj => by
      have := v2.1 j hj
      simp only [Bool.and_eq_true] at this
      exact ⟨this.1, (shS_rng (hA o) this.2.1).2.2.1⟩
    have e7 := c2.1 7 (by decide)
    obtain ⟨X5, q5, z1, z2, z3, z4, z5, z6, z7⟩ := d415i (z := z) hA (f := f) (o := o) (n1 := n1) (n2 := n2) (m := cpN p1 p2 r) (ha := X2.2.1 + 3) (hb := X3.2.1 + 3) (w1 := w1) (w2 := w2) (NN := NN) (D := plC p1 r) (N := nmC p2 qk r) (s0 := ((cpG p1 p2 qk r (q0, 0)).1, 0)) (n0 := (cpG p1 p2 qk r (q0, 0)).2) (vr := (r : Int)) hf ho hne n112 n212 km hNN (fun j hj => by
        have j1 : j < n1 := by rw [km] at hj; split at hj <;> omega
        have := (u2.1 j j1).1
        rw [y2 j j1, u3 j j1]
        exact ⟨rfl, by omega, by omega⟩) (fun j hj => by
        have j2 : j < n2 := by rw [km] at hj; split at hj <;> omega
        have k0 := e2s j j2
        have k3 : nmC p2 qk r j = (A.2.1 o).2 3 (e2 j) := nmC_eq c2 y4 j2 (by omega)
        rw [k3, v3 j j2, Int.toNat_natCast]
        exact ⟨rfl, by omega, hN2.1 _ k0.2⟩) (by omega) (by omega) (cpN p1 p2 r) 0 (Nat.zero_add _) X4 q' hp4 (by omega) (by omega) a5 v5 r1 r2 r4
    have ag5 : agA B X X5 12 168 := agA_m (agA_t (agA_x ag2) (agA_t (agA_x u4) (agA_t (agA_x v4) z6))) (by omega) (by omega)
    obtain ⟨X6, q6, l6', l7', l8', x1, x2, x3, x4, x5, x6, x7⟩ := ih (r + 1) (by omega) X5 q5 (some (.ref (X2.2.1 + 3))) (some (.ref (X3.2.1 + 3))) (some (.int (wI ((cpN p1 p2 r : Nat) : Int)))) z1 (by have := ag5.2.1; omega) z2 z3 (psE_tr z4 r3) z5
    refine ⟨X6, q6, l6', l7', l8', x1, x2, x3, x4, x5, agA_m (agA_t ag5 x6) (by omega) (by omega), ?_⟩
    have eg : (cpG p1 p2 qk (r + 1) (q0, 0)).2 = (cpG p1 p2 qk r (q0, 0)).2 + (cpF (plC p1 r) (nmC p2 qk r) (cpN p1 p2 r) ((cpG p1 p2 qk r (q0, 0)).1, 0)).2 := rfl
    rw [eg, show (((r + 1 : Nat)) : Int) = (r : Int) + 1 by omega] at x7
    rw [← x7, e415_6]
    rw [← t1] at a3
    rw [← t2, ← hX2] at b3
    have hm' : (if p1.1 1 ≤ p2.1 1 then p1.1 1 else p2.1 1) = (m : Int) := hm
    have d1 : ((m : Int) ≤ (r : Int)) = False := eq_false (by omega)
    rw [show (cpF (plC p1 r) (nmC p2 qk r) 0 ((cpG p1 p2 qk r (q0, 0)).1, 0)).2 = 0 from rfl] at z7
    simp only [Nat.add_zero, Int.natCast_zero, Int.ofNat_zero] at z7
    simp (disch := omega) only [e415_8, e415_9, e415_10, e415_13, e415_14, e415_15, e415_18, e415_21, e415_24, e415_25, e415_26, e415_28, e415_31, e415_33, e415_34, e415_35, e415_37, e415_40, e415_42, e415_43, e415_108, e415_111, ↓reduceIte, Bool.false_eq_true, not_false_eq_true, not_true_eq_false, Nat.reduceLeDiff, Nat.reduceAdd, Nat.reduceEqDiff, Int.reduceToNat, Int.toNat_natCast, iB0, iB1, ru_klI, ru_klR, ru_klF, ru_klJ, ru_kl0, ru_cs0, ru_csI, ru_csR, ru_csF, ru_csJ, wI_add, wI_sub, wI_mul, wI_lt, wI_le, wI_inj, ru_fdE, ru_fdN, ru_iaN, ru_baN, ru_laN, ru_qaN, ru_pfN, ru_isN, ru_bsN, ru_jsN, ru_qsN, ru_set2, Nat.add_right_cancel_iff, if_true, if_false, ite_self, Int.reduceEq, and_self, Int.add_neg_cancel_right, Int.add_zero, Int.zero_add, yl_o hp, a3, yl_o hp1, b3, m264, hm', d1, yl_o hp2, u7, yl_o hp3, v7, z7]
end CPY
