/-! ===== the law's run, from its first row to its last ===== -/
theorem bl_I {X : am_H} {s : Nat} (h : X.2.1 = 1000) : clI (blH X 315 s) C0i := by
  refine Prod.ext (funext fun q => ?_) rfl
  show (blH X 315 s).1 q = if 1000 ≤ q ∧ q ≤ 1314 ∧ q ≠ 1259 then clCell C0i q else (blH X 315 s).1 q
  by_cases e : 1000 ≤ q ∧ q ≤ 1314 ∧ q ≠ 1259
  · rw [if_pos e, bl_1 (by omega) (by omega)]
    exact clPut_i e
  · rw [if_neg e]
section LAW
variable {n : Nat} {g : Nat → Int32}
theorem pw_5 {y : Nat} (h : 26 * 2 ^ y ≤ 1002) : y ≤ 5 := by
  rcases Nat.lt_or_ge 5 y with k | k
  · have : 2 ^ 6 ≤ 2 ^ y := Nat.pow_le_pow_right (by decide) k
    omega
  · exact k
theorem tl401 {X : am_H} {gap : Nat} {ls : List tLn} {Q V : Nat} (hc : clI X C0i) (hst : strs X) (hg : gap ≤ 99) (ho : lsO s0L ls) (hl : ls.length ≤ 900) (hP : 0 < (lsZ s0L ls).2.2.2.1) (hT : gT X Q V (txG gap ls)) (hn : (txG gap ls).length ≤ 600) (hq : 1315 ≤ Q ∧ Q < X.2.1) (hv : 1315 ≤ V ∧ V < X.2.1) {z : Bool} : ∃ (Y : am_H) (D : tCl), ru_ev z 401 [.ref 1000, .ref Q] X = some (.inl (some (.int (wI ((lsZ s0L ls).2.2.2.1 : Nat)))), Y) ∧ clI Y D ∧ (yqI D (gap : Int) (lsZ s0L ls).1 (lsZ s0L ls).2.1 (lsZ s0L ls).2.2.1 ∧ ypI D (lsZ s0L ls).2.2.2.1 (lsZ s0L ls).2.2.2.2 ∧ D.1 1001 1 = 0 ∧ D.1 1001 2 = 0 ∧ D.1 1001 3 = -1) ∧ agC X Y 40 200 := by
  have h7 := txG_a7 (gap := gap) (ls := ls) hg ho
  obtain ⟨Y, nn, f, r, c1, c2, c3, c4, c5⟩ := d402 (z := z) (by omega) (by omega) hn (fun j hj => a7_g h7 hj) hc rfl hT hq.2 hv.2 (by omega)
  have sY : strs Y := strs_ag hst (fun q hq => c5.1 q (by omega) (by omega))
  obtain ⟨D, k, d1, d2, d3, d4, d5⟩ := ld0 (z := z) (h := Y) sY hg ho hl hP (w := txG gap ls) rfl (nn := nn) (f := f) ⟨c2, by omega⟩ c4 (fun q hq => a7_g h7 hq)
  rw [← c1] at k
  have gY : gT Y Q V (txG gap ls) := by
    obtain ⟨s1, kk, f', s2, s3, s4⟩ := hT
    exact ⟨by rw [c5.1 Q hq.2 (by omega)]; exact s1, kk, f', s2, by rw [c5.1 V hv.2 (by omega)]; exact s3, s4⟩
  have k29 := g29 (z := z) gY (by omega)
  refine ⟨clPut Y D, D, ?_, clI_put Y D, ⟨d1, d2, d3, d4, d5⟩, agC_m (agC_t c5 agC_c) (by omega) (by omega)⟩
  have e0 : ((1 : Int) = 0) = False := eq_false (by decide)
  simp (disch := omega) only [en401, e401_0, e401_1, e401_2, e401_5, e401_8, e401_9, e401_10, e401_13, e401_16, e401_19, e401_21, ↓reduceIte, Bool.false_eq_true, not_false_eq_true, not_true_eq_false, Nat.reduceLeDiff, Nat.reduceAdd, Nat.reduceEqDiff, Int.reduceToNat, Int.toNat_natCast, iB0, iB1, ru_klI, ru_klR, ru_klF, ru_klJ, ru_kl0, ru_cs0, ru_csI, ru_csR, ru_csF, ru_csJ, wI_add, wI_sub, wI_mul, wI_lt, wI_le, wI_inj, ru_fdE, ru_fdN, ru_iaN, ru_baN, ru_laN, ru_qaN, ru_pfN, ru_isN, ru_bsN, ru_jsN, ru_qsN, ru_set2, Nat.add_right_cancel_iff, if_true, if_false, ite_self, Int.reduceEq, and_self, Int.add_neg_cancel_right, Int.add_zero, Int.zero_add, ru_ctR, ru_ctI, r, e0, k29, k]
theorem law_run (hn : n ≤ 1000) (g : Nat → Int32) : ∃ K, (30 ≤ K ∧ K ≤ 100) ∧ ∀ (z : Bool) (X0 : am_H), bI X0 n g → strs X0 → X0.2.1 + K = 1000 → ∃ X', ru_ev z 0 [.ref 1] X0 = some (.inl (some (.int (wI 1))), X') ∧ X'.2.1 ≤ 460000 ∧ X'.2.2 ≤ X0.2.2 + 1450000 := by
  obtain ⟨gap, N, P, d, ls, o, a, t, ⟨hg, hP⟩, hk, hl, ht, r⟩ := c386 (n := n) hn g (t := 0) (by decide)
  have kd := hk.1.2.1
  have y5 := pw_5 (Nat.le_trans kd.2.2.2.1 kd.2.2.2.2.1)
  have hN := hk.1.1.2.2
  have k3 := kd.2.2.1
  refine ⟨d.2.1, by omega, fun z X0 hb hst hK => ?_⟩
  obtain ⟨B, hB⟩ : ∃ B, B = X0.2.1 := ⟨_, rfl⟩
  rw [← hB] at hK
  have hB6 : 600 ≤ B := by omega
  obtain ⟨X1, hX1⟩ : ∃ X1, X1 = am_new X0 (.inr (12, [.null, .int (wI 0)])) 2 := ⟨_, rfl⟩
  have a1 : X1.1 B = some (.inr (12, [.null, .int (wI 0)])) := by rw [hX1, hB]; exact nw_e
  have a2 : ∀ q, q < B → X1.1 q = X0.1 q := fun q hq => by rw [hX1]; exact nw_lo (by omega)
  have a3 : X1.2.1 = B + 1 := by rw [hX1, hB]; rfl
  have a4 : X1.2.2 = X0.2.2 + 2 := by rw [hX1]; rfl
  obtain ⟨X2, hX2⟩ : ∃ X2, X2 = am_set X1 B (dwC 0) := ⟨_, rfl⟩
  have p2 : am_pf X1 B 12 0 2 (.ref 1) = some X2 := by
    rw [hX2]
    exact ru_pf2 a1 ⟨by decide, by show 0 < 2; decide⟩
  have b3 : X2.2.1 = B + 1 := by rw [hX2]; exact a3
  have b4 : X2.2.2 = X0.2.2 + 2 := by rw [hX2]; exact a4
  obtain ⟨X3, hX3⟩ : ∃ X3, X3 = am_new X2 (.inr (13, [.null, .int (wI 0), .int (wI 0), .int (wI 0), .null, .null, .null, .null, .null, .null, .null, .null, .null, .null, .null])) 15 := ⟨_, rfl⟩
  have c1 : X3.1 (B + 1) = some (.inr (13, [.null, .int (wI 0), .int (wI 0), .int (wI 0), .null, .null, .null, .null, .null, .null, .null, .null, .null, .null, .null])) := by rw [hX3, ← b3]; exact nw_e
  have c2 : ∀ q, q < B → X3.1 q = X0.1 q := fun q hq => by rw [hX3, nw_lo (by omega), hX2, ru_setN (by omega)]; exact a2 q hq
  have c2B : X3.1 B = some (dwC 0) := by rw [hX3, nw_lo (by omega), hX2]; exact ru_setE _ _ _
  have c3 : X3.2.1 = B + 2 := by rw [hX3]; show X2.2.1 + 1 = _; omega
  have c4 : X3.2.2 = X0.2.2 + 17 := by rw [hX3]; show X2.2.2 + 15 = _; omega
  obtain ⟨X4, r386, hJ⟩ := r z X0 X3 B hb hB6 c2 c2B c1 c3 (by omega)
  have d3 := hJ.1.2.2.2.1
  have d4 := hJ.1.2.2.2.2
  obtain ⟨la, wl⟩ := cn_law hk ⟨hg, hP⟩ hb hst hB6 hK hJ
  have x41 : X4.2.1 = 1000 := by omega
  have r1 := b1 (z := z) (h := X4) x41
  obtain ⟨X6, hX6⟩ : ∃ X6, X6 = blH X4 315 4759 := ⟨_, rfl⟩
  rw [← hX6] at r1
  have i6 : clI X6 C0i := by rw [hX6]; exact bl_I x41
  have n6 : X6.2.1 = 1315 := by rw [hX6]; show X4.2.1 + 315 = _; omega
  have s6 : X6.2.2 = X4.2.2 + 4759 := by rw [hX6]; rfl
  have o6 : ∀ q, q < 1000 → X6.1 q = X4.1 q := fun q hq => by rw [hX6]; exact if_neg (by omega)
  have t1 := tf_0 (z := z) i6
  have i7 := fr_I i6
  have t2 := tf_14 (z := z) i7
  have i8 := fr_I i7
  have t3 := tf_21 (z := z) i8
  have i9 := fr_I i8
  have t4 := tf_16 (z := z) i9
  have ia := fr_I i9
  have t5 := tf_25 (z := z) ia
  have ib := fr_I ia
  have t6 := tf_160 (z := z) ib
  obtain ⟨Xb, hXb⟩ : ∃ Xb, Xb = thr (thr (thr (thr (thr X6)))) := ⟨_, rfl⟩
  rw [← hXb] at t5 t6 ib
  have nb : Xb.2.1 = 1320 := by rw [hXb]; show X6.2.1 + 1 + 1 + 1 + 1 + 1 = _; omega
  have sb : Xb.2.2 = X6.2.2 + 30 := by rw [hXb]; rfl
  have ob : ∀ q, q < 1000 → Xb.1 q = X4.1 q := fun q hq => by rw [hXb]; exact o6 q hq
  obtain ⟨f, hf⟩ := hJ.1.2.2.1
  have gb : gbS Xb (B + 2) (B + d.1) 0 f (txG gap ls) d.2.2.2.1 := gbS_ag hf (ob _ (by omega)) (ob _ (by have := kd.2.1; omega)) (by omega)
  obtain ⟨X8, r391, u1, u2, u3, u4⟩ := g391 (z := z) gb
  have i8 : clI X8 C0i := clI_same ib (fun q _ h2 => u2 q (by omega))
  have o8 : ∀ q, q < 1000 → X8.1 q = X4.1 q := fun q hq => by rw [u2 q (by omega)]; exact ob q hq
  have ln : (txG gap ls).length ≤ 500 := kd.2.2.2.2.2.2
  have hst8 : strs X8 := strs_ag la.2.2.2.2.2 (fun q hq => o8 q (by omega))
  obtain ⟨Y, D, r401, iY, ⟨v1, v2, v3, v4, v5⟩, gY⟩ := tl401 (z := z) i8 hst8 (gap := gap) (ls := ls) (by omega) hk.1.1.1 (by omega) (by rw [hk.2.1]; omega) u1 (by omega) (by omega) (by omega)
  have oY : ∀ q, q < 1000 → Y.1 q = X4.1 q := fun q hq => by rw [gY.1 q (by omega) (by omega)]; exact o8 q hq
  rw [hk.2.1] at r401 v2
  rw [hk.1.1.2.1] at v1
  have tk : txK B n := ⟨hB6, by omega, hn⟩
  obtain ⟨A, hA⟩ : ∃ A : tLw, A = (vA gap N P, (lsZ s0L ls).2.2.2.2, (fun i => B + o i), a) := ⟨_, rfl⟩
  rw [← hA] at la wl
  have yY : ylP Y B A := ylP_ag la.1 (fun q h1 h2 => oY q (by omega))
  have hac : acI Y B A n g t (lsZ s0L ls).2.1 (lsZ s0L ls).2.2.1 D N P := ⟨laI_W tk la (fun q hq _ => oY q hq) yY (dwP_ag la.2.1 (oY 1 (by omega)) (oY B (by omega))) rfl rfl, wl, iY, by have := gY.2.1; omega, by rw [hA]; exact v1, by rw [hA]; exact v2, v3⟩
  have f3 : am_fd Y (B + 1) 13 3 = some (.int (wI ((P : Nat) : Int))) := (yl_f3 yY).trans (by rw [hA]; rfl)
  have e154 := c154 (z := z) (h := Y) (C := D)
  have e156 := c156 (z := z) (h := Y) (C := D)
  rw [← (show Y = clPut Y D from iY), v4] at e154
  rw [← (show Y = clPut Y D from iY), v5] at e156
  obtain ⟨X9, D9, h9, m9, s9, r403⟩ := d403 (z := z) tk hac
  obtain ⟨v, Xc, q1, q2, r390, hc, ec⟩ := ac_drw (z := z) tk h9 (by omega) (lo := 2) (hi := 10) (by omega) (by omega) (by omega)
  obtain ⟨w, hw⟩ : ∃ w : Nat, v = (w : Int) := ⟨v.toNat, by omega⟩
  rw [hw] at r390 q1 q2
  obtain ⟨Xd, Ad, Dd, td, hd, md, sd, rl⟩ := d0l (z := z) tk w Xc A D9 (t + 1) hc (by omega) (by omega)
  obtain ⟨Xe, me, se, re⟩ := d0e (z := z) tk hd (l4 := some (.int (wI 0)))
  have hY1 := gY.2.2.1
  have hY2 := gY.2.2.2
  have ec1 : Xc.2.1 = X9.2.1 := by rw [ec]
  have ec2 : Xc.2.2 = X9.2.2 := by rw [ec]
  have k6 := kd.2.2.2.2.2.1
  have k5 := kd.2.2.2.2.1
  refine ⟨Xe, ?_, by omega, by omega⟩
  have x0 : X0.2.1 = B := hB.symm
  have g0 : am_fd Xb (B + 1) 13 0 = some (.ref (B + 2)) := ru_fd (by rw [ob _ (by omega)]; exact yl_o la.1) rfl
  rw [nb] at r391 r401
  have dq : ((1 : Int) = 0) = False := eq_false (by decide)
  have d0 : ((0 : Int) = 0) = True := eq_true rfl
  have a12 := a1
  have s1 : ru_ev z 0 [.ref 1] X0 = ru_n z 0 18 [some (.ref 1), some (.ref B), some (.ref (B + 1)), none, none] [] X4 := by
    simp (disch := omega) only [en0, e0_0, e0_3, e0_4, e0_5, e0_8, e0_9, e0_12, e0_13, e0_14, e0_17, ↓reduceIte, Bool.false_eq_true, not_false_eq_true, not_true_eq_false, Nat.reduceLeDiff, Nat.reduceAdd, Nat.reduceEqDiff, Int.reduceToNat, Int.toNat_natCast, iB0, iB1, ru_klI, ru_klR, ru_klF, ru_klJ, ru_kl0, ru_cs0, ru_csI, ru_csR, ru_csF, ru_csJ, wI_add, wI_sub, wI_mul, wI_lt, wI_le, wI_inj, ru_fdE, ru_fdN, ru_iaN, ru_baN, ru_laN, ru_qaN, ru_pfN, ru_isN, ru_bsN, ru_jsN, ru_qsN, ru_set2, Nat.add_right_cancel_iff, if_true, if_false, ite_self, Int.reduceEq, and_self, Int.add_neg_cancel_right, Int.add_zero, Int.zero_add, ru_ctR, ru_ctI, en385, en385, e385_0, e385_1, e385_4, e385_5, e385_6, e385_9, x0, ← hX1, a1, p2, b3, ← hX3, r386, List.length_nil, Nat.zero_le]
  have s2 : ru_n z 0 18 [some (.ref 1), some (.ref B), some (.ref (B + 1)), none, none] [] X4 = ru_n z 0 26 [some (.ref 1), some (.ref B), some (.ref (B + 1)), some (.ref 1000), none] [] X6 := by
    simp (disch := omega) only [e0_18, e0_21, e0_22, e0_25, ↓reduceIte, Bool.false_eq_true, not_false_eq_true, not_true_eq_false, Nat.reduceLeDiff, Nat.reduceAdd, Nat.reduceEqDiff, Int.reduceToNat, Int.toNat_natCast, iB0, iB1, ru_klI, ru_klR, ru_klF, ru_klJ, ru_kl0, ru_cs0, ru_csI, ru_csR, ru_csF, ru_csJ, wI_add, wI_sub, wI_mul, wI_lt, wI_le, wI_inj, ru_fdE, ru_fdN, ru_iaN, ru_baN, ru_laN, ru_qaN, ru_pfN, ru_isN, ru_bsN, ru_jsN, ru_qsN, ru_set2, Nat.add_right_cancel_iff, if_true, if_false, ite_self, Int.reduceEq, and_self, Int.add_neg_cancel_right, Int.add_zero, Int.zero_add, ru_ctR, ru_ctI, x41, r1]
  have dd1 : ((1 : Int) = 1) = True := eq_true rfl
  have s3 : ru_n z 0 26 [some (.ref 1), some (.ref B), some (.ref (B + 1)), some (.ref 1000), none] [] X6 = ru_n z 0 100 [some (.ref 1), some (.ref B), some (.ref (B + 1)), some (.ref 1000), none] [] Xb := by
    simp (disch := omega) only [e0_26, e0_27, e0_28, e0_29, e0_30, e0_31, e0_34, e0_35, e0_38, e0_39, e0_41, e0_42, e0_43, e0_44, e0_47, e0_48, e0_51, e0_52, e0_54, e0_55, e0_56, e0_57, e0_60, e0_61, e0_64, e0_65, e0_67, e0_68, e0_69, e0_70, e0_73, e0_74, e0_77, e0_78, e0_80, e0_81, e0_83, e0_84, e0_87, e0_88, e0_91, e0_92, e0_95, ↓reduceIte, Bool.false_eq_true, not_false_eq_true, not_true_eq_false, Nat.reduceLeDiff, Nat.reduceAdd, Nat.reduceEqDiff, Int.reduceToNat, Int.toNat_natCast, iB0, iB1, ru_klI, ru_klR, ru_klF, ru_klJ, ru_kl0, ru_cs0, ru_csI, ru_csR, ru_csF, ru_csJ, wI_add, wI_sub, wI_mul, wI_lt, wI_le, wI_inj, ru_fdE, ru_fdN, ru_iaN, ru_baN, ru_laN, ru_qaN, ru_pfN, ru_isN, ru_bsN, ru_jsN, ru_qsN, ru_set2, Nat.add_right_cancel_iff, if_true, if_false, ite_self, Int.reduceEq, and_self, Int.add_neg_cancel_right, Int.add_zero, Int.zero_add, ru_ctR, ru_ctI, t1, t2, t3, t4, t5, t6, d0, not_true, not_false_iff]
  have s4 : ru_n z 0 100 [some (.ref 1), some (.ref B), some (.ref (B + 1)), some (.ref 1000), none] [] Xb = ru_n z 0 152 [some (.ref 1), some (.ref B), some (.ref (B + 1)), some (.ref 1000), some (.int (wI ((w : Nat) : Int)))] [] Xc := by
    simp (disch := omega) only [e0_100, e0_101, e0_102, e0_105, e0_108, e0_111, e0_112, e0_115, e0_118, e0_119, e0_122, e0_125, e0_126, e0_129, e0_130, e0_133, e0_134, e0_135, e0_138, e0_141, e0_142, e0_143, e0_144, e0_145, e0_147, e0_150, ↓reduceIte, Bool.false_eq_true, not_false_eq_true, not_true_eq_false, Nat.reduceLeDiff, Nat.reduceAdd, Nat.reduceEqDiff, Int.reduceToNat, Int.toNat_natCast, iB0, iB1, ru_klI, ru_klR, ru_klF, ru_klJ, ru_kl0, ru_cs0, ru_csI, ru_csR, ru_csF, ru_csJ, wI_add, wI_sub, wI_mul, wI_lt, wI_le, wI_inj, ru_fdE, ru_fdN, ru_iaN, ru_baN, ru_laN, ru_qaN, ru_pfN, ru_isN, ru_bsN, ru_jsN, ru_qsN, ru_set2, Nat.add_right_cancel_iff, if_true, if_false, ite_self, Int.reduceEq, and_self, Int.add_neg_cancel_right, Int.add_zero, Int.zero_add, ru_ctR, ru_ctI, g0, r391, r401, f3, e154, e156, r403, r390, dq, d0, not_true, not_false_iff]
  rw [s1, s2, s3, s4, rl]
  exact re
end LAW
