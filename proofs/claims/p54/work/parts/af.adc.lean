/-! ===== the album that is read: what the class writes ===== -/
def bgQ (q : tPh) (w h : Int) : tPh := frQ (up1 (up1 (up1 (up1 q.1 0 w) 1 h) 6 0) 7 0, q.2) 0 0 (w - 1) (h - 1)
/-- a name put behind the others -/
def naC (C : tCl) (B n : Nat) (v w : Int64) : tCl := upI (upJ (upJ C (B + 2) n v) (B + 3) n w) (B + 1) 0 ((n : Int) + 1)
/-- a photo begun behind the others -/
def paC (C : tCl) (S m : Nat) (w h : Int) : tCl := upI (phP C (S + 2 + 5 * m) (bgQ (cph C (S + 2 + 5 * m)) w h)) S 0 ((m : Int) + 1)
theorem spr_k {B : Nat} (hB : B = 1003 ∨ B = 1034) : clk B = 2 ∧ clk (B + 1) = 3 ∧ clk (B + 2) = 103 ∧ clk (B + 3) = 103 ∧ isSt (B + 4) ∧ cln (B + 2) = 20 ∧ cln (B + 3) = 20 ∧ 1003 ≤ B ∧ B ≤ 1034 := by
  rcases hB with rfl | rfl <;> (unfold isSt; decide +kernel)
section ADC
variable {z : Bool} {h : am_H} {C : tCl} {a B : Nat} {q : tPh}
theorem cl_wl {q n : Nat} (hk : clk q = 103) (h2 : 1000 ≤ q) (hn : cln q = n) {i : Int} {v : Int64} (h3 : 0 ≤ i) (h4 : i < n) (h5 : n ≤ 100) : am_js (clPut h C) q (wI i) v = some (clPut h (upJ C q i.toNat v)) := by
  subst hn
  rw [ru_js (clP103 hk h2) h3 h4 (by omega)]
  refine congrArg some ?_
  refine cl_set (clk_in (by rw [hk]; decide) h2) ?_ (fun q' hq => ?_)
  · have e := clP103 (h := h) (C := upJ C q i.toNat v) hk h2
    rw [clPut_i (clk_in (by rw [hk]; decide) h2)] at e
    rw [e]
    refine congrArg (fun f => some (Sum.inl (3, cln q, Sum.inr (Sum.inl f)))) (funext fun j => ?_)
    simp only [upJ, if_true, am_up]
  · unfold clCell clL0 clL1 clL2 clL3 clL4 clL5 clL6 clL7 clL9 clL11
    simp only [upJ, hq, if_false]
theorem upJ_1 {k : Nat} {v : Int64} : (upJ C a k v).1 = C.1 := rfl
theorem c44 (hB : B = 1003 ∨ B = 1034) {n : Nat} (hN : C.1 (B + 1) 0 = (n : Int)) (hn : n < 20) {v w : Int64} : ru_ev z 44 [.ref (B + 1), .long v, .long w] (clPut h C) = some (.inl none, clPut h (naC C B n v w)) := by
  obtain ⟨k0, k1, k2, k3, k4, n2, n3, b1, b2⟩ := spr_k hB
  have e : (clPut h C).1 (B + 1) = some (.inr (3, clL3 C (B + 1))) := clP3 k1 (by omega)
  have g0 : ∀ D, am_fd (clPut h D) (B + 1) 3 0 = some (.int (wI (D.1 (B + 1) 0))) := fun D => cl_f3_0 k1 (by omega)
  have g1 : ∀ D, am_fd (clPut h D) (B + 1) 3 1 = some (.ref (B + 1 + 1)) := fun D => cl_f3_1 k1 (by omega)
  have g2 : ∀ D, am_fd (clPut h D) (B + 1) 3 2 = some (.ref (B + 1 + 2)) := fun D => cl_f3_2 k1 (by omega)
  have w1 : ∀ D (v : Int64), am_js (clPut h D) (B + 1 + 1) (wI (n : Nat)) v = some (clPut h (upJ D (B + 2) n v)) := fun D v => by
    have x := cl_wl (h := h) (C := D) (v := v) k2 (by omega) n2 (i := (n : Int)) (by omega) (by omega) (by omega)
    rw [Int.toNat_natCast] at x; exact x
  have w2 : ∀ D (v : Int64), am_js (clPut h D) (B + 1 + 2) (wI (n : Nat)) v = some (clPut h (upJ D (B + 3) n v)) := fun D v => by
    have x := cl_wl (h := h) (C := D) (v := v) k3 (by omega) n3 (i := (n : Int)) (by omega) (by omega) (by omega)
    rw [Int.toNat_natCast] at x; exact x
  have p0 : ∀ D (v : Int), am_pf (clPut h D) (B + 1) 3 0 0 (.int (wI v)) = some (clPut h (upI D (B + 1) 0 v)) := fun D v => cl_p3_0 k1 (by omega)
  have c : ((20 : Int) ≤ (n : Int)) = False := eq_false (by omega)
  simp (disch := omega) only [en44, e44_0, e44_1, e44_4, e44_6, e44_9, e44_10, e44_13, e44_14, e44_17, e44_18, e44_19, e44_20, e44_23, e44_24, e44_27, e44_28, e44_29, e44_30, e44_31, e44_34, e44_35, e44_36, e44_39, ↓reduceIte, Bool.false_eq_true, not_false_eq_true, not_true_eq_false, Nat.reduceLeDiff, Nat.reduceAdd, Nat.reduceEqDiff, Int.reduceToNat, Int.toNat_natCast, iB0, iB1, ru_klI, ru_klR, ru_klF, ru_klJ, ru_kl0, ru_cs0, ru_csI, ru_csR, ru_csF, ru_csJ, wI_add, wI_sub, wI_mul, wI_lt, wI_le, wI_inj, ru_fdE, ru_fdN, ru_iaN, ru_baN, ru_laN, ru_qaN, ru_pfN, ru_isN, ru_bsN, ru_jsN, ru_qsN, ru_set2, Nat.add_right_cancel_iff, if_true, if_false, ite_self, Int.reduceEq, and_self, Int.add_neg_cancel_right, Int.add_zero, Int.zero_add, e, g0, g1, g2, w1, w2, p0, upJ_1, hN, c]
  rfl
theorem m48 (ha : isPh a) (hr : phR q) : ru_ev z 48 [.ref a] (clPut h (phP C a q)) = some (.inl none, clPut h (phP C a (frQ q 0 0 (q.1 0 - 1) (q.1 1 - 1)))) := by
  have s := phR_s hr
  simp (disch := omega) only [en48, e48_0, e48_1, e48_2, e48_5, e48_6, e48_7, e48_10, e48_11, e48_12, e48_15, e48_16, e48_17, e48_20, e48_21, e48_22, e48_25, e48_26, e48_27, e48_30, ↓reduceIte, Bool.false_eq_true, not_false_eq_true, not_true_eq_false, Nat.reduceLeDiff, Nat.reduceAdd, Nat.reduceEqDiff, Int.reduceToNat, Int.toNat_natCast, iB0, iB1, ru_klI, ru_klR, ru_klF, ru_klJ, ru_kl0, ru_cs0, ru_csI, ru_csR, ru_csF, ru_csJ, wI_add, wI_sub, wI_mul, wI_lt, wI_le, wI_inj, ru_fdE, ru_fdN, ru_iaN, ru_baN, ru_laN, ru_qaN, ru_pfN, ru_isN, ru_bsN, ru_jsN, ru_qsN, ru_set2, Nat.add_right_cancel_iff, if_true, if_false, ite_self, Int.reduceEq, and_self, Int.add_neg_cancel_right, Int.add_zero, Int.zero_add, ph_e ha, ph_f0 ha, ph_s0 ha, ph_f1 ha, ph_s1 ha, ph_f2 ha, ph_s2 ha, ph_f3 ha, ph_s3 ha, ph_f4 ha, ph_s4 ha, ph_f5 ha, ph_s5 ha, ph_f6 ha, ph_s6 ha, ph_f7 ha, ph_s7 ha, ph_f8 ha, ph_a0 ha, ph_w0 ha, ph_f9 ha, ph_a1 ha, ph_w1 ha, ph_f10 ha, ph_a2 ha, ph_w2 ha, ph_f11 ha, ph_a3 ha, ph_w3 ha, Int.reduceEq, ru_ctR, ru_ctI, upC_e, upC_n, upC_up, up1_e, up1_n]
  rfl
theorem m47 (ha : isPh a) {w v : Int} (hw : 0 ≤ w ∧ w ≤ 999) (hv : 0 ≤ v ∧ v ≤ 999) : ru_ev z 47 [.ref a, .int (wI w), .int (wI v)] (clPut h (phP C a q)) = some (.inl none, clPut h (phP C a (bgQ q w v))) := by
  have m : ru_ev z 48 [.ref a] (clPut h (phP C a (up1 (up1 (up1 (up1 q.1 0 w) 1 v) 6 0) 7 0, q.2))) = some (.inl none, clPut h (phP C a (bgQ q w v))) := by
    simp (disch := omega) only [en48, e48_0, e48_1, e48_2, e48_5, e48_6, e48_7, e48_10, e48_11, e48_12, e48_15, e48_16, e48_17, e48_20, e48_21, e48_22, e48_25, e48_26, e48_27, e48_30, ↓reduceIte, Bool.false_eq_true, not_false_eq_true, not_true_eq_false, Nat.reduceLeDiff, Nat.reduceAdd, Nat.reduceEqDiff, Int.reduceToNat, Int.toNat_natCast, iB0, iB1, ru_klI, ru_klR, ru_klF, ru_klJ, ru_kl0, ru_cs0, ru_csI, ru_csR, ru_csF, ru_csJ, wI_add, wI_sub, wI_mul, wI_lt, wI_le, wI_inj, ru_fdE, ru_fdN, ru_iaN, ru_baN, ru_laN, ru_qaN, ru_pfN, ru_isN, ru_bsN, ru_jsN, ru_qsN, ru_set2, Nat.add_right_cancel_iff, if_true, if_false, ite_self, Int.reduceEq, and_self, Int.add_neg_cancel_right, Int.add_zero, Int.zero_add, ph_e ha, ph_f0 ha, ph_s0 ha, ph_f1 ha, ph_s1 ha, ph_f2 ha, ph_s2 ha, ph_f3 ha, ph_s3 ha, ph_f4 ha, ph_s4 ha, ph_f5 ha, ph_s5 ha, ph_f6 ha, ph_s6 ha, ph_f7 ha, ph_s7 ha, ph_f8 ha, ph_a0 ha, ph_w0 ha, ph_f9 ha, ph_a1 ha, ph_w1 ha, ph_f10 ha, ph_a2 ha, ph_w2 ha, ph_f11 ha, ph_a3 ha, ph_w3 ha, Int.reduceEq, ru_ctR, ru_ctI, upC_e, upC_n, upC_up, up1_e, up1_n]
    rfl
  simp (disch := omega) only [en47, e47_0, e47_1, e47_2, e47_5, e47_6, e47_7, e47_10, e47_11, e47_12, e47_15, e47_16, e47_17, e47_20, e47_21, e47_24, ↓reduceIte, Bool.false_eq_true, not_false_eq_true, not_true_eq_false, Nat.reduceLeDiff, Nat.reduceAdd, Nat.reduceEqDiff, Int.reduceToNat, Int.toNat_natCast, iB0, iB1, ru_klI, ru_klR, ru_klF, ru_klJ, ru_kl0, ru_cs0, ru_csI, ru_csR, ru_csF, ru_csJ, wI_add, wI_sub, wI_mul, wI_lt, wI_le, wI_inj, ru_fdE, ru_fdN, ru_iaN, ru_baN, ru_laN, ru_qaN, ru_pfN, ru_isN, ru_bsN, ru_jsN, ru_qsN, ru_set2, Nat.add_right_cancel_iff, if_true, if_false, ite_self, Int.reduceEq, and_self, Int.add_neg_cancel_right, Int.add_zero, Int.zero_add, ph_e ha, ph_f0 ha, ph_s0 ha, ph_f1 ha, ph_s1 ha, ph_f2 ha, ph_s2 ha, ph_f3 ha, ph_s3 ha, ph_f4 ha, ph_s4 ha, ph_f5 ha, ph_s5 ha, ph_f6 ha, ph_s6 ha, ph_f7 ha, ph_s7 ha, ph_f8 ha, ph_a0 ha, ph_w0 ha, ph_f9 ha, ph_a1 ha, ph_w1 ha, ph_f10 ha, ph_a2 ha, ph_w2 ha, ph_f11 ha, ph_a3 ha, ph_w3 ha, Int.reduceEq, ru_ctR, ru_ctI, upC_e, upC_n, upC_up, up1_e, up1_n, m]
theorem bgQ_R {w v : Int} (hr : phR q) (hw : 1 ≤ w ∧ w ≤ 999) (hv : 1 ≤ v ∧ v ≤ 999) : phR (bgQ q w v) := by
  refine frQ_R ⟨fun k => ?_, ?_, ?_, hr.2.2.2.1, hr.2.2.2.2.1, hr.2.2.2.2.2⟩ (by omega) (by omega) (by omega) (by omega)
  · have := hr.1 k
    show 0 ≤ up1 (up1 (up1 (up1 q.1 0 w) 1 v) 6 0) 7 0 k ∧ up1 (up1 (up1 (up1 q.1 0 w) 1 v) 6 0) 7 0 k ≤ 999
    unfold up1
    repeat' split
    all_goals omega
  · show up1 (up1 (up1 (up1 q.1 0 w) 1 v) 6 0) 7 0 6 ≤ 1
    rw [up1_n (by decide), up1_e]; decide
  · show up1 (up1 (up1 (up1 q.1 0 w) 1 v) 6 0) 7 0 7 ≤ 12
    rw [up1_e]; decide
theorem c46 {S m : Nat} (hS : isSt S) (hm : C.1 S 0 = (m : Int)) (h5 : m < 5) {w v : Int} (hw : 0 ≤ w ∧ w ≤ 999) (hv : 0 ≤ v ∧ v ≤ 999) : ru_ev z 46 [.ref S, .int (wI w), .int (wI v)] (clPut h C) = some (.inl none, clPut h (paC C S m w v)) := by
  obtain ⟨s1, s2, s3, s4⟩ := isSt_k hS
  have ha := isSt_ph hS h5
  have e : (clPut h C).1 S = some (.inr (9, clL9 C S)) := clP9 s1 (by omega)
  have g0 : ∀ D, am_fd (clPut h D) S 9 0 = some (.int (wI (D.1 S 0))) := fun D => cl_f9_0 s1 (by omega)
  have g1 : ∀ D, am_fd (clPut h D) S 9 1 = some (.ref (S + 1)) := fun D => cl_f9_1 s1 (by omega)
  have q5 := cl_q5 (h := h) (C := C) s2 (by omega) (i := (m : Int)) (by omega) (by omega)
  rw [Int.toNat_natCast, show S + 1 + 1 + 5 * m = S + 2 + 5 * m from rfl] at q5
  have k47 := m47 (z := z) (h := h) (C := C) (q := cph C (S + 2 + 5 * m)) ha hw hv
  rw [phP_get] at k47
  have e0 : (phP C (S + 2 + 5 * m) (bgQ (cph C (S + 2 + 5 * m)) w v)).1 S = C.1 S := phP_1 (by omega)
  have p0 : ∀ D (v : Int), am_pf (clPut h D) S 9 0 0 (.int (wI v)) = some (clPut h (upI D S 0 v)) := fun D v => cl_p9_0 s1 (by omega)
  have c : ((5 : Int) ≤ (m : Int)) = False := eq_false (by omega)
  simp (disch := omega) only [en46, e46_0, e46_1, e46_4, e46_5, e46_8, e46_9, e46_12, e46_13, e46_16, e46_17, e46_18, e46_19, e46_22, e46_23, e46_24, e46_27, e46_28, e46_29, e46_32, ↓reduceIte, Bool.false_eq_true, not_false_eq_true, not_true_eq_false, Nat.reduceLeDiff, Nat.reduceAdd, Nat.reduceEqDiff, Int.reduceToNat, Int.toNat_natCast, iB0, iB1, ru_klI, ru_klR, ru_klF, ru_klJ, ru_kl0, ru_cs0, ru_csI, ru_csR, ru_csF, ru_csJ, wI_add, wI_sub, wI_mul, wI_lt, wI_le, wI_inj, ru_fdE, ru_fdN, ru_iaN, ru_baN, ru_laN, ru_qaN, ru_pfN, ru_isN, ru_bsN, ru_jsN, ru_qsN, ru_set2, Nat.add_right_cancel_iff, if_true, if_false, ite_self, Int.reduceEq, and_self, Int.add_neg_cancel_right, Int.add_zero, Int.zero_add, e, g0, g1, q5, k47, p0, e0, hm, c]
  rfl
theorem m26 {S : Nat} (hS : isSt S) : ru_ev z 26 [.ref S] (clPut h C) = some (.inl none, clPut h (upI C S 0 0)) := by
  obtain ⟨s1, s2, s3, s4⟩ := isSt_k hS
  have e : (clPut h C).1 S = some (.inr (9, clL9 C S)) := clP9 s1 (by omega)
  have p0 : ∀ D (v : Int), am_pf (clPut h D) S 9 0 0 (.int (wI v)) = some (clPut h (upI D S 0 v)) := fun D v => cl_p9_0 s1 (by omega)
  simp (disch := omega) only [en26, e26_0, e26_1, e26_2, e26_5, ↓reduceIte, Bool.false_eq_true, not_false_eq_true, not_true_eq_false, Nat.reduceLeDiff, Nat.reduceAdd, Nat.reduceEqDiff, Int.reduceToNat, Int.toNat_natCast, iB0, iB1, ru_klI, ru_klR, ru_klF, ru_klJ, ru_kl0, ru_cs0, ru_csI, ru_csR, ru_csF, ru_csJ, wI_add, wI_sub, wI_mul, wI_lt, wI_le, wI_inj, ru_fdE, ru_fdN, ru_iaN, ru_baN, ru_laN, ru_qaN, ru_pfN, ru_isN, ru_bsN, ru_jsN, ru_qsN, ru_set2, Nat.add_right_cancel_iff, if_true, if_false, ite_self, Int.reduceEq, and_self, Int.add_neg_cancel_right, Int.add_zero, Int.zero_add, e, p0]
theorem m51 : ru_ev z 51 [.ref 1092] (clPut h C) = some (.inl none, clPut h (upI C 1092 0 0)) := by
  simp (disch := omega) only [en51, e51_0, e51_1, e51_2, e51_5, ↓reduceIte, Bool.false_eq_true, not_false_eq_true, not_true_eq_false, Nat.reduceLeDiff, Nat.reduceAdd, Nat.reduceEqDiff, Int.reduceToNat, Int.toNat_natCast, iB0, iB1, ru_klI, ru_klR, ru_klF, ru_klJ, ru_kl0, ru_cs0, ru_csI, ru_csR, ru_csF, ru_csJ, wI_add, wI_sub, wI_mul, wI_lt, wI_le, wI_inj, ru_fdE, ru_fdN, ru_iaN, ru_baN, ru_laN, ru_qaN, ru_pfN, ru_isN, ru_bsN, ru_jsN, ru_qsN, ru_set2, Nat.add_right_cancel_iff, if_true, if_false, ite_self, Int.reduceEq, and_self, Int.add_neg_cancel_right, Int.add_zero, Int.zero_add, cl_e5, cl_q5_0]
theorem c39 {K : Nat} (k0 : 200 ≤ C.2.2.2 1001 7 ∧ C.2.2.2 1001 7 < 206) (hK : 200 ≤ K ∧ K < 206) : ru_ev z 39 [.ref 1001, .ref K] (clPut h C) = some (.inl (some (.int (wI (if C.2.2.2 1001 7 = K then 1 else 0)))), clPut h C) := by
  have e1 : (200 ≤ C.2.2.2 1001 7) = True := eq_true k0.1
  have e2 : (C.2.2.2 1001 7 < 206) = True := eq_true k0.2
  have e3 : (200 ≤ K) = True := eq_true hK.1
  have e4 : (K < 206) = True := eq_true hK.2
  by_cases c : C.2.2.2 1001 7 = K
  · have d1 : (C.2.2.2 1001 7 = K) = True := eq_true c
    rw [if_pos c]
    simp (disch := omega) only [en39, e39_0, e39_1, e39_4, e39_5, e39_8, e39_9, e39_12, e39_13, ↓reduceIte, Bool.false_eq_true, not_false_eq_true, not_true_eq_false, Nat.reduceLeDiff, Nat.reduceAdd, Nat.reduceEqDiff, Int.reduceToNat, Int.toNat_natCast, iB0, iB1, ru_klI, ru_klR, ru_klF, ru_klJ, ru_kl0, ru_cs0, ru_csI, ru_csR, ru_csF, ru_csJ, wI_add, wI_sub, wI_mul, wI_lt, wI_le, wI_inj, ru_fdE, ru_fdN, ru_iaN, ru_baN, ru_laN, ru_qaN, ru_pfN, ru_isN, ru_bsN, ru_jsN, ru_qsN, ru_set2, Nat.add_right_cancel_iff, if_true, if_false, ite_self, Int.reduceEq, and_self, Int.add_neg_cancel_right, Int.add_zero, Int.zero_add, cl_e1, cl_g1_7, e1, e2, e3, e4, d1, wI_and1, not_true]
  · have d1 : (C.2.2.2 1001 7 = K) = False := eq_false c
    rw [if_neg c]
    simp (disch := omega) only [en39, e39_0, e39_1, e39_4, e39_5, e39_8, e39_9, e39_12, e39_13, ↓reduceIte, Bool.false_eq_true, not_false_eq_true, not_true_eq_false, Nat.reduceLeDiff, Nat.reduceAdd, Nat.reduceEqDiff, Int.reduceToNat, Int.toNat_natCast, iB0, iB1, ru_klI, ru_klR, ru_klF, ru_klJ, ru_kl0, ru_cs0, ru_csI, ru_csR, ru_csF, ru_csJ, wI_add, wI_sub, wI_mul, wI_lt, wI_le, wI_inj, ru_fdE, ru_fdN, ru_iaN, ru_baN, ru_laN, ru_qaN, ru_pfN, ru_isN, ru_bsN, ru_jsN, ru_qsN, ru_set2, Nat.add_right_cancel_iff, if_true, if_false, ite_self, Int.reduceEq, and_self, Int.add_neg_cancel_right, Int.add_zero, Int.zero_add, cl_e1, cl_g1_7, e1, e2, e3, e4, d1, wI_and1, not_false_iff]
end ADC
