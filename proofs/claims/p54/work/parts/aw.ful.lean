/-! ===== phrases: a whole name, who has it, a name given ===== -/
def prS (A N n : Nat) (C0 : tCl) (M0 : tMd) : Prop := (A = 1003 ∨ A = 1034) ∧ C0.1 (A + 1) 0 = (N : Int) ∧ M0.1 20 = (N : Int) ∧ N ≤ 20 ∧ n < 5 ∧ ∀ i, i < N → wdR (wF M0 5 (16 * i)) ∧ wdR (wF M0 5 (16 * i + 8)) ∧ C0.2.2.1 (A + 2) i = wdL (wF M0 5 (16 * i)) ∧ C0.2.2.1 (A + 3) i = wdL (wF M0 5 (16 * i + 8))
def fdV (M0 : tMd) (N : Nat) (f1 f2 : Nat → Int) : Int := fdN (fun i => wF M0 5 (16 * i)) (fun i => wF M0 5 (16 * i + 8)) f1 f2 N 0
theorem ps_sh {p q : tPh} (h : psE p q) : shw p = shw q ∧ shX p = shX q ∧ shY p = shY q ∧ shS p = shS q := by
  have e1 : shw p = shw q := funext fun i => by
    unfold shw
    rw [h.1 2 (by decide), h.1 3 (by decide), h.1 4 (by decide), h.1 5 (by decide), h.2 0 (by decide), h.2 1 (by decide), h.2 2 (by decide)]
  refine ⟨e1, funext fun i => ?_, funext fun i => ?_, funext fun i => ?_⟩
  · unfold shX
    rw [h.1 2 (by decide), h.1 4 (by decide), h.1 6 (by decide), h.2 0 (by decide)]
  · unfold shY
    rw [h.1 3 (by decide), h.2 1 (by decide)]
  · unfold shS
    rw [h.1 7 (by decide), e1]
theorem psE_refl (p : tPh) : psE p p := ⟨fun _ _ => rfl, fun _ _ => rfl⟩
theorem psE_tr {p q r : tPh} (h : psE p q) (k : psE q r) : psE p r := ⟨fun i hi => (h.1 i hi).trans (k.1 i hi), fun c hc => (h.2 c hc).trans (k.2 c hc)⟩
section FUL
variable {z : Bool} {M M0 : tMd} {C C0 : tCl} {n l s A N R : Nat} {gv : Int}
theorem f43 (hs : prS A N n C0 M0) (hr : prI n C0 M0 C M gv) {f1 f2 : Nat → Int} (h1 : ltR f1) (h2 : ltR f2) : ∀ h, ru_ev z 43 [.ref (A + 1), .long (wdL f1), .long (wdL f2)] (clPut h C) = some (.inl (some (.int (wI (fdV M0 N f1 f2)))), clPut h C) := fun h => by
  obtain ⟨a1, a2, a3, a4, a5, a6⟩ := hs
  refine c43 (z := z) a1 (by rw [hr.1.1 _ (by omega)]; exact a2) a4 h1 h2 (fun i hi => ?_)
  obtain ⟨q1, q2, q3, q4⟩ := a6 i hi
  rw [hr.1.2.2.1 _ _ (by omega), hr.1.2.2.1 _ _ (by omega)]
  exact ⟨q1.1, q2.1, q3, q4⟩
theorem f70 (hs : prS A N n C0 M0) (hr : prI n C0 M0 C M gv) {off : Nat} (hoff : off + 8 ≤ 104) (h7 : ltR (wF M 7 off)) (h4 : ltR (M.2 4)) : ∀ h, ru_ev z 70 [.ref 1315, .ref 1321, .int (wI N), .ref 1323, .int (wI ((off : Nat) : Int))] (mdPut h M) = some (.inl (some (.int (wI (fdV M0 N (wF M 7 off) (M.2 4))))), mdPut h M) := fun h => by
  obtain ⟨a1, a2, a3, a4, a5, a6⟩ := hs
  have e5 : M.2 5 = M0.2 5 := hr.2.2.1.2 5 (by decide) (by decide) (by decide)
  have k := p70l (z := z) (M := M) (h := h) (a := 1321) (N := N) (off := off) (G := M.2 5) (mdC5 (mdAt_put h M)) a4 hoff (fun i hi => by
    rw [e5]
    obtain ⟨q1, q2, -⟩ := a6 (i / 16) (by omega)
    by_cases c : i % 16 < 8
    · have := q1.1 (i % 16) c
      unfold wF at this
      rw [show 16 * (i / 16) + i % 16 = i by omega] at this
      omega
    · have := q2.1 (i % 16 - 8) (by omega)
      unfold wF at this
      rw [show 16 * (i / 16) + 8 + (i % 16 - 8) = i by omega] at this
      omega) (fun k hk => by have := h7 k hk; unfold wF at this; omega) (fun k hk => by have := h4 k hk; omega) N 0 (by omega)
  rw [e5] at k
  simp only [show ((0 : Nat) : Int) = 0 from rfl] at k
  simp (disch := omega) only [e70_0, e70_1, en70, ↓reduceIte, Bool.false_eq_true, not_false_eq_true, not_true_eq_false, Nat.reduceLeDiff, Nat.reduceAdd, Nat.reduceEqDiff, Int.reduceToNat, Int.toNat_natCast, iB0, iB1, ru_klI, ru_klR, ru_klF, ru_klJ, ru_kl0, ru_cs0, ru_csI, ru_csR, ru_csF, ru_csJ, wI_add, wI_sub, wI_mul, wI_lt, wI_le, wI_inj, ru_fdE, ru_fdN, ru_iaN, ru_baN, ru_laN, ru_qaN, ru_pfN, ru_isN, ru_bsN, ru_jsN, ru_qsN, ru_set2, Nat.add_right_cancel_iff, if_true, if_false, ite_self, Int.reduceEq, and_self, Int.add_neg_cancel_right, Int.add_zero, Int.zero_add]
  exact k
theorem fdV_b (N : Nat) (f1 f2 : Nat → Int) : -1 ≤ fdV M0 N f1 f2 ∧ fdV M0 N f1 f2 < (N : Int) := by
  have := fdN_b (fun i => wF M0 5 (16 * i)) (fun i => wF M0 5 (16 * i + 8)) f1 f2 N 0
  unfold fdV; omega
theorem kp_pr {off : Nat} (hr : prI n C0 M0 C M gv) : prI n C0 M0 C (kpM M off 8) gv := prI_of hr (inS_refl C) (fun _ _ => rfl) (fun c _ h7 => kp_n h7)
theorem kp_tk {off : Nat} (ht : tkR C M l s) : tkR C (kpM M off 8) l s := tkR_of ht rfl rfl rfl rfl (fun _ _ _ => rfl) (kp_n (by decide))
theorem kp_7 {off : Nat} : ∀ k, k < 8 → (kpM M off 8).2 7 (off + k) = M.2 4 k := fun k hk => by
  show (if 7 = 7 then (fun q => if off ≤ q ∧ q < off + 8 then M.2 4 (q - off) else M.2 7 q) else M.2 7) (off + k) = _
  rw [if_pos rfl, if_pos (by omega), show off + k - off = k by omega]
def flO (z : Bool) (R A N n l : Nat) (C0 : tCl) (M0 : tMd) (C : tCl) (M : tMd) (s : Nat) (gv : Int) : Prop :=
  (∃ C' M' s' nm, (∀ h S, strs h → ru_ev z 105 [.ref R] (clPut (rdH h R (A + 1) S) C) = some (.inl (some (.int (wI ((nm : Nat) : Int)))), clPut (rdH h R (A + 1) S) C')) ∧ (∀ h, strs h → ru_ev z 146 [.ref 1315] (mdPut h M) = some (.inl (some (.int (wI ((nm : Nat) : Int)))), mdPut h M')) ∧ tkR C' M' l s' ∧ prI n C0 M0 C' M' gv ∧ s ≤ s' ∧ nm < N ∧ M'.1 13 = 1) ∨
  ∃ C' M', (∀ h S, strs h → ru_ev z 105 [.ref R] (clPut (rdH h R (A + 1) S) C) = some (.inr 2, clPut (rdH (thr h) R (A + 1) S) C')) ∧ (∀ h, strs h → ru_ev z 146 [.ref 1315] (mdPut h M) = some (.inl (some (.int (wI (-1)))), mdPut h M')) ∧ epI n C0 M0 C' M'
theorem fl_j (hR : 1315 ≤ R) (hs : prS A N n C0 M0) (hr : prI n C0 M0 C M gv) (ht : tkR C M l s) (hb0 : byI C0 M0 l) : flO z R A N n l C0 M0 C M s gv := by
  have hb := pr_byI hb0 hr
  have h17 := hr.2.2.2.1
  have hn := hb.1
  have d0 : ((0 : Int) = 0) = True := eq_true rfl
  have d1 : ((1 : Int) = 0) = False := eq_false (by decide)
  have dm : ((-1 : Int) = -1) = True := eq_true rfl
  by_cases cw : nmTk M = true
  rotate_left
  · right
    have hm := mut_er ht (t := 1) (by decide)
    refine ⟨_, _, fun h S hS => ?_, fun h hS => ?_, ep_of hr ht hn (t := 1) (by decide)⟩
    · have x := c42 (z := z) (strs_rd (nm := A + 1) (S := S) hR hS) ht hb
      rw [if_neg cw] at x
      simp (disch := omega) only [en105, e105_0, e105_1, e105_4, e105_7, e105_8, e105_9, e105_12, e105_15, e105_16, e105_17, e105_18, e105_21, e105_24, e105_27, ↓reduceIte, Bool.false_eq_true, not_false_eq_true, not_true_eq_false, Nat.reduceLeDiff, Nat.reduceAdd, Nat.reduceEqDiff, Int.reduceToNat, Int.toNat_natCast, iB0, iB1, ru_klI, ru_klR, ru_klF, ru_klJ, ru_kl0, ru_cs0, ru_csI, ru_csR, ru_csF, ru_csJ, wI_add, wI_sub, wI_mul, wI_lt, wI_le, wI_inj, ru_fdE, ru_fdN, ru_iaN, ru_baN, ru_laN, ru_qaN, ru_pfN, ru_isN, ru_bsN, ru_jsN, ru_qsN, ru_set2, Nat.add_right_cancel_iff, if_true, if_false, ite_self, Int.reduceEq, and_self, Int.add_neg_cancel_right, Int.add_zero, Int.zero_add, rd_e hR, rd_f0 hR, cl_e1, x]
      rfl
    · have g17 : am_fd (mdPut h (erM M 1)) 1315 10 17 = some (.int (wI 1)) := by rw [md_f17]; rfl
      have u0 := p68e (z := z) (h := h) (off := 0) hS ht h17 cw
      have u1 := u66 (z := z) (h := h) hm
      have u3 := u69 (z := z) (h := h) hm
      have u4 := u63 (z := z) (h := h) (c := 1) hm
      have u5 := u63 (z := z) (h := h) (c := 6) hm
      simp (disch := omega) only [en146, e146_0, e146_1, e146_2, e146_5, e146_6, e146_9, e146_10, e146_13, e146_14, e146_17, e146_20, e146_21, e146_22, e146_25, e146_26, e146_29, e146_32, e146_33, e146_34, e146_37, e146_38, e146_41, e146_42, e146_45, e146_46, e146_49, e146_52, e146_53, e146_54, e146_55, e146_56, e146_59, e146_60, e146_62, e146_65, e146_66, ↓reduceIte, Bool.false_eq_true, not_false_eq_true, not_true_eq_false, Nat.reduceLeDiff, Nat.reduceAdd, Nat.reduceEqDiff, Int.reduceToNat, Int.toNat_natCast, iB0, iB1, ru_klI, ru_klR, ru_klF, ru_klJ, ru_kl0, ru_cs0, ru_csI, ru_csR, ru_csF, ru_csJ, wI_add, wI_sub, wI_mul, wI_lt, wI_le, wI_inj, ru_fdE, ru_fdN, ru_iaN, ru_baN, ru_laN, ru_qaN, ru_pfN, ru_isN, ru_bsN, ru_jsN, ru_qsN, ru_set2, Nat.add_right_cancel_iff, if_true, if_false, ite_self, Int.reduceEq, and_self, Int.add_neg_cancel_right, Int.add_zero, Int.zero_add, md_e, md_f23, u0, u1, u3, u4, u5, g17, d0, d1, dm, not_true, not_false_iff]
  obtain ⟨e1, e2, e3⟩ := tkR_w ht (nmTk_13 cw)
  have kk1 : ∀ h, strs h → ru_ev z 42 [.ref 1001] (clPut h C) = some (.inl (some (.long (wdL (M.2 4)))), clPut h C) := fun h hS => by rw [c42 hS ht hb, if_pos cw, e1]
  have t1 : tkR C (kpM M 0 8) l s := kp_tk ht
  have rk := kp_pr (off := 0) hr
  obtain ⟨C2, M2, s2, l1, l2, l3, l4, l5, l6⟩ := tk_adv (z := z) t1 (by show ¬ M.1 13 = 0; rw [nmTk_13 cw]; decide) (pr_byI hb0 rk)
  have r2 := prI_tok rk l4 l5
  have h172 := r2.2.2.2.1
  have b2 := pr_byI hb0 r2
  have y2 : ∀ h, strs h → ru_ev z 68 [.ref 1315, .ref 1323, .int (wI 0)] (mdPut h M) = some (.inl none, mdPut h (kpM M 0 8)) := fun h hS => p68 (z := z) (off := 0) (by decide) hS ht h17 (fun q hq => by have := e3 q hq; omega) cw
  have y3 : ∀ h, ru_ev z 66 [.ref 1315] (mdPut h (kpM M 0 8)) = some (.inl none, mdPut h M2) := fun h => p66 (z := z) (M := kpM M 0 8) h17 (l2 h)
  have e7 : ∀ k, k < 8 → M2.2 7 (0 + k) = M.2 4 k := fun k hk => by
    rw [l5.2 7 (by decide)]; exact kp_7 k hk
  by_cases cx : nmTk M2 = true
  rotate_left
  · right
    have hm := mut_er l3 (t := 1) (by decide)
    refine ⟨_, _, fun h S hS => ?_, fun h hS => ?_, ep_of r2 l3 hn (t := 1) (by decide)⟩
    · have x := c42 (z := z) (strs_rd (nm := A + 1) (S := S) hR hS) l3 b2
      rw [if_neg cx] at x
      simp (disch := omega) only [en105, e105_0, e105_1, e105_4, e105_7, e105_8, e105_9, e105_12, e105_15, e105_16, e105_17, e105_18, e105_21, e105_24, e105_27, ↓reduceIte, Bool.false_eq_true, not_false_eq_true, not_true_eq_false, Nat.reduceLeDiff, Nat.reduceAdd, Nat.reduceEqDiff, Int.reduceToNat, Int.toNat_natCast, iB0, iB1, ru_klI, ru_klR, ru_klF, ru_klJ, ru_kl0, ru_cs0, ru_csI, ru_csR, ru_csF, ru_csJ, wI_add, wI_sub, wI_mul, wI_lt, wI_le, wI_inj, ru_fdE, ru_fdN, ru_iaN, ru_baN, ru_laN, ru_qaN, ru_pfN, ru_isN, ru_bsN, ru_jsN, ru_qsN, ru_set2, Nat.add_right_cancel_iff, if_true, if_false, ite_self, Int.reduceEq, and_self, Int.add_neg_cancel_right, Int.add_zero, Int.zero_add, rd_e hR, rd_f0 hR, cl_e1, kk1 _ (strs_rd (nm := A + 1) (S := S) hR hS), l1, x]
      rfl
    · have g17 : am_fd (mdPut h (erM M2 1)) 1315 10 17 = some (.int (wI 1)) := by rw [md_f17]; rfl
      have x := p69 (z := z) hS l3 h172
      rw [if_neg cx] at x
      have u5 := u63 (z := z) (h := h) (c := 6) hm
      simp (disch := omega) only [en146, e146_0, e146_1, e146_2, e146_5, e146_6, e146_9, e146_10, e146_13, e146_14, e146_17, e146_20, e146_21, e146_22, e146_25, e146_26, e146_29, e146_32, e146_33, e146_34, e146_37, e146_38, e146_41, e146_42, e146_45, e146_46, e146_49, e146_52, e146_53, e146_54, e146_55, e146_56, e146_59, e146_60, e146_62, e146_65, e146_66, ↓reduceIte, Bool.false_eq_true, not_false_eq_true, not_true_eq_false, Nat.reduceLeDiff, Nat.reduceAdd, Nat.reduceEqDiff, Int.reduceToNat, Int.toNat_natCast, iB0, iB1, ru_klI, ru_klR, ru_klF, ru_klJ, ru_kl0, ru_cs0, ru_csI, ru_csR, ru_csF, ru_csJ, wI_add, wI_sub, wI_mul, wI_lt, wI_le, wI_inj, ru_fdE, ru_fdN, ru_iaN, ru_baN, ru_laN, ru_qaN, ru_pfN, ru_isN, ru_bsN, ru_jsN, ru_qsN, ru_set2, Nat.add_right_cancel_iff, if_true, if_false, ite_self, Int.reduceEq, and_self, Int.add_neg_cancel_right, Int.add_zero, Int.zero_add, md_e, md_f23, y2 h hS, y3, x, f63 h172, u5, g17, d0, d1, dm, not_true, not_false_iff]
  obtain ⟨o1, o2, o3⟩ := tkR_w l3 (nmTk_13 cx)
  have kk2 : ∀ h, strs h → ru_ev z 42 [.ref 1001] (clPut h C2) = some (.inl (some (.long (wdL (M2.2 4)))), clPut h C2) := fun h hS => by rw [c42 hS l3 b2, if_pos cx, o1]
  have ltf : ltR (wF M2 7 0) := fun k hk => by
    unfold wF
    rw [e7 k hk]; exact e2.1 k hk
  have ew : wdL (M.2 4) = wdL (wF M2 7 0) := wdL_c e2.1 (fun k hk => by unfold wF; exact e7 k hk)
  obtain ⟨fd, hfd⟩ : ∃ fd, fd = fdV M0 N (wF M2 7 0) (M2.2 4) := ⟨_, rfl⟩
  have fb := fdV_b (M0 := M0) N (wF M2 7 0) (M2.2 4)
  rw [← hfd] at fb
  have N20 := hs.2.2.2.1
  have kf : ∀ h, ru_ev z 43 [.ref (A + 1), .long (wdL (M.2 4)), .long (wdL (M2.2 4))] (clPut h C2) = some (.inl (some (.int (wI fd))), clPut h C2) := fun h => by rw [ew, hfd]; exact f43 hs r2 ltf o2.1 h
  have pf : ∀ h, ru_ev z 70 [.ref 1315, .ref 1321, .int (wI N), .ref 1323, .int (wI 0)] (mdPut h M2) = some (.inl (some (.int (wI fd))), mdPut h M2) := fun h => by rw [hfd]; exact f70 hs r2 (off := 0) (by decide) ltf o2.1 h
  have g20 : ∀ h, am_fd (mdPut h M2) 1315 10 20 = some (.int (wI N)) := fun h => by rw [md_f20, r2.2.2.1.1 20 (by omega) (by decide), hs.2.2.1]
  have x69 : ∀ h, strs h → ru_ev z 69 [.ref 1315] (mdPut h M2) = some (.inl (some (.int (wI 1))), mdPut h M2) := fun h hS => by
    have x := p69 (z := z) hS l3 h172
    rw [if_pos cx] at x; exact x
  have g17 : ∀ h, am_fd (mdPut h M2) 1315 10 17 = some (.int (wI 0)) := fun h => by rw [md_f17, h172]
  have k39 : (A + 1 : Nat) = A + 1 := rfl
  have eA : ∀ h S, (clPut (rdH h R (A + 1) S) C2).1 (A + 1) = some (.inr (3, clL3 C2 (A + 1))) := fun h S => (sprF hs.1).2.2.2.2.1
  by_cases cf : fd = -1
  · right
    have df : (fd = -1) = True := eq_true cf
    refine ⟨_, _, fun h S hS => ?_, fun h hS => ?_, ep_of r2 l3 hn (t := 6) (by decide)⟩
    · have y := c36 (z := z) (h := rdH h R (A + 1) S) (C := C2) (b := 0) (Or.inl rfl) (c := 6)
      rw [if_neg (by decide)] at y
      have x99 : ru_ev z 99 [.ref R, .long (wdL (M.2 4)), .long (wdL (M2.2 4))] (clPut (rdH h R (A + 1) S) C2) = some (.inr 2, clPut (rdH (thr h) R (A + 1) S) (erC C2 6)) := by
        simp (disch := omega) only [en99, e99_0, e99_1, e99_4, e99_5, e99_6, e99_9, e99_11, e99_12, e99_15, e99_17, e99_18, e99_21, e99_22, e99_25, e99_26, e99_28, e99_31, e99_33, ↓reduceIte, Bool.false_eq_true, not_false_eq_true, not_true_eq_false, Nat.reduceLeDiff, Nat.reduceAdd, Nat.reduceEqDiff, Int.reduceToNat, Int.toNat_natCast, iB0, iB1, ru_klI, ru_klR, ru_klF, ru_klJ, ru_kl0, ru_cs0, ru_csI, ru_csR, ru_csF, ru_csJ, wI_add, wI_sub, wI_mul, wI_lt, wI_le, wI_inj, ru_fdE, ru_fdN, ru_iaN, ru_baN, ru_laN, ru_qaN, ru_pfN, ru_isN, ru_bsN, ru_jsN, ru_qsN, ru_set2, Nat.add_right_cancel_iff, if_true, if_false, ite_self, Int.reduceEq, and_self, Int.add_neg_cancel_right, Int.add_zero, Int.zero_add, rd_e hR, rd_f0 hR, rd_f1 hR, cl_e1, eA, kf, df, y, not_true, not_false_iff]
        rfl
      simp (disch := omega) only [en105, e105_0, e105_1, e105_4, e105_7, e105_8, e105_9, e105_12, e105_15, e105_16, e105_17, e105_18, e105_21, e105_24, e105_27, ↓reduceIte, Bool.false_eq_true, not_false_eq_true, not_true_eq_false, Nat.reduceLeDiff, Nat.reduceAdd, Nat.reduceEqDiff, Int.reduceToNat, Int.toNat_natCast, iB0, iB1, ru_klI, ru_klR, ru_klF, ru_klJ, ru_kl0, ru_cs0, ru_csI, ru_csR, ru_csF, ru_csJ, wI_add, wI_sub, wI_mul, wI_lt, wI_le, wI_inj, ru_fdE, ru_fdN, ru_iaN, ru_baN, ru_laN, ru_qaN, ru_pfN, ru_isN, ru_bsN, ru_jsN, ru_qsN, ru_set2, Nat.add_right_cancel_iff, if_true, if_false, ite_self, Int.reduceEq, and_self, Int.add_neg_cancel_right, Int.add_zero, Int.zero_add, rd_e hR, rd_f0 hR, cl_e1, kk1 _ (strs_rd (nm := A + 1) (S := S) hR hS), kk2 _ (strs_rd (nm := A + 1) (S := S) hR hS), l1, x99]
    · simp (disch := omega) only [en146, e146_0, e146_1, e146_2, e146_5, e146_6, e146_9, e146_10, e146_13, e146_14, e146_17, e146_20, e146_21, e146_22, e146_25, e146_26, e146_29, e146_32, e146_33, e146_34, e146_37, e146_38, e146_41, e146_42, e146_45, e146_46, e146_49, e146_52, e146_53, e146_54, e146_55, e146_56, e146_59, e146_60, e146_62, e146_65, e146_66, ↓reduceIte, Bool.false_eq_true, not_false_eq_true, not_true_eq_false, Nat.reduceLeDiff, Nat.reduceAdd, Nat.reduceEqDiff, Int.reduceToNat, Int.toNat_natCast, iB0, iB1, ru_klI, ru_klR, ru_klF, ru_klJ, ru_kl0, ru_cs0, ru_csI, ru_csR, ru_csF, ru_csJ, wI_add, wI_sub, wI_mul, wI_lt, wI_le, wI_inj, ru_fdE, ru_fdN, ru_iaN, ru_baN, ru_laN, ru_qaN, ru_pfN, ru_isN, ru_bsN, ru_jsN, ru_qsN, ru_set2, Nat.add_right_cancel_iff, if_true, if_false, ite_self, Int.reduceEq, and_self, Int.add_neg_cancel_right, Int.add_zero, Int.zero_add, md_e, md_f19, md_f23, g20, y2 h hS, y3, x69 h hS, pf, df, cf, f63 h172, g17, d0, d1, not_true, not_false_iff]
  · left
    obtain ⟨nm, hnm⟩ := Int.eq_ofNat_of_zero_le (show 0 ≤ fd by omega)
    have df : (fd = -1) = False := eq_false cf
    refine ⟨C2, M2, s2, nm, fun h S hS => ?_, fun h hS => ?_, l3, r2, by omega, by omega, nmTk_13 cx⟩
    · have y := c36 (z := z) (h := rdH h R (A + 1) S) (C := C2) (b := 1) (Or.inr rfl) (c := 6)
      rw [if_pos rfl] at y
      have x99 : ru_ev z 99 [.ref R, .long (wdL (M.2 4)), .long (wdL (M2.2 4))] (clPut (rdH h R (A + 1) S) C2) = some (.inl (some (.int (wI fd))), clPut (rdH h R (A + 1) S) C2) := by
        simp (disch := omega) only [en99, e99_0, e99_1, e99_4, e99_5, e99_6, e99_9, e99_11, e99_12, e99_15, e99_17, e99_18, e99_21, e99_22, e99_25, e99_26, e99_28, e99_31, e99_33, ↓reduceIte, Bool.false_eq_true, not_false_eq_true, not_true_eq_false, Nat.reduceLeDiff, Nat.reduceAdd, Nat.reduceEqDiff, Int.reduceToNat, Int.toNat_natCast, iB0, iB1, ru_klI, ru_klR, ru_klF, ru_klJ, ru_kl0, ru_cs0, ru_csI, ru_csR, ru_csF, ru_csJ, wI_add, wI_sub, wI_mul, wI_lt, wI_le, wI_inj, ru_fdE, ru_fdN, ru_iaN, ru_baN, ru_laN, ru_qaN, ru_pfN, ru_isN, ru_bsN, ru_jsN, ru_qsN, ru_set2, Nat.add_right_cancel_iff, if_true, if_false, ite_self, Int.reduceEq, and_self, Int.add_neg_cancel_right, Int.add_zero, Int.zero_add, rd_e hR, rd_f0 hR, rd_f1 hR, cl_e1, eA, kf, df, y, not_true, not_false_iff]
      rw [hnm] at x99
      simp (disch := omega) only [en105, e105_0, e105_1, e105_4, e105_7, e105_8, e105_9, e105_12, e105_15, e105_16, e105_17, e105_18, e105_21, e105_24, e105_27, ↓reduceIte, Bool.false_eq_true, not_false_eq_true, not_true_eq_false, Nat.reduceLeDiff, Nat.reduceAdd, Nat.reduceEqDiff, Int.reduceToNat, Int.toNat_natCast, iB0, iB1, ru_klI, ru_klR, ru_klF, ru_klJ, ru_kl0, ru_cs0, ru_csI, ru_csR, ru_csF, ru_csJ, wI_add, wI_sub, wI_mul, wI_lt, wI_le, wI_inj, ru_fdE, ru_fdN, ru_iaN, ru_baN, ru_laN, ru_qaN, ru_pfN, ru_isN, ru_bsN, ru_jsN, ru_qsN, ru_set2, Nat.add_right_cancel_iff, if_true, if_false, ite_self, Int.reduceEq, and_self, Int.add_neg_cancel_right, Int.add_zero, Int.zero_add, rd_e hR, rd_f0 hR, cl_e1, kk1 _ (strs_rd (nm := A + 1) (S := S) hR hS), kk2 _ (strs_rd (nm := A + 1) (S := S) hR hS), l1, x99]
    · simp (disch := omega) only [en146, e146_0, e146_1, e146_2, e146_5, e146_6, e146_9, e146_10, e146_13, e146_14, e146_17, e146_20, e146_21, e146_22, e146_25, e146_26, e146_29, e146_32, e146_33, e146_34, e146_37, e146_38, e146_41, e146_42, e146_45, e146_46, e146_49, e146_52, e146_53, e146_54, e146_55, e146_56, e146_59, e146_60, e146_62, e146_65, e146_66, ↓reduceIte, Bool.false_eq_true, not_false_eq_true, not_true_eq_false, Nat.reduceLeDiff, Nat.reduceAdd, Nat.reduceEqDiff, Int.reduceToNat, Int.toNat_natCast, iB0, iB1, ru_klI, ru_klR, ru_klF, ru_klJ, ru_kl0, ru_cs0, ru_csI, ru_csR, ru_csF, ru_csJ, wI_add, wI_sub, wI_mul, wI_lt, wI_le, wI_inj, ru_fdE, ru_fdN, ru_iaN, ru_baN, ru_laN, ru_qaN, ru_pfN, ru_isN, ru_bsN, ru_jsN, ru_qsN, ru_set2, Nat.add_right_cancel_iff, if_true, if_false, ite_self, Int.reduceEq, and_self, Int.add_neg_cancel_right, Int.add_zero, Int.zero_add, md_e, md_f19, md_f23, g20, y2 h hS, y3, x69 h hS, pf, df, g17, d0, d1, not_true, not_false_iff]
      rw [hnm]
end FUL
