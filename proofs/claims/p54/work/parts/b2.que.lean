/-! ===== phrases: who comes next; the class's queue ===== -/
def nxT (M0 : tMd) (n : Nat) (row : Int) : Nat := if row = -1 then cnB (shS (mph M0 n)) 12 else (M0.2 13 row.toNat).toNat
def sqV (M0 : tMd) (n : Nat) (row : Int) (j : Nat) : Int := if row = -1 then fnF (fun k => shw (mph M0 n) k && decide (rkN (shS (mph M0 n)) (kyO (shX (mph M0 n)) (shY (mph M0 n))) k = j)) ((mph M0 n).1 7).toNat 0 else nbV M0 n row j
def nxV (M0 : tMd) (n : Nat) (row isL : Int) (t : Nat) : Int := if nxT M0 n row ≤ t then -1 else sqV M0 n row (if isL = 1 then t else nxT M0 n row - 1 - t)
section QUE
variable {z : Bool} {M M0 : tMd} {C C0 : tCl} {n l s A N R nm : Nat} {gv rc : Int}
theorem nxT_12 (hp : prR n C0 M0 rc) {row : Int} (hr : row = -1 ∨ (0 ≤ row ∧ row < rc)) : nxT M0 n row ≤ 12 ∧ rc ≤ 12 ∧ (¬ row = -1 → M0.2 13 row.toNat = (nxT M0 n row : Nat)) := by
  have l1 := hp.2.1
  have rr := rwOK_rc l1.1
  unfold nxT
  by_cases c : row = -1
  · rw [if_pos c]
    exact ⟨cnB_le _ _, rr.2.2.1, fun h => absurd c h⟩
  · rw [if_neg c]
    have e3 := l1.2.2 row.toNat (by omega)
    have c12 : rlN (shS (mph M0 n)) (M0.2 11) ((row.toNat : Nat) : Int) ≤ 12 := cnB_le _ _
    exact ⟨by omega, rr.2.2.1, fun _ => by omega⟩
/-- whoever comes next is in the picture -/
theorem sq_sh (hp : prR n C0 M0 rc) {row : Int} (hr : row = -1 ∨ (0 ≤ row ∧ row < rc)) {j : Nat} (hj : j < nxT M0 n row) : ∃ k : Nat, sqV M0 n row j = (k : Int) ∧ shS (mph M0 n) k = true := by
  obtain ⟨t1, t2, t3⟩ := nxT_12 hp hr
  by_cases c : row = -1
  · obtain ⟨np, eo, er, h0, hx, w1, w2, -⟩ := hp.1
    have e : sqV M0 n row j = fnF (fun k => shw (mph M0 n) k && decide (rkN (shS (mph M0 n)) (kyO (shX (mph M0 n)) (shY (mph M0 n))) k = j)) ((mph M0 n).1 7).toNat 0 := if_pos c
    have en := enO_n w1
    rw [shS_eq hp.2.2.2.2.2] at en
    have jn : j < np := by
      have : nxT M0 n row = cnB (shS (mph M0 n)) 12 := if_pos c
      omega
    refine ⟨eo j, ?_, ?_⟩
    · rw [e]
      exact en_lk hp.2.2.2.2.2 hp.2.2.2.2.1 (fun k hk hs => by unfold kyO; rw [pheq_shX hp.2.2.2.2.2 (shS_lt hs), pheq_shY hp.2.2.2.2.2 (shS_lt hs)]) w1 jn
    · rw [← shS_eq hp.2.2.2.2.2]; exact (w1.1 j jn).2
  · have e : sqV M0 n row j = nbV M0 n row j := if_neg c
    rw [e]
    obtain ⟨l1, l2, l3, l4, l5⟩ := pl_link hp.1 hp.2.1 hp.2.2.2.2.2 hp.2.2.2.1 hp.2.2.2.2.1
    obtain ⟨r, rfl⟩ := Int.eq_ofNat_of_zero_le (show 0 ≤ row by omega)
    have t3 := t3 c
    rw [Int.toNat_natCast] at t3
    obtain ⟨k', w1, w2, w3, w4, w5⟩ := l5 r j (by omega) (by omega)
    exact ⟨k', w5, by rw [← shS_eq hp.2.2.2.2.2]; exact w2⟩
theorem p133 (hn : n < 5) (hr : prI n C0 M0 C M gv) (hp : prR n C0 M0 rc) {row isL : Int} (hrow : row = -1 ∨ (0 ≤ row ∧ row < rc)) (hL : isL = 0 ∨ isL = 1) {t : Nat} (ht : t ≤ 100) {h : am_H} : ru_ev z 133 [.ref 1315, .int (wI n), .int (wI row), .int (wI isL), .int (wI t)] (mdPut h M) = some (.inl (some (.int (wI (nxV M0 n row isL t)))), mdPut h M) := by
  obtain ⟨t1, t2, t3⟩ := nxT_12 hp hrow
  obtain ⟨a1, a2, a3, a4, a5, a6, a7, a8, a9, b1, b2, b3, b4⟩ := id hr
  have hqM := a6.2.2.2.2.2.2 n hn
  obtain ⟨sh1, sh2, sh3, sh4⟩ := ps_sh b2
  have e7 := b2.1 7 (by decide)
  obtain ⟨m, hm⟩ := Int.eq_ofNat_of_zero_le (phR_s hqM).2.2.2.2.2.2.2.1
  -- what the picture gives at a place
  have pl : ∀ j : Nat, j < 12 → row = -1 → ru_ev z 134 [.ref 1315, .int (wI n), .int (wI j)] (mdPut h M) = some (.inl (some (.int (wI (sqV M0 n row j)))), mdPut h M) := fun j hj c => by
    have k := p134 (z := z) (h := h) (M := M) hn hqM hm hj
    rw [sh1, sh2, sh3, sh4] at k
    have e : sqV M0 n row j = fnF (fun k => shw (mph M0 n) k && decide (rkN (shS (mph M0 n)) (kyO (shX (mph M0 n)) (shY (mph M0 n))) k = j)) ((mph M0 n).1 7).toNat 0 := if_pos c
    rw [e, ← e7, hm, Int.toNat_natCast]
    exact k
  have pr : ∀ j : Nat, j < 12 → ¬ row = -1 → ru_ev z 137 [.ref 1315, .int (wI n), .int (wI row), .int (wI j)] (mdPut h M) = some (.inl (some (.int (wI (sqV M0 n row j)))), mdPut h M) := fun j hj c => by
    have e : sqV M0 n row j = nbV M0 n row j := if_neg c
    rw [e]
    exact nb_137 hn hr hp (by omega) (by omega)
  have dL1 : ((1 : Int) = 0) = False := eq_false (by decide)
  have dL0 : ((0 : Int) = 0) = True := eq_true rfl
  by_cases c : row = -1
  · have d1 : (row = -1) = True := eq_true c
    obtain ⟨c1, c2⟩ := p_cnt (z := z) (h := h) (M := M) hn hqM
    rw [sh4] at c2
    have eT : nxT M0 n row = cnB (shS (mph M0 n)) 12 := if_pos c
    have c2 := c2 (mdPut h M)
    rw [← eT] at c2
    by_cases c3 : nxT M0 n row ≤ t
    · have v : nxV M0 n row isL t = -1 := if_pos c3
      have d2 : ((t : Int) < (nxT M0 n row : Nat)) = False := eq_false (by omega)
      rw [v]
      simp (disch := omega) only [en133, e133_0, e133_1, e133_2, e133_5, e133_6, e133_7, e133_10, e133_13, e133_16, e133_17, e133_20, e133_21, e133_22, e133_24, e133_26, e133_28, e133_31, e133_32, e133_33, e133_34, e133_37, e133_39, e133_42, e133_44, e133_45, e133_46, e133_48, e133_49, e133_51, e133_52, e133_53, e133_56, e133_57, e133_58, e133_60, e133_63, e133_66, e133_67, e133_68, e133_69, e133_71, e133_74, ↓reduceIte, Bool.false_eq_true, not_false_eq_true, not_true_eq_false, Nat.reduceLeDiff, Nat.reduceAdd, Nat.reduceEqDiff, Int.reduceToNat, Int.toNat_natCast, iB0, iB1, ru_klI, ru_klR, ru_klF, ru_klJ, ru_kl0, ru_cs0, ru_csI, ru_csR, ru_csF, ru_csJ, wI_add, wI_sub, wI_mul, wI_lt, wI_le, wI_inj, ru_fdE, ru_fdN, ru_iaN, ru_baN, ru_laN, ru_qaN, ru_pfN, ru_isN, ru_bsN, ru_jsN, ru_qsN, ru_set2, Nat.add_right_cancel_iff, if_true, if_false, ite_self, Int.reduceEq, and_self, Int.add_neg_cancel_right, Int.add_zero, Int.zero_add, md_e, d1, c1, c2, d2, not_true, not_false_iff]
    · have d2 : ((t : Int) < (nxT M0 n row : Nat)) = True := eq_true (by omega)
      rcases hL with rfl | rfl
      · have v : nxV M0 n row 0 t = sqV M0 n row (nxT M0 n row - 1 - t) := (if_neg c3).trans (by rw [if_neg (by decide)])
        have y := pl (nxT M0 n row - 1 - t) (by omega) c
        rw [show ((nxT M0 n row - 1 - t : Nat) : Int) = (nxT M0 n row : Int) - 1 - (t : Int) by omega] at y
        rw [v]
        simp (disch := omega) only [en133, e133_0, e133_1, e133_2, e133_5, e133_6, e133_7, e133_10, e133_13, e133_16, e133_17, e133_20, e133_21, e133_22, e133_24, e133_26, e133_28, e133_31, e133_32, e133_33, e133_34, e133_37, e133_39, e133_42, e133_44, e133_45, e133_46, e133_48, e133_49, e133_51, e133_52, e133_53, e133_56, e133_57, e133_58, e133_60, e133_63, e133_66, e133_67, e133_68, e133_69, e133_71, e133_74, ↓reduceIte, Bool.false_eq_true, not_false_eq_true, not_true_eq_false, Nat.reduceLeDiff, Nat.reduceAdd, Nat.reduceEqDiff, Int.reduceToNat, Int.toNat_natCast, iB0, iB1, ru_klI, ru_klR, ru_klF, ru_klJ, ru_kl0, ru_cs0, ru_csI, ru_csR, ru_csF, ru_csJ, wI_add, wI_sub, wI_mul, wI_lt, wI_le, wI_inj, ru_fdE, ru_fdN, ru_iaN, ru_baN, ru_laN, ru_qaN, ru_pfN, ru_isN, ru_bsN, ru_jsN, ru_qsN, ru_set2, Nat.add_right_cancel_iff, if_true, if_false, ite_self, Int.reduceEq, and_self, Int.add_neg_cancel_right, Int.add_zero, Int.zero_add, md_e, d1, c1, c2, d2, dL0, y, not_true, not_false_iff]
      · have v : nxV M0 n row 1 t = sqV M0 n row t := (if_neg c3).trans (by rw [if_pos rfl])
        have y := pl t (by omega) c
        rw [v]
        simp (disch := omega) only [en133, e133_0, e133_1, e133_2, e133_5, e133_6, e133_7, e133_10, e133_13, e133_16, e133_17, e133_20, e133_21, e133_22, e133_24, e133_26, e133_28, e133_31, e133_32, e133_33, e133_34, e133_37, e133_39, e133_42, e133_44, e133_45, e133_46, e133_48, e133_49, e133_51, e133_52, e133_53, e133_56, e133_57, e133_58, e133_60, e133_63, e133_66, e133_67, e133_68, e133_69, e133_71, e133_74, ↓reduceIte, Bool.false_eq_true, not_false_eq_true, not_true_eq_false, Nat.reduceLeDiff, Nat.reduceAdd, Nat.reduceEqDiff, Int.reduceToNat, Int.toNat_natCast, iB0, iB1, ru_klI, ru_klR, ru_klF, ru_klJ, ru_kl0, ru_cs0, ru_csI, ru_csR, ru_csF, ru_csJ, wI_add, wI_sub, wI_mul, wI_lt, wI_le, wI_inj, ru_fdE, ru_fdN, ru_iaN, ru_baN, ru_laN, ru_qaN, ru_pfN, ru_isN, ru_bsN, ru_jsN, ru_qsN, ru_set2, Nat.add_right_cancel_iff, if_true, if_false, ite_self, Int.reduceEq, and_self, Int.add_neg_cancel_right, Int.add_zero, Int.zero_add, md_e, d1, c1, c2, d2, dL1, y, not_true, not_false_iff]
  · have d1 : (row = -1) = False := eq_false c
    have x := md_a13 (h := h) (M := M) (i := row) (by omega) (by omega)
    rw [a3.2 13 (by decide) (by decide) (by decide), t3 c] at x
    by_cases c3 : nxT M0 n row ≤ t
    · have v : nxV M0 n row isL t = -1 := if_pos c3
      have d2 : ((t : Int) < (nxT M0 n row : Nat)) = False := eq_false (by omega)
      rw [v]
      simp (disch := omega) only [en133, e133_0, e133_1, e133_2, e133_5, e133_6, e133_7, e133_10, e133_13, e133_16, e133_17, e133_20, e133_21, e133_22, e133_24, e133_26, e133_28, e133_31, e133_32, e133_33, e133_34, e133_37, e133_39, e133_42, e133_44, e133_45, e133_46, e133_48, e133_49, e133_51, e133_52, e133_53, e133_56, e133_57, e133_58, e133_60, e133_63, e133_66, e133_67, e133_68, e133_69, e133_71, e133_74, ↓reduceIte, Bool.false_eq_true, not_false_eq_true, not_true_eq_false, Nat.reduceLeDiff, Nat.reduceAdd, Nat.reduceEqDiff, Int.reduceToNat, Int.toNat_natCast, iB0, iB1, ru_klI, ru_klR, ru_klF, ru_klJ, ru_kl0, ru_cs0, ru_csI, ru_csR, ru_csF, ru_csJ, wI_add, wI_sub, wI_mul, wI_lt, wI_le, wI_inj, ru_fdE, ru_fdN, ru_iaN, ru_baN, ru_laN, ru_qaN, ru_pfN, ru_isN, ru_bsN, ru_jsN, ru_qsN, ru_set2, Nat.add_right_cancel_iff, if_true, if_false, ite_self, Int.reduceEq, and_self, Int.add_neg_cancel_right, Int.add_zero, Int.zero_add, md_e, md_f33, d1, x, d2, not_true, not_false_iff]
    · have d2 : ((t : Int) < (nxT M0 n row : Nat)) = True := eq_true (by omega)
      rcases hL with rfl | rfl
      · have v : nxV M0 n row 0 t = sqV M0 n row (nxT M0 n row - 1 - t) := (if_neg c3).trans (by rw [if_neg (by decide)])
        have y := pr (nxT M0 n row - 1 - t) (by omega) c
        rw [show ((nxT M0 n row - 1 - t : Nat) : Int) = (nxT M0 n row : Int) - 1 - (t : Int) by omega] at y
        rw [v]
        simp (disch := omega) only [en133, e133_0, e133_1, e133_2, e133_5, e133_6, e133_7, e133_10, e133_13, e133_16, e133_17, e133_20, e133_21, e133_22, e133_24, e133_26, e133_28, e133_31, e133_32, e133_33, e133_34, e133_37, e133_39, e133_42, e133_44, e133_45, e133_46, e133_48, e133_49, e133_51, e133_52, e133_53, e133_56, e133_57, e133_58, e133_60, e133_63, e133_66, e133_67, e133_68, e133_69, e133_71, e133_74, ↓reduceIte, Bool.false_eq_true, not_false_eq_true, not_true_eq_false, Nat.reduceLeDiff, Nat.reduceAdd, Nat.reduceEqDiff, Int.reduceToNat, Int.toNat_natCast, iB0, iB1, ru_klI, ru_klR, ru_klF, ru_klJ, ru_kl0, ru_cs0, ru_csI, ru_csR, ru_csF, ru_csJ, wI_add, wI_sub, wI_mul, wI_lt, wI_le, wI_inj, ru_fdE, ru_fdN, ru_iaN, ru_baN, ru_laN, ru_qaN, ru_pfN, ru_isN, ru_bsN, ru_jsN, ru_qsN, ru_set2, Nat.add_right_cancel_iff, if_true, if_false, ite_self, Int.reduceEq, and_self, Int.add_neg_cancel_right, Int.add_zero, Int.zero_add, md_e, md_f33, d1, x, d2, dL0, y, not_true, not_false_iff]
      · have v : nxV M0 n row 1 t = sqV M0 n row t := (if_neg c3).trans (by rw [if_pos rfl])
        have y := pr t (by omega) c
        rw [v]
        simp (disch := omega) only [en133, e133_0, e133_1, e133_2, e133_5, e133_6, e133_7, e133_10, e133_13, e133_16, e133_17, e133_20, e133_21, e133_22, e133_24, e133_26, e133_28, e133_31, e133_32, e133_33, e133_34, e133_37, e133_39, e133_42, e133_44, e133_45, e133_46, e133_48, e133_49, e133_51, e133_52, e133_53, e133_56, e133_57, e133_58, e133_60, e133_63, e133_66, e133_67, e133_68, e133_69, e133_71, e133_74, ↓reduceIte, Bool.false_eq_true, not_false_eq_true, not_true_eq_false, Nat.reduceLeDiff, Nat.reduceAdd, Nat.reduceEqDiff, Int.reduceToNat, Int.toNat_natCast, iB0, iB1, ru_klI, ru_klR, ru_klF, ru_klJ, ru_kl0, ru_cs0, ru_csI, ru_csR, ru_csF, ru_csJ, wI_add, wI_sub, wI_mul, wI_lt, wI_le, wI_inj, ru_fdE, ru_fdN, ru_iaN, ru_baN, ru_laN, ru_qaN, ru_pfN, ru_isN, ru_bsN, ru_jsN, ru_qsN, ru_set2, Nat.add_right_cancel_iff, if_true, if_false, ite_self, Int.reduceEq, and_self, Int.add_neg_cancel_right, Int.add_zero, Int.zero_add, md_e, md_f33, d1, x, d2, dL1, y, not_true, not_false_iff]
/-- the class's queue filled -/
theorem c92l (hR : 1315 ≤ R) {H : am_H} {row : Int} {T : Nat} (hT : T ≤ 12) {v : Nat → Int} {g c : Int} {F : Nat → Int64} (h94 : ∀ S i, i < T → ru_ev z 94 [.ref 1070, .int (wI row), .int (wI ((i : Nat) : Int))] (clPut (rdH H R nm S) C) = some (.inl (some (.int (wI (v i)))), clPut (rdH H R nm S) C)) : ∀ d i : Nat, i + d = T → ∀ Q : Nat → Int, (∀ j, j < i → Q j = v j) → ∃ Q' : Nat → Int, (∀ j, j < T → Q' j = v j) ∧
    ru_n z 92 39 [some (.ref R), some (.int (wI row)), some (.int (wI i))] [] (clPut (rdH H R nm (g, (T : Int), c, Q, F)) C) = some (.inl none, clPut (rdH H R nm (g, (T : Int), c, Q', F)) C) := by
  have fP : ∀ S, (clPut (rdH H R nm S) C).1 1070 = some (.inr (4, clL4 C 1070)) := fun S => clP4 (by decide +kernel) (by decide)
  have g6 : ∀ Q, am_fd (clPut (rdH H R nm (g, (T : Int), c, Q, F)) C) R 8 6 = some (.int (wI (T : Int))) := fun Q => rd_f6 hR
  intro d
  induction d with
  | zero =>
    intro i hi Q hQ
    obtain rfl : i = T := by omega
    refine ⟨Q, hQ, ?_⟩
    simp (disch := omega) only [e92_39, e92_40, e92_41, e92_44, e92_68, ↓reduceIte, Bool.false_eq_true, not_false_eq_true, not_true_eq_false, Nat.reduceLeDiff, Nat.reduceAdd, Nat.reduceEqDiff, Int.reduceToNat, Int.toNat_natCast, iB0, iB1, ru_klI, ru_klR, ru_klF, ru_klJ, ru_kl0, ru_cs0, ru_csI, ru_csR, ru_csF, ru_csJ, wI_add, wI_sub, wI_mul, wI_lt, wI_le, wI_inj, ru_fdE, ru_fdN, ru_iaN, ru_baN, ru_laN, ru_qaN, ru_pfN, ru_isN, ru_bsN, ru_jsN, ru_qsN, ru_set2, Nat.add_right_cancel_iff, if_true, if_false, ite_self, Int.reduceEq, and_self, Int.add_neg_cancel_right, Int.add_zero, Int.zero_add, rd_e hR, g6, Int.le_refl]
  | succ d ih =>
    intro i hi Q hQ
    have cc : ((T : Int) ≤ (i : Int)) = False := eq_false (by omega)
    have w := rd_w (h := H) (C := C) (nm := nm) (S := (g, (T : Int), c, Q, F)) hR (i := (i : Int)) (v := v i) (by omega) (by omega)
    dsimp only at w
    rw [Int.toNat_natCast] at w
    obtain ⟨Q', q1, q2⟩ := ih (i + 1) (by omega) (up1 Q i (v i)) (fun j hj => by
      by_cases e : j = i
      · rw [e, up1_e]
      · rw [up1_n e]; exact hQ j (by omega))
    simp only [Int.natCast_add, Int.natCast_one] at q2
    refine ⟨Q', q1, ?_⟩
    have x := h94 (g, (T : Int), c, Q, F) i (by omega)
    rw [e92_39]
    simp (disch := omega) only [e92_40, e92_41, e92_44, e92_47, e92_48, e92_51, e92_52, e92_53, e92_56, e92_57, e92_58, e92_61, e92_62, e92_65, ↓reduceIte, Bool.false_eq_true, not_false_eq_true, not_true_eq_false, Nat.reduceLeDiff, Nat.reduceAdd, Nat.reduceEqDiff, Int.reduceToNat, Int.toNat_natCast, iB0, iB1, ru_klI, ru_klR, ru_klF, ru_klJ, ru_kl0, ru_cs0, ru_csI, ru_csR, ru_csF, ru_csJ, wI_add, wI_sub, wI_mul, wI_lt, wI_le, wI_inj, ru_fdE, ru_fdN, ru_iaN, ru_baN, ru_laN, ru_qaN, ru_pfN, ru_isN, ru_bsN, ru_jsN, ru_qsN, ru_set2, Nat.add_right_cancel_iff, if_true, if_false, ite_self, Int.reduceEq, and_self, Int.add_neg_cancel_right, Int.add_zero, Int.zero_add, rd_e hR, g6, rd_f3 hR, rd_f5 hR, fP, cc, x, w]
    exact q2
theorem c102l (hR : 1315 ≤ R) {H : am_H} {T : Nat} (hT : T ≤ 12) {v : Nat → Int} {g c : Int} {F : Nat → Int64} (hv : ∀ i, i < T → C.2.1 1073 i = v i) : ∀ d i : Nat, i + d = T → ∀ Q : Nat → Int, (∀ j, j < i → Q j = v j) → ∃ Q' : Nat → Int, (∀ j, j < T → Q' j = v j) ∧
    ru_n z 102 20 [some (.ref R), some (.int (wI i))] [] (clPut (rdH H R nm (g, (T : Int), c, Q, F)) C) = some (.inl none, clPut (rdH H R nm (g, (T : Int), c, Q', F)) C) := by
  have g6 : ∀ Q, am_fd (clPut (rdH H R nm (g, (T : Int), c, Q, F)) C) R 8 6 = some (.int (wI (T : Int))) := fun Q => rd_f6 hR
  have g4 : ∀ S, am_fd (clPut (rdH H R nm S) C) 1070 4 4 = some (.ref 1073) := fun S => cl_f4_4 (by decide +kernel) (by decide)
  intro d
  induction d with
  | zero =>
    intro i hi Q hQ
    obtain rfl : i = T := by omega
    refine ⟨Q, hQ, ?_⟩
    simp (disch := omega) only [e102_20, e102_21, e102_22, e102_25, e102_49, ↓reduceIte, Bool.false_eq_true, not_false_eq_true, not_true_eq_false, Nat.reduceLeDiff, Nat.reduceAdd, Nat.reduceEqDiff, Int.reduceToNat, Int.toNat_natCast, iB0, iB1, ru_klI, ru_klR, ru_klF, ru_klJ, ru_kl0, ru_cs0, ru_csI, ru_csR, ru_csF, ru_csJ, wI_add, wI_sub, wI_mul, wI_lt, wI_le, wI_inj, ru_fdE, ru_fdN, ru_iaN, ru_baN, ru_laN, ru_qaN, ru_pfN, ru_isN, ru_bsN, ru_jsN, ru_qsN, ru_set2, Nat.add_right_cancel_iff, if_true, if_false, ite_self, Int.reduceEq, and_self, Int.add_neg_cancel_right, Int.add_zero, Int.zero_add, rd_e hR, g6, Int.le_refl]
  | succ d ih =>
    intro i hi Q hQ
    have cc : ((T : Int) ≤ (i : Int)) = False := eq_false (by omega)
    have w := rd_w (h := H) (C := C) (nm := nm) (S := (g, (T : Int), c, Q, F)) hR (i := (i : Int)) (v := v i) (by omega) (by omega)
    dsimp only at w
    rw [Int.toNat_natCast] at w
    have a := cl_a (h := rdH H R nm (g, (T : Int), c, Q, F)) (C := C) (q := 1073) (by decide +kernel) (by decide) (i := (i : Int)) (by omega) (by rw [show cln 1073 = 12 by decide +kernel]; omega) (by omega)
    rw [Int.toNat_natCast, hv i (by omega)] at a
    obtain ⟨Q', q1, q2⟩ := ih (i + 1) (by omega) (up1 Q i (v i)) (fun j hj => by
      by_cases e : j = i
      · rw [e, up1_e]
      · rw [up1_n e]; exact hQ j (by omega))
    simp only [Int.natCast_add, Int.natCast_one] at q2
    refine ⟨Q', q1, ?_⟩
    rw [e102_20]
    simp (disch := omega) only [e102_22, e102_25, e102_28, e102_29, e102_32, e102_33, e102_34, e102_37, e102_40, e102_41, e102_42, e102_43, e102_46, e102_21, ↓reduceIte, Bool.false_eq_true, not_false_eq_true, not_true_eq_false, Nat.reduceLeDiff, Nat.reduceAdd, Nat.reduceEqDiff, Int.reduceToNat, Int.toNat_natCast, iB0, iB1, ru_klI, ru_klR, ru_klF, ru_klJ, ru_kl0, ru_cs0, ru_csI, ru_csR, ru_csF, ru_csJ, wI_add, wI_sub, wI_mul, wI_lt, wI_le, wI_inj, ru_fdE, ru_fdN, ru_iaN, ru_baN, ru_laN, ru_qaN, ru_pfN, ru_isN, ru_bsN, ru_jsN, ru_qsN, ru_set2, Nat.add_right_cancel_iff, if_true, if_false, ite_self, Int.reduceEq, and_self, Int.add_neg_cancel_right, Int.add_zero, Int.zero_add, rd_e hR, g6, g4, rd_f3 hR, rd_f5 hR, cc, a, w]
    exact q2
/-- the class's queue turned -/
theorem c97l (hR : 1315 ≤ R) {H : am_H} {T : Nat} (hT : T ≤ 12) {v : Nat → Int} {g c : Int} {F : Nat → Int64} : ∀ d i : Nat, i + d = T / 2 → ∀ (Q : Nat → Int) (l2 : Option Value), (∀ j, j < T → Q j = if j < i ∨ T ≤ j + i then v (T - 1 - j) else v j) → ∃ Q' : Nat → Int, (∀ j, j < T → Q' j = v (T - 1 - j)) ∧
    ru_n z 97 2 [some (.ref R), some (.int (wI i)), l2] [] (clPut (rdH H R nm (g, (T : Int), c, Q, F)) C) = some (.inl none, clPut (rdH H R nm (g, (T : Int), c, Q', F)) C) := by
  have g6 : ∀ Q, am_fd (clPut (rdH H R nm (g, (T : Int), c, Q, F)) C) R 8 6 = some (.int (wI (T : Int))) := fun Q => rd_f6 hR
  have dz : (wI 2 = 0) = False := eq_false (by decide)
  have dd : wI (T : Int) / wI 2 = wI ((T / 2 : Nat) : Int) := by
    rw [wI_div (by omega) (by omega) (by decide) (by decide)]
    exact congrArg wI (by omega)
  intro d
  induction d with
  | zero =>
    intro i hi Q l2 hQ
    have e : i = T / 2 := by omega
    refine ⟨Q, fun j hj => ?_, ?_⟩
    · rw [hQ j hj]
      by_cases c1 : j < i ∨ T ≤ j + i
      · rw [if_pos c1]
      · rw [if_neg c1, show T - 1 - j = j by omega]
    · have cc : (((T / 2 : Nat) : Int) ≤ (i : Int)) = True := eq_true (by omega)
      simp (disch := omega) only [e97_2, e97_3, e97_4, e97_7, e97_8, e97_9, e97_58, ↓reduceIte, Bool.false_eq_true, not_false_eq_true, not_true_eq_false, Nat.reduceLeDiff, Nat.reduceAdd, Nat.reduceEqDiff, Int.reduceToNat, Int.toNat_natCast, iB0, iB1, ru_klI, ru_klR, ru_klF, ru_klJ, ru_kl0, ru_cs0, ru_csI, ru_csR, ru_csF, ru_csJ, wI_add, wI_sub, wI_mul, wI_lt, wI_le, wI_inj, ru_fdE, ru_fdN, ru_iaN, ru_baN, ru_laN, ru_qaN, ru_pfN, ru_isN, ru_bsN, ru_jsN, ru_qsN, ru_set2, Nat.add_right_cancel_iff, if_true, if_false, ite_self, Int.reduceEq, and_self, Int.add_neg_cancel_right, Int.add_zero, Int.zero_add, rd_e hR, g6, dz, dd, cc]
  | succ d ih =>
    intro i hi Q l2 hQ
    have cc : (((T / 2 : Nat) : Int) ≤ (i : Int)) = False := eq_false (by omega)
    have r1 := rd_q (h := H) (C := C) (nm := nm) (S := (g, (T : Int), c, Q, F)) hR (i := (i : Int)) (by omega) (by omega)
    have r2 := rd_q (h := H) (C := C) (nm := nm) (S := (g, (T : Int), c, Q, F)) hR (i := (T : Int) - 1 - (i : Int)) (by omega) (by omega)
    have w1 := rd_w (h := H) (C := C) (nm := nm) (S := (g, (T : Int), c, Q, F)) hR (i := (i : Int)) (v := Q (T - 1 - i)) (by omega) (by omega)
    have w2 := rd_w (h := H) (C := C) (nm := nm) (S := (g, (T : Int), c, up1 Q i (Q (T - 1 - i)), F)) hR (i := (T : Int) - 1 - (i : Int)) (v := Q i) (by omega) (by omega)
    dsimp only at r1 r2 w1 w2
    rw [Int.toNat_natCast] at r1 w1
    rw [show ((T : Int) - 1 - (i : Int)).toNat = T - 1 - i by omega] at r2 w2
    obtain ⟨Q', q1, q2⟩ := ih (i + 1) (by omega) (up1 (up1 Q i (Q (T - 1 - i))) (T - 1 - i) (Q i)) (some (.int (wI (Q i)))) (fun j hj => by
      by_cases e1 : j = T - 1 - i
      · rw [e1, up1_e, if_pos (by omega), hQ i (by omega), if_neg (by omega), show T - 1 - (T - 1 - i) = i by omega]
      · rw [up1_n e1]
        by_cases e2 : j = i
        · rw [e2, up1_e, if_pos (by omega), hQ (T - 1 - i) (by omega), if_neg (by omega)]
        · rw [up1_n e2, hQ j hj]
          by_cases e3 : j < i ∨ T ≤ j + i
          · rw [if_pos e3, if_pos (by omega)]
          · rw [if_neg e3, if_neg (by omega)])
    simp only [Int.natCast_add, Int.natCast_one] at q2
    refine ⟨Q', q1, ?_⟩
    rw [e97_2]
    simp (disch := omega) only [e97_3, e97_4, e97_7, e97_8, e97_9, e97_12, e97_13, e97_16, e97_17, e97_18, e97_19, e97_20, e97_23, e97_24, e97_25, e97_28, e97_29, e97_32, e97_33, e97_34, e97_35, e97_36, e97_37, e97_38, e97_39, e97_42, e97_43, e97_46, e97_47, e97_48, e97_49, e97_50, e97_51, e97_52, e97_55, ↓reduceIte, Bool.false_eq_true, not_false_eq_true, not_true_eq_false, Nat.reduceLeDiff, Nat.reduceAdd, Nat.reduceEqDiff, Int.reduceToNat, Int.toNat_natCast, iB0, iB1, ru_klI, ru_klR, ru_klF, ru_klJ, ru_kl0, ru_cs0, ru_csI, ru_csR, ru_csF, ru_csJ, wI_add, wI_sub, wI_mul, wI_lt, wI_le, wI_inj, ru_fdE, ru_fdN, ru_iaN, ru_baN, ru_laN, ru_qaN, ru_pfN, ru_isN, ru_bsN, ru_jsN, ru_qsN, ru_set2, Nat.add_right_cancel_iff, if_true, if_false, ite_self, Int.reduceEq, and_self, Int.add_neg_cancel_right, Int.add_zero, Int.zero_add, rd_e hR, g6, rd_f5 hR, dz, dd, cc, r1, r2, w1, w2]
    exact q2
end QUE
