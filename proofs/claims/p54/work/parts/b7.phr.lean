/-! ===== phrases: a phrase ===== -/
section PHR
variable {z : Bool} {M M0 : tMd} {C C0 : tCl} {n l s A N R nm : Nat} {gv rc : Int}
/-- the class's queue of a row -/
theorem c92 (hR : 1315 ≤ R) {H : am_H} (hp : prR n C0 M0 rc) {g c : Int} {T0 : Int} {Q : Nat → Int} {F : Nat → Int64} {C1 C2 : tCl} {r : Nat} (hk1 : ∀ h, ru_ev z 20 [.ref 1001] (clPut h C) = some (.inl none, clPut h C1)) (e1 : C1.1 1070 1 = rc) (hk2 : ∀ h, ru_ev z 37 [.ref 1001, .int (wI 0), .int (wI (rc - 1))] (clPut h C1) = some (.inl (some (.int (wI (r : Int)))), clPut h C2)) (hr : prI n C0 M0 C2 M gv) (hrc : (r : Int) < rc) : ∃ Q' : Nat → Int, (∀ j, j < nxT M0 n (r : Int) → Q' j = sqV M0 n (r : Int) j) ∧ ru_ev z 92 [.ref R] (clPut (rdH H R (A + 1) (g, T0, c, Q, F)) C) = some (.inl none, clPut (rdH H R (A + 1) (g, ((nxT M0 n (r : Int) : Nat) : Int), c, Q', F)) C2) := by
  have hrow : (r : Int) = -1 ∨ (0 ≤ (r : Int) ∧ (r : Int) < rc) := Or.inr ⟨by omega, hrc⟩
  obtain ⟨T12, rc12, t3⟩ := nxT_12 hp hrow
  have t3 := t3 (by omega)
  rw [Int.toNat_natCast] at t3
  have hP : isPi 1070 := Or.inl rfl
  have hpi := pr_pi hr hp
  obtain ⟨l1, l2, l3, l4, l5⟩ := pl_link hpi hp.2.1 hp.2.2.2.2.2 hp.2.2.2.1 hp.2.2.2.2.1
  obtain ⟨p, hpp⟩ : ∃ p, p = piGet C2 1070 := ⟨_, rfl⟩
  rw [← hpp] at hpi l1 l2 l3 l4 l5
  have eC : piPut C2 1070 p = C2 := by rw [hpp]; exact piPut_get C2 1070
  have hrs := piOK_rs hpi (r := r) (by omega)
  have h94 : ∀ S i, i < nxT M0 n (r : Int) → ru_ev z 94 [.ref 1070, .int (wI (r : Int)), .int (wI ((i : Nat) : Int))] (clPut (rdH H R (A + 1) S) C2) = some (.inl (some (.int (wI (sqV M0 n (r : Int) i)))), clPut (rdH H R (A + 1) S) C2) := fun S i hi => by
    obtain ⟨k', w1, w2, w3, w4, w5⟩ := l5 r i (by omega) (by omega)
    have y := l4 r (by omega)
    have z1 := hrs.1
    have z2 := hrs.2.1
    have z3 := hrs.2.2
    have kk := k94 (z := z) (h := rdH H R (A + 1) S) (C := C2) hP (p := p) (r := r) (j := (i : Int)) (by omega) (by omega) (by omega)
    rw [eC, w4] at kk
    have ev : sqV M0 n (r : Int) i = (k' : Int) := (if_neg (by omega)).trans w5
    rw [ev]; exact kk
  have k9 : ∀ S, ru_ev z 93 [.ref 1070, .int (wI (r : Int))] (clPut (rdH H R (A + 1) S) C2) = some (.inl (some (.int (wI ((nxT M0 n (r : Int) : Nat) : Int)))), clPut (rdH H R (A + 1) S) C2) := fun S => by
    have k := k93 (z := z) (h := rdH H R (A + 1) S) (C := C2) hP (p := p) (r := r) (by omega)
    rw [l4 r (by omega), t3, eC] at k; exact k
  obtain ⟨Q', w1, w2⟩ := c92l (z := z) (nm := A + 1) hR (H := H) (C := C2) (row := (r : Int)) T12 (g := g) (c := c) (F := F) h94 (nxT M0 n (r : Int)) 0 (by omega) Q (fun j hj => absurd hj (Nat.not_lt_zero _))
  refine ⟨Q', w1, ?_⟩
  have s6 := rd_s6 (h := H) (C := C2) (R := R) (nm := A + 1) (S := (g, T0, c, Q, F)) hR (v := ((nxT M0 n (r : Int) : Nat) : Int))
  dsimp only at s6
  have gP : am_fd (clPut (rdH H R (A + 1) (g, T0, c, Q, F)) C1) 1070 4 1 = some (.int (wI rc)) := by
    have := cl_f4_1 (h := rdH H R (A + 1) (g, T0, c, Q, F)) (C := C1) (q := 1070) (by decide +kernel) (by decide)
    rw [e1] at this; exact this
  have fP : ∀ S, (clPut (rdH H R (A + 1) S) C2).1 1070 = some (.inr (4, clL4 C2 1070)) := fun S => clP4 (by decide +kernel) (by decide)
  rw [show ((0 : Nat) : Int) = 0 from rfl] at w2
  simp (disch := omega) only [en92, e92_0, e92_1, e92_4, e92_7, e92_8, e92_11, e92_12, e92_13, e92_16, e92_19, e92_20, e92_21, e92_24, e92_25, e92_26, e92_27, e92_30, e92_31, e92_34, e92_37, e92_38, ↓reduceIte, Bool.false_eq_true, not_false_eq_true, not_true_eq_false, Nat.reduceLeDiff, Nat.reduceAdd, Nat.reduceEqDiff, Int.reduceToNat, Int.toNat_natCast, iB0, iB1, ru_klI, ru_klR, ru_klF, ru_klJ, ru_kl0, ru_cs0, ru_csI, ru_csR, ru_csF, ru_csJ, wI_add, wI_sub, wI_mul, wI_lt, wI_le, wI_inj, ru_fdE, ru_fdN, ru_iaN, ru_baN, ru_laN, ru_qaN, ru_pfN, ru_isN, ru_bsN, ru_jsN, ru_qsN, ru_set2, Nat.add_right_cancel_iff, if_true, if_false, ite_self, Int.reduceEq, and_self, Int.add_neg_cancel_right, Int.add_zero, Int.zero_add, rd_e hR, rd_f0 hR, rd_f3 hR, cl_e1, hk1, gP, hk2, fP, k9, s6, w2]
/-- the class's queue of all -/
theorem c102 (hR : 1315 ≤ R) {H : am_H} (hp : prR n C0 M0 rc) {g c : Int} {T0 : Int} {Q : Nat → Int} {F : Nat → Int64} {C1 : tCl} (hk1 : ∀ h, ru_ev z 20 [.ref 1001] (clPut h C) = some (.inl none, clPut h C1)) (hr : prI n C0 M0 C1 M gv) : ∃ Q' : Nat → Int, (∀ j, j < nxT M0 n (-1) → Q' j = sqV M0 n (-1) j) ∧ ru_ev z 102 [.ref R] (clPut (rdH H R (A + 1) (g, T0, c, Q, F)) C) = some (.inl none, clPut (rdH H R (A + 1) (g, ((nxT M0 n (-1) : Nat) : Int), c, Q', F)) C1) := by
  obtain ⟨T12, rc12, -⟩ := nxT_12 hp (row := -1) (Or.inl rfl)
  have hpi := pr_pi hr hp
  have hn1 := piOK_n hpi
  have e0 : C1.1 1070 0 = ((nxT M0 n (-1) : Nat) : Int) := by
    have : nxT M0 n (-1) = cnB (shS (mph M0 n)) 12 := if_pos rfl
    rw [this, ← shS_eq hp.2.2.2.2.2]
    exact hn1.2.2
  have hv : ∀ i, i < nxT M0 n (-1) → C1.2.1 1073 i = sqV M0 n (-1) i := fun i hi => by
    obtain ⟨np, eo, er, h0, hx, w1, w2, -⟩ := hpi
    have hnp : (piGet C1 1070).1 0 = C1.1 1070 0 := rfl
    have jn : i < np := by omega
    have y : C1.2.1 1073 i = (eo i : Int) := w2 i jn
    have e : sqV M0 n (-1) i = fnF (fun k => shw (mph M0 n) k && decide (rkN (shS (mph M0 n)) (kyO (shX (mph M0 n)) (shY (mph M0 n))) k = i)) ((mph M0 n).1 7).toNat 0 := if_pos rfl
    rw [y, e]
    exact (en_lk hp.2.2.2.2.2 hp.2.2.2.2.1 (fun k hk hs => by unfold kyO; rw [pheq_shX hp.2.2.2.2.2 (shS_lt hs), pheq_shY hp.2.2.2.2.2 (shS_lt hs)]) w1 jn).symm
  obtain ⟨Q', w1, w2⟩ := c102l (z := z) (nm := A + 1) hR (H := H) (C := C1) T12 (g := g) (c := c) (F := F) hv (nxT M0 n (-1)) 0 (by omega) Q (fun j hj => absurd hj (Nat.not_lt_zero _))
  refine ⟨Q', w1, ?_⟩
  have s6 := rd_s6 (h := H) (C := C1) (R := R) (nm := A + 1) (S := (g, T0, c, Q, F)) hR (v := ((nxT M0 n (-1) : Nat) : Int))
  dsimp only at s6
  have gP : am_fd (clPut (rdH H R (A + 1) (g, T0, c, Q, F)) C1) 1070 4 0 = some (.int (wI ((nxT M0 n (-1) : Nat) : Int))) := by
    have := cl_f4_0 (h := rdH H R (A + 1) (g, T0, c, Q, F)) (C := C1) (q := 1070) (by decide +kernel) (by decide)
    rw [e0] at this; exact this
  rw [show ((0 : Nat) : Int) = 0 from rfl] at w2
  simp (disch := omega) only [en102, e102_0, e102_1, e102_4, e102_7, e102_8, e102_9, e102_12, e102_15, e102_18, e102_19, ↓reduceIte, Bool.false_eq_true, not_false_eq_true, not_true_eq_false, Nat.reduceLeDiff, Nat.reduceAdd, Nat.reduceEqDiff, Int.reduceToNat, Int.toNat_natCast, iB0, iB1, ru_klI, ru_klR, ru_klF, ru_klJ, ru_kl0, ru_cs0, ru_csI, ru_csR, ru_csF, ru_csJ, wI_add, wI_sub, wI_mul, wI_lt, wI_le, wI_inj, ru_fdE, ru_fdN, ru_iaN, ru_baN, ru_laN, ru_qaN, ru_pfN, ru_isN, ru_bsN, ru_jsN, ru_qsN, ru_set2, Nat.add_right_cancel_iff, if_true, if_false, ite_self, Int.reduceEq, and_self, Int.add_neg_cancel_right, Int.add_zero, Int.zero_add, rd_e hR, rd_f0 hR, rd_f3 hR, cl_e1, hk1, gP, s6, w2]
theorem ph_j (hR : 1315 ≤ R) {H : am_H} (hH : strs H) (hs : prS A N n C0 M0) (hp : prR n C0 M0 rc) (hb0 : byI C0 M0 l) {S : tRd} (ht : tkR C M l s) (hr : prI n C0 M0 C M gv) (h1 : S.1 = gv) :
    lpO n l C0 M0 s (fun S' C' => ru_ev z 91 [.ref R] (clPut (rdH H R (A + 1) S) C) = some (.inl none, clPut (rdH H R (A + 1) S') C'))
      (fun S' C' => ru_ev z 91 [.ref R] (clPut (rdH H R (A + 1) S) C) = some (.inr 2, clPut (rdH (thr H) R (A + 1) S') C'))
      (fun M' => ∀ h, strs h → ru_ev z 130 [.ref 1315, .int (wI n)] (mdPut h M) = some (.inl none, mdPut h M')) := by
  obtain ⟨g, T', c, Q, F⟩ := S
  dsimp only at h1
  subst h1
  have hb := pr_byI hb0 hr
  have h17 := hr.2.2.2.1
  have hn := hb0.1
  have hq0 := hp.2.2.2.2.1
  have d0 : ((0 : Int) = 0) = True := eq_true rfl
  have d1 : ((1 : Int) = 0) = False := eq_false (by decide)
  have sS : strs (rdH H R (A + 1) (g, T', c, Q, F)) := strs_rd hR hH
  have x1 := w28 (z := z) (j := 18) (by decide) ht hb (by decide) _ sS
  have x2 := w28 (z := z) (j := 23) (by decide) ht hb (by decide) _ sS
  have x3 := w28 (z := z) (j := 24) (by decide) ht hb (by decide) _ sS
  have x4 := w28 (z := z) (j := 25) (by decide) ht hb (by decide) _ sS
  have x5 := w28 (z := z) (j := 26) (by decide) ht hb (by decide) _ sS
  have y1 : ∀ h, strs h → ru_ev z 62 [.ref 1315, .ref 368] (mdPut h M) = _ := w62 (z := z) (i := 18) (j := 68) (by decide) (by decide) h17 ht (by decide)
  have y2 : ∀ h, strs h → ru_ev z 62 [.ref 1315, .ref 369] (mdPut h M) = _ := w62 (z := z) (i := 23) (j := 69) (by decide) (by decide) h17 ht (by decide)
  have y3 : ∀ h, strs h → ru_ev z 62 [.ref 1315, .ref 370] (mdPut h M) = _ := w62 (z := z) (i := 24) (j := 70) (by decide) (by decide) h17 ht (by decide)
  have y4 : ∀ h, strs h → ru_ev z 62 [.ref 1315, .ref 371] (mdPut h M) = _ := w62 (z := z) (i := 25) (j := 71) (by decide) (by decide) h17 ht (by decide)
  have y5 : ∀ h, strs h → ru_ev z 62 [.ref 1315, .ref 372] (mdPut h M) = _ := w62 (z := z) (i := 26) (j := 72) (by decide) (by decide) h17 ht (by decide)
  simp only [show (300 : Nat) + 18 = 318 from rfl] at x1
  simp only [show (300 : Nat) + 23 = 323 from rfl] at x2
  simp only [show (300 : Nat) + 24 = 324 from rfl] at x3
  simp only [show (300 : Nat) + 25 = 325 from rfl] at x4
  simp only [show (300 : Nat) + 26 = 326 from rfl] at x5
  have no : ∀ (j : Nat) (i : Nat), ¬ isW M (sbT i) = true → (∀ h, strs h → ru_ev z 62 [.ref 1315, .ref j] (mdPut h M) = some (.inl (some (.int (wI (if isW M (sbT i) = true then 1 else 0)))), mdPut h M)) → ∀ h, strs h → ru_ev z 61 [.ref 1315, .ref j] (mdPut h M) = some (.inl (some (.int (wI 0))), mdPut h M) := fun j i hc k h hS => by
    have x := p61 (z := z) (M' := M) (k h hS) (fun e => absurd e hc)
    rw [if_neg hc, if_neg hc] at x; exact x
  have yes : ∀ (j : Nat) (i : Nat) (M1 : tMd), isW M (sbT i) = true → (∀ h, ru_ev z 57 [.ref 1315] (mdPut h M) = some (.inl none, mdPut h M1)) → (∀ h, strs h → ru_ev z 62 [.ref 1315, .ref j] (mdPut h M) = some (.inl (some (.int (wI (if isW M (sbT i) = true then 1 else 0)))), mdPut h M)) → ∀ h, strs h → ru_ev z 61 [.ref 1315, .ref j] (mdPut h M) = some (.inl (some (.int (wI 1))), mdPut h M1) := fun j i M1 hc k2 k h hS => by
    have x := p61 (z := z) (M' := M1) (k h hS) (fun _ => k2 h)
    rw [if_pos hc, if_pos hc] at x; exact x
  by_cases c1 : isW M (sbT 18) = true
  · -- row
    obtain ⟨C1, M1, s1, k1, k2, k3, k4, k5, k6⟩ := tk_adv (z := z) ht (by rw [isW_13 c1]; decide) hb
    have r1 := prI_tok hr k4 k5
    have h171 := r1.2.2.2.1
    have b1 := pr_byI hb0 r1
    have z1 := yes 368 18 M1 c1 k2 y1
    rw [if_pos c1] at x1
    have e34 : M1.1 34 = rc := by rw [r1.2.2.1.1 34 (by omega) (by decide)]; exact hp.2.2.1
    have g34 : ∀ h, am_fd (mdPut h M1) 1315 10 34 = some (.int (wI rc)) := fun h => by rw [md_f34, e34]
    have rr := rwOK_rc hp.2.1.1
    have hpi1 := pr_pi r1 hp
    obtain ⟨l1, -⟩ := pl_link hpi1 hp.2.1 hp.2.2.2.2.2 hp.2.2.2.1 hp.2.2.2.2.1
    have e1 : C1.1 1070 1 = rc := l1
    have gP : ∀ S, am_fd (clPut (rdH H R (A + 1) S) C1) 1070 4 1 = some (.int (wI rc)) := fun S => by
      have := cl_f4_1 (h := rdH H R (A + 1) S) (C := C1) (q := 1070) (by decide +kernel) (by decide)
      rw [e1] at this; exact this
    rcases ps_num (z := z) k3 h171 b1 (lo := 0) (hi := rc - 1) (by decide) (by omega) with ⟨e2, C2, M2, s2, l1, l2, l3, l4, l5, l6⟩ | ⟨e2, l1, l2⟩
    rotate_left
    · right
      have hm := mut_er k3 (nbT_b e2)
      refine ⟨_, (g, T', c, Q, F), _, ?_, fun h hh => ?_, ep_of r1 k3 hn (nbT_b e2)⟩
      · have x := l1 (rdH H R (A + 1) (g, T', c, Q, F))
        have x92 : ru_ev z 92 [.ref R] (clPut (rdH H R (A + 1) (g, T', c, Q, F)) C) = some (.inr 2, clPut (rdH (thr H) R (A + 1) (g, T', c, Q, F)) (erC C1 (nbT M1 0 (rc - 1)))) := by
          simp (disch := omega) only [en92, e92_0, e92_1, e92_4, e92_7, e92_8, e92_11, e92_12, e92_13, e92_16, e92_19, e92_20, e92_21, e92_24, e92_25, e92_26, e92_27, e92_30, e92_31, e92_34, e92_37, e92_38, e92_39, e92_40, e92_41, e92_44, e92_47, e92_48, e92_51, e92_52, e92_53, e92_56, e92_57, e92_58, e92_61, e92_62, e92_65, e92_68, ↓reduceIte, Bool.false_eq_true, not_false_eq_true, not_true_eq_false, Nat.reduceLeDiff, Nat.reduceAdd, Nat.reduceEqDiff, Int.reduceToNat, Int.toNat_natCast, iB0, iB1, ru_klI, ru_klR, ru_klF, ru_klJ, ru_kl0, ru_cs0, ru_csI, ru_csR, ru_csF, ru_csJ, wI_add, wI_sub, wI_mul, wI_lt, wI_le, wI_inj, ru_fdE, ru_fdN, ru_iaN, ru_baN, ru_laN, ru_qaN, ru_pfN, ru_isN, ru_bsN, ru_jsN, ru_qsN, ru_set2, Nat.add_right_cancel_iff, if_true, if_false, ite_self, Int.reduceEq, and_self, Int.add_neg_cancel_right, Int.add_zero, Int.zero_add, rd_e hR, rd_f0 hR, rd_f3 hR, cl_e1, k1, gP, x]
          rfl
        simp (disch := omega) only [en91, e91_0, e91_1, e91_4, e91_6, e91_9, e91_12, e91_13, e91_16, e91_17, e91_20, e91_23, e91_24, e91_27, e91_29, e91_32, e91_35, e91_36, e91_39, e91_40, e91_43, e91_46, e91_47, e91_50, e91_52, e91_55, e91_58, e91_59, e91_62, e91_65, e91_66, e91_69, e91_71, e91_74, e91_77, e91_78, e91_81, e91_84, e91_85, e91_88, e91_89, e91_92, e91_94, e91_97, e91_98, e91_101, e91_102, e91_105, ↓reduceIte, Bool.false_eq_true, not_false_eq_true, not_true_eq_false, Nat.reduceLeDiff, Nat.reduceAdd, Nat.reduceEqDiff, Int.reduceToNat, Int.toNat_natCast, iB0, iB1, ru_klI, ru_klR, ru_klF, ru_klJ, ru_kl0, ru_cs0, ru_csI, ru_csR, ru_csF, ru_csJ, wI_add, wI_sub, wI_mul, wI_lt, wI_le, wI_inj, ru_fdE, ru_fdN, ru_iaN, ru_baN, ru_laN, ru_qaN, ru_pfN, ru_isN, ru_bsN, ru_jsN, ru_qsN, ru_set2, Nat.add_right_cancel_iff, if_true, if_false, ite_self, Int.reduceEq, and_self, Int.add_neg_cancel_right, Int.add_zero, Int.zero_add, rd_e hR, rd_f0 hR, cl_e1, x1, d1, x92]
      · have u7 := u131 (z := z) (h := h) (f := wI n) (r := wI 0) hm
        simp (disch := omega) only [en130, e130_0, e130_1, e130_3, e130_6, e130_9, e130_10, e130_11, e130_12, e130_13, e130_14, e130_17, e130_18, e130_19, e130_22, e130_25, e130_28, e130_29, e130_31, e130_34, e130_37, e130_38, e130_39, e130_40, e130_43, e130_46, e130_47, e130_49, e130_52, e130_55, e130_56, e130_57, e130_60, e130_63, e130_64, e130_66, e130_69, e130_72, e130_73, e130_74, e130_77, e130_80, e130_81, e130_83, e130_86, e130_89, e130_90, e130_91, e130_94, e130_97, e130_98, e130_99, e130_102, ↓reduceIte, Bool.false_eq_true, not_false_eq_true, not_true_eq_false, Nat.reduceLeDiff, Nat.reduceAdd, Nat.reduceEqDiff, Int.reduceToNat, Int.toNat_natCast, iB0, iB1, ru_klI, ru_klR, ru_klF, ru_klJ, ru_kl0, ru_cs0, ru_csI, ru_csR, ru_csF, ru_csJ, wI_add, wI_sub, wI_mul, wI_lt, wI_le, wI_inj, ru_fdE, ru_fdN, ru_iaN, ru_baN, ru_laN, ru_qaN, ru_pfN, ru_isN, ru_bsN, ru_jsN, ru_qsN, ru_set2, Nat.add_right_cancel_iff, if_true, if_false, ite_self, Int.reduceEq, and_self, Int.add_neg_cancel_right, Int.add_zero, Int.zero_add, md_e, z1 h hh, g34, l2 h, u7, d1]
    obtain ⟨-, w1, w2⟩ := nbT_ok e2
    obtain ⟨r, hrr⟩ := Int.eq_ofNat_of_zero_le w1
    rw [hrr] at l1 l2 w2
    have r2 := prI_tok r1 l4 l5
    obtain ⟨Q', v1, v2⟩ := c92 (z := z) (A := A) (g := g) (c := c) (T0 := T') (Q := Q) (F := F) hR (H := H) hp k1 e1 l1 r2 (by omega)
    have hrow : (r : Int) = -1 ∨ (0 ≤ (r : Int) ∧ (r : Int) < rc) := Or.inr ⟨by omega, by omega⟩
    rcases is_j (z := z) hR hH hs hp hb0 hrow (S := (g, ((nxT M0 n (r : Int) : Nat) : Int), c, Q', F)) l3 r2 rfl rfl v1 with ⟨C', S', M', s', gv', o1, o2, o3, o4, o5, o6⟩ | ⟨C', S', M', o1, o2, o3⟩
    · refine Or.inl ⟨C', S', M', s', gv', ?_, fun h hh => ?_, o3, o4, o5, by omega⟩
      · simp (disch := omega) only [en91, e91_0, e91_1, e91_4, e91_6, e91_9, e91_12, e91_13, e91_16, e91_17, e91_20, e91_23, e91_24, e91_27, e91_29, e91_32, e91_35, e91_36, e91_39, e91_40, e91_43, e91_46, e91_47, e91_50, e91_52, e91_55, e91_58, e91_59, e91_62, e91_65, e91_66, e91_69, e91_71, e91_74, e91_77, e91_78, e91_81, e91_84, e91_85, e91_88, e91_89, e91_92, e91_94, e91_97, e91_98, e91_101, e91_102, e91_105, ↓reduceIte, Bool.false_eq_true, not_false_eq_true, not_true_eq_false, Nat.reduceLeDiff, Nat.reduceAdd, Nat.reduceEqDiff, Int.reduceToNat, Int.toNat_natCast, iB0, iB1, ru_klI, ru_klR, ru_klF, ru_klJ, ru_kl0, ru_cs0, ru_csI, ru_csR, ru_csF, ru_csJ, wI_add, wI_sub, wI_mul, wI_lt, wI_le, wI_inj, ru_fdE, ru_fdN, ru_iaN, ru_baN, ru_laN, ru_qaN, ru_pfN, ru_isN, ru_bsN, ru_jsN, ru_qsN, ru_set2, Nat.add_right_cancel_iff, if_true, if_false, ite_self, Int.reduceEq, and_self, Int.add_neg_cancel_right, Int.add_zero, Int.zero_add, rd_e hR, rd_f0 hR, cl_e1, x1, d1, v2, o1]
      · simp (disch := omega) only [en130, e130_0, e130_1, e130_3, e130_6, e130_9, e130_10, e130_11, e130_12, e130_13, e130_14, e130_17, e130_18, e130_19, e130_22, e130_25, e130_28, e130_29, e130_31, e130_34, e130_37, e130_38, e130_39, e130_40, e130_43, e130_46, e130_47, e130_49, e130_52, e130_55, e130_56, e130_57, e130_60, e130_63, e130_64, e130_66, e130_69, e130_72, e130_73, e130_74, e130_77, e130_80, e130_81, e130_83, e130_86, e130_89, e130_90, e130_91, e130_94, e130_97, e130_98, e130_99, e130_102, ↓reduceIte, Bool.false_eq_true, not_false_eq_true, not_true_eq_false, Nat.reduceLeDiff, Nat.reduceAdd, Nat.reduceEqDiff, Int.reduceToNat, Int.toNat_natCast, iB0, iB1, ru_klI, ru_klR, ru_klF, ru_klJ, ru_kl0, ru_cs0, ru_csI, ru_csR, ru_csF, ru_csJ, wI_add, wI_sub, wI_mul, wI_lt, wI_le, wI_inj, ru_fdE, ru_fdN, ru_iaN, ru_baN, ru_laN, ru_qaN, ru_pfN, ru_isN, ru_bsN, ru_jsN, ru_qsN, ru_set2, Nat.add_right_cancel_iff, if_true, if_false, ite_self, Int.reduceEq, and_self, Int.add_neg_cancel_right, Int.add_zero, Int.zero_add, md_e, z1 h hh, g34, l2 h, o2 h hh, d1]
    · refine Or.inr ⟨C', S', M', ?_, fun h hh => ?_, o3⟩
      · simp (disch := omega) only [en91, e91_0, e91_1, e91_4, e91_6, e91_9, e91_12, e91_13, e91_16, e91_17, e91_20, e91_23, e91_24, e91_27, e91_29, e91_32, e91_35, e91_36, e91_39, e91_40, e91_43, e91_46, e91_47, e91_50, e91_52, e91_55, e91_58, e91_59, e91_62, e91_65, e91_66, e91_69, e91_71, e91_74, e91_77, e91_78, e91_81, e91_84, e91_85, e91_88, e91_89, e91_92, e91_94, e91_97, e91_98, e91_101, e91_102, e91_105, ↓reduceIte, Bool.false_eq_true, not_false_eq_true, not_true_eq_false, Nat.reduceLeDiff, Nat.reduceAdd, Nat.reduceEqDiff, Int.reduceToNat, Int.toNat_natCast, iB0, iB1, ru_klI, ru_klR, ru_klF, ru_klJ, ru_kl0, ru_cs0, ru_csI, ru_csR, ru_csF, ru_csJ, wI_add, wI_sub, wI_mul, wI_lt, wI_le, wI_inj, ru_fdE, ru_fdN, ru_iaN, ru_baN, ru_laN, ru_qaN, ru_pfN, ru_isN, ru_bsN, ru_jsN, ru_qsN, ru_set2, Nat.add_right_cancel_iff, if_true, if_false, ite_self, Int.reduceEq, and_self, Int.add_neg_cancel_right, Int.add_zero, Int.zero_add, rd_e hR, rd_f0 hR, cl_e1, x1, d1, v2, o1]
      · simp (disch := omega) only [en130, e130_0, e130_1, e130_3, e130_6, e130_9, e130_10, e130_11, e130_12, e130_13, e130_14, e130_17, e130_18, e130_19, e130_22, e130_25, e130_28, e130_29, e130_31, e130_34, e130_37, e130_38, e130_39, e130_40, e130_43, e130_46, e130_47, e130_49, e130_52, e130_55, e130_56, e130_57, e130_60, e130_63, e130_64, e130_66, e130_69, e130_72, e130_73, e130_74, e130_77, e130_80, e130_81, e130_83, e130_86, e130_89, e130_90, e130_91, e130_94, e130_97, e130_98, e130_99, e130_102, ↓reduceIte, Bool.false_eq_true, not_false_eq_true, not_true_eq_false, Nat.reduceLeDiff, Nat.reduceAdd, Nat.reduceEqDiff, Int.reduceToNat, Int.toNat_natCast, iB0, iB1, ru_klI, ru_klR, ru_klF, ru_klJ, ru_kl0, ru_cs0, ru_csI, ru_csR, ru_csF, ru_csJ, wI_add, wI_sub, wI_mul, wI_lt, wI_le, wI_inj, ru_fdE, ru_fdN, ru_iaN, ru_baN, ru_laN, ru_qaN, ru_pfN, ru_isN, ru_bsN, ru_jsN, ru_qsN, ru_set2, Nat.add_right_cancel_iff, if_true, if_false, ite_self, Int.reduceEq, and_self, Int.add_neg_cancel_right, Int.add_zero, Int.zero_add, md_e, z1 h hh, g34, l2 h, o2 h hh, d1]
  have z1 := no 368 18 c1 y1
  rw [if_neg c1] at x1
  by_cases c2 : isW M (sbT 23) = true
  · -- all
    obtain ⟨C1, M1, s1, k1, k2, k3, k4, k5, k6⟩ := tk_adv (z := z) ht (by rw [isW_13 c2]; decide) hb
    have r1 := prI_tok hr k4 k5
    have z2 := yes 369 23 M1 c2 k2 y2
    rw [if_pos c2] at x2
    obtain ⟨Q', v1, v2⟩ := c102 (z := z) (A := A) (g := g) (c := c) (T0 := T') (Q := Q) (F := F) hR (H := H) hp k1 r1
    rcases is_j (z := z) hR hH hs hp hb0 (row := -1) (Or.inl rfl) (S := (g, ((nxT M0 n (-1) : Nat) : Int), c, Q', F)) k3 r1 rfl rfl v1 with ⟨C', S', M', s', gv', o1, o2, o3, o4, o5, o6⟩ | ⟨C', S', M', o1, o2, o3⟩
    · refine Or.inl ⟨C', S', M', s', gv', ?_, fun h hh => ?_, o3, o4, o5, by omega⟩
      · simp (disch := omega) only [en91, e91_0, e91_1, e91_4, e91_6, e91_9, e91_12, e91_13, e91_16, e91_17, e91_20, e91_23, e91_24, e91_27, e91_29, e91_32, e91_35, e91_36, e91_39, e91_40, e91_43, e91_46, e91_47, e91_50, e91_52, e91_55, e91_58, e91_59, e91_62, e91_65, e91_66, e91_69, e91_71, e91_74, e91_77, e91_78, e91_81, e91_84, e91_85, e91_88, e91_89, e91_92, e91_94, e91_97, e91_98, e91_101, e91_102, e91_105, ↓reduceIte, Bool.false_eq_true, not_false_eq_true, not_true_eq_false, Nat.reduceLeDiff, Nat.reduceAdd, Nat.reduceEqDiff, Int.reduceToNat, Int.toNat_natCast, iB0, iB1, ru_klI, ru_klR, ru_klF, ru_klJ, ru_kl0, ru_cs0, ru_csI, ru_csR, ru_csF, ru_csJ, wI_add, wI_sub, wI_mul, wI_lt, wI_le, wI_inj, ru_fdE, ru_fdN, ru_iaN, ru_baN, ru_laN, ru_qaN, ru_pfN, ru_isN, ru_bsN, ru_jsN, ru_qsN, ru_set2, Nat.add_right_cancel_iff, if_true, if_false, ite_self, Int.reduceEq, and_self, Int.add_neg_cancel_right, Int.add_zero, Int.zero_add, rd_e hR, rd_f0 hR, cl_e1, x1, x2, d0, d1, v2, o1]
      · simp (disch := omega) only [en130, e130_0, e130_1, e130_3, e130_6, e130_9, e130_10, e130_11, e130_12, e130_13, e130_14, e130_17, e130_18, e130_19, e130_22, e130_25, e130_28, e130_29, e130_31, e130_34, e130_37, e130_38, e130_39, e130_40, e130_43, e130_46, e130_47, e130_49, e130_52, e130_55, e130_56, e130_57, e130_60, e130_63, e130_64, e130_66, e130_69, e130_72, e130_73, e130_74, e130_77, e130_80, e130_81, e130_83, e130_86, e130_89, e130_90, e130_91, e130_94, e130_97, e130_98, e130_99, e130_102, ↓reduceIte, Bool.false_eq_true, not_false_eq_true, not_true_eq_false, Nat.reduceLeDiff, Nat.reduceAdd, Nat.reduceEqDiff, Int.reduceToNat, Int.toNat_natCast, iB0, iB1, ru_klI, ru_klR, ru_klF, ru_klJ, ru_kl0, ru_cs0, ru_csI, ru_csR, ru_csF, ru_csJ, wI_add, wI_sub, wI_mul, wI_lt, wI_le, wI_inj, ru_fdE, ru_fdN, ru_iaN, ru_baN, ru_laN, ru_qaN, ru_pfN, ru_isN, ru_bsN, ru_jsN, ru_qsN, ru_set2, Nat.add_right_cancel_iff, if_true, if_false, ite_self, Int.reduceEq, and_self, Int.add_neg_cancel_right, Int.add_zero, Int.zero_add, md_e, z1 h hh, z2 h hh, o2 h hh, d0, d1]
    · refine Or.inr ⟨C', S', M', ?_, fun h hh => ?_, o3⟩
      · simp (disch := omega) only [en91, e91_0, e91_1, e91_4, e91_6, e91_9, e91_12, e91_13, e91_16, e91_17, e91_20, e91_23, e91_24, e91_27, e91_29, e91_32, e91_35, e91_36, e91_39, e91_40, e91_43, e91_46, e91_47, e91_50, e91_52, e91_55, e91_58, e91_59, e91_62, e91_65, e91_66, e91_69, e91_71, e91_74, e91_77, e91_78, e91_81, e91_84, e91_85, e91_88, e91_89, e91_92, e91_94, e91_97, e91_98, e91_101, e91_102, e91_105, ↓reduceIte, Bool.false_eq_true, not_false_eq_true, not_true_eq_false, Nat.reduceLeDiff, Nat.reduceAdd, Nat.reduceEqDiff, Int.reduceToNat, Int.toNat_natCast, iB0, iB1, ru_klI, ru_klR, ru_klF, ru_klJ, ru_kl0, ru_cs0, ru_csI, ru_csR, ru_csF, ru_csJ, wI_add, wI_sub, wI_mul, wI_lt, wI_le, wI_inj, ru_fdE, ru_fdN, ru_iaN, ru_baN, ru_laN, ru_qaN, ru_pfN, ru_isN, ru_bsN, ru_jsN, ru_qsN, ru_set2, Nat.add_right_cancel_iff, if_true, if_false, ite_self, Int.reduceEq, and_self, Int.add_neg_cancel_right, Int.add_zero, Int.zero_add, rd_e hR, rd_f0 hR, cl_e1, x1, x2, d0, d1, v2, o1]
      · simp (disch := omega) only [en130, e130_0, e130_1, e130_3, e130_6, e130_9, e130_10, e130_11, e130_12, e130_13, e130_14, e130_17, e130_18, e130_19, e130_22, e130_25, e130_28, e130_29, e130_31, e130_34, e130_37, e130_38, e130_39, e130_40, e130_43, e130_46, e130_47, e130_49, e130_52, e130_55, e130_56, e130_57, e130_60, e130_63, e130_64, e130_66, e130_69, e130_72, e130_73, e130_74, e130_77, e130_80, e130_81, e130_83, e130_86, e130_89, e130_90, e130_91, e130_94, e130_97, e130_98, e130_99, e130_102, ↓reduceIte, Bool.false_eq_true, not_false_eq_true, not_true_eq_false, Nat.reduceLeDiff, Nat.reduceAdd, Nat.reduceEqDiff, Int.reduceToNat, Int.toNat_natCast, iB0, iB1, ru_klI, ru_klR, ru_klF, ru_klJ, ru_kl0, ru_cs0, ru_csI, ru_csR, ru_csF, ru_csJ, wI_add, wI_sub, wI_mul, wI_lt, wI_le, wI_inj, ru_fdE, ru_fdN, ru_iaN, ru_baN, ru_laN, ru_qaN, ru_pfN, ru_isN, ru_bsN, ru_jsN, ru_qsN, ru_set2, Nat.add_right_cancel_iff, if_true, if_false, ite_self, Int.reduceEq, and_self, Int.add_neg_cancel_right, Int.add_zero, Int.zero_add, md_e, z1 h hh, z2 h hh, o2 h hh, d0, d1]
  have z2 := no 369 23 c2 y2
  rw [if_neg c2] at x2
  by_cases c3 : isW M (sbT 24) = true
  · -- at
    obtain ⟨C1, M1, s1, k1, k2, k3, k4, k5, k6⟩ := tk_adv (z := z) ht (by rw [isW_13 c3]; decide) hb
    have r1 := prI_tok hr k4 k5
    have z3 := yes 370 24 M1 c3 k2 y3
    rw [if_pos c3] at x3
    rcases at_j (z := z) hR hH hs hp hb0 (S := (g, T', c, Q, F)) k1 k3 r1 rfl with ⟨C', S', M', s', gv', o1, o2, o3, o4, o5, o6⟩ | ⟨C', S', M', o1, o2, o3⟩
    · refine Or.inl ⟨C', S', M', s', gv', ?_, fun h hh => ?_, o3, o4, o5, by omega⟩
      · simp (disch := omega) only [en91, e91_0, e91_1, e91_4, e91_6, e91_9, e91_12, e91_13, e91_16, e91_17, e91_20, e91_23, e91_24, e91_27, e91_29, e91_32, e91_35, e91_36, e91_39, e91_40, e91_43, e91_46, e91_47, e91_50, e91_52, e91_55, e91_58, e91_59, e91_62, e91_65, e91_66, e91_69, e91_71, e91_74, e91_77, e91_78, e91_81, e91_84, e91_85, e91_88, e91_89, e91_92, e91_94, e91_97, e91_98, e91_101, e91_102, e91_105, ↓reduceIte, Bool.false_eq_true, not_false_eq_true, not_true_eq_false, Nat.reduceLeDiff, Nat.reduceAdd, Nat.reduceEqDiff, Int.reduceToNat, Int.toNat_natCast, iB0, iB1, ru_klI, ru_klR, ru_klF, ru_klJ, ru_kl0, ru_cs0, ru_csI, ru_csR, ru_csF, ru_csJ, wI_add, wI_sub, wI_mul, wI_lt, wI_le, wI_inj, ru_fdE, ru_fdN, ru_iaN, ru_baN, ru_laN, ru_qaN, ru_pfN, ru_isN, ru_bsN, ru_jsN, ru_qsN, ru_set2, Nat.add_right_cancel_iff, if_true, if_false, ite_self, Int.reduceEq, and_self, Int.add_neg_cancel_right, Int.add_zero, Int.zero_add, rd_e hR, rd_f0 hR, cl_e1, x1, x2, x3, d0, d1, o1]
      · simp (disch := omega) only [en130, e130_0, e130_1, e130_3, e130_6, e130_9, e130_10, e130_11, e130_12, e130_13, e130_14, e130_17, e130_18, e130_19, e130_22, e130_25, e130_28, e130_29, e130_31, e130_34, e130_37, e130_38, e130_39, e130_40, e130_43, e130_46, e130_47, e130_49, e130_52, e130_55, e130_56, e130_57, e130_60, e130_63, e130_64, e130_66, e130_69, e130_72, e130_73, e130_74, e130_77, e130_80, e130_81, e130_83, e130_86, e130_89, e130_90, e130_91, e130_94, e130_97, e130_98, e130_99, e130_102, ↓reduceIte, Bool.false_eq_true, not_false_eq_true, not_true_eq_false, Nat.reduceLeDiff, Nat.reduceAdd, Nat.reduceEqDiff, Int.reduceToNat, Int.toNat_natCast, iB0, iB1, ru_klI, ru_klR, ru_klF, ru_klJ, ru_kl0, ru_cs0, ru_csI, ru_csR, ru_csF, ru_csJ, wI_add, wI_sub, wI_mul, wI_lt, wI_le, wI_inj, ru_fdE, ru_fdN, ru_iaN, ru_baN, ru_laN, ru_qaN, ru_pfN, ru_isN, ru_bsN, ru_jsN, ru_qsN, ru_set2, Nat.add_right_cancel_iff, if_true, if_false, ite_self, Int.reduceEq, and_self, Int.add_neg_cancel_right, Int.add_zero, Int.zero_add, md_e, z1 h hh, z2 h hh, z3 h hh, o2 h hh, d0, d1]
    · refine Or.inr ⟨C', S', M', ?_, fun h hh => ?_, o3⟩
      · simp (disch := omega) only [en91, e91_0, e91_1, e91_4, e91_6, e91_9, e91_12, e91_13, e91_16, e91_17, e91_20, e91_23, e91_24, e91_27, e91_29, e91_32, e91_35, e91_36, e91_39, e91_40, e91_43, e91_46, e91_47, e91_50, e91_52, e91_55, e91_58, e91_59, e91_62, e91_65, e91_66, e91_69, e91_71, e91_74, e91_77, e91_78, e91_81, e91_84, e91_85, e91_88, e91_89, e91_92, e91_94, e91_97, e91_98, e91_101, e91_102, e91_105, ↓reduceIte, Bool.false_eq_true, not_false_eq_true, not_true_eq_false, Nat.reduceLeDiff, Nat.reduceAdd, Nat.reduceEqDiff, Int.reduceToNat, Int.toNat_natCast, iB0, iB1, ru_klI, ru_klR, ru_klF, ru_klJ, ru_kl0, ru_cs0, ru_csI, ru_csR, ru_csF, ru_csJ, wI_add, wI_sub, wI_mul, wI_lt, wI_le, wI_inj, ru_fdE, ru_fdN, ru_iaN, ru_baN, ru_laN, ru_qaN, ru_pfN, ru_isN, ru_bsN, ru_jsN, ru_qsN, ru_set2, Nat.add_right_cancel_iff, if_true, if_false, ite_self, Int.reduceEq, and_self, Int.add_neg_cancel_right, Int.add_zero, Int.zero_add, rd_e hR, rd_f0 hR, cl_e1, x1, x2, x3, d0, d1, o1]
      · simp (disch := omega) only [en130, e130_0, e130_1, e130_3, e130_6, e130_9, e130_10, e130_11, e130_12, e130_13, e130_14, e130_17, e130_18, e130_19, e130_22, e130_25, e130_28, e130_29, e130_31, e130_34, e130_37, e130_38, e130_39, e130_40, e130_43, e130_46, e130_47, e130_49, e130_52, e130_55, e130_56, e130_57, e130_60, e130_63, e130_64, e130_66, e130_69, e130_72, e130_73, e130_74, e130_77, e130_80, e130_81, e130_83, e130_86, e130_89, e130_90, e130_91, e130_94, e130_97, e130_98, e130_99, e130_102, ↓reduceIte, Bool.false_eq_true, not_false_eq_true, not_true_eq_false, Nat.reduceLeDiff, Nat.reduceAdd, Nat.reduceEqDiff, Int.reduceToNat, Int.toNat_natCast, iB0, iB1, ru_klI, ru_klR, ru_klF, ru_klJ, ru_kl0, ru_cs0, ru_csI, ru_csR, ru_csF, ru_csJ, wI_add, wI_sub, wI_mul, wI_lt, wI_le, wI_inj, ru_fdE, ru_fdN, ru_iaN, ru_baN, ru_laN, ru_qaN, ru_pfN, ru_isN, ru_bsN, ru_jsN, ru_qsN, ru_set2, Nat.add_right_cancel_iff, if_true, if_false, ite_self, Int.reduceEq, and_self, Int.add_neg_cancel_right, Int.add_zero, Int.zero_add, md_e, z1 h hh, z2 h hh, z3 h hh, o2 h hh, d0, d1]
  have z3 := no 370 24 c3 y3
  rw [if_neg c3] at x3
  by_cases c4 : isW M (sbT 25) = true
  · -- beside
    obtain ⟨C1, M1, s1, k1, k2, k3, k4, k5, k6⟩ := tk_adv (z := z) ht (by rw [isW_13 c4]; decide) hb
    have r1 := prI_tok hr k4 k5
    have z4 := yes 371 25 M1 c4 k2 y4
    rw [if_pos c4] at x4
    rcases bs_j (z := z) hR hH hs hp hb0 (S := (g, T', c, Q, F)) k1 k3 r1 rfl with ⟨C', S', M', s', gv', o1, o2, o3, o4, o5, o6⟩ | ⟨C', S', M', o1, o2, o3⟩
    · refine Or.inl ⟨C', S', M', s', gv', ?_, fun h hh => ?_, o3, o4, o5, by omega⟩
      · simp (disch := omega) only [en91, e91_0, e91_1, e91_4, e91_6, e91_9, e91_12, e91_13, e91_16, e91_17, e91_20, e91_23, e91_24, e91_27, e91_29, e91_32, e91_35, e91_36, e91_39, e91_40, e91_43, e91_46, e91_47, e91_50, e91_52, e91_55, e91_58, e91_59, e91_62, e91_65, e91_66, e91_69, e91_71, e91_74, e91_77, e91_78, e91_81, e91_84, e91_85, e91_88, e91_89, e91_92, e91_94, e91_97, e91_98, e91_101, e91_102, e91_105, ↓reduceIte, Bool.false_eq_true, not_false_eq_true, not_true_eq_false, Nat.reduceLeDiff, Nat.reduceAdd, Nat.reduceEqDiff, Int.reduceToNat, Int.toNat_natCast, iB0, iB1, ru_klI, ru_klR, ru_klF, ru_klJ, ru_kl0, ru_cs0, ru_csI, ru_csR, ru_csF, ru_csJ, wI_add, wI_sub, wI_mul, wI_lt, wI_le, wI_inj, ru_fdE, ru_fdN, ru_iaN, ru_baN, ru_laN, ru_qaN, ru_pfN, ru_isN, ru_bsN, ru_jsN, ru_qsN, ru_set2, Nat.add_right_cancel_iff, if_true, if_false, ite_self, Int.reduceEq, and_self, Int.add_neg_cancel_right, Int.add_zero, Int.zero_add, rd_e hR, rd_f0 hR, cl_e1, x1, x2, x3, x4, d0, d1, o1]
      · simp (disch := omega) only [en130, e130_0, e130_1, e130_3, e130_6, e130_9, e130_10, e130_11, e130_12, e130_13, e130_14, e130_17, e130_18, e130_19, e130_22, e130_25, e130_28, e130_29, e130_31, e130_34, e130_37, e130_38, e130_39, e130_40, e130_43, e130_46, e130_47, e130_49, e130_52, e130_55, e130_56, e130_57, e130_60, e130_63, e130_64, e130_66, e130_69, e130_72, e130_73, e130_74, e130_77, e130_80, e130_81, e130_83, e130_86, e130_89, e130_90, e130_91, e130_94, e130_97, e130_98, e130_99, e130_102, ↓reduceIte, Bool.false_eq_true, not_false_eq_true, not_true_eq_false, Nat.reduceLeDiff, Nat.reduceAdd, Nat.reduceEqDiff, Int.reduceToNat, Int.toNat_natCast, iB0, iB1, ru_klI, ru_klR, ru_klF, ru_klJ, ru_kl0, ru_cs0, ru_csI, ru_csR, ru_csF, ru_csJ, wI_add, wI_sub, wI_mul, wI_lt, wI_le, wI_inj, ru_fdE, ru_fdN, ru_iaN, ru_baN, ru_laN, ru_qaN, ru_pfN, ru_isN, ru_bsN, ru_jsN, ru_qsN, ru_set2, Nat.add_right_cancel_iff, if_true, if_false, ite_self, Int.reduceEq, and_self, Int.add_neg_cancel_right, Int.add_zero, Int.zero_add, md_e, z1 h hh, z2 h hh, z3 h hh, z4 h hh, o2 h hh, d0, d1]
    · refine Or.inr ⟨C', S', M', ?_, fun h hh => ?_, o3⟩
      · simp (disch := omega) only [en91, e91_0, e91_1, e91_4, e91_6, e91_9, e91_12, e91_13, e91_16, e91_17, e91_20, e91_23, e91_24, e91_27, e91_29, e91_32, e91_35, e91_36, e91_39, e91_40, e91_43, e91_46, e91_47, e91_50, e91_52, e91_55, e91_58, e91_59, e91_62, e91_65, e91_66, e91_69, e91_71, e91_74, e91_77, e91_78, e91_81, e91_84, e91_85, e91_88, e91_89, e91_92, e91_94, e91_97, e91_98, e91_101, e91_102, e91_105, ↓reduceIte, Bool.false_eq_true, not_false_eq_true, not_true_eq_false, Nat.reduceLeDiff, Nat.reduceAdd, Nat.reduceEqDiff, Int.reduceToNat, Int.toNat_natCast, iB0, iB1, ru_klI, ru_klR, ru_klF, ru_klJ, ru_kl0, ru_cs0, ru_csI, ru_csR, ru_csF, ru_csJ, wI_add, wI_sub, wI_mul, wI_lt, wI_le, wI_inj, ru_fdE, ru_fdN, ru_iaN, ru_baN, ru_laN, ru_qaN, ru_pfN, ru_isN, ru_bsN, ru_jsN, ru_qsN, ru_set2, Nat.add_right_cancel_iff, if_true, if_false, ite_self, Int.reduceEq, and_self, Int.add_neg_cancel_right, Int.add_zero, Int.zero_add, rd_e hR, rd_f0 hR, cl_e1, x1, x2, x3, x4, d0, d1, o1]
      · simp (disch := omega) only [en130, e130_0, e130_1, e130_3, e130_6, e130_9, e130_10, e130_11, e130_12, e130_13, e130_14, e130_17, e130_18, e130_19, e130_22, e130_25, e130_28, e130_29, e130_31, e130_34, e130_37, e130_38, e130_39, e130_40, e130_43, e130_46, e130_47, e130_49, e130_52, e130_55, e130_56, e130_57, e130_60, e130_63, e130_64, e130_66, e130_69, e130_72, e130_73, e130_74, e130_77, e130_80, e130_81, e130_83, e130_86, e130_89, e130_90, e130_91, e130_94, e130_97, e130_98, e130_99, e130_102, ↓reduceIte, Bool.false_eq_true, not_false_eq_true, not_true_eq_false, Nat.reduceLeDiff, Nat.reduceAdd, Nat.reduceEqDiff, Int.reduceToNat, Int.toNat_natCast, iB0, iB1, ru_klI, ru_klR, ru_klF, ru_klJ, ru_kl0, ru_cs0, ru_csI, ru_csR, ru_csF, ru_csJ, wI_add, wI_sub, wI_mul, wI_lt, wI_le, wI_inj, ru_fdE, ru_fdN, ru_iaN, ru_baN, ru_laN, ru_qaN, ru_pfN, ru_isN, ru_bsN, ru_jsN, ru_qsN, ru_set2, Nat.add_right_cancel_iff, if_true, if_false, ite_self, Int.reduceEq, and_self, Int.add_neg_cancel_right, Int.add_zero, Int.zero_add, md_e, z1 h hh, z2 h hh, z3 h hh, z4 h hh, o2 h hh, d0, d1]
  have z4 := no 371 25 c4 y4
  rw [if_neg c4] at x4
  by_cases c5 : isW M (sbT 26) = true
  · -- between
    obtain ⟨C1, M1, s1, k1, k2, k3, k4, k5, k6⟩ := tk_adv (z := z) ht (by rw [isW_13 c5]; decide) hb
    have r1 := prI_tok hr k4 k5
    have z5 := yes 372 26 M1 c5 k2 y5
    rw [if_pos c5] at x5
    have g1 : ru_ev z 36 [.ref 1001, .int (wI 1), .int (wI 1)] (clPut (rdH H R (A + 1) (g, T', c, Q, F)) C) = some (.inl none, clPut (rdH H R (A + 1) (g, T', c, Q, F)) C) := by rw [c36 (Or.inr rfl), if_pos rfl]
    rcases bw_j (z := z) hR hH hs hp hb0 (S := (g, T', c, Q, F)) k1 k3 r1 rfl with ⟨C', S', M', s', gv', o1, o2, o3, o4, o5, o6⟩ | ⟨C', S', M', o1, o2, o3⟩
    · refine Or.inl ⟨C', S', M', s', gv', ?_, fun h hh => ?_, o3, o4, o5, by omega⟩
      · simp (disch := omega) only [en91, e91_0, e91_1, e91_4, e91_6, e91_9, e91_12, e91_13, e91_16, e91_17, e91_20, e91_23, e91_24, e91_27, e91_29, e91_32, e91_35, e91_36, e91_39, e91_40, e91_43, e91_46, e91_47, e91_50, e91_52, e91_55, e91_58, e91_59, e91_62, e91_65, e91_66, e91_69, e91_71, e91_74, e91_77, e91_78, e91_81, e91_84, e91_85, e91_88, e91_89, e91_92, e91_94, e91_97, e91_98, e91_101, e91_102, e91_105, ↓reduceIte, Bool.false_eq_true, not_false_eq_true, not_true_eq_false, Nat.reduceLeDiff, Nat.reduceAdd, Nat.reduceEqDiff, Int.reduceToNat, Int.toNat_natCast, iB0, iB1, ru_klI, ru_klR, ru_klF, ru_klJ, ru_kl0, ru_cs0, ru_csI, ru_csR, ru_csF, ru_csJ, wI_add, wI_sub, wI_mul, wI_lt, wI_le, wI_inj, ru_fdE, ru_fdN, ru_iaN, ru_baN, ru_laN, ru_qaN, ru_pfN, ru_isN, ru_bsN, ru_jsN, ru_qsN, ru_set2, Nat.add_right_cancel_iff, if_true, if_false, ite_self, Int.reduceEq, and_self, Int.add_neg_cancel_right, Int.add_zero, Int.zero_add, rd_e hR, rd_f0 hR, cl_e1, x1, x2, x3, x4, x5, g1, d0, d1, o1]
      · simp (disch := omega) only [en130, e130_0, e130_1, e130_3, e130_6, e130_9, e130_10, e130_11, e130_12, e130_13, e130_14, e130_17, e130_18, e130_19, e130_22, e130_25, e130_28, e130_29, e130_31, e130_34, e130_37, e130_38, e130_39, e130_40, e130_43, e130_46, e130_47, e130_49, e130_52, e130_55, e130_56, e130_57, e130_60, e130_63, e130_64, e130_66, e130_69, e130_72, e130_73, e130_74, e130_77, e130_80, e130_81, e130_83, e130_86, e130_89, e130_90, e130_91, e130_94, e130_97, e130_98, e130_99, e130_102, ↓reduceIte, Bool.false_eq_true, not_false_eq_true, not_true_eq_false, Nat.reduceLeDiff, Nat.reduceAdd, Nat.reduceEqDiff, Int.reduceToNat, Int.toNat_natCast, iB0, iB1, ru_klI, ru_klR, ru_klF, ru_klJ, ru_kl0, ru_cs0, ru_csI, ru_csR, ru_csF, ru_csJ, wI_add, wI_sub, wI_mul, wI_lt, wI_le, wI_inj, ru_fdE, ru_fdN, ru_iaN, ru_baN, ru_laN, ru_qaN, ru_pfN, ru_isN, ru_bsN, ru_jsN, ru_qsN, ru_set2, Nat.add_right_cancel_iff, if_true, if_false, ite_self, Int.reduceEq, and_self, Int.add_neg_cancel_right, Int.add_zero, Int.zero_add, md_e, z1 h hh, z2 h hh, z3 h hh, z4 h hh, z5 h hh, o2 h hh, d0, d1]
    · refine Or.inr ⟨C', S', M', ?_, fun h hh => ?_, o3⟩
      · simp (disch := omega) only [en91, e91_0, e91_1, e91_4, e91_6, e91_9, e91_12, e91_13, e91_16, e91_17, e91_20, e91_23, e91_24, e91_27, e91_29, e91_32, e91_35, e91_36, e91_39, e91_40, e91_43, e91_46, e91_47, e91_50, e91_52, e91_55, e91_58, e91_59, e91_62, e91_65, e91_66, e91_69, e91_71, e91_74, e91_77, e91_78, e91_81, e91_84, e91_85, e91_88, e91_89, e91_92, e91_94, e91_97, e91_98, e91_101, e91_102, e91_105, ↓reduceIte, Bool.false_eq_true, not_false_eq_true, not_true_eq_false, Nat.reduceLeDiff, Nat.reduceAdd, Nat.reduceEqDiff, Int.reduceToNat, Int.toNat_natCast, iB0, iB1, ru_klI, ru_klR, ru_klF, ru_klJ, ru_kl0, ru_cs0, ru_csI, ru_csR, ru_csF, ru_csJ, wI_add, wI_sub, wI_mul, wI_lt, wI_le, wI_inj, ru_fdE, ru_fdN, ru_iaN, ru_baN, ru_laN, ru_qaN, ru_pfN, ru_isN, ru_bsN, ru_jsN, ru_qsN, ru_set2, Nat.add_right_cancel_iff, if_true, if_false, ite_self, Int.reduceEq, and_self, Int.add_neg_cancel_right, Int.add_zero, Int.zero_add, rd_e hR, rd_f0 hR, cl_e1, x1, x2, x3, x4, x5, g1, d0, d1, o1]
      · simp (disch := omega) only [en130, e130_0, e130_1, e130_3, e130_6, e130_9, e130_10, e130_11, e130_12, e130_13, e130_14, e130_17, e130_18, e130_19, e130_22, e130_25, e130_28, e130_29, e130_31, e130_34, e130_37, e130_38, e130_39, e130_40, e130_43, e130_46, e130_47, e130_49, e130_52, e130_55, e130_56, e130_57, e130_60, e130_63, e130_64, e130_66, e130_69, e130_72, e130_73, e130_74, e130_77, e130_80, e130_81, e130_83, e130_86, e130_89, e130_90, e130_91, e130_94, e130_97, e130_98, e130_99, e130_102, ↓reduceIte, Bool.false_eq_true, not_false_eq_true, not_true_eq_false, Nat.reduceLeDiff, Nat.reduceAdd, Nat.reduceEqDiff, Int.reduceToNat, Int.toNat_natCast, iB0, iB1, ru_klI, ru_klR, ru_klF, ru_klJ, ru_kl0, ru_cs0, ru_csI, ru_csR, ru_csF, ru_csJ, wI_add, wI_sub, wI_mul, wI_lt, wI_le, wI_inj, ru_fdE, ru_fdN, ru_iaN, ru_baN, ru_laN, ru_qaN, ru_pfN, ru_isN, ru_bsN, ru_jsN, ru_qsN, ru_set2, Nat.add_right_cancel_iff, if_true, if_false, ite_self, Int.reduceEq, and_self, Int.add_neg_cancel_right, Int.add_zero, Int.zero_add, md_e, z1 h hh, z2 h hh, z3 h hh, z4 h hh, z5 h hh, o2 h hh, d0, d1]
  have z5 := no 372 26 c5 y5
  rw [if_neg c5] at x5
  refine Or.inr ⟨erC C 1, (g, T', c, Q, F), erM M 1, ?_, fun h hh => ?_, ep_of hr ht hn (by decide)⟩
  · have y := c36 (z := z) (h := rdH H R (A + 1) (g, T', c, Q, F)) (C := C) (b := 0) (Or.inl rfl) (c := 1)
    rw [if_neg (by decide)] at y
    simp (disch := omega) only [en91, e91_0, e91_1, e91_4, e91_6, e91_9, e91_12, e91_13, e91_16, e91_17, e91_20, e91_23, e91_24, e91_27, e91_29, e91_32, e91_35, e91_36, e91_39, e91_40, e91_43, e91_46, e91_47, e91_50, e91_52, e91_55, e91_58, e91_59, e91_62, e91_65, e91_66, e91_69, e91_71, e91_74, e91_77, e91_78, e91_81, e91_84, e91_85, e91_88, e91_89, e91_92, e91_94, e91_97, e91_98, e91_101, e91_102, e91_105, ↓reduceIte, Bool.false_eq_true, not_false_eq_true, not_true_eq_false, Nat.reduceLeDiff, Nat.reduceAdd, Nat.reduceEqDiff, Int.reduceToNat, Int.toNat_natCast, iB0, iB1, ru_klI, ru_klR, ru_klF, ru_klJ, ru_kl0, ru_cs0, ru_csI, ru_csR, ru_csF, ru_csJ, wI_add, wI_sub, wI_mul, wI_lt, wI_le, wI_inj, ru_fdE, ru_fdN, ru_iaN, ru_baN, ru_laN, ru_qaN, ru_pfN, ru_isN, ru_bsN, ru_jsN, ru_qsN, ru_set2, Nat.add_right_cancel_iff, if_true, if_false, ite_self, Int.reduceEq, and_self, Int.add_neg_cancel_right, Int.add_zero, Int.zero_add, rd_e hR, rd_f0 hR, cl_e1, x1, x2, x3, x4, x5, y, d0, d1]
    rfl
  · simp (disch := omega) only [en130, e130_0, e130_1, e130_3, e130_6, e130_9, e130_10, e130_11, e130_12, e130_13, e130_14, e130_17, e130_18, e130_19, e130_22, e130_25, e130_28, e130_29, e130_31, e130_34, e130_37, e130_38, e130_39, e130_40, e130_43, e130_46, e130_47, e130_49, e130_52, e130_55, e130_56, e130_57, e130_60, e130_63, e130_64, e130_66, e130_69, e130_72, e130_73, e130_74, e130_77, e130_80, e130_81, e130_83, e130_86, e130_89, e130_90, e130_91, e130_94, e130_97, e130_98, e130_99, e130_102, ↓reduceIte, Bool.false_eq_true, not_false_eq_true, not_true_eq_false, Nat.reduceLeDiff, Nat.reduceAdd, Nat.reduceEqDiff, Int.reduceToNat, Int.toNat_natCast, iB0, iB1, ru_klI, ru_klR, ru_klF, ru_klJ, ru_kl0, ru_cs0, ru_csI, ru_csR, ru_csF, ru_csJ, wI_add, wI_sub, wI_mul, wI_lt, wI_le, wI_inj, ru_fdE, ru_fdN, ru_iaN, ru_baN, ru_laN, ru_qaN, ru_pfN, ru_isN, ru_bsN, ru_jsN, ru_qsN, ru_set2, Nat.add_right_cancel_iff, if_true, if_false, ite_self, Int.reduceEq, and_self, Int.add_neg_cancel_right, Int.add_zero, Int.zero_add, md_e, z1 h hh, z2 h hh, z3 h hh, z4 h hh, z5 h hh, f63 h17, d0]
end PHR
