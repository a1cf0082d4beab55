/-! ===== phrases: an item's first words ===== -/
section ITW
variable {z : Bool} {M M0 : tMd} {C C0 : tCl} {n l s A N R nm : Nat} {gv rc : Int}
theorem fi_up {S : tRd} {m : Nat} {w : Int64} (hf : fiI M S m) {M' : tMd} (hM : ∀ i, i < 8 * m → M'.2 7 i = M.2 7 i) (hw : w = wdL (wF M' 7 (8 * m)) ∧ ltR (wF M' 7 (8 * m))) : fiI M' (S.1, S.2.1, S.2.2.1, S.2.2.2.1, am_up S.2.2.2.2 m w) (m + 1) := fun i hi => by
  show (if i = m then w else S.2.2.2.2 i) = _ ∧ _
  by_cases e : i = m
  · rw [if_pos e, e]; exact hw
  · rw [if_neg e]
    obtain ⟨h1, h2⟩ := hf i (by omega)
    have hc : ∀ k, k < 8 → wF M' 7 (8 * i) k = wF M 7 (8 * i) k := fun k hk => hM _ (by omega)
    exact ⟨by rw [h1]; exact wdL_c h2 hc, fun k hk => by rw [hc k hk]; exact h2 k hk⟩
theorem wl_j (hR : 1315 ≤ R) {H : am_H} (hH : strs H) (hs : prS A N n C0 M0) (hp : prR n C0 M0 rc) (hb0 : byI C0 M0 l) {row isL : Int} (hrow : row = -1 ∨ (0 ≤ row ∧ row < rc)) (hL : isL = 0 ∨ isL = 1) {t : Nat} : ∀ d m s C M S (l3 : Option Value), nxT M0 n row ≤ t + m + d → t + m ≤ nxT M0 n row → tkR C M l s → prI n C0 M0 C M gv → quI M0 n row isL t gv S → fiI M S m →
    itO H R A n l C0 M0 row isL s (fun S' C' => ru_n z 98 59 [some (.ref R), some (.int (wI ((m : Nat) : Int))), some (.int (wI 1)), l3, none, none] [] (clPut (rdH H R (A + 1) S) C) = some (.inl none, clPut (rdH H R (A + 1) S') C'))
      (fun S' C' => ru_n z 98 59 [some (.ref R), some (.int (wI ((m : Nat) : Int))), some (.int (wI 1)), l3, none, none] [] (clPut (rdH H R (A + 1) S) C) = some (.inr 2, clPut (rdH (thr H) R (A + 1) S') C'))
      (fun V M' => ∀ h, strs h → ru_n z 138 6 [some (.ref 1315), some (.int (wI n)), some (.int (wI row)), some (.int (wI isL)), some (.int (wI ((t : Nat) : Int))), some (.int (wI ((m : Nat) : Int))), some (.int (wI 1)), none] [] (mdPut h M) = some (.inl (some (.int (wI V))), mdPut h M')) := by
  have T12 := (nxT_12 hp hrow).1
  have hn := hb0.1
  have d0 : ((0 : Int) = 0) = True := eq_true rfl
  have d1 : ((1 : Int) = 0) = False := eq_false (by decide)
  have dm : ((-1 : Int) = -1) = True := eq_true rfl
  have hn5 := hs.2.2.2.2.1
  have key : ∀ d m s C M S (l3 : Option Value), nxT M0 n row ≤ t + m + d → t + m ≤ nxT M0 n row → tkR C M l s → prI n C0 M0 C M gv → quI M0 n row isL t gv S → fiI M S m → (∀ m' s C M S (l3 : Option Value), m < m' → nxT M0 n row + 1 ≤ t + m' + d → t + m' ≤ nxT M0 n row → tkR C M l s → prI n C0 M0 C M gv → quI M0 n row isL t gv S → fiI M S m' →
    itO H R A n l C0 M0 row isL s (fun S' C' => ru_n z 98 59 [some (.ref R), some (.int (wI ((m' : Nat) : Int))), some (.int (wI 1)), l3, none, none] [] (clPut (rdH H R (A + 1) S) C) = some (.inl none, clPut (rdH H R (A + 1) S') C'))
      (fun S' C' => ru_n z 98 59 [some (.ref R), some (.int (wI ((m' : Nat) : Int))), some (.int (wI 1)), l3, none, none] [] (clPut (rdH H R (A + 1) S) C) = some (.inr 2, clPut (rdH (thr H) R (A + 1) S') C'))
      (fun V M' => ∀ h, strs h → ru_n z 138 6 [some (.ref 1315), some (.int (wI n)), some (.int (wI row)), some (.int (wI isL)), some (.int (wI ((t : Nat) : Int))), some (.int (wI ((m' : Nat) : Int))), some (.int (wI 1)), none] [] (mdPut h M) = some (.inl (some (.int (wI V))), mdPut h M'))) →
    itO H R A n l C0 M0 row isL s (fun S' C' => ru_n z 98 59 [some (.ref R), some (.int (wI ((m : Nat) : Int))), some (.int (wI 1)), l3, none, none] [] (clPut (rdH H R (A + 1) S) C) = some (.inl none, clPut (rdH H R (A + 1) S') C'))
      (fun S' C' => ru_n z 98 59 [some (.ref R), some (.int (wI ((m : Nat) : Int))), some (.int (wI 1)), l3, none, none] [] (clPut (rdH H R (A + 1) S) C) = some (.inr 2, clPut (rdH (thr H) R (A + 1) S') C'))
      (fun V M' => ∀ h, strs h → ru_n z 138 6 [some (.ref 1315), some (.int (wI n)), some (.int (wI row)), some (.int (wI isL)), some (.int (wI ((t : Nat) : Int))), some (.int (wI ((m : Nat) : Int))), some (.int (wI 1)), none] [] (mdPut h M) = some (.inl (some (.int (wI V))), mdPut h M')) := by
    intro d m s C M S l3 hd htm ht hr hq hf ih
    obtain ⟨g, T', t', Q, F⟩ := S
    obtain ⟨q1, q2, q3, q4, q5⟩ := id hq
    dsimp only at q1 q2 q3 q5
    subst q1 q2 q3
    have hb := pr_byI hb0 hr
    have h17 := hr.2.2.2.1
    have sS : ∀ Q F, strs (rdH H R (A + 1) (g, ((nxT M0 n row : Nat) : Int), (t : Int), Q, F)) := fun Q F => strs_rd hR hH
    have c12 : ((12 : Int) < (m : Int)) = False := eq_false (by omega)
    have g17 : ∀ h, am_fd (mdPut h M) 1315 10 17 = some (.int (wI 0)) := fun h => by rw [md_f17, h17]
    have f6 : ∀ (D : tCl) Q F, am_fd (clPut (rdH H R (A + 1) (g, ((nxT M0 n row : Nat) : Int), (t : Int), Q, F)) D) R 8 6 = some (.int (wI ((nxT M0 n row : Nat) : Int))) := fun D Q F => rd_f6 hR
    have f7 : ∀ (D : tCl) Q F, am_fd (clPut (rdH H R (A + 1) (g, ((nxT M0 n row : Nat) : Int), (t : Int), Q, F)) D) R 8 7 = some (.int (wI (t : Int))) := fun D Q F => rd_f7 hR
    by_cases cw : nmTk M = true
    rotate_left
    · right
      have hm := mut_er ht (t := 1) (by decide)
      refine ⟨_, (g, ((nxT M0 n row : Nat) : Int), (t : Int), Q, F), _, (t : Int) + ((m + 1 : Nat) : Int), ?_, fun h hS => ?_, ep_of hr ht hn (t := 1) (by decide)⟩
      · have x := c42 (z := z) (sS Q F) ht hb
        rw [if_neg cw] at x
        simp (disch := omega) only [e98_59, e98_60, e98_62, e98_65, e98_66, e98_69, e98_70, e98_73, ↓reduceIte, Bool.false_eq_true, not_false_eq_true, not_true_eq_false, Nat.reduceLeDiff, Nat.reduceAdd, Nat.reduceEqDiff, Int.reduceToNat, Int.toNat_natCast, iB0, iB1, ru_klI, ru_klR, ru_klF, ru_klJ, ru_kl0, ru_cs0, ru_csI, ru_csR, ru_csF, ru_csJ, wI_add, wI_sub, wI_mul, wI_lt, wI_le, wI_inj, ru_fdE, ru_fdN, ru_iaN, ru_baN, ru_laN, ru_qaN, ru_pfN, ru_isN, ru_bsN, ru_jsN, ru_qsN, ru_set2, Nat.add_right_cancel_iff, if_true, if_false, ite_self, Int.reduceEq, and_self, Int.add_neg_cancel_right, Int.add_zero, Int.zero_add, rd_e hR, rd_f0 hR, cl_e1, c12, d1, x]
        rfl
      · have x := p68e (z := z) (h := h) (off := 8 * (m : Int)) hS ht h17 cw
        have e17 : am_fd (mdPut h (erM M 1)) 1315 10 17 = some (.int (wI 1)) := by rw [md_f17]; rfl
        have y := u138b (z := z) (h := h) (f := wI n) (row := wI row) (isL := wI isL) (x6 := wI 1) (t := t) (c := m) (l7 := none) (by omega) hm
        rw [← y]
        simp (disch := omega) only [e138_6, e138_8, e138_11, e138_12, e138_15, e138_18, e138_19, e138_20, e138_23, e138_25, e138_27, e138_28, e138_31, e138_32, e138_35, ↓reduceIte, Bool.false_eq_true, not_false_eq_true, not_true_eq_false, Nat.reduceLeDiff, Nat.reduceAdd, Nat.reduceEqDiff, Int.reduceToNat, Int.toNat_natCast, iB0, iB1, ru_klI, ru_klR, ru_klF, ru_klJ, ru_kl0, ru_cs0, ru_csI, ru_csR, ru_csF, ru_csJ, wI_add, wI_sub, wI_mul, wI_lt, wI_le, wI_inj, ru_fdE, ru_fdN, ru_iaN, ru_baN, ru_laN, ru_qaN, ru_pfN, ru_isN, ru_bsN, ru_jsN, ru_qsN, ru_set2, Nat.add_right_cancel_iff, if_true, if_false, ite_self, Int.reduceEq, and_self, Int.add_neg_cancel_right, Int.add_zero, Int.zero_add, md_e, md_f23, g17, x, e17, d0, d1, not_true, not_false_iff]
    obtain ⟨e1, e2, e3⟩ := tkR_w ht (nmTk_13 cw)
    have kk1 : ru_ev z 42 [.ref 1001] (clPut (rdH H R (A + 1) (g, ((nxT M0 n row : Nat) : Int), (t : Int), Q, F)) C) = some (.inl (some (.long (wdL (M.2 4)))), clPut (rdH H R (A + 1) (g, ((nxT M0 n row : Nat) : Int), (t : Int), Q, F)) C) := by rw [c42 (sS Q F) ht hb, if_pos cw, e1]
    have y2 : ∀ h, strs h → ru_ev z 68 [.ref 1315, .ref 1323, .int (wI (8 * (m : Int)))] (mdPut h M) = some (.inl none, mdPut h (kpM M (8 * m) 8)) := fun h hS => by
      have x := p68 (z := z) (off := 8 * m) (by omega) hS ht h17 (fun q hq => by have := e3 q hq; omega) cw
      simp only [Int.natCast_mul, show ((8 : Nat) : Int) = 8 from rfl] at x
      exact x
    have rk := kp_pr (off := 8 * m) hr
    have tk := kp_tk (off := 8 * m) ht
    have hk17 : ∀ h, am_fd (mdPut h (kpM M (8 * m) 8)) 1315 10 17 = some (.int (wI 0)) := fun h => by rw [md_f17, rk.2.2.2.1]
    have x133 := fun h => p133 (z := z) (h := h) hn5 rk hp hrow hL (t := t + m) (by omega)
    simp only [Int.natCast_add] at x133
    by_cases cT : t + m < nxT M0 n row
    rotate_left
    · -- nobody is left
      right
      have hm := mut_er tk (t := 7) (by decide)
      have v : nxV M0 n row isL (t + m) = -1 := if_pos (by omega)
      refine ⟨erC C 7, (g, ((nxT M0 n row : Nat) : Int), (t : Int), Q, F), _, (t : Int) + ((m + 1 : Nat) : Int), ?_, fun h hS => ?_, ep_of rk tk hn (t := 7) (by decide)⟩
      · have y := c36 (z := z) (h := rdH H R (A + 1) (g, ((nxT M0 n row : Nat) : Int), (t : Int), Q, F)) (C := C) (b := 0) (Or.inl rfl) (c := 7)
        rw [if_neg (by decide)] at y
        have c2 : (((nxT M0 n row : Nat) : Int) ≤ (t : Int) + (m : Int)) = True := eq_true (by omega)
        simp (disch := omega) only [e98_59, e98_60, e98_62, e98_65, e98_66, e98_69, e98_70, e98_73, e98_76, e98_77, e98_78, e98_81, e98_82, e98_85, e98_86, e98_87, e98_88, e98_91, e98_94, e98_95, e98_98, e98_99, e98_101, ↓reduceIte, Bool.false_eq_true, not_false_eq_true, not_true_eq_false, Nat.reduceLeDiff, Nat.reduceAdd, Nat.reduceEqDiff, Int.reduceToNat, Int.toNat_natCast, iB0, iB1, ru_klI, ru_klR, ru_klF, ru_klJ, ru_kl0, ru_cs0, ru_csI, ru_csR, ru_csF, ru_csJ, wI_add, wI_sub, wI_mul, wI_lt, wI_le, wI_inj, ru_fdE, ru_fdN, ru_iaN, ru_baN, ru_laN, ru_qaN, ru_pfN, ru_isN, ru_bsN, ru_jsN, ru_qsN, ru_set2, Nat.add_right_cancel_iff, if_true, if_false, ite_self, Int.reduceEq, and_self, Int.add_neg_cancel_right, Int.add_zero, Int.zero_add, rd_e hR, rd_f0 hR, f6, f7, cl_e1, c12, d1, kk1, c2, y]
        rfl
      · have xx := x133 h
        rw [v] at xx
        have y := u138b (z := z) (h := h) (f := wI n) (row := wI row) (isL := wI isL) (x6 := wI 1) (t := t) (c := m) (l7 := none) (by omega) hm
        rw [← y]
        simp (disch := omega) only [e138_6, e138_8, e138_11, e138_12, e138_15, e138_18, e138_19, e138_20, e138_23, e138_25, e138_27, e138_28, e138_31, e138_32, e138_35, e138_38, e138_39, e138_40, e138_41, e138_42, e138_44, e138_46, e138_47, e138_50, e138_51, e138_54, e138_55, e138_57, ↓reduceIte, Bool.false_eq_true, not_false_eq_true, not_true_eq_false, Nat.reduceLeDiff, Nat.reduceAdd, Nat.reduceEqDiff, Int.reduceToNat, Int.toNat_natCast, iB0, iB1, ru_klI, ru_klR, ru_klF, ru_klJ, ru_kl0, ru_cs0, ru_csI, ru_csR, ru_csF, ru_csJ, wI_add, wI_sub, wI_mul, wI_lt, wI_le, wI_inj, ru_fdE, ru_fdN, ru_iaN, ru_baN, ru_laN, ru_qaN, ru_pfN, ru_isN, ru_bsN, ru_jsN, ru_qsN, ru_set2, Nat.add_right_cancel_iff, if_true, if_false, ite_self, Int.reduceEq, and_self, Int.add_neg_cancel_right, Int.add_zero, Int.zero_add, md_e, md_f23, g17, y2 h hS, hk17, xx, f63 rk.2.2.2.1, dm, d0, d1, not_true, not_false_iff]
    obtain ⟨k, kv1, kv2⟩ := nx_sh hp hrow (isL := isL) cT
    have dk : ((k : Int) = -1) = False := eq_false (by omega)
    have k12 := (shS_rng hp.2.2.2.2.1 kv2).2.2.2.1
    have c2 : (((nxT M0 n row : Nat) : Int) ≤ (t : Int) + (m : Int)) = False := eq_false (by omega)
    have y1 := c36 (z := z) (h := rdH H R (A + 1) (g, ((nxT M0 n row : Nat) : Int), (t : Int), Q, F)) (C := C) (b := 1) (Or.inr rfl) (c := 7)
    rw [if_pos rfl] at y1
    have wj := rd_j (h := H) (C := C) (R := R) (nm := A + 1) (S := (g, ((nxT M0 n row : Nat) : Int), (t : Int), Q, F)) hR (i := (m : Int)) (v := wdL (M.2 4)) (by omega) (by omega)
    dsimp only at wj
    rw [Int.toNat_natCast] at wj
    obtain ⟨C1, M1, s1, k1, k2, k3, k4, k5, k6⟩ := tk_adv (z := z) tk (by show ¬ M.1 13 = 0; rw [nmTk_13 cw]; decide) (pr_byI hb0 rk)
    have r1 := prI_tok rk k4 k5
    have h171 := r1.2.2.2.1
    have b1 := pr_byI hb0 r1
    have e7 : M1.2 7 = (kpM M (8 * m) 8).2 7 := k5.2 7 (by decide)
    have hf1 : fiI M1 (g, ((nxT M0 n row : Nat) : Int), (t : Int), Q, am_up F m (wdL (M.2 4))) (m + 1) := fi_up (S := (g, ((nxT M0 n row : Nat) : Int), (t : Int), Q, F)) hf (fun i hi => by
      rw [e7]
      show (if 7 = 7 then (fun q => if 8 * m ≤ q ∧ q < 8 * m + 8 then M.2 4 (q - 8 * m) else M.2 7 q) else M.2 7) i = _
      rw [if_pos rfl, if_neg (by omega)]) (by
      have hc : ∀ k, k < 8 → wF M1 7 (8 * m) k = M.2 4 k := fun k hk => by
        unfold wF
        rw [e7]; exact kp_7 k hk
      exact ⟨wdL_c e2.1 hc, fun k hk => by rw [hc k hk]; exact e2.1 k hk⟩)
    have hq1 : quI M0 n row isL t g (g, ((nxT M0 n row : Nat) : Int), (t : Int), Q, am_up F m (wdL (M.2 4))) := ⟨rfl, rfl, rfl, q4, q5⟩
    have y66 : ∀ h, ru_ev z 66 [.ref 1315] (mdPut h (kpM M (8 * m) 8)) = some (.inl none, mdPut h M1) := fun h => p66 (z := z) rk.2.2.2.1 (k2 h)
    have xa : ∀ h, strs h → ru_ev z 28 [.ref 1001, .ref 322] (clPut h C1) = _ := w28 (z := z) (j := 22) (by decide) k3 b1 (by decide)
    have ya : ∀ h, strs h → ru_ev z 62 [.ref 1315, .ref 364] (mdPut h M1) = _ := w62 (z := z) (i := 22) (j := 64) (by decide) (by decide) h171 k3 (by decide)
    have xaS := xa _ (sS Q (am_up F m (wdL (M.2 4))))
    -- the class up to "and"
    have cA : ∀ b : Int, ru_ev z 28 [.ref 1001, .ref 322] (clPut (rdH H R (A + 1) (g, ((nxT M0 n row : Nat) : Int), (t : Int), Q, am_up F m (wdL (M.2 4)))) C1) = some (.inl (some (.int (wI b))), clPut (rdH H R (A + 1) (g, ((nxT M0 n row : Nat) : Int), (t : Int), Q, am_up F m (wdL (M.2 4)))) C1) → ru_n z 98 59 [some (.ref R), some (.int (wI ((m : Nat) : Int))), some (.int (wI 1)), l3, none, none] [] (clPut (rdH H R (A + 1) (g, ((nxT M0 n row : Nat) : Int), (t : Int), Q, F)) C) = ru_n z 98 128 [some (.ref R), some (.int (wI ((m : Nat) : Int))), some (.int (wI b)), some (.long (wdL (M.2 4))), none, none] [] (clPut (rdH H R (A + 1) (g, ((nxT M0 n row : Nat) : Int), (t : Int), Q, am_up F m (wdL (M.2 4)))) C1) := fun b hb => by
      simp (disch := omega) only [e98_59, e98_60, e98_62, e98_65, e98_66, e98_69, e98_70, e98_73, e98_76, e98_77, e98_78, e98_81, e98_82, e98_85, e98_86, e98_87, e98_88, e98_91, e98_94, e98_95, e98_98, e98_99, e98_101, e98_104, e98_105, e98_108, e98_109, e98_110, e98_111, e98_112, e98_115, e98_118, e98_119, e98_122, e98_124, e98_127, ↓reduceIte, Bool.false_eq_true, not_false_eq_true, not_true_eq_false, Nat.reduceLeDiff, Nat.reduceAdd, Nat.reduceEqDiff, Int.reduceToNat, Int.toNat_natCast, iB0, iB1, ru_klI, ru_klR, ru_klF, ru_klJ, ru_kl0, ru_cs0, ru_csI, ru_csR, ru_csF, ru_csJ, wI_add, wI_sub, wI_mul, wI_lt, wI_le, wI_inj, ru_fdE, ru_fdN, ru_iaN, ru_baN, ru_laN, ru_qaN, ru_pfN, ru_isN, ru_bsN, ru_jsN, ru_qsN, ru_set2, Nat.add_right_cancel_iff, if_true, if_false, ite_self, Int.reduceEq, and_self, Int.add_neg_cancel_right, Int.add_zero, Int.zero_add, rd_e hR, rd_f0 hR, rd_f8 hR, f6, f7, cl_e1, c12, d1, kk1, c2, y1, wj, k1, hb]
    -- the reference up to "and"
    have mA : ∀ (b : Int) (M2 : tMd), (∀ h, strs h → ru_ev z 61 [.ref 1315, .ref 364] (mdPut h M1) = some (.inl (some (.int (wI b))), mdPut h M2)) → ∀ h, strs h → ru_n z 138 6 [some (.ref 1315), some (.int (wI n)), some (.int (wI row)), some (.int (wI isL)), some (.int (wI ((t : Nat) : Int))), some (.int (wI ((m : Nat) : Int))), some (.int (wI 1)), none] [] (mdPut h M) = ru_n z 138 6 [some (.ref 1315), some (.int (wI n)), some (.int (wI row)), some (.int (wI isL)), some (.int (wI ((t : Nat) : Int))), some (.int (wI ((m + 1 : Nat) : Int))), some (.int (wI b)), none] [] (mdPut h M2) := fun b M2 hb h hS => by
      have xx := x133 h
      rw [kv1] at xx
      rw [e138_6]
      simp only [Int.natCast_add, Int.natCast_one]
      simp (disch := omega) only [e138_8, e138_11, e138_12, e138_15, e138_18, e138_19, e138_20, e138_23, e138_25, e138_27, e138_28, e138_31, e138_32, e138_35, e138_38, e138_39, e138_40, e138_41, e138_42, e138_44, e138_46, e138_47, e138_50, e138_51, e138_54, e138_55, e138_57, e138_60, e138_63, e138_64, e138_67, e138_68, e138_70, e138_73, e138_75, ↓reduceIte, Bool.false_eq_true, not_false_eq_true, not_true_eq_false, Nat.reduceLeDiff, Nat.reduceAdd, Nat.reduceEqDiff, Int.reduceToNat, Int.toNat_natCast, iB0, iB1, ru_klI, ru_klR, ru_klF, ru_klJ, ru_kl0, ru_cs0, ru_csI, ru_csR, ru_csF, ru_csJ, wI_add, wI_sub, wI_mul, wI_lt, wI_le, wI_inj, ru_fdE, ru_fdN, ru_iaN, ru_baN, ru_laN, ru_qaN, ru_pfN, ru_isN, ru_bsN, ru_jsN, ru_qsN, ru_set2, Nat.add_right_cancel_iff, if_true, if_false, ite_self, Int.reduceEq, and_self, Int.add_neg_cancel_right, Int.add_zero, Int.zero_add, md_e, md_f23, g17, y2 h hS, hk17, xx, y66, hb h hS, dk, d0, d1, not_true, not_false_iff]
    by_cases ca : isW M1 (sbT 22) = true
    · -- more first words
      obtain ⟨C2, M2, s2, j1, j2, j3, j4, j5, j6⟩ := tk_adv (z := z) k3 (by rw [isW_13 ca]; decide) b1
      have r2 := prI_tok r1 j4 j5
      have hf2 : fiI M2 (g, ((nxT M0 n row : Nat) : Int), (t : Int), Q, am_up F m (wdL (M.2 4))) (m + 1) := by
        unfold fiI wF at hf1 ⊢
        rw [j5.2 7 (by decide)]; exact hf1
      have p61' : ∀ h, strs h → ru_ev z 61 [.ref 1315, .ref 364] (mdPut h M1) = some (.inl (some (.int (wI 1))), mdPut h M2) := fun h hS => by
        have x := p61 (z := z) (M' := M2) (ya h hS) (fun _ => j2 h)
        rw [if_pos ca, if_pos ca] at x; exact x
      rw [if_pos ca] at xaS
      have hcl : ru_n z 98 59 [some (.ref R), some (.int (wI ((m : Nat) : Int))), some (.int (wI 1)), l3, none, none] [] (clPut (rdH H R (A + 1) (g, ((nxT M0 n row : Nat) : Int), (t : Int), Q, F)) C) = ru_n z 98 59 [some (.ref R), some (.int (wI ((m + 1 : Nat) : Int))), some (.int (wI 1)), some (.long (wdL (M.2 4))), none, none] [] (clPut (rdH H R (A + 1) (g, ((nxT M0 n row : Nat) : Int), (t : Int), Q, am_up F m (wdL (M.2 4)))) C2) := by
        rw [cA 1 xaS]
        simp only [Int.natCast_add, Int.natCast_one]
        simp (disch := omega) only [e98_128, e98_129, e98_132, e98_133, e98_136, e98_139, e98_142, ↓reduceIte, Bool.false_eq_true, not_false_eq_true, not_true_eq_false, Nat.reduceLeDiff, Nat.reduceAdd, Nat.reduceEqDiff, Int.reduceToNat, Int.toNat_natCast, iB0, iB1, ru_klI, ru_klR, ru_klF, ru_klJ, ru_kl0, ru_cs0, ru_csI, ru_csR, ru_csF, ru_csJ, wI_add, wI_sub, wI_mul, wI_lt, wI_le, wI_inj, ru_fdE, ru_fdN, ru_iaN, ru_baN, ru_laN, ru_qaN, ru_pfN, ru_isN, ru_bsN, ru_jsN, ru_qsN, ru_set2, Nat.add_right_cancel_iff, if_true, if_false, ite_self, Int.reduceEq, and_self, Int.add_neg_cancel_right, Int.add_zero, Int.zero_add, rd_e hR, rd_f0 hR, cl_e1, d1, j1]
      rcases ih (m + 1) s2 C2 M2 (g, ((nxT M0 n row : Nat) : Int), (t : Int), Q, am_up F m (wdL (M.2 4))) (some (.long (wdL (M.2 4)))) (by omega) (by omega) (by omega) j3 r2 hq1 hf2 with ⟨C', S', M', s', gv', t'', o1, o2, o3, o4, o5, o6⟩ | ⟨C', S', M', V, o1, o2, o3⟩
      · exact Or.inl ⟨C', S', M', s', gv', t'', hcl.trans o1, fun h hS => (mA 1 M2 p61' h hS).trans (o2 h hS), o3, o4, o5, by omega⟩
      · exact Or.inr ⟨C', S', M', V, hcl.trans o1, fun h hS => (mA 1 M2 p61' h hS).trans (o2 h hS), o3⟩
    · -- the last word
      have na : isW M1 (sbT 22) = false := Bool.eq_false_iff.mpr ca
      have p61' : ∀ h, strs h → ru_ev z 61 [.ref 1315, .ref 364] (mdPut h M1) = some (.inl (some (.int (wI 0))), mdPut h M1) := fun h hS => by
        have x := p61 (z := z) (M' := M1) (ya h hS) (fun e => absurd e ca)
        rw [if_neg ca, if_neg ca] at x; exact x
      rw [if_neg ca] at xaS
      have hcl : ru_n z 98 59 [some (.ref R), some (.int (wI ((m : Nat) : Int))), some (.int (wI 1)), l3, none, none] [] (clPut (rdH H R (A + 1) (g, ((nxT M0 n row : Nat) : Int), (t : Int), Q, F)) C) = ru_n z 98 145 [some (.ref R), some (.int (wI ((m + 1 : Nat) : Int))), some (.int (wI 0)), some (.long (wdL (M.2 4))), none, none] [] (clPut (rdH H R (A + 1) (g, ((nxT M0 n row : Nat) : Int), (t : Int), Q, am_up F m (wdL (M.2 4)))) C1) := by
        rw [cA 0 xaS]
        have c13 : ((12 : Int) < (m : Int) + 1) = False := eq_false (by omega)
        simp only [Int.natCast_add, Int.natCast_one]
        simp (disch := omega) only [e98_59, e98_60, e98_62, e98_65, e98_66, e98_128, e98_129, e98_132, e98_133, e98_136, e98_139, e98_142, ↓reduceIte, Bool.false_eq_true, not_false_eq_true, not_true_eq_false, Nat.reduceLeDiff, Nat.reduceAdd, Nat.reduceEqDiff, Int.reduceToNat, Int.toNat_natCast, iB0, iB1, ru_klI, ru_klR, ru_klF, ru_klJ, ru_kl0, ru_cs0, ru_csI, ru_csR, ru_csF, ru_csJ, wI_add, wI_sub, wI_mul, wI_lt, wI_le, wI_inj, ru_fdE, ru_fdN, ru_iaN, ru_baN, ru_laN, ru_qaN, ru_pfN, ru_isN, ru_bsN, ru_jsN, ru_qsN, ru_set2, Nat.add_right_cancel_iff, if_true, if_false, ite_self, Int.reduceEq, and_self, Int.add_neg_cancel_right, Int.add_zero, Int.zero_add, c13, d0]
      have hmd : ∀ h, strs h → ru_n z 138 6 [some (.ref 1315), some (.int (wI n)), some (.int (wI row)), some (.int (wI isL)), some (.int (wI ((t : Nat) : Int))), some (.int (wI ((m : Nat) : Int))), some (.int (wI 1)), none] [] (mdPut h M) = ru_n z 138 78 [some (.ref 1315), some (.int (wI n)), some (.int (wI row)), some (.int (wI isL)), some (.int (wI ((t : Nat) : Int))), some (.int (wI ((m + 1 : Nat) : Int))), some (.int (wI 0)), none] [] (mdPut h M1) := fun h hS => by
        rw [mA 0 M1 p61' h hS]
        simp (disch := omega) only [e138_6, e138_8, ↓reduceIte, Bool.false_eq_true, not_false_eq_true, not_true_eq_false, Nat.reduceLeDiff, Nat.reduceAdd, Nat.reduceEqDiff, Int.reduceToNat, Int.toNat_natCast, iB0, iB1, ru_klI, ru_klR, ru_klF, ru_klJ, ru_kl0, ru_cs0, ru_csI, ru_csR, ru_csF, ru_csJ, wI_add, wI_sub, wI_mul, wI_lt, wI_le, wI_inj, ru_fdE, ru_fdN, ru_iaN, ru_baN, ru_laN, ru_qaN, ru_pfN, ru_isN, ru_bsN, ru_jsN, ru_qsN, ru_set2, Nat.add_right_cancel_iff, if_true, if_false, ite_self, Int.reduceEq, and_self, Int.add_neg_cancel_right, Int.add_zero, Int.zero_add, d0]
      rcases la_j (z := z) (l2 := wI 0) (l3 := some (.long (wdL (M.2 4)))) hR hH hs hp hb0 hrow hL (cnt := m + 1) (t := t) (by omega) (by omega) k3 r1 hq1 hf1 with ⟨C', S', M', s', gv', t'', o1, o2, o3, o4, o5, o6⟩ | ⟨C', S', M', V, o1, o2, o3⟩
      · exact Or.inl ⟨C', S', M', s', gv', t'', hcl.trans o1, fun h hS => (hmd h hS).trans (o2 h hS), o3, o4, o5, by omega⟩
      · exact Or.inr ⟨C', S', M', V, hcl.trans o1, fun h hS => (hmd h hS).trans (o2 h hS), o3⟩
  intro d
  induction d with
  | zero =>
    intro m s C M S l3 h1 h2 h3 h4 h5 h6
    exact key 0 m s C M S l3 h1 h2 h3 h4 h5 h6 (fun m' s' C' M' S' l3' a1 a2 a3 => by omega)
  | succ d ih =>
    intro m s C M S l3 h1 h2 h3 h4 h5 h6
    exact key (d + 1) m s C M S l3 h1 h2 h3 h4 h5 h6 (fun m' s' C' M' S' l3' a1 a2 a3 a4 a5 a6 a7 => ih m' s' C' M' S' l3' (by omega) a3 a4 a5 a6 a7)
end ITW
