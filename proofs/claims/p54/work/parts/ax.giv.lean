/-! ===== phrases: a name given ===== -/
/-- the class's draft, the reference's photo with a name given -/
def gvC (C : tCl) (k : Nat) (nm : Int) : tCl := phP C 1065 ((cph C 1065).1, upC (cph C 1065).2 3 (am_up (gvF ((cph C 1065).2 3) nm ((cph C 1065).1 7).toNat) k nm))
def gvM (M : tMd) (n k : Nat) (nm : Int) : tMd := (up1 M.1 35 (M.1 35 + 1), upC M.2 0 (gvA (M.2 0) (mph M n) n k nm))
theorem gvM_n {M : tMd} {n k c : Nat} {nm : Int} (h : c ≠ 0) : (gvM M n k nm).2 c = M.2 c := upC_n h
section GIV
variable {z : Bool} {M M0 : tMd} {C C0 : tCl} {n l s A N R : Nat} {gv : Int}
theorem gv_pr (hn : n < 5) (hr : prI n C0 M0 C M gv) {k : Nat} (hk : (k : Int) < (cph C 1065).1 7) {nm : Int} (hnm : 0 ≤ nm ∧ nm < M.1 20) : prI n C0 M0 (gvC C k nm) (gvM M n k nm) (gv + 1) := by
  obtain ⟨a1, a2, a3, a4, a5, a6, a7, a8, a9, b1, b2, b3, b4⟩ := hr
  have h20 := a6.2.2.2.1
  obtain ⟨c1, c2, c3, c4, c5, c6, c7⟩ := nm_ch (q := cph C 1065) (k := k) (nm := nm) a6 a7 a8 hn hk (fun c hc => cph_hi _ _ c hc) a9 b1 (by omega)
  have e65 : cph (gvC C k nm) 1065 = ((cph C 1065).1, upC (cph C 1065).2 3 (am_up (gvF ((cph C 1065).2 3) nm ((cph C 1065).1 7).toNat) k nm)) := phP_eq c1
  have s := phR_s (a6.2.2.2.2.2.2 n hn)
  have e7 := b1.1 7 (by decide)
  obtain ⟨g1, g2⟩ := gvA_at (S := M.2 0) (p := mph M n) (n := n) (k := k) (nm := nm) (fun i hi => (mph_x hi).2.2.2.symm) a8 (by omega) (by omega) (by omega)
  have hold : ∀ j, (∀ i : Nat, i < 12 → j ≠ 54 * n + 6 + 4 * i + 3) → gvA (M.2 0) (mph M n) n k nm j = M.2 0 j := fun j hj => g2 j (fun i hi => hj i (by omega))
  have m1 : ∀ k', k' ≠ 35 → (gvM M n k nm).1 k' = M.1 k' := fun k' h => up1_n h
  have m2 : ∀ c, c ≠ 0 → (gvM M n k nm).2 c = M.2 c := fun c h => upC_n h
  have m0 : (gvM M n k nm).2 0 = gvA (M.2 0) (mph M n) n k nm := by show upC M.2 0 (gvA (M.2 0) (mph M n) n k nm) 0 = _; rw [upC_e]
  have mm : mph (gvM M n k nm) n = msf (gvA (M.2 0) (mph M n) n k nm) (M.2 8) (M.2 9) n := by rw [mph_f, m0, m2 8 (by decide), m2 9 (by decide)]
  have hps : psE (mph (gvM M n k nm) n) (mph M n) := by
    rw [mm]
    generalize gvA (M.2 0) (mph M n) n k nm = Sx at hold ⊢
    refine ⟨fun i hi => ?_, fun c hc => funext fun i => ?_⟩
    · rw [mph_f]
      unfold msf
      dsimp only
      rw [hold _ (fun i hi => by omega)]
    · rw [mph_f]
      unfold msf
      dsimp only
      by_cases hi : i < 12
      · rw [if_pos hi, if_pos hi, if_neg (show ¬ c = 3 by omega), if_neg (show ¬ c = 3 by omega), if_pos (show c < 4 by omega), if_pos (show c < 4 by omega), hold _ (fun i hi => by omega)]
      · rw [if_neg hi, if_neg hi]
  have hrg : rgI (gvM M n k nm) := by
    unfold rgI
    rw [m0, m2 1 (by decide), m2 8 (by decide), m2 9 (by decide), m1 25 (by decide)]
    exact ⟨c3, a7.2⟩
  refine ⟨⟨fun q hq => ?_, fun q h1 h2 => ?_, a1.2.2.1, a1.2.2.2⟩, fun i hi => ?_, ⟨fun q h1 h2 => (m1 q h2).trans (a3.1 q h1 h2), fun c h0 h4 h7 => (m2 c h0).trans (a3.2 c h0 h4 h7)⟩, by rw [m1 17 (by decide)]; exact a4, ?_, mdR_of ⟨by rw [m1 0 (by decide)]; exact a6.1, by rw [m1 1 (by decide)]; exact a6.2.1, by rw [m1 4 (by decide)]; exact a6.2.2.1, by rw [m1 20 (by decide)]; exact h20, by rw [m1 25 (by decide)]; exact a6.2.2.2.2.1, by rw [m1 24 (by decide)]; exact a6.2.2.2.2.2.1⟩ hrg (by rw [m0]; exact c4), hrg, by rw [mm, m1 20 (by decide)]; exact c6, by rw [e65]; exact c2, by rw [e65, mm]; exact c5, psE_tr hps b2, ?_, fun j hj => ?_⟩
  · by_cases e : q = 1065
    · rw [e, ← a1.1 1065 (by decide)]
      exact congrArg Prod.fst e65
    · rw [← a1.1 q hq]
      exact phP_1 e
  · rw [← a1.2.1 q h1 h2]
    have u : ∀ (D : tCl) (c : Nat), c < 4 → (cph D 1065).2 c = D.2.1 (1065 + 1 + c) := fun D c hc => if_pos hc
    by_cases e : 1066 ≤ q ∧ q ≤ 1069
    · obtain ⟨c, rfl⟩ : ∃ c, q = 1065 + 1 + c := ⟨q - 1066, by omega⟩
      rw [← u (gvC C k nm) c (by omega), e65, ← u C c (by omega)]
      exact upC_n (by omega)
    · exact phP_2 (by omega)
  · rw [← a2 i hi]
    exact congrFun (phP_1 (by decide)) i
  · show up1 M.1 35 (M.1 35 + 1) 35 = gv + 1
    rw [up1_e, a5]
  · rw [e65]
    refine ⟨b3.1, fun c hc => ?_⟩
    show upC (cph C 1065).2 3 _ c = _
    rw [upC_n (by omega)]; exact b3.2 c hc
  · rw [m0, hold j (fun i hi => by omega)]; exact b4 j hj
theorem gv_tk (ht : tkR C M l s) {k : Nat} {nm : Int} : tkR (gvC C k nm) (gvM M n k nm) l s := tkR_of ht (phP_1 (by decide)) (phP_2 (by decide)) rfl rfl (fun q _ _ => up1_n (by omega)) (gvM_n (by decide))
theorem gv_cl (hR : 1315 ≤ R) (hr : prI n C0 M0 C M gv) {k : Nat} (hk : (k : Int) < (cph C 1065).1 7) {nm : Int} (hnm : 0 ≤ nm ∧ nm ≤ 19) {h : am_H} {nn : Nat} {S : tRd} : ru_ev z 100 [.ref R, .int (wI k), .int (wI nm)] (clPut (rdH h R nn S) C) = some (.inl none, clPut (rdH h R nn (S.1 + 1, S.2)) (gvC C k nm)) := by
  have a9 := hr.2.2.2.2.2.2.2.2.1
  have x := k101 (z := z) (h := rdH h R nn S) (C := C) (a := 1065) (q := cph C 1065) isPh_draft (fun c hc => cph_hi _ _ c hc) a9 hk (nm := nm) (by omega)
  rw [phP_get] at x
  have pe : ∀ D : tCl, (clPut (rdH h R nn S) D).1 1065 = some (.inr (6, clL6 D 1065)) := fun D => clP6 (by decide +kernel) (by decide)
  have s4 := rd_s4 (h := h) (C := gvC C k nm) (R := R) (nm := nn) (S := S) hR (v := S.1 + 1)
  have x' : ru_ev z 101 [.ref 1065, .int (wI k), .int (wI nm)] (clPut (rdH h R nn S) C) = some (.inl none, clPut (rdH h R nn S) (gvC C k nm)) := x
  simp (disch := omega) only [en100, e100_0, e100_1, e100_4, e100_5, e100_6, e100_9, e100_10, e100_11, e100_14, e100_15, e100_16, e100_19, ↓reduceIte, Bool.false_eq_true, not_false_eq_true, not_true_eq_false, Nat.reduceLeDiff, Nat.reduceAdd, Nat.reduceEqDiff, Int.reduceToNat, Int.toNat_natCast, iB0, iB1, ru_klI, ru_klR, ru_klF, ru_klJ, ru_kl0, ru_cs0, ru_csI, ru_csR, ru_csF, ru_csJ, wI_add, wI_sub, wI_mul, wI_lt, wI_le, wI_inj, ru_fdE, ru_fdN, ru_iaN, ru_baN, ru_laN, ru_qaN, ru_pfN, ru_isN, ru_bsN, ru_jsN, ru_qsN, ru_set2, Nat.add_right_cancel_iff, if_true, if_false, ite_self, Int.reduceEq, and_self, Int.add_neg_cancel_right, Int.add_zero, Int.zero_add, ru_ctR, ru_ctI, rd_e hR, rd_f2 hR, rd_f4 hR, pe, x', s4]
theorem gv_md (hn : n < 5) (hr : prI n C0 M0 C M gv) {k : Nat} (hk : k < 12) {nm : Int} (hnm : 0 ≤ nm ∧ nm ≤ 19) {h : am_H} : ru_ev z 139 [.ref 1315, .int (wI n), .int (wI k), .int (wI nm)] (mdPut h M) = some (.inl none, mdPut h (M.1, upC M.2 0 (gvA (M.2 0) (mph M n) n k nm))) := by
  have a6 := hr.2.2.2.2.2.1
  have x := p139 (z := z) (h := h) (N := M) hn hk (a6.2.2.2.2.2.2 n hn) hnm
  have eg : gvA (M.2 0) (mph M n) n k nm = gvS (M.2 0) n k (hofF ((mph M n).2 3) nm ((mph M n).1 7).toNat 0) nm := by unfold gvA; rw [if_neg (by omega)]
  rw [eg]; exact x
/-- who has a whole name in the picture -/
def fhO (z : Bool) (R A N n l : Nat) (C0 : tCl) (M0 : tMd) (C : tCl) (M : tMd) (s : Nat) (gv : Int) : Prop :=
  (∃ C' M' s' nm k, (∀ h S, strs h → ru_ev z 105 [.ref R] (clPut (rdH h R (A + 1) S) C) = some (.inl (some (.int (wI ((nm : Nat) : Int)))), clPut (rdH h R (A + 1) S) C')) ∧ (∀ h S, ru_ev z 107 [.ref R, .int (wI ((nm : Nat) : Int))] (clPut (rdH h R (A + 1) S) C') = some (.inl (some (.int (wI ((k : Nat) : Int)))), clPut (rdH h R (A + 1) S) C')) ∧ (∀ h, strs h → ru_ev z 148 [.ref 1315, .int (wI n)] (mdPut h M) = some (.inl (some (.int (wI ((k : Nat) : Int)))), mdPut h M')) ∧ tkR C' M' l s' ∧ prI n C0 M0 C' M' gv ∧ s ≤ s' ∧ shS (mph M0 n) k = true ∧ M'.1 13 = 1) ∨
  (∃ C' C'' M' nm, (∀ h S, strs h → ru_ev z 105 [.ref R] (clPut (rdH h R (A + 1) S) C) = some (.inl (some (.int (wI ((nm : Nat) : Int)))), clPut (rdH h R (A + 1) S) C'')) ∧ (∀ h S, ru_ev z 107 [.ref R, .int (wI ((nm : Nat) : Int))] (clPut (rdH h R (A + 1) S) C'') = some (.inr 2, clPut (rdH (thr h) R (A + 1) S) C')) ∧ (∀ h, strs h → ru_ev z 148 [.ref 1315, .int (wI n)] (mdPut h M) = some (.inl (some (.int (wI (-1)))), mdPut h M')) ∧ epI n C0 M0 C' M') ∨
  ∃ C' M', (∀ h S, strs h → ru_ev z 105 [.ref R] (clPut (rdH h R (A + 1) S) C) = some (.inr 2, clPut (rdH (thr h) R (A + 1) S) C')) ∧ (∀ h, strs h → ru_ev z 148 [.ref 1315, .int (wI n)] (mdPut h M) = some (.inl (some (.int (wI (-1)))), mdPut h M')) ∧ epI n C0 M0 C' M'
theorem fh_j (hR : 1315 ≤ R) (hs : prS A N n C0 M0) (hr : prI n C0 M0 C M gv) (ht : tkR C M l s) (hb0 : byI C0 M0 l) : fhO z R A N n l C0 M0 C M s gv := by
  have hn5 := hs.2.2.2.2.1
  have N20 := hs.2.2.2.1
  have hn := hb0.1
  have d0 : ((0 : Int) = 0) = True := eq_true rfl
  have dm : ((-1 : Int) = -1) = True := eq_true rfl
  rcases fl_j (z := z) hR hs hr ht hb0 with ⟨C1, M1, s1, nm, k1, k2, k3, k4, k5, k6, k7⟩ | ⟨C1, M1, k1, k2, k3⟩
  rotate_left
  · right; right
    have hm := k3.2.2.2.2.2.2.2.2
    refine ⟨C1, M1, k1, fun h hS => ?_, k3⟩
    have d9 : (M1.1 17 = 0) = False := eq_false (by have := hm.1; omega)
    have r17 := hm.1
    have u5 := u63 (z := z) (h := h) (c := 6) hm
    simp (disch := omega) only [en148, e148_0, e148_1, e148_4, e148_5, e148_6, e148_9, e148_12, e148_13, e148_14, e148_15, e148_18, e148_21, e148_22, e148_23, e148_24, e148_25, e148_28, e148_29, e148_31, e148_34, e148_35, ↓reduceIte, Bool.false_eq_true, not_false_eq_true, not_true_eq_false, Nat.reduceLeDiff, Nat.reduceAdd, Nat.reduceEqDiff, Int.reduceToNat, Int.toNat_natCast, iB0, iB1, ru_klI, ru_klR, ru_klF, ru_klJ, ru_kl0, ru_cs0, ru_csI, ru_csR, ru_csF, ru_csJ, wI_add, wI_sub, wI_mul, wI_lt, wI_le, wI_inj, ru_fdE, ru_fdN, ru_iaN, ru_baN, ru_laN, ru_qaN, ru_pfN, ru_isN, ru_bsN, ru_jsN, ru_qsN, ru_set2, Nat.add_right_cancel_iff, if_true, if_false, ite_self, Int.reduceEq, and_self, Int.add_neg_cancel_right, Int.add_zero, Int.zero_add, md_e, md_f17, k2 h hS, d9, u5, dm, not_true, not_false_iff]
  obtain ⟨a1, a2, a3, a4, a5, a6, a7, a8, a9, b1, b2, b3, b4⟩ := id k4
  have hq := a6.2.2.2.2.2.2 n hn5
  have p149' : ∀ h, ru_ev z 149 [.ref 1315, .int (wI n), .int (wI nm)] (mdPut h M1) = some (.inl (some (.int (wI (shH (mph M1 n) nm)))), mdPut h M1) := fun h => p149 (z := z) (h := h) hn5 hq (nm := (nm : Int)) (by omega)
  have m108' : ∀ h, ru_ev z 108 [.ref 1065, .int (wI nm)] (clPut h C1) = some (.inl (some (.int (wI (hofF ((cph C1 1065).2 3) nm ((cph C1 1065).1 7).toNat 0)))), clPut h C1) := fun h => m108 (z := z) (cl_ph isPh_draft) a9 (nm := (nm : Int)) (by omega)
  have eh : hofF ((cph C1 1065).2 3) nm ((cph C1 1065).1 7).toNat 0 = hofF ((mph M1 n).2 3) nm ((mph M1 n).1 7).toNat 0 := pheq_hof b1 (phR_s a9).2.2.2.2.2.2.2.1 nm
  have pe : ∀ h : am_H, (clPut h C1).1 1065 = some (.inr (6, clL6 C1 1065)) := fun h => clP6 (by decide +kernel) (by decide)
  have sm := phR_s hq
  have g17 : ∀ h, am_fd (mdPut h M1) 1315 10 17 = some (.int (wI 0)) := fun h => by rw [md_f17, a4]
  have er : ∀ (D : tCl) (h : am_H) (S : tRd) (b c : Int), b = 0 ∨ b = 1 → ru_ev z 36 [.ref 1001, .int (wI b), .int (wI c)] (clPut (rdH h R (A + 1) S) D) = if b = 1 then some (.inl none, clPut (rdH h R (A + 1) S) D) else some (.inr 2, clPut (rdH (thr h) R (A + 1) S) (erC D c)) := fun D h S b c hb => c36 hb
  rcases hofF_sp ((mph M1 n).2 3) nm ((mph M1 n).1 7).toNat 0 with ⟨c1, c2⟩ | ⟨k, c1, -, c2, c3⟩
  · -- nobody has it
    right; left
    have d1 : ((-1 : Int) = -1) = True := eq_true rfl
    have eS : shH (mph M1 n) nm = -1 := by unfold shH; rw [c1, if_neg (fun h => h.1 rfl)]
    refine ⟨erC C1 6, C1, erM M1 6, nm, k1, fun h S => ?_, fun h hS => ?_, ep_of k4 k3 hn (by decide)⟩
    · have y := er C1 h S 0 6 (Or.inl rfl)
      rw [if_neg (by decide)] at y
      have x := m108' (rdH h R (A + 1) S)
      rw [eh, c1] at x
      simp (disch := omega) only [en107, e107_0, e107_1, e107_4, e107_5, e107_8, e107_9, e107_10, e107_13, e107_14, e107_15, e107_18, e107_19, e107_22, e107_23, e107_26, e107_29, e107_30, e107_33, e107_34, e107_36, e107_39, e107_40, ↓reduceIte, Bool.false_eq_true, not_false_eq_true, not_true_eq_false, Nat.reduceLeDiff, Nat.reduceAdd, Nat.reduceEqDiff, Int.reduceToNat, Int.toNat_natCast, iB0, iB1, ru_klI, ru_klR, ru_klF, ru_klJ, ru_kl0, ru_cs0, ru_csI, ru_csR, ru_csF, ru_csJ, wI_add, wI_sub, wI_mul, wI_lt, wI_le, wI_inj, ru_fdE, ru_fdN, ru_iaN, ru_baN, ru_laN, ru_qaN, ru_pfN, ru_isN, ru_bsN, ru_jsN, ru_qsN, ru_set2, Nat.add_right_cancel_iff, if_true, if_false, ite_self, Int.reduceEq, and_self, Int.add_neg_cancel_right, Int.add_zero, Int.zero_add, rd_e hR, rd_f0 hR, rd_f2 hR, pe, cl_e1, x, y, d1, not_true, not_false_iff]
    · have x := p149' h
      rw [eS] at x
      simp (disch := omega) only [en148, e148_0, e148_1, e148_4, e148_5, e148_6, e148_9, e148_12, e148_13, e148_14, e148_15, e148_18, e148_21, e148_22, e148_23, e148_24, e148_25, e148_28, e148_29, e148_31, e148_34, e148_35, ↓reduceIte, Bool.false_eq_true, not_false_eq_true, not_true_eq_false, Nat.reduceLeDiff, Nat.reduceAdd, Nat.reduceEqDiff, Int.reduceToNat, Int.toNat_natCast, iB0, iB1, ru_klI, ru_klR, ru_klF, ru_klJ, ru_kl0, ru_cs0, ru_csI, ru_csR, ru_csF, ru_csJ, wI_add, wI_sub, wI_mul, wI_lt, wI_le, wI_inj, ru_fdE, ru_fdN, ru_iaN, ru_baN, ru_laN, ru_qaN, ru_pfN, ru_isN, ru_bsN, ru_jsN, ru_qsN, ru_set2, Nat.add_right_cancel_iff, if_true, if_false, ite_self, Int.reduceEq, and_self, Int.add_neg_cancel_right, Int.add_zero, Int.zero_add, md_e, g17, k2 h hS, x, f63 a4, d0, d1, not_true, not_false_iff]
  have hk12 : k < 12 := by omega
  have d2 : ((k : Int) = -1) = False := eq_false (by omega)
  have esh := ps_sh b2
  have e7 := b1.1 7 (by decide)
  have em : (shw (cph C1 1065) k = true) = (shw (mph M1 n) k = true) := by rw [pheq_shw b1 (by omega)]
  have x82 : ∀ h, ru_ev z 82 [.ref 1065, .int (wI k)] (clPut h C1) = some (.inl (some (.int (wI (if shw (mph M1 n) k = true then 1 else 0)))), clPut h C1) := fun h => by
    have x := m82 (z := z) (cl_ph (h := h) (C := C1) isPh_draft) a9 (i := (k : Int)) (by omega) (by omega)
    rw [Int.toNat_natCast] at x
    rw [x]
    simp only [em]
  by_cases cs : shw (mph M1 n) k = true
  · left
    have eS : shH (mph M1 n) nm = (k : Int) := by unfold shH; rw [c1, Int.toNat_natCast, if_pos ⟨by omega, cs⟩]
    refine ⟨C1, M1, s1, nm, k, k1, fun h S => ?_, fun h hS => ?_, k3, k4, k5, ?_, k7⟩
    · have y := er C1 h S 1 6 (Or.inr rfl)
      rw [if_pos rfl] at y
      have x := m108' (rdH h R (A + 1) S)
      rw [eh, c1] at x
      have x2 := x82 (rdH h R (A + 1) S)
      rw [if_pos cs] at x2
      have d3 : ((1 : Int) = 0) = False := eq_false (by decide)
      simp (disch := omega) only [en107, e107_0, e107_1, e107_4, e107_5, e107_8, e107_9, e107_10, e107_13, e107_14, e107_15, e107_18, e107_19, e107_22, e107_23, e107_26, e107_29, e107_30, e107_33, e107_34, e107_36, e107_39, e107_40, ↓reduceIte, Bool.false_eq_true, not_false_eq_true, not_true_eq_false, Nat.reduceLeDiff, Nat.reduceAdd, Nat.reduceEqDiff, Int.reduceToNat, Int.toNat_natCast, iB0, iB1, ru_klI, ru_klR, ru_klF, ru_klJ, ru_kl0, ru_cs0, ru_csI, ru_csR, ru_csF, ru_csJ, wI_add, wI_sub, wI_mul, wI_lt, wI_le, wI_inj, ru_fdE, ru_fdN, ru_iaN, ru_baN, ru_laN, ru_qaN, ru_pfN, ru_isN, ru_bsN, ru_jsN, ru_qsN, ru_set2, Nat.add_right_cancel_iff, if_true, if_false, ite_self, Int.reduceEq, and_self, Int.add_neg_cancel_right, Int.add_zero, Int.zero_add, rd_e hR, rd_f0 hR, rd_f2 hR, pe, cl_e1, x, x2, y, d2, d3, not_true, not_false_iff]
    · have x := p149' h
      rw [eS] at x
      simp (disch := omega) only [en148, e148_0, e148_1, e148_4, e148_5, e148_6, e148_9, e148_12, e148_13, e148_14, e148_15, e148_18, e148_21, e148_22, e148_23, e148_24, e148_25, e148_28, e148_29, e148_31, e148_34, e148_35, ↓reduceIte, Bool.false_eq_true, not_false_eq_true, not_true_eq_false, Nat.reduceLeDiff, Nat.reduceAdd, Nat.reduceEqDiff, Int.reduceToNat, Int.toNat_natCast, iB0, iB1, ru_klI, ru_klR, ru_klF, ru_klJ, ru_kl0, ru_cs0, ru_csI, ru_csR, ru_csF, ru_csJ, wI_add, wI_sub, wI_mul, wI_lt, wI_le, wI_inj, ru_fdE, ru_fdN, ru_iaN, ru_baN, ru_laN, ru_qaN, ru_pfN, ru_isN, ru_bsN, ru_jsN, ru_qsN, ru_set2, Nat.add_right_cancel_iff, if_true, if_false, ite_self, Int.reduceEq, and_self, Int.add_neg_cancel_right, Int.add_zero, Int.zero_add, md_e, g17, k2 h hS, x, d0, d2, not_true, not_false_iff]
    · rw [← esh.2.2.2, shS_of (by omega)]; exact cs
  · right; left
    have eS : shH (mph M1 n) nm = -1 := by unfold shH; rw [c1, Int.toNat_natCast, if_neg (fun h => cs h.2)]
    refine ⟨erC C1 6, C1, erM M1 6, nm, k1, fun h S => ?_, fun h hS => ?_, ep_of k4 k3 hn (by decide)⟩
    · have y := er C1 h S 0 6 (Or.inl rfl)
      rw [if_neg (by decide)] at y
      have x := m108' (rdH h R (A + 1) S)
      rw [eh, c1] at x
      have x2 := x82 (rdH h R (A + 1) S)
      rw [if_neg cs] at x2
      simp (disch := omega) only [en107, e107_0, e107_1, e107_4, e107_5, e107_8, e107_9, e107_10, e107_13, e107_14, e107_15, e107_18, e107_19, e107_22, e107_23, e107_26, e107_29, e107_30, e107_33, e107_34, e107_36, e107_39, e107_40, ↓reduceIte, Bool.false_eq_true, not_false_eq_true, not_true_eq_false, Nat.reduceLeDiff, Nat.reduceAdd, Nat.reduceEqDiff, Int.reduceToNat, Int.toNat_natCast, iB0, iB1, ru_klI, ru_klR, ru_klF, ru_klJ, ru_kl0, ru_cs0, ru_csI, ru_csR, ru_csF, ru_csJ, wI_add, wI_sub, wI_mul, wI_lt, wI_le, wI_inj, ru_fdE, ru_fdN, ru_iaN, ru_baN, ru_laN, ru_qaN, ru_pfN, ru_isN, ru_bsN, ru_jsN, ru_qsN, ru_set2, Nat.add_right_cancel_iff, if_true, if_false, ite_self, Int.reduceEq, and_self, Int.add_neg_cancel_right, Int.add_zero, Int.zero_add, rd_e hR, rd_f0 hR, rd_f2 hR, pe, cl_e1, x, x2, y, d0, d2, not_true, not_false_iff]
    · have x := p149' h
      rw [eS] at x
      simp (disch := omega) only [en148, e148_0, e148_1, e148_4, e148_5, e148_6, e148_9, e148_12, e148_13, e148_14, e148_15, e148_18, e148_21, e148_22, e148_23, e148_24, e148_25, e148_28, e148_29, e148_31, e148_34, e148_35, ↓reduceIte, Bool.false_eq_true, not_false_eq_true, not_true_eq_false, Nat.reduceLeDiff, Nat.reduceAdd, Nat.reduceEqDiff, Int.reduceToNat, Int.toNat_natCast, iB0, iB1, ru_klI, ru_klR, ru_klF, ru_klJ, ru_kl0, ru_cs0, ru_csI, ru_csR, ru_csF, ru_csJ, wI_add, wI_sub, wI_mul, wI_lt, wI_le, wI_inj, ru_fdE, ru_fdN, ru_iaN, ru_baN, ru_laN, ru_qaN, ru_pfN, ru_isN, ru_bsN, ru_jsN, ru_qsN, ru_set2, Nat.add_right_cancel_iff, if_true, if_false, ite_self, Int.reduceEq, and_self, Int.add_neg_cancel_right, Int.add_zero, Int.zero_add, md_e, g17, k2 h hS, x, f63 a4, d0, dm, not_true, not_false_iff]
end GIV
