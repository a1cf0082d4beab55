/-! ===== the reference's scanner: the next token ===== -/
def tkM (M : tMd) (n s L D : Nat) : tMd :=
  if n ≤ s then scP (up1 (up1 M.1 12 (s : Int)) 13 0, M.2) (s : Int) (M.1 15) (M.1 16) (M.2 4)
  else if 0 < L then scP (up1 (up1 M.1 12 (s : Int)) 13 (if L ≤ 8 then 1 else 5), M.2) ((s + L : Nat) : Int) (L : Int) (M.1 16) (zwM M s L (M.2 4))
  else if 0 < D then scP (up1 (up1 M.1 12 (s : Int)) 13 (if D ≤ 4 then 2 else 5), M.2) ((s + D : Nat) : Int) (M.1 15) (if D ≤ 4 then nmM M s D else 0) (M.2 4)
  else scP (up1 (up1 M.1 12 (s : Int)) 13 (if M.2 3 s = 59 then 3 else if M.2 3 s = 44 then 4 else 5), M.2) ((s : Int) + 1) (M.1 15) (M.1 16) (M.2 4)
theorem nmM_eq {M N : tMd} (h : N.2 3 = M.2 3) (s : Nat) : ∀ m, nmM N s m = nmM M s m
  | 0 => rfl
  | m + 1 => by
    show 10 * nmM N s m + N.2 3 (s + m) - 48 = 10 * nmM M s m + M.2 3 (s + m) - 48
    rw [nmM_eq h s m, h]
section TOK
variable {z : Bool} {h : am_H} {M : tMd} {n s e L D : Nat}
theorem p57 (h10 : M.1 10 = (n : Int)) (h11 : M.1 11 = (e : Int)) (hn : n ≤ 1200) (he : e ≤ n) (hb : ∀ i, i < n → 0 ≤ M.2 3 i ∧ M.2 3 i ≤ 255) (hs : s = eF (rgM M 32 32) (n - e) e)
    (l1 : s + L ≤ n) (l2 : ∀ j, j < L → 97 ≤ M.2 3 (s + j) ∧ M.2 3 (s + j) ≤ 122) (l3 : s + L < n → ¬ (97 ≤ M.2 3 (s + L) ∧ M.2 3 (s + L) ≤ 122))
    (d1 : s + D ≤ n) (d2 : ∀ j, j < D → 48 ≤ M.2 3 (s + j) ∧ M.2 3 (s + j) ≤ 57) (d3 : s + D < n → ¬ (48 ≤ M.2 3 (s + D) ∧ M.2 3 (s + D) ≤ 57)) : ru_ev z 57 [.ref 1315] (mdPut h M) = some (.inl none, mdPut h (tkM M n s L D)) := by
  have sb := eF_b (rgM M 32 32) (n - e) e
  rw [← hs] at sb
  have k1 := p57a (z := z) (h := h) (M := M) (b := M.1 15) (c := M.1 16) (f := M.2 4) h10 hn hb (n - e) e (by omega)
  rw [← hs, ← h11, scP_self] at k1
  have h10' : (up1 M.1 12 (s : Int), M.2).1 10 = (n : Int) := by show up1 M.1 12 (s : Int) 10 = _; rw [up1_n (by decide)]; exact h10
  have r := fun (a b c : Int) f => p58 (z := z) (h := h) (M := (up1 M.1 12 (s : Int), M.2)) (a := a) (b := b) (c := c) (f := f) h10' hn (i := s) (by omega)
  have es : seM (up1 M.1 12 (s : Int), M.2) n s = if s < n then M.2 3 s else -1 := rfl
  rw [es] at r
  have start : ru_ev z 57 [.ref 1315] (mdPut h M) = ru_n z 57 26 [some (.ref 1315), none, none] [] (mdPut h (scP M (s : Int) (M.1 15) (M.1 16) (M.2 4))) := by
    rw [← k1]
    simp (disch := omega) only [en57, ↓reduceIte, Bool.false_eq_true, not_false_eq_true, not_true_eq_false, Nat.reduceLeDiff, Nat.reduceAdd, Nat.reduceEqDiff, Int.reduceToNat, Int.toNat_natCast, iB0, iB1, ru_klI, ru_klR, ru_klF, ru_klJ, ru_kl0, ru_cs0, ru_csI, ru_csR, ru_csF, ru_csJ, wI_add, wI_sub, wI_mul, wI_lt, wI_le, wI_inj, ru_fdE, ru_fdN, ru_iaN, ru_baN, ru_laN, ru_qaN, ru_pfN, ru_isN, ru_bsN, ru_jsN, ru_qsN, ru_set2, Nat.add_right_cancel_iff, if_true, if_false, ite_self, Int.reduceEq, and_self, Int.add_neg_cancel_right, Int.add_zero, Int.zero_add, md_e]
  rw [start]
  unfold tkM
  by_cases c1 : n ≤ s
  · rw [if_pos c1]
    rw [if_neg (by omega)] at r
    have e1 : ((-1 : Int) = -1) = True := eq_true rfl
    simp (disch := omega) only [e57_26, e57_27, e57_28, e57_31, e57_34, e57_35, e57_36, e57_39, e57_42, e57_43, e57_44, e57_45, e57_48, e57_49, e57_50, e57_53, e57_304, ↓reduceIte, Bool.false_eq_true, not_false_eq_true, not_true_eq_false, Nat.reduceLeDiff, Nat.reduceAdd, Nat.reduceEqDiff, Int.reduceToNat, Int.toNat_natCast, iB0, iB1, ru_klI, ru_klR, ru_klF, ru_klJ, ru_kl0, ru_cs0, ru_csI, ru_csR, ru_csF, ru_csJ, wI_add, wI_sub, wI_mul, wI_lt, wI_le, wI_inj, ru_fdE, ru_fdN, ru_iaN, ru_baN, ru_laN, ru_qaN, ru_pfN, ru_isN, ru_bsN, ru_jsN, ru_qsN, ru_set2, Nat.add_right_cancel_iff, if_true, if_false, ite_self, Int.reduceEq, and_self, Int.add_neg_cancel_right, Int.add_zero, Int.zero_add, md_e, sc_f11, sc_s12, sc_s13, r, e1, not_true]
  · rw [if_neg c1]
    rw [if_pos (by omega)] at r
    have b0 := hb s (by omega)
    have e1 : (M.2 3 s = -1) = False := eq_false (by omega)
    have q59 := fun X => p59 (z := z) (X := X) (v := M.2 3 s) (by omega)
    have q60 := fun X => p60 (z := z) (X := X) (v := M.2 3 s) (by omega)
    by_cases c2 : 0 < L
    · rw [if_pos c2]
      have x := l2 0 c2
      rw [Nat.add_zero] at x
      rw [if_pos x] at q59
      have e2 : ((1 : Int) = 0) = False := eq_false (by decide)
      have w := p57w (z := z) (h := h) (M := (up1 M.1 12 (s : Int), M.2)) (c := M.1 16) (f := M.2 4) (n := n) (s := s) (l1 := wI (M.2 3 s)) (L := L) h10' hn l1 l2 (fun hl => ⟨hb _ hl, l3 hl⟩) L 0 (by omega)
      have ew : wdM (up1 M.1 12 (s : Int), M.2) s 0 (M.2 4) = M.2 4 := by
        funext q; unfold wdM; rw [if_neg (by omega)]
      rw [ew, Nat.add_zero, show ((0 : Nat) : Int) = 0 from rfl] at w
      have fin : ∀ l2, ru_n z 57 155 [some (.ref 1315), some (.int (wI (M.2 3 s))), some (.int l2)] [] (mdPut h (scP (up1 M.1 12 (s : Int), M.2) ((s + L : Nat) : Int) (L : Int) (M.1 16) (zwM M s L (M.2 4)))) = some (.inl none, mdPut h (scP (up1 (up1 M.1 12 (s : Int)) 13 (if L ≤ 8 then 1 else 5), M.2) ((s + L : Nat) : Int) (L : Int) (M.1 16) (zwM M s L (M.2 4)))) := fun l2 => by
        by_cases c8 : L ≤ 8
        · have e8 : ((L : Int) ≤ 8) = True := eq_true (by omega)
          rw [if_pos c8]
          simp (disch := omega) only [e57_155, e57_156, e57_157, e57_160, e57_162, e57_165, e57_166, e57_169, e57_170, e57_173, e57_304, ↓reduceIte, Bool.false_eq_true, not_false_eq_true, not_true_eq_false, Nat.reduceLeDiff, Nat.reduceAdd, Nat.reduceEqDiff, Int.reduceToNat, Int.toNat_natCast, iB0, iB1, ru_klI, ru_klR, ru_klF, ru_klJ, ru_kl0, ru_cs0, ru_csI, ru_csR, ru_csF, ru_csJ, wI_add, wI_sub, wI_mul, wI_lt, wI_le, wI_inj, ru_fdE, ru_fdN, ru_iaN, ru_baN, ru_laN, ru_qaN, ru_pfN, ru_isN, ru_bsN, ru_jsN, ru_qsN, ru_set2, Nat.add_right_cancel_iff, if_true, if_false, ite_self, Int.reduceEq, and_self, Int.add_neg_cancel_right, Int.add_zero, Int.zero_add, md_e, sc_f15, sc_s13, e8]
        · have e8 : ((L : Int) ≤ 8) = False := eq_false (by omega)
          rw [if_neg c8]
          simp (disch := omega) only [e57_155, e57_156, e57_157, e57_160, e57_162, e57_165, e57_166, e57_169, e57_170, e57_173, e57_304, ↓reduceIte, Bool.false_eq_true, not_false_eq_true, not_true_eq_false, Nat.reduceLeDiff, Nat.reduceAdd, Nat.reduceEqDiff, Int.reduceToNat, Int.toNat_natCast, iB0, iB1, ru_klI, ru_klR, ru_klF, ru_klJ, ru_kl0, ru_cs0, ru_csI, ru_csR, ru_csF, ru_csJ, wI_add, wI_sub, wI_mul, wI_lt, wI_le, wI_inj, ru_fdE, ru_fdN, ru_iaN, ru_baN, ru_laN, ru_qaN, ru_pfN, ru_isN, ru_bsN, ru_jsN, ru_qsN, ru_set2, Nat.add_right_cancel_iff, if_true, if_false, ite_self, Int.reduceEq, and_self, Int.add_neg_cancel_right, Int.add_zero, Int.zero_add, md_e, sc_f15, sc_s13, e8]
      have mid : ru_n z 57 131 [some (.ref 1315), some (.int (wI (M.2 3 s))), none] [] (mdPut h (scP (up1 M.1 12 (s : Int), M.2) ((s + L : Nat) : Int) (L : Int) (M.1 16) (wdM (up1 M.1 12 (s : Int), M.2) s L (M.2 4)))) = some (.inl none, mdPut h (scP (up1 (up1 M.1 12 (s : Int)) 13 (if L ≤ 8 then 1 else 5), M.2) ((s + L : Nat) : Int) (L : Int) (M.1 16) (zwM M s L (M.2 4)))) := by
        by_cases c8 : L ≤ 8
        · have zf := p57z (z := z) (h := h) (M := (up1 M.1 12 (s : Int), M.2)) (b := (L : Int)) (c := M.1 16) (f := M.2 4) (s := s) (l1 := wI (M.2 3 s)) (L := L) (a := ((s + L : Nat) : Int)) (8 - L) L (by omega) (Nat.le_refl _) (wdM (up1 M.1 12 (s : Int), M.2) s L (M.2 4)) (fun i => by
            unfold wdM zwM
            by_cases c : i < L
            · rw [if_pos ⟨c, by omega⟩, if_pos c, if_pos (by omega), if_pos c]
            · rw [if_neg (fun h => c h.1), if_neg c])
          rw [show zwM (up1 M.1 12 (s : Int), M.2) s L (M.2 4) = zwM M s L (M.2 4) from rfl, fin] at zf
          rw [← zf]
          simp (disch := omega) only [e57_131, e57_132, e57_135, ↓reduceIte, Bool.false_eq_true, not_false_eq_true, not_true_eq_false, Nat.reduceLeDiff, Nat.reduceAdd, Nat.reduceEqDiff, Int.reduceToNat, Int.toNat_natCast, iB0, iB1, ru_klI, ru_klR, ru_klF, ru_klJ, ru_kl0, ru_cs0, ru_csI, ru_csR, ru_csF, ru_csJ, wI_add, wI_sub, wI_mul, wI_lt, wI_le, wI_inj, ru_fdE, ru_fdN, ru_iaN, ru_baN, ru_laN, ru_qaN, ru_pfN, ru_isN, ru_bsN, ru_jsN, ru_qsN, ru_set2, Nat.add_right_cancel_iff, if_true, if_false, ite_self, Int.reduceEq, and_self, Int.add_neg_cancel_right, Int.add_zero, Int.zero_add, md_e, sc_f15]
        · have e8 : ((8 : Int) ≤ (L : Int)) = True := eq_true (by omega)
          have ew2 : wdM (up1 M.1 12 (s : Int), M.2) s L (M.2 4) = zwM M s L (M.2 4) := by
            funext q
            unfold wdM zwM
            by_cases c : q < 8
            · rw [if_pos ⟨by omega, c⟩, if_pos c, if_pos (by omega)]
            · rw [if_neg (fun h => c h.2), if_neg c]
          rw [ew2, ← fin (wI (L : Nat))]
          simp (disch := omega) only [e57_131, e57_132, e57_135, e57_136, e57_137, e57_139, ↓reduceIte, Bool.false_eq_true, not_false_eq_true, not_true_eq_false, Nat.reduceLeDiff, Nat.reduceAdd, Nat.reduceEqDiff, Int.reduceToNat, Int.toNat_natCast, iB0, iB1, ru_klI, ru_klR, ru_klF, ru_klJ, ru_kl0, ru_cs0, ru_csI, ru_csR, ru_csF, ru_csJ, wI_add, wI_sub, wI_mul, wI_lt, wI_le, wI_inj, ru_fdE, ru_fdN, ru_iaN, ru_baN, ru_laN, ru_qaN, ru_pfN, ru_isN, ru_bsN, ru_jsN, ru_qsN, ru_set2, Nat.add_right_cancel_iff, if_true, if_false, ite_self, Int.reduceEq, and_self, Int.add_neg_cancel_right, Int.add_zero, Int.zero_add, md_e, sc_f15, e8]
      rw [mid] at w
      rw [← w]
      simp (disch := omega) only [e57_26, e57_27, e57_28, e57_31, e57_34, e57_35, e57_36, e57_39, e57_42, e57_43, e57_44, e57_45, e57_48, e57_49, e57_50, e57_53, e57_56, e57_57, e57_60, e57_63, e57_64, e57_65, ↓reduceIte, Bool.false_eq_true, not_false_eq_true, not_true_eq_false, Nat.reduceLeDiff, Nat.reduceAdd, Nat.reduceEqDiff, Int.reduceToNat, Int.toNat_natCast, iB0, iB1, ru_klI, ru_klR, ru_klF, ru_klJ, ru_kl0, ru_cs0, ru_csI, ru_csR, ru_csF, ru_csJ, wI_add, wI_sub, wI_mul, wI_lt, wI_le, wI_inj, ru_fdE, ru_fdN, ru_iaN, ru_baN, ru_laN, ru_qaN, ru_pfN, ru_isN, ru_bsN, ru_jsN, ru_qsN, ru_set2, Nat.add_right_cancel_iff, if_true, if_false, ite_self, Int.reduceEq, and_self, Int.add_neg_cancel_right, Int.add_zero, Int.zero_add, md_e, sc_f11, sc_s12, sc_s15, r, q59, e1, e2, not_false_iff]
    · rw [if_neg c2]
      have L0 : L = 0 := by omega
      subst L0
      have x := l3 (by omega)
      rw [Nat.add_zero] at x
      rw [if_neg x] at q59
      have e2 : ((0 : Int) = 0) = True := eq_true rfl
      by_cases c3 : 0 < D
      · rw [if_pos c3]
        have y := d2 0 c3
        rw [Nat.add_zero] at y
        rw [if_pos y] at q60
        have e3 : ((1 : Int) = 0) = False := eq_false (by decide)
        have w := p57n (z := z) (h := h) (M := (up1 M.1 12 (s : Int), M.2)) (b := M.1 15) (f := M.2 4) (n := n) (s := s) (l1 := wI (M.2 3 s)) (D := D) h10' hn d1 d2 (fun hl => ⟨hb _ hl, d3 hl⟩) D 0 (by omega)
        rw [Nat.add_zero, show ((0 : Nat) : Int) = 0 from rfl, if_pos (by omega), nmM_eq (M := M) (N := (up1 M.1 12 (s : Int), M.2)) rfl, nmM_eq (M := M) (N := (up1 M.1 12 (s : Int), M.2)) rfl] at w
        have w : ru_n z 57 190 [some (.ref 1315), some (.int (wI (M.2 3 s))), some (.int (wI 0))] [] (mdPut h (scP (up1 M.1 12 (s : Int), M.2) (s : Int) (M.1 15) 0 (M.2 4))) = ru_n z 57 252 [some (.ref 1315), some (.int (wI (M.2 3 s))), some (.int (wI D))] [] (mdPut h (scP (up1 M.1 12 (s : Int), M.2) ((s + D : Nat) : Int) (M.1 15) (if D ≤ 4 then nmM M s D else 0) (M.2 4))) := w
        have fin : ru_n z 57 252 [some (.ref 1315), some (.int (wI (M.2 3 s))), some (.int (wI D))] [] (mdPut h (scP (up1 M.1 12 (s : Int), M.2) ((s + D : Nat) : Int) (M.1 15) (if D ≤ 4 then nmM M s D else 0) (M.2 4))) = some (.inl none, mdPut h (scP (up1 (up1 M.1 12 (s : Int)) 13 (if D ≤ 4 then 2 else 5), M.2) ((s + D : Nat) : Int) (M.1 15) (if D ≤ 4 then nmM M s D else 0) (M.2 4))) := by
          by_cases c4 : D ≤ 4
          · have e4 : ((D : Int) ≤ 4) = True := eq_true (by omega)
            simp only [if_pos c4]
            simp (disch := omega) only [e57_252, e57_253, e57_254, e57_255, e57_258, e57_259, e57_262, e57_263, e57_266, e57_304, ↓reduceIte, Bool.false_eq_true, not_false_eq_true, not_true_eq_false, Nat.reduceLeDiff, Nat.reduceAdd, Nat.reduceEqDiff, Int.reduceToNat, Int.toNat_natCast, iB0, iB1, ru_klI, ru_klR, ru_klF, ru_klJ, ru_kl0, ru_cs0, ru_csI, ru_csR, ru_csF, ru_csJ, wI_add, wI_sub, wI_mul, wI_lt, wI_le, wI_inj, ru_fdE, ru_fdN, ru_iaN, ru_baN, ru_laN, ru_qaN, ru_pfN, ru_isN, ru_bsN, ru_jsN, ru_qsN, ru_set2, Nat.add_right_cancel_iff, if_true, if_false, ite_self, Int.reduceEq, and_self, Int.add_neg_cancel_right, Int.add_zero, Int.zero_add, md_e, sc_s13, e4]
          · have e4 : ((D : Int) ≤ 4) = False := eq_false (by omega)
            simp only [if_neg c4]
            simp (disch := omega) only [e57_252, e57_253, e57_254, e57_255, e57_258, e57_259, e57_262, e57_263, e57_266, e57_304, ↓reduceIte, Bool.false_eq_true, not_false_eq_true, not_true_eq_false, Nat.reduceLeDiff, Nat.reduceAdd, Nat.reduceEqDiff, Int.reduceToNat, Int.toNat_natCast, iB0, iB1, ru_klI, ru_klR, ru_klF, ru_klJ, ru_kl0, ru_cs0, ru_csI, ru_csR, ru_csF, ru_csJ, wI_add, wI_sub, wI_mul, wI_lt, wI_le, wI_inj, ru_fdE, ru_fdN, ru_iaN, ru_baN, ru_laN, ru_qaN, ru_pfN, ru_isN, ru_bsN, ru_jsN, ru_qsN, ru_set2, Nat.add_right_cancel_iff, if_true, if_false, ite_self, Int.reduceEq, and_self, Int.add_neg_cancel_right, Int.add_zero, Int.zero_add, md_e, sc_s13, e4]
        rw [fin] at w
        rw [← w]
        simp (disch := omega) only [e57_26, e57_27, e57_28, e57_31, e57_34, e57_35, e57_36, e57_39, e57_42, e57_43, e57_44, e57_45, e57_48, e57_49, e57_50, e57_53, e57_56, e57_57, e57_60, e57_176, e57_177, e57_180, e57_183, e57_184, e57_185, e57_186, e57_187, ↓reduceIte, Bool.false_eq_true, not_false_eq_true, not_true_eq_false, Nat.reduceLeDiff, Nat.reduceAdd, Nat.reduceEqDiff, Int.reduceToNat, Int.toNat_natCast, iB0, iB1, ru_klI, ru_klR, ru_klF, ru_klJ, ru_kl0, ru_cs0, ru_csI, ru_csR, ru_csF, ru_csJ, wI_add, wI_sub, wI_mul, wI_lt, wI_le, wI_inj, ru_fdE, ru_fdN, ru_iaN, ru_baN, ru_laN, ru_qaN, ru_pfN, ru_isN, ru_bsN, ru_jsN, ru_qsN, ru_set2, Nat.add_right_cancel_iff, if_true, if_false, ite_self, Int.reduceEq, and_self, Int.add_neg_cancel_right, Int.add_zero, Int.zero_add, md_e, sc_f11, sc_s12, sc_s16, r, q59, q60, e1, e2, e3, not_false_iff]
      · rw [if_neg c3]
        have D0 : D = 0 := by omega
        subst D0
        have y := d3 (by omega)
        rw [Nat.add_zero] at y
        rw [if_neg y] at q60
        by_cases c5 : M.2 3 s = 59
        · have e5 : (M.2 3 s = 59) = True := eq_true c5
          rw [if_pos c5]
          simp (disch := omega) only [e57_26, e57_27, e57_28, e57_31, e57_34, e57_35, e57_36, e57_39, e57_42, e57_43, e57_44, e57_45, e57_48, e57_49, e57_50, e57_53, e57_56, e57_57, e57_60, e57_176, e57_177, e57_180, e57_269, e57_270, e57_271, e57_273, e57_276, e57_277, e57_280, e57_281, e57_283, e57_286, e57_287, e57_290, e57_291, e57_294, e57_295, e57_296, e57_299, e57_300, e57_301, e57_304, ↓reduceIte, Bool.false_eq_true, not_false_eq_true, not_true_eq_false, Nat.reduceLeDiff, Nat.reduceAdd, Nat.reduceEqDiff, Int.reduceToNat, Int.toNat_natCast, iB0, iB1, ru_klI, ru_klR, ru_klF, ru_klJ, ru_kl0, ru_cs0, ru_csI, ru_csR, ru_csF, ru_csJ, wI_add, wI_sub, wI_mul, wI_lt, wI_le, wI_inj, ru_fdE, ru_fdN, ru_iaN, ru_baN, ru_laN, ru_qaN, ru_pfN, ru_isN, ru_bsN, ru_jsN, ru_qsN, ru_set2, Nat.add_right_cancel_iff, if_true, if_false, ite_self, Int.reduceEq, and_self, Int.add_neg_cancel_right, Int.add_zero, Int.zero_add, md_e, sc_f11, sc_s11, sc_s12, sc_s13, r, q59, q60, e1, e2, e5, not_true, not_false_iff, ru_ctR]
        · have e5 : (M.2 3 s = 59) = False := eq_false c5
          rw [if_neg c5]
          by_cases c6 : M.2 3 s = 44
          · have e6 : (M.2 3 s = 44) = True := eq_true c6
            rw [if_pos c6]
            simp (disch := omega) only [e57_26, e57_27, e57_28, e57_31, e57_34, e57_35, e57_36, e57_39, e57_42, e57_43, e57_44, e57_45, e57_48, e57_49, e57_50, e57_53, e57_56, e57_57, e57_60, e57_176, e57_177, e57_180, e57_269, e57_270, e57_271, e57_273, e57_276, e57_277, e57_280, e57_281, e57_283, e57_286, e57_287, e57_290, e57_291, e57_294, e57_295, e57_296, e57_299, e57_300, e57_301, e57_304, ↓reduceIte, Bool.false_eq_true, not_false_eq_true, not_true_eq_false, Nat.reduceLeDiff, Nat.reduceAdd, Nat.reduceEqDiff, Int.reduceToNat, Int.toNat_natCast, iB0, iB1, ru_klI, ru_klR, ru_klF, ru_klJ, ru_kl0, ru_cs0, ru_csI, ru_csR, ru_csF, ru_csJ, wI_add, wI_sub, wI_mul, wI_lt, wI_le, wI_inj, ru_fdE, ru_fdN, ru_iaN, ru_baN, ru_laN, ru_qaN, ru_pfN, ru_isN, ru_bsN, ru_jsN, ru_qsN, ru_set2, Nat.add_right_cancel_iff, if_true, if_false, ite_self, Int.reduceEq, and_self, Int.add_neg_cancel_right, Int.add_zero, Int.zero_add, md_e, sc_f11, sc_s11, sc_s12, sc_s13, r, q59, q60, e1, e2, e5, e6, not_true, not_false_iff, ru_ctR]
          · have e6 : (M.2 3 s = 44) = False := eq_false c6
            rw [if_neg c6]
            simp (disch := omega) only [e57_26, e57_27, e57_28, e57_31, e57_34, e57_35, e57_36, e57_39, e57_42, e57_43, e57_44, e57_45, e57_48, e57_49, e57_50, e57_53, e57_56, e57_57, e57_60, e57_176, e57_177, e57_180, e57_269, e57_270, e57_271, e57_273, e57_276, e57_277, e57_280, e57_281, e57_283, e57_286, e57_287, e57_290, e57_291, e57_294, e57_295, e57_296, e57_299, e57_300, e57_301, e57_304, ↓reduceIte, Bool.false_eq_true, not_false_eq_true, not_true_eq_false, Nat.reduceLeDiff, Nat.reduceAdd, Nat.reduceEqDiff, Int.reduceToNat, Int.toNat_natCast, iB0, iB1, ru_klI, ru_klR, ru_klF, ru_klJ, ru_kl0, ru_cs0, ru_csI, ru_csR, ru_csF, ru_csJ, wI_add, wI_sub, wI_mul, wI_lt, wI_le, wI_inj, ru_fdE, ru_fdN, ru_iaN, ru_baN, ru_laN, ru_qaN, ru_pfN, ru_isN, ru_bsN, ru_jsN, ru_qsN, ru_set2, Nat.add_right_cancel_iff, if_true, if_false, ite_self, Int.reduceEq, and_self, Int.add_neg_cancel_right, Int.add_zero, Int.zero_add, md_e, sc_f11, sc_s11, sc_s12, sc_s13, r, q59, q60, e1, e2, e5, e6, not_true, not_false_iff, ru_ctR]
end TOK
