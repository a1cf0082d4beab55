/-! ===== the reference's scanner: words and numbers ===== -/
def wdM (M : tMd) (s j : Nat) (f : Nat → Int) : Nat → Int := fun q => if q < j ∧ q < 8 then M.2 3 (s + q) else f q
def zwM (M : tMd) (s L : Nat) (f : Nat → Int) : Nat → Int := fun q => if q < 8 then (if q < L then M.2 3 (s + q) else 0) else f q
def nmM (M : tMd) (s : Nat) : Nat → Int
  | 0 => 0
  | i + 1 => 10 * nmM M s i + M.2 3 (s + i) - 48
theorem nmM_b {M : tMd} {s : Nat} : ∀ m, m ≤ 4 → (∀ j, j < m → 48 ≤ M.2 3 (s + j) ∧ M.2 3 (s + j) ≤ 57) → 0 ≤ nmM M s m ∧ nmM M s m ≤ 9999 := by
  intro m hm hb
  have hc : m = 0 ∨ m = 1 ∨ m = 2 ∨ m = 3 ∨ m = 4 := by omega
  rcases hc with rfl | rfl | rfl | rfl | rfl
  · simp only [nmM]; omega
  · have h0 := hb 0 (by omega); simp only [nmM]; omega
  · have h0 := hb 0 (by omega); have h1 := hb 1 (by omega); simp only [nmM]; omega
  · have h0 := hb 0 (by omega); have h1 := hb 1 (by omega); have h2 := hb 2 (by omega); simp only [nmM]; omega
  · have h0 := hb 0 (by omega); have h1 := hb 1 (by omega); have h2 := hb 2 (by omega); have h3 := hb 3 (by omega); simp only [nmM]; omega
section REF2
variable {z : Bool} {h : am_H} {M : tMd} {b c : Int} {f : Nat → Int} {n s : Nat}
theorem p57w {l1 : Int32} {L : Nat} (h10 : M.1 10 = (n : Int)) (hn : n ≤ 1200) (hs : s + L ≤ n) (hb : ∀ j, j < L → 97 ≤ M.2 3 (s + j) ∧ M.2 3 (s + j) ≤ 122) (he : s + L < n → (0 ≤ M.2 3 (s + L) ∧ M.2 3 (s + L) ≤ 255) ∧ ¬ (97 ≤ M.2 3 (s + L) ∧ M.2 3 (s + L) ≤ 122)) : ∀ d j : Nat, j + d = L → ru_n z 57 68 [some (.ref 1315), some (.int l1), none] [] (mdPut h (scP M ((s + j : Nat) : Int) (j : Int) c (wdM M s j f))) = ru_n z 57 131 [some (.ref 1315), some (.int l1), none] [] (mdPut h (scP M ((s + L : Nat) : Int) (L : Int) c (wdM M s L f))) := by
  intro d
  induction d with
  | zero =>
    intro j hj
    obtain rfl : j = L := by omega
    have r := p58 (z := z) (h := h) (a := ((s + j : Nat) : Int)) (b := (j : Int)) (c := c) (f := wdM M s j f) h10 hn (i := s + j) (by omega)
    have sb : (-1 ≤ seM M n (s + j) ∧ seM M n (s + j) ≤ 255) ∧ ¬ (97 ≤ seM M n (s + j) ∧ seM M n (s + j) ≤ 122) := by
      unfold seM
      split
      · rename_i e; have := he e; omega
      · omega
    have r2 := p59 (z := z) (X := mdPut h (scP M ((s + j : Nat) : Int) (j : Int) c (wdM M s j f))) sb.1
    rw [if_neg sb.2] at r2
    have d1 : ((0 : Int) = 0) = True := eq_true rfl
    simp (disch := omega) only [e57_68, e57_69, e57_70, e57_73, e57_76, e57_79, ↓reduceIte, Bool.false_eq_true, not_false_eq_true, not_true_eq_false, Nat.reduceLeDiff, Nat.reduceAdd, Nat.reduceEqDiff, Int.reduceToNat, Int.toNat_natCast, iB0, iB1, ru_klI, ru_klR, ru_klF, ru_klJ, ru_kl0, ru_cs0, ru_csI, ru_csR, ru_csF, ru_csJ, wI_add, wI_sub, wI_mul, wI_lt, wI_le, wI_inj, ru_fdE, ru_fdN, ru_iaN, ru_baN, ru_laN, ru_qaN, ru_pfN, ru_isN, ru_bsN, ru_jsN, ru_qsN, ru_set2, Nat.add_right_cancel_iff, if_true, if_false, ite_self, Int.reduceEq, and_self, Int.add_neg_cancel_right, Int.add_zero, Int.zero_add, md_e, sc_f11, r, r2, d1]
  | succ d ih =>
    intro j hj
    have ih1 := ih (j + 1) (by omega)
    have r := p58 (z := z) (h := h) (a := ((s + j : Nat) : Int)) (b := (j : Int)) (c := c) (f := wdM M s j f) h10 hn (i := s + j) (by omega)
    unfold seM at r
    rw [if_pos (by omega)] at r
    have bj := hb j (by omega)
    have r2 := p59 (z := z) (X := mdPut h (scP M ((s + j : Nat) : Int) (j : Int) c (wdM M s j f))) (v := M.2 3 (s + j)) (by omega)
    rw [if_pos bj] at r2
    have d1 : ((1 : Int) = 0) = False := eq_false (by decide)
    have ea : ((s + j : Nat) : Int) + 1 = ((s + (j + 1) : Nat) : Int) := by omega
    have eb : (j : Int) + 1 = ((j + 1 : Nat) : Int) := by omega
    by_cases c8 : j < 8
    · have d2 : ((8 : Int) ≤ (j : Int)) = False := eq_false (by omega)
      have w4 := sc_w4 (h := h) (M := M) (a := ((s + j : Nat) : Int)) (b := (j : Int)) (c := c) (f := wdM M s j f) (i := (j : Int)) (v := M.2 3 (s + j)) (by omega) (by omega)
      have ew : up1 (wdM M s j f) (j : Int).toNat (M.2 3 (s + j)) = wdM M s (j + 1) f := by
        funext q
        rw [Int.toNat_natCast]
        unfold up1 wdM
        by_cases e : q = j
        · rw [if_pos e, if_pos (by omega), e]
        · rw [if_neg e]
          by_cases e2 : q < j ∧ q < 8
          · rw [if_pos e2, if_pos (by omega)]
          · rw [if_neg e2, if_neg (by omega)]
      rw [ew] at w4
      rw [← ih1, e57_68]
      simp (disch := omega) only [e57_69, e57_70, e57_73, e57_76, e57_79, e57_82, e57_83, e57_86, e57_88, e57_91, e57_92, e57_95, e57_96, e57_99, e57_100, e57_101, e57_104, e57_107, e57_108, e57_109, e57_110, e57_113, e57_114, e57_115, e57_118, e57_119, e57_120, e57_123, e57_124, e57_125, e57_128, ↓reduceIte, Bool.false_eq_true, not_false_eq_true, not_true_eq_false, Nat.reduceLeDiff, Nat.reduceAdd, Nat.reduceEqDiff, Int.reduceToNat, Int.toNat_natCast, iB0, iB1, ru_klI, ru_klR, ru_klF, ru_klJ, ru_kl0, ru_cs0, ru_csI, ru_csR, ru_csF, ru_csJ, wI_add, wI_sub, wI_mul, wI_lt, wI_le, wI_inj, ru_fdE, ru_fdN, ru_iaN, ru_baN, ru_laN, ru_qaN, ru_pfN, ru_isN, ru_bsN, ru_jsN, ru_qsN, ru_set2, Nat.add_right_cancel_iff, if_true, if_false, ite_self, Int.reduceEq, and_self, Int.add_neg_cancel_right, Int.add_zero, Int.zero_add, md_e, md_f14, sc_f11, sc_f15, sc_s11, sc_s15, r, r2, d1, d2, w4, ru_ctR, ea, eb]
    · have d2 : ((8 : Int) ≤ (j : Int)) = True := eq_true (by omega)
      have ew : wdM M s j f = wdM M s (j + 1) f := by
        funext q
        unfold wdM
        by_cases e2 : q < j ∧ q < 8
        · rw [if_pos e2, if_pos (by omega)]
        · rw [if_neg e2, if_neg (by omega)]
      rw [← ih1, e57_68]
      simp (disch := omega) only [e57_69, e57_70, e57_73, e57_76, e57_79, e57_82, e57_83, e57_86, e57_88, e57_91, e57_92, e57_95, e57_96, e57_99, e57_100, e57_101, e57_104, e57_107, e57_108, e57_109, e57_110, e57_113, e57_114, e57_115, e57_118, e57_119, e57_120, e57_123, e57_124, e57_125, e57_128, ↓reduceIte, Bool.false_eq_true, not_false_eq_true, not_true_eq_false, Nat.reduceLeDiff, Nat.reduceAdd, Nat.reduceEqDiff, Int.reduceToNat, Int.toNat_natCast, iB0, iB1, ru_klI, ru_klR, ru_klF, ru_klJ, ru_kl0, ru_cs0, ru_csI, ru_csR, ru_csF, ru_csJ, wI_add, wI_sub, wI_mul, wI_lt, wI_le, wI_inj, ru_fdE, ru_fdN, ru_iaN, ru_baN, ru_laN, ru_qaN, ru_pfN, ru_isN, ru_bsN, ru_jsN, ru_qsN, ru_set2, Nat.add_right_cancel_iff, if_true, if_false, ite_self, Int.reduceEq, and_self, Int.add_neg_cancel_right, Int.add_zero, Int.zero_add, md_e, md_f14, sc_f11, sc_f15, sc_s11, sc_s15, r, r2, d1, d2, ru_ctR, ea, eb]
      rw [ew]
theorem p57z {l1 : Int32} {L : Nat} {a : Int} : ∀ d q : Nat, q + d = 8 → L ≤ q → ∀ g : Nat → Int, (∀ i, g i = if i < q then (zwM M s L f) i else f i) → ru_n z 57 136 [some (.ref 1315), some (.int l1), some (.int (wI q))] [] (mdPut h (scP M a b c g)) = ru_n z 57 155 [some (.ref 1315), some (.int l1), some (.int (wI 8))] [] (mdPut h (scP M a b c (zwM M s L f))) := by
  intro d
  induction d with
  | zero =>
    intro q hq hL g hg
    obtain rfl : q = 8 := by omega
    have eg : g = zwM M s L f := by
      funext i
      rw [hg]
      by_cases c : i < 8
      · rw [if_pos c]
      · rw [if_neg c]; unfold zwM; rw [if_neg c]
    rw [eg]
    simp (disch := omega) only [e57_136, e57_137, e57_139, ↓reduceIte, Bool.false_eq_true, not_false_eq_true, not_true_eq_false, Nat.reduceLeDiff, Nat.reduceAdd, Nat.reduceEqDiff, Int.reduceToNat, Int.toNat_natCast, iB0, iB1, ru_klI, ru_klR, ru_klF, ru_klJ, ru_kl0, ru_cs0, ru_csI, ru_csR, ru_csF, ru_csJ, wI_add, wI_sub, wI_mul, wI_lt, wI_le, wI_inj, ru_fdE, ru_fdN, ru_iaN, ru_baN, ru_laN, ru_qaN, ru_pfN, ru_isN, ru_bsN, ru_jsN, ru_qsN, ru_set2, Nat.add_right_cancel_iff, if_true, if_false, ite_self, Int.reduceEq, and_self, Int.add_neg_cancel_right, Int.add_zero, Int.zero_add, Int.le_refl, show ((8 : Nat) : Int) = 8 from rfl]
  | succ d ih =>
    intro q hq hL g hg
    have d2 : ((8 : Int) ≤ (q : Int)) = False := eq_false (by omega)
    have w4 := sc_w4 (h := h) (M := M) (a := a) (b := b) (c := c) (f := g) (i := (q : Int)) (v := 0) (by omega) (by omega)
    have ih1 := ih (q + 1) (by omega) (by omega) (up1 g (q : Int).toNat 0) (fun i => by
      rw [Int.toNat_natCast]
      unfold up1
      by_cases e : i = q
      · rw [if_pos e, if_pos (by omega)]
        unfold zwM
        rw [if_pos (by omega), if_neg (by omega)]
      · rw [if_neg e, hg]
        by_cases e2 : i < q
        · rw [if_pos e2, if_pos (by omega)]
        · rw [if_neg e2, if_neg (by omega)])
    simp only [Int.natCast_add, Int.natCast_one] at ih1
    rw [← ih1, e57_136]
    simp (disch := omega) only [e57_137, e57_139, e57_142, e57_143, e57_146, e57_147, e57_148, e57_149, e57_152, ↓reduceIte, Bool.false_eq_true, not_false_eq_true, not_true_eq_false, Nat.reduceLeDiff, Nat.reduceAdd, Nat.reduceEqDiff, Int.reduceToNat, Int.toNat_natCast, iB0, iB1, ru_klI, ru_klR, ru_klF, ru_klJ, ru_kl0, ru_cs0, ru_csI, ru_csR, ru_csF, ru_csJ, wI_add, wI_sub, wI_mul, wI_lt, wI_le, wI_inj, ru_fdE, ru_fdN, ru_iaN, ru_baN, ru_laN, ru_qaN, ru_pfN, ru_isN, ru_bsN, ru_jsN, ru_qsN, ru_set2, Nat.add_right_cancel_iff, if_true, if_false, ite_self, Int.reduceEq, and_self, Int.add_neg_cancel_right, Int.add_zero, Int.zero_add, md_e, md_f14, d2, w4]
theorem p57n {l1 : Int32} {D : Nat} (h10 : M.1 10 = (n : Int)) (hn : n ≤ 1200) (hs : s + D ≤ n) (hb : ∀ j, j < D → 48 ≤ M.2 3 (s + j) ∧ M.2 3 (s + j) ≤ 57) (he : s + D < n → (0 ≤ M.2 3 (s + D) ∧ M.2 3 (s + D) ≤ 255) ∧ ¬ (48 ≤ M.2 3 (s + D) ∧ M.2 3 (s + D) ≤ 57)) : ∀ d j : Nat, j + d = D → ru_n z 57 190 [some (.ref 1315), some (.int l1), some (.int (wI j))] [] (mdPut h (scP M ((s + j : Nat) : Int) b (if j ≤ 4 then nmM M s j else 0) f)) = ru_n z 57 252 [some (.ref 1315), some (.int l1), some (.int (wI D))] [] (mdPut h (scP M ((s + D : Nat) : Int) b (if D ≤ 4 then nmM M s D else 0) f)) := by
  intro d
  induction d with
  | zero =>
    intro j hj
    obtain rfl : j = D := by omega
    generalize hc : (if j ≤ 4 then nmM M s j else 0) = cc
    have r := p58 (z := z) (h := h) (a := ((s + j : Nat) : Int)) (b := b) (c := cc) (f := f) h10 hn (i := s + j) (by omega)
    have sb : (-1 ≤ seM M n (s + j) ∧ seM M n (s + j) ≤ 255) ∧ ¬ (48 ≤ seM M n (s + j) ∧ seM M n (s + j) ≤ 57) := by
      unfold seM
      split
      · rename_i e; have := he e; omega
      · omega
    have r2 := p60 (z := z) (X := mdPut h (scP M ((s + j : Nat) : Int) b cc f)) sb.1
    rw [if_neg sb.2] at r2
    have d1 : ((0 : Int) = 0) = True := eq_true rfl
    simp (disch := omega) only [e57_190, e57_191, e57_192, e57_195, e57_198, e57_201, ↓reduceIte, Bool.false_eq_true, not_false_eq_true, not_true_eq_false, Nat.reduceLeDiff, Nat.reduceAdd, Nat.reduceEqDiff, Int.reduceToNat, Int.toNat_natCast, iB0, iB1, ru_klI, ru_klR, ru_klF, ru_klJ, ru_kl0, ru_cs0, ru_csI, ru_csR, ru_csF, ru_csJ, wI_add, wI_sub, wI_mul, wI_lt, wI_le, wI_inj, ru_fdE, ru_fdN, ru_iaN, ru_baN, ru_laN, ru_qaN, ru_pfN, ru_isN, ru_bsN, ru_jsN, ru_qsN, ru_set2, Nat.add_right_cancel_iff, if_true, if_false, ite_self, Int.reduceEq, and_self, Int.add_neg_cancel_right, Int.add_zero, Int.zero_add, md_e, sc_f11, r, r2, d1]
  | succ d ih =>
    intro j hj
    have ih1 := ih (j + 1) (by omega)
    generalize hc : (if j ≤ 4 then nmM M s j else 0) = cc
    have r := p58 (z := z) (h := h) (a := ((s + j : Nat) : Int)) (b := b) (c := cc) (f := f) h10 hn (i := s + j) (by omega)
    unfold seM at r
    rw [if_pos (by omega)] at r
    have bj := hb j (by omega)
    have r2 := p60 (z := z) (X := mdPut h (scP M ((s + j : Nat) : Int) b cc f)) (v := M.2 3 (s + j)) (by omega)
    rw [if_pos bj] at r2
    have d1 : ((1 : Int) = 0) = False := eq_false (by decide)
    have ea : ((s + j : Nat) : Int) + 1 = ((s + (j + 1) : Nat) : Int) := by omega
    have eb : (j : Int) + 1 = ((j + 1 : Nat) : Int) := by omega
    by_cases c4 : j < 4
    · have d2 : ((4 : Int) ≤ (j : Int)) = False := eq_false (by omega)
      have nb := nmM_b (M := M) (s := s) j (by omega) (fun i hi => hb i (by omega))
      rw [if_pos (by omega)] at hc
      have ev : 10 * cc + M.2 3 (s + j) - 48 = (if j + 1 ≤ 4 then nmM M s (j + 1) else 0) := by rw [if_pos (by omega), ← hc]; rfl
      rw [← ih1, e57_190]
      simp (disch := omega) only [e57_191, e57_192, e57_195, e57_198, e57_201, e57_204, e57_205, e57_206, e57_207, e57_210, e57_212, e57_213, e57_216, e57_217, e57_218, e57_219, e57_222, e57_225, e57_226, e57_228, e57_229, e57_232, e57_233, e57_236, e57_239, e57_240, e57_241, e57_244, e57_245, e57_246, e57_249, ↓reduceIte, Bool.false_eq_true, not_false_eq_true, not_true_eq_false, Nat.reduceLeDiff, Nat.reduceAdd, Nat.reduceEqDiff, Int.reduceToNat, Int.toNat_natCast, iB0, iB1, ru_klI, ru_klR, ru_klF, ru_klJ, ru_kl0, ru_cs0, ru_csI, ru_csR, ru_csF, ru_csJ, wI_add, wI_sub, wI_mul, wI_lt, wI_le, wI_inj, ru_fdE, ru_fdN, ru_iaN, ru_baN, ru_laN, ru_qaN, ru_pfN, ru_isN, ru_bsN, ru_jsN, ru_qsN, ru_set2, Nat.add_right_cancel_iff, if_true, if_false, ite_self, Int.reduceEq, and_self, Int.add_neg_cancel_right, Int.add_zero, Int.zero_add, md_e, sc_f11, sc_f16, sc_s11, sc_s16, r, r2, d1, d2, ru_ctR, ea, eb, ev]
    · have d2 : ((4 : Int) ≤ (j : Int)) = True := eq_true (by omega)
      have ev : (if j + 1 ≤ 4 then nmM M s (j + 1) else 0) = 0 := if_neg (by omega)
      rw [← ih1, e57_190, ev]
      simp (disch := omega) only [e57_191, e57_192, e57_195, e57_198, e57_201, e57_204, e57_205, e57_206, e57_207, e57_210, e57_212, e57_213, e57_216, e57_217, e57_218, e57_219, e57_222, e57_225, e57_226, e57_228, e57_229, e57_232, e57_233, e57_236, e57_239, e57_240, e57_241, e57_244, e57_245, e57_246, e57_249, ↓reduceIte, Bool.false_eq_true, not_false_eq_true, not_true_eq_false, Nat.reduceLeDiff, Nat.reduceAdd, Nat.reduceEqDiff, Int.reduceToNat, Int.toNat_natCast, iB0, iB1, ru_klI, ru_klR, ru_klF, ru_klJ, ru_kl0, ru_cs0, ru_csI, ru_csR, ru_csF, ru_csJ, wI_add, wI_sub, wI_mul, wI_lt, wI_le, wI_inj, ru_fdE, ru_fdN, ru_iaN, ru_baN, ru_laN, ru_qaN, ru_pfN, ru_isN, ru_bsN, ru_jsN, ru_qsN, ru_set2, Nat.add_right_cancel_iff, if_true, if_false, ite_self, Int.reduceEq, and_self, Int.add_neg_cancel_right, Int.add_zero, Int.zero_add, md_e, sc_f11, sc_f16, sc_s11, sc_s16, r, r2, d1, d2, ru_ctR, ea, eb]
end REF2
