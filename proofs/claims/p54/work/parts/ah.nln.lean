/-! ===== a line that tells a name ===== -/
theorem fdN_no {F1 F2 : Nat → Nat → Int} {f1 f2 : Nat → Int} : ∀ d i, fdN F1 F2 f1 f2 d i = -1 → ∀ m, i ≤ m → m < i + d → ¬ (agN (F1 m) f1 8 0 = 0 ∧ agN (F2 m) f2 8 0 = 0)
  | 0, i, _, m, h1, h2 => by omega
  | d + 1, i, h, m, h1, h2 => by
    have e : fdN F1 F2 f1 f2 (d + 1) i = if agN (F1 i) f1 8 0 = 0 ∧ agN (F2 i) f2 8 0 = 0 then (i : Int) else fdN F1 F2 f1 f2 d (i + 1) := rfl
    rw [e] at h
    by_cases c : agN (F1 i) f1 8 0 = 0 ∧ agN (F2 i) f2 8 0 = 0
    · rw [if_pos c] at h; omega
    · rw [if_neg c] at h
      by_cases c2 : m = i
      · rw [c2]; exact c
      · exact fdN_no d (i + 1) h m (by omega) (by omega)
theorem ag_eq {f g : Nat → Int} (hf : ltR f) (hg : ltR g) : (agN f g 8 0 = 0) = (∀ i, i < 8 → f i = g i) := by rw [← wdL_0 hf hg, wdL_eq hf hg]
theorem wdR_c {f g : Nat → Int} (h : wdR f) (e : ∀ k, k < 8 → g k = f k) : wdR g := ⟨fun k hk => by rw [e k hk]; exact h.1 k hk, fun k hk e0 => by rw [e (k + 1) (by omega)]; rw [e k (by omega)] at e0; exact h.2 k hk e0⟩
theorem wdL_c {f g : Nat → Int} (h : ltR f) (e : ∀ k, k < 8 → g k = f k) : wdL f = wdL g := by
  rw [wdL_eq h (fun k hk => by rw [e k hk]; exact h k hk)]
  exact fun i hi => (e i hi).symm
/-- the words put behind the names that are read -/
def nlM (M : tMd) (N i : Nat) : tMd := (M.1, upC M.2 6 (fun q => if 16 * N ≤ q ∧ q < 16 * N + i then M.2 7 (q - 16 * N) else if 16 * N + 8 ≤ q ∧ q < 16 * N + 8 + i then M.2 4 (q - (16 * N + 8)) else M.2 6 q))
section NLN
variable {z : Bool} {M : tMd} {C : tCl} {n s : Nat}
theorem p67l {h : am_H} {N : Nat} (hN : M.1 22 = (N : Int)) (hN20 : N < 20) : ∀ d i : Nat, i + d = 8 → ru_n z 67 82 [some (.ref 1315), some (.int (wI i))] [] (mdPut h (nlM M N i)) = ru_n z 67 137 [some (.ref 1315), some (.int (wI 8))] [] (mdPut h (nlM M N 8)) := by
  intro d
  induction d with
  | zero =>
    intro i hi
    obtain rfl : i = 8 := by omega
    simp (disch := omega) only [e67_82, e67_83, e67_85, ↓reduceIte, Bool.false_eq_true, not_false_eq_true, not_true_eq_false, Nat.reduceLeDiff, Nat.reduceAdd, Nat.reduceEqDiff, Int.reduceToNat, Int.toNat_natCast, iB0, iB1, ru_klI, ru_klR, ru_klF, ru_klJ, ru_kl0, ru_cs0, ru_csI, ru_csR, ru_csF, ru_csJ, wI_add, wI_sub, wI_mul, wI_lt, wI_le, wI_inj, ru_fdE, ru_fdN, ru_iaN, ru_baN, ru_laN, ru_qaN, ru_pfN, ru_isN, ru_bsN, ru_jsN, ru_qsN, ru_set2, Nat.add_right_cancel_iff, if_true, if_false, ite_self, Int.reduceEq, and_self, Int.add_neg_cancel_right, Int.add_zero, Int.zero_add, Int.le_refl, show ((8 : Nat) : Int) = 8 from rfl]
  | succ d ih =>
    intro i hi
    have ih1 := ih (i + 1) (by omega)
    simp only [Int.natCast_add, Int.natCast_one] at ih1
    have c : ((8 : Int) ≤ (i : Int)) = False := eq_false (by omega)
    have g22 : ∀ G, am_fd (mdPut h (M.1, G)) 1315 10 22 = some (.int (wI N)) := fun G => by rw [md_f22]; show some (Value.int (wI (M.1 22))) = _; rw [hN]
    have f21 : ∀ G, am_fd (mdPut h (M.1, G)) 1315 10 21 = some (.ref 1322) := fun G => md_f21
    have f23 : ∀ G, am_fd (mdPut h (M.1, G)) 1315 10 23 = some (.ref 1323) := fun G => md_f23
    have f14 : ∀ G, am_fd (mdPut h (M.1, G)) 1315 10 14 = some (.ref 1320) := fun G => md_f14
    have g7 : ∀ f : Nat → Int, (M.1, upC M.2 6 f).2 7 = M.2 7 := fun f => show upC M.2 6 f 7 = M.2 7 from upC_n (by decide)
    have g4 : ∀ f : Nat → Int, (M.1, upC M.2 6 f).2 4 = M.2 4 := fun f => show upC M.2 6 f 4 = M.2 4 from upC_n (by decide)
    have a7 : ∀ f, am_ia (mdPut h (M.1, upC M.2 6 f)) 1323 (wI (i : Nat)) = some (wI (M.2 7 i)) := fun f => by
      have x := mdA7 (mdAt_put h (M.1, upC M.2 6 f)) (z := (i : Int)) (by omega) (by omega)
      rw [g7, Int.toNat_natCast] at x; exact x
    have a4 : ∀ f, am_ia (mdPut h (M.1, upC M.2 6 f)) 1320 (wI (i : Nat)) = some (wI (M.2 4 i)) := fun f => by
      have x := mdA4 (mdAt_put h (M.1, upC M.2 6 f)) (z := (i : Int)) (by omega) (by omega)
      rw [g4, Int.toNat_natCast] at x; exact x
    have w1 : ∀ f v, am_is (mdPut h (M.1, upC M.2 6 f)) 1322 (wI (16 * (N : Int) + (i : Int))) (wI v) = some (mdPut h (M.1, upC M.2 6 (up1 f (16 * N + i) v))) := fun f v => by
      have x := md_w6 (h := h) (M := (M.1, upC M.2 6 f)) (i := 16 * (N : Int) + (i : Int)) (v := v) (by omega) (by omega)
      rw [show (16 * (N : Int) + (i : Int)).toNat = 16 * N + i by omega, up2_C] at x
      dsimp only at x
      rw [upC_e, upC_up] at x; exact x
    have w2 : ∀ f v, am_is (mdPut h (M.1, upC M.2 6 f)) 1322 (wI (16 * (N : Int) + 8 + (i : Int))) (wI v) = some (mdPut h (M.1, upC M.2 6 (up1 f (16 * N + 8 + i) v))) := fun f v => by
      have x := md_w6 (h := h) (M := (M.1, upC M.2 6 f)) (i := 16 * (N : Int) + 8 + (i : Int)) (v := v) (by omega) (by omega)
      rw [show (16 * (N : Int) + 8 + (i : Int)).toNat = 16 * N + 8 + i by omega, up2_C] at x
      dsimp only at x
      rw [upC_e, upC_up] at x; exact x
    have es : up1 (up1 (fun q => if 16 * N ≤ q ∧ q < 16 * N + i then M.2 7 (q - 16 * N) else if 16 * N + 8 ≤ q ∧ q < 16 * N + 8 + i then M.2 4 (q - (16 * N + 8)) else M.2 6 q) (16 * N + i) (M.2 7 i)) (16 * N + 8 + i) (M.2 4 i) = fun q => if 16 * N ≤ q ∧ q < 16 * N + (i + 1) then M.2 7 (q - 16 * N) else if 16 * N + 8 ≤ q ∧ q < 16 * N + 8 + (i + 1) then M.2 4 (q - (16 * N + 8)) else M.2 6 q := by
      funext q
      unfold up1
      by_cases e1 : q = 16 * N + 8 + i
      · rw [if_pos e1, if_neg (by omega), if_pos (by omega), show q - (16 * N + 8) = i by omega]
      · rw [if_neg e1]
        by_cases e2 : q = 16 * N + i
        · rw [if_pos e2, if_pos (by omega), show q - 16 * N = i by omega]
        · rw [if_neg e2]
          dsimp only
          by_cases e3 : 16 * N ≤ q ∧ q < 16 * N + i
          · rw [if_pos e3, if_pos (by omega)]
          · rw [if_neg e3, if_neg (show ¬ (16 * N ≤ q ∧ q < 16 * N + (i + 1)) by omega)]
            by_cases e4 : 16 * N + 8 ≤ q ∧ q < 16 * N + 8 + i
            · rw [if_pos e4, if_pos (by omega)]
            · rw [if_neg e4, if_neg (by omega)]
    rw [e67_82]
    unfold nlM
    unfold nlM at ih1
    simp (disch := omega) only [e67_83, e67_85, e67_88, e67_89, e67_92, e67_94, e67_95, e67_98, e67_99, e67_100, e67_101, e67_102, e67_105, e67_106, e67_107, e67_108, e67_109, e67_112, e67_114, e67_115, e67_118, e67_119, e67_121, e67_122, e67_123, e67_124, e67_125, e67_128, e67_129, e67_130, e67_131, e67_134, ↓reduceIte, Bool.false_eq_true, not_false_eq_true, not_true_eq_false, Nat.reduceLeDiff, Nat.reduceAdd, Nat.reduceEqDiff, Int.reduceToNat, Int.toNat_natCast, iB0, iB1, ru_klI, ru_klR, ru_klF, ru_klJ, ru_kl0, ru_cs0, ru_csI, ru_csR, ru_csF, ru_csJ, wI_add, wI_sub, wI_mul, wI_lt, wI_le, wI_inj, ru_fdE, ru_fdN, ru_iaN, ru_baN, ru_laN, ru_qaN, ru_pfN, ru_isN, ru_bsN, ru_jsN, ru_qsN, ru_set2, Nat.add_right_cancel_iff, if_true, if_false, ite_self, Int.reduceEq, and_self, Int.add_neg_cancel_right, Int.add_zero, Int.zero_add, md_e, g22, f21, f23, f14, a7, a4, w1, w2, c, es]
    exact ih1
theorem p70 {h : am_H} {N : Nat} (hN : N ≤ 20) (hG : ∀ i, i < 16 * N → -1000 ≤ M.2 6 i ∧ M.2 6 i ≤ 1000) (h7 : ∀ k, k < 8 → -1000 ≤ M.2 7 k ∧ M.2 7 k ≤ 1000) (h4 : ∀ k, k < 8 → -1000 ≤ M.2 4 k ∧ M.2 4 k ≤ 1000) : ru_ev z 70 [.ref 1315, .ref 1322, .int (wI N), .ref 1323, .int (wI 0)] (mdPut h M) = some (.inl (some (.int (wI (fdN (fun i => wF M 6 (16 * i)) (fun i => wF M 6 (16 * i + 8)) (wF M 7 0) (M.2 4) N 0)))), mdPut h M) := by
  have k := p70l (z := z) (M := M) (h := h) (a := 1322) (N := N) (off := 0) (G := M.2 6) (mdC6 (mdAt_put h M)) hN (by decide) hG (fun k hk => by rw [Nat.zero_add]; exact h7 k hk) h4 N 0 (by omega)
  simp only [show ((0 : Nat) : Int) = 0 from rfl] at k
  simp (disch := omega) only [e70_0, e70_1, en70, ↓reduceIte, Bool.false_eq_true, not_false_eq_true, not_true_eq_false, Nat.reduceLeDiff, Nat.reduceAdd, Nat.reduceEqDiff, Int.reduceToNat, Int.toNat_natCast, iB0, iB1, ru_klI, ru_klR, ru_klF, ru_klJ, ru_kl0, ru_cs0, ru_csI, ru_csR, ru_csF, ru_csJ, wI_add, wI_sub, wI_mul, wI_lt, wI_le, wI_inj, ru_fdE, ru_fdN, ru_iaN, ru_baN, ru_laN, ru_qaN, ru_pfN, ru_isN, ru_bsN, ru_jsN, ru_qsN, ru_set2, Nat.add_right_cancel_iff, if_true, if_false, ite_self, Int.reduceEq, and_self, Int.add_neg_cancel_right, Int.add_zero, Int.zero_add]
  exact k
end NLN
