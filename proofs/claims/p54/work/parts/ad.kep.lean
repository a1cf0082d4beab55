/-! ===== the reference keeps a word ===== -/
def kpM (M : tMd) (off i : Nat) : tMd := (M.1, upC M.2 7 (fun q => if off ≤ q ∧ q < off + i then M.2 4 (q - off) else M.2 7 q))
section KEP
variable {z : Bool} {M : tMd} {C : tCl} {n s : Nat}
theorem p68l {h : am_H} {off : Nat} (hoff : off + 8 ≤ 104) (h17 : M.1 17 = 0) (hw : ∀ q, q < 8 → -2147483648 ≤ M.2 4 q ∧ M.2 4 q < 2147483648) : ∀ d i : Nat, i + d = 8 → ru_n z 68 14 [some (.ref 1315), some (.ref 1323), some (.int (wI off)), some (.int (wI i))] [] (mdPut h (kpM M off i)) = some (.inl none, mdPut h (kpM M off 8)) := by
  intro d
  induction d with
  | zero =>
    intro i hi
    obtain rfl : i = 8 := by omega
    simp (disch := omega) only [e68_14, e68_15, e68_17, e68_44, ↓reduceIte, Bool.false_eq_true, not_false_eq_true, not_true_eq_false, Nat.reduceLeDiff, Nat.reduceAdd, Nat.reduceEqDiff, Int.reduceToNat, Int.toNat_natCast, iB0, iB1, ru_klI, ru_klR, ru_klF, ru_klJ, ru_kl0, ru_cs0, ru_csI, ru_csR, ru_csF, ru_csJ, wI_add, wI_sub, wI_mul, wI_lt, wI_le, wI_inj, ru_fdE, ru_fdN, ru_iaN, ru_baN, ru_laN, ru_qaN, ru_pfN, ru_isN, ru_bsN, ru_jsN, ru_qsN, ru_set2, Nat.add_right_cancel_iff, if_true, if_false, ite_self, Int.reduceEq, and_self, Int.add_neg_cancel_right, Int.add_zero, Int.zero_add, Int.le_refl, show ((8 : Nat) : Int) = 8 from rfl]
  | succ d ih =>
    intro i hi
    have ih1 := ih (i + 1) (by omega)
    simp only [Int.natCast_add, Int.natCast_one] at ih1
    have c : ((8 : Int) ≤ (i : Int)) = False := eq_false (by omega)
    have d1 : ((0 : Int) = 0) = True := eq_true rfl
    have g17 : am_fd (mdPut h (kpM M off i)) 1315 10 17 = some (.int (wI 0)) := by rw [← h17]; exact md_f17
    have a4 : am_ia (mdPut h (kpM M off i)) 1320 (wI (i : Nat)) = some (wI (M.2 4 i)) := mdA4 (mdAt_put h (kpM M off i)) (by omega) (by omega)
    have w7 := md_w7 (h := h) (M := kpM M off i) (i := (off : Int) + (i : Int)) (v := M.2 4 i) (by omega) (by omega)
    have ew : ((kpM M off i).1, up2 (kpM M off i).2 7 ((off : Int) + (i : Int)).toNat (M.2 4 i)) = kpM M off (i + 1) := by
      rw [show ((off : Int) + (i : Int)).toNat = off + i by omega, up2_C]
      refine Prod.ext rfl (funext fun k => ?_)
      show (if k = 7 then up1 (fun q => if off ≤ q ∧ q < off + i then M.2 4 (q - off) else M.2 7 q) (off + i) (M.2 4 i) else (if k = 7 then (fun q => if off ≤ q ∧ q < off + i then M.2 4 (q - off) else M.2 7 q) else M.2 k)) = (if k = 7 then (fun q => if off ≤ q ∧ q < off + (i + 1) then M.2 4 (q - off) else M.2 7 q) else M.2 k)
      by_cases e : k = 7
      · rw [if_pos e, if_pos e]
        funext q
        unfold up1
        by_cases e2 : q = off + i
        · rw [if_pos e2, if_pos (by omega), e2, show off + i - off = i by omega]
        · rw [if_neg e2]
          dsimp only
          by_cases e3 : off ≤ q ∧ q < off + i
          · rw [if_pos e3, if_pos (by omega)]
          · rw [if_neg e3, if_neg (by omega)]
      · rw [if_neg e, if_neg e, if_neg e]
    rw [ew] at w7
    rw [e68_14]
    simp (disch := omega) only [e68_15, e68_17, e68_20, e68_21, e68_24, e68_27, e68_28, e68_29, e68_30, e68_31, e68_32, e68_35, e68_36, e68_37, e68_38, e68_41, ↓reduceIte, Bool.false_eq_true, not_false_eq_true, not_true_eq_false, Nat.reduceLeDiff, Nat.reduceAdd, Nat.reduceEqDiff, Int.reduceToNat, Int.toNat_natCast, iB0, iB1, ru_klI, ru_klR, ru_klF, ru_klJ, ru_kl0, ru_cs0, ru_csI, ru_csR, ru_csF, ru_csJ, wI_add, wI_sub, wI_mul, wI_lt, wI_le, wI_inj, ru_fdE, ru_fdN, ru_iaN, ru_baN, ru_laN, ru_qaN, ru_pfN, ru_isN, ru_bsN, ru_jsN, ru_qsN, ru_set2, Nat.add_right_cancel_iff, if_true, if_false, ite_self, Int.reduceEq, and_self, Int.add_neg_cancel_right, Int.add_zero, Int.zero_add, md_e, md_f14, g17, c, d1, a4, w7, not_true]
    exact ih1
theorem p68 {h : am_H} {off : Nat} (hoff : off + 8 ≤ 104) (hst : strs h) (ht : tkR C M n s) (h17 : M.1 17 = 0) (hw : ∀ q, q < 8 → -2147483648 ≤ M.2 4 q ∧ M.2 4 q < 2147483648) (hk : nmTk M = true) : ru_ev z 68 [.ref 1315, .ref 1323, .int (wI off)] (mdPut h M) = some (.inl none, mdPut h (kpM M off 8)) := by
  have x := p69 (z := z) hst ht h17
  rw [if_pos hk] at x
  have k := p68l (z := z) (h := h) hoff h17 hw 8 0 (by omega)
  have e0 : kpM M off 0 = M := by
    refine Prod.ext rfl (funext fun k => ?_)
    show (if k = 7 then (fun q => if off ≤ q ∧ q < off + 0 then M.2 4 (q - off) else M.2 7 q) else M.2 k) = M.2 k
    by_cases e : k = 7
    · rw [if_pos e, e]
      funext q
      rw [if_neg (by omega)]
    · rw [if_neg e]
  rw [e0, show ((0 : Nat) : Int) = 0 from rfl] at k
  have d1 : ((1 : Int) = 0) = False := eq_false (by decide)
  simp (disch := omega) only [e68_0, e68_1, e68_4, e68_7, e68_8, e68_9, e68_12, e68_13, en68, ↓reduceIte, Bool.false_eq_true, not_false_eq_true, not_true_eq_false, Nat.reduceLeDiff, Nat.reduceAdd, Nat.reduceEqDiff, Int.reduceToNat, Int.toNat_natCast, iB0, iB1, ru_klI, ru_klR, ru_klF, ru_klJ, ru_kl0, ru_cs0, ru_csI, ru_csR, ru_csF, ru_csJ, wI_add, wI_sub, wI_mul, wI_lt, wI_le, wI_inj, ru_fdE, ru_fdN, ru_iaN, ru_baN, ru_laN, ru_qaN, ru_pfN, ru_isN, ru_bsN, ru_jsN, ru_qsN, ru_set2, Nat.add_right_cancel_iff, if_true, if_false, ite_self, Int.reduceEq, and_self, Int.add_neg_cancel_right, Int.add_zero, Int.zero_add, md_e, x, d1, not_false_iff]
  exact k
end KEP
