/-! ===== the reference's scanner ===== -/
/-- the scanner's place a, the word's length b, the number c, the word f -/
def scP (M : tMd) (a b c : Int) (f : Nat → Int) : tMd := (up1 (up1 (up1 M.1 11 a) 15 b) 16 c, upC M.2 4 f)
theorem scP_self (M : tMd) : scP M (M.1 11) (M.1 15) (M.1 16) (M.2 4) = M := by
  refine Prod.ext (funext fun q => ?_) (funext fun q => ?_)
  · show (if q = 16 then M.1 16 else if q = 15 then M.1 15 else if q = 11 then M.1 11 else M.1 q) = M.1 q
    repeat' split
    all_goals first | rfl | (rename_i e; rw [e])
  · show (if q = 4 then M.2 4 else M.2 q) = M.2 q
    split
    · rename_i e; rw [e]
    · rfl
theorem up1_cm {f : Nat → Int} {k l : Nat} {u v : Int} (h : k ≠ l) : up1 (up1 f k u) l v = up1 (up1 f l v) k u := by
  funext q
  show (if q = l then v else if q = k then u else f q) = (if q = k then u else if q = l then v else f q)
  by_cases c : q = l
  · rw [if_pos c, if_neg (by omega), if_pos c]
  · rw [if_neg c, if_neg c]
section REF
variable {z : Bool} {h : am_H} {M : tMd} {a b c : Int} {f : Nat → Int}
theorem sc_f10 : am_fd (mdPut h (scP M a b c f)) 1315 10 10 = some (.int (wI (M.1 10))) := md_f10
theorem sc_f11 : am_fd (mdPut h (scP M a b c f)) 1315 10 11 = some (.int (wI a)) := md_f11
theorem sc_f12 : am_fd (mdPut h (scP M a b c f)) 1315 10 12 = some (.int (wI (M.1 12))) := md_f12
theorem sc_f13 : am_fd (mdPut h (scP M a b c f)) 1315 10 13 = some (.int (wI (M.1 13))) := md_f13
theorem sc_f15 : am_fd (mdPut h (scP M a b c f)) 1315 10 15 = some (.int (wI b)) := md_f15
theorem sc_f16 : am_fd (mdPut h (scP M a b c f)) 1315 10 16 = some (.int (wI c)) := md_f16
theorem sc_s11 {v : Int} : am_pf (mdPut h (scP M a b c f)) 1315 10 11 0 (.int (wI v)) = some (mdPut h (scP M v b c f)) := by
  rw [md_s11]
  unfold scP
  dsimp only
  rw [up1_cm (k := 16) (l := 11) (by decide), up1_cm (k := 15) (l := 11) (by decide), up1_up1]
theorem sc_s15 {v : Int} : am_pf (mdPut h (scP M a b c f)) 1315 10 15 0 (.int (wI v)) = some (mdPut h (scP M a v c f)) := by
  rw [md_s15]
  unfold scP
  dsimp only
  rw [up1_cm (k := 16) (l := 15) (by decide), up1_up1]
theorem sc_s16 {v : Int} : am_pf (mdPut h (scP M a b c f)) 1315 10 16 0 (.int (wI v)) = some (mdPut h (scP M a b v f)) := by
  rw [md_s16]
  unfold scP
  dsimp only
  rw [up1_up1]
theorem sc_s12 {v : Int} : am_pf (mdPut h (scP M a b c f)) 1315 10 12 0 (.int (wI v)) = some (mdPut h (scP (up1 M.1 12 v, M.2) a b c f)) := by
  rw [md_s12]
  unfold scP
  dsimp only
  rw [up1_cm (k := 16) (l := 12) (by decide), up1_cm (k := 15) (l := 12) (by decide), up1_cm (k := 11) (l := 12) (by decide)]
theorem sc_s13 {v : Int} : am_pf (mdPut h (scP M a b c f)) 1315 10 13 0 (.int (wI v)) = some (mdPut h (scP (up1 M.1 13 v, M.2) a b c f)) := by
  rw [md_s13]
  unfold scP
  dsimp only
  rw [up1_cm (k := 16) (l := 13) (by decide), up1_cm (k := 15) (l := 13) (by decide), up1_cm (k := 11) (l := 13) (by decide)]
theorem sc_w4 {i v : Int} (h1 : 0 ≤ i) (h2 : i < 8) : am_is (mdPut h (scP M a b c f)) 1320 (wI i) (wI v) = some (mdPut h (scP M a b c (up1 f i.toNat v))) := by
  rw [md_w4 h1 h2, up2_C]
  unfold scP
  dsimp only
  refine congrArg some (congrArg (mdPut h) (Prod.ext rfl (funext fun q => ?_)))
  show (if q = 4 then up1 (if 4 = 4 then f else M.2 4) i.toNat v else if q = 4 then f else M.2 q) = if q = 4 then up1 f i.toNat v else M.2 q
  rw [if_pos rfl]
  split <;> rfl
/-- the byte at a place, none behind the end -/
def seM (M : tMd) (n i : Nat) : Int := if i < n then M.2 3 i else -1
theorem p58 {n i : Nat} (h10 : M.1 10 = (n : Int)) (hn : n ≤ 1200) (hi : i ≤ 5000) : ru_ev z 58 [.ref 1315, .int (wI i)] (mdPut h (scP M a b c f)) = some (.inl (some (.int (wI (seM M n i)))), mdPut h (scP M a b c f)) := by
  unfold seM
  by_cases e : i < n
  · have d1 : ((n : Int) ≤ (i : Int)) = False := eq_false (by omega)
    have r := md_a3 (h := h) (M := scP M a b c f) (i := (i : Int)) (by omega) (by omega)
    rw [Int.toNat_natCast] at r
    have r : am_ia (mdPut h (scP M a b c f)) 1319 (wI (i : Nat)) = some (wI (M.2 3 i)) := r
    rw [if_pos e]
    simp (disch := omega) only [en58, e58_0, e58_1, e58_2, e58_5, e58_8, e58_9, e58_12, e58_13, e58_14, e58_17, e58_18, ↓reduceIte, Bool.false_eq_true, not_false_eq_true, not_true_eq_false, Nat.reduceLeDiff, Nat.reduceAdd, Nat.reduceEqDiff, Int.reduceToNat, Int.toNat_natCast, iB0, iB1, ru_klI, ru_klR, ru_klF, ru_klJ, ru_kl0, ru_cs0, ru_csI, ru_csR, ru_csF, ru_csJ, wI_add, wI_sub, wI_mul, wI_lt, wI_le, wI_inj, ru_fdE, ru_fdN, ru_iaN, ru_baN, ru_laN, ru_qaN, ru_pfN, ru_isN, ru_bsN, ru_jsN, ru_qsN, ru_set2, Nat.add_right_cancel_iff, if_true, if_false, ite_self, Int.reduceEq, and_self, Int.add_neg_cancel_right, Int.add_zero, Int.zero_add, md_e, sc_f10, md_f6, h10, d1, r]
  · have d1 : ((n : Int) ≤ (i : Int)) = True := eq_true (by omega)
    rw [if_neg e]
    simp (disch := omega) only [en58, e58_0, e58_1, e58_2, e58_5, e58_8, e58_9, e58_12, e58_13, e58_14, e58_17, e58_18, ↓reduceIte, Bool.false_eq_true, not_false_eq_true, not_true_eq_false, Nat.reduceLeDiff, Nat.reduceAdd, Nat.reduceEqDiff, Int.reduceToNat, Int.toNat_natCast, iB0, iB1, ru_klI, ru_klR, ru_klF, ru_klJ, ru_kl0, ru_cs0, ru_csI, ru_csR, ru_csF, ru_csJ, wI_add, wI_sub, wI_mul, wI_lt, wI_le, wI_inj, ru_fdE, ru_fdN, ru_iaN, ru_baN, ru_laN, ru_qaN, ru_pfN, ru_isN, ru_bsN, ru_jsN, ru_qsN, ru_set2, Nat.add_right_cancel_iff, if_true, if_false, ite_self, Int.reduceEq, and_self, Int.add_neg_cancel_right, Int.add_zero, Int.zero_add, md_e, sc_f10, md_f6, h10, d1]
theorem p59 {X : am_H} {v : Int} (g : -1 ≤ v ∧ v ≤ 255) : ru_ev z 59 [.int (wI v)] X = some (.inl (some (.int (wI (if 97 ≤ v ∧ v ≤ 122 then 1 else 0)))), X) := by
  by_cases c1 : v < 97
  · have d1 : (v < 97) = True := eq_true c1
    rw [if_neg (by omega)]
    simp (disch := omega) only [en59, e59_0, e59_1, e59_3, e59_6, e59_7, e59_9, e59_12, e59_13, e59_16, e59_17, ↓reduceIte, Bool.false_eq_true, not_false_eq_true, not_true_eq_false, Nat.reduceLeDiff, Nat.reduceAdd, Nat.reduceEqDiff, Int.reduceToNat, Int.toNat_natCast, iB0, iB1, ru_klI, ru_klR, ru_klF, ru_klJ, ru_kl0, ru_cs0, ru_csI, ru_csR, ru_csF, ru_csJ, wI_add, wI_sub, wI_mul, wI_lt, wI_le, wI_inj, ru_fdE, ru_fdN, ru_iaN, ru_baN, ru_laN, ru_qaN, ru_pfN, ru_isN, ru_bsN, ru_jsN, ru_qsN, ru_set2, Nat.add_right_cancel_iff, if_true, if_false, ite_self, Int.reduceEq, and_self, Int.add_neg_cancel_right, Int.add_zero, Int.zero_add, d1, wI_and1]
  · have d1 : (v < 97) = False := eq_false c1
    by_cases c2 : 122 < v
    · have d2 : (122 < v) = True := eq_true c2
      rw [if_neg (by omega)]
      simp (disch := omega) only [en59, e59_0, e59_1, e59_3, e59_6, e59_7, e59_9, e59_12, e59_13, e59_16, e59_17, ↓reduceIte, Bool.false_eq_true, not_false_eq_true, not_true_eq_false, Nat.reduceLeDiff, Nat.reduceAdd, Nat.reduceEqDiff, Int.reduceToNat, Int.toNat_natCast, iB0, iB1, ru_klI, ru_klR, ru_klF, ru_klJ, ru_kl0, ru_cs0, ru_csI, ru_csR, ru_csF, ru_csJ, wI_add, wI_sub, wI_mul, wI_lt, wI_le, wI_inj, ru_fdE, ru_fdN, ru_iaN, ru_baN, ru_laN, ru_qaN, ru_pfN, ru_isN, ru_bsN, ru_jsN, ru_qsN, ru_set2, Nat.add_right_cancel_iff, if_true, if_false, ite_self, Int.reduceEq, and_self, Int.add_neg_cancel_right, Int.add_zero, Int.zero_add, d1, d2, wI_and1]
    · have d2 : (122 < v) = False := eq_false c2
      rw [if_pos (by omega)]
      simp (disch := omega) only [en59, e59_0, e59_1, e59_3, e59_6, e59_7, e59_9, e59_12, e59_13, e59_16, e59_17, ↓reduceIte, Bool.false_eq_true, not_false_eq_true, not_true_eq_false, Nat.reduceLeDiff, Nat.reduceAdd, Nat.reduceEqDiff, Int.reduceToNat, Int.toNat_natCast, iB0, iB1, ru_klI, ru_klR, ru_klF, ru_klJ, ru_kl0, ru_cs0, ru_csI, ru_csR, ru_csF, ru_csJ, wI_add, wI_sub, wI_mul, wI_lt, wI_le, wI_inj, ru_fdE, ru_fdN, ru_iaN, ru_baN, ru_laN, ru_qaN, ru_pfN, ru_isN, ru_bsN, ru_jsN, ru_qsN, ru_set2, Nat.add_right_cancel_iff, if_true, if_false, ite_self, Int.reduceEq, and_self, Int.add_neg_cancel_right, Int.add_zero, Int.zero_add, d1, d2, wI_and1]
theorem p60 {X : am_H} {v : Int} (g : -1 ≤ v ∧ v ≤ 255) : ru_ev z 60 [.int (wI v)] X = some (.inl (some (.int (wI (if 48 ≤ v ∧ v ≤ 57 then 1 else 0)))), X) := by
  by_cases c1 : v < 48
  · have d1 : (v < 48) = True := eq_true c1
    rw [if_neg (by omega)]
    simp (disch := omega) only [en60, e60_0, e60_1, e60_3, e60_6, e60_7, e60_9, e60_12, e60_13, e60_16, e60_17, ↓reduceIte, Bool.false_eq_true, not_false_eq_true, not_true_eq_false, Nat.reduceLeDiff, Nat.reduceAdd, Nat.reduceEqDiff, Int.reduceToNat, Int.toNat_natCast, iB0, iB1, ru_klI, ru_klR, ru_klF, ru_klJ, ru_kl0, ru_cs0, ru_csI, ru_csR, ru_csF, ru_csJ, wI_add, wI_sub, wI_mul, wI_lt, wI_le, wI_inj, ru_fdE, ru_fdN, ru_iaN, ru_baN, ru_laN, ru_qaN, ru_pfN, ru_isN, ru_bsN, ru_jsN, ru_qsN, ru_set2, Nat.add_right_cancel_iff, if_true, if_false, ite_self, Int.reduceEq, and_self, Int.add_neg_cancel_right, Int.add_zero, Int.zero_add, d1, wI_and1]
  · have d1 : (v < 48) = False := eq_false c1
    by_cases c2 : 57 < v
    · have d2 : (57 < v) = True := eq_true c2
      rw [if_neg (by omega)]
      simp (disch := omega) only [en60, e60_0, e60_1, e60_3, e60_6, e60_7, e60_9, e60_12, e60_13, e60_16, e60_17, ↓reduceIte, Bool.false_eq_true, not_false_eq_true, not_true_eq_false, Nat.reduceLeDiff, Nat.reduceAdd, Nat.reduceEqDiff, Int.reduceToNat, Int.toNat_natCast, iB0, iB1, ru_klI, ru_klR, ru_klF, ru_klJ, ru_kl0, ru_cs0, ru_csI, ru_csR, ru_csF, ru_csJ, wI_add, wI_sub, wI_mul, wI_lt, wI_le, wI_inj, ru_fdE, ru_fdN, ru_iaN, ru_baN, ru_laN, ru_qaN, ru_pfN, ru_isN, ru_bsN, ru_jsN, ru_qsN, ru_set2, Nat.add_right_cancel_iff, if_true, if_false, ite_self, Int.reduceEq, and_self, Int.add_neg_cancel_right, Int.add_zero, Int.zero_add, d1, d2, wI_and1]
    · have d2 : (57 < v) = False := eq_false c2
      rw [if_pos (by omega)]
      simp (disch := omega) only [en60, e60_0, e60_1, e60_3, e60_6, e60_7, e60_9, e60_12, e60_13, e60_16, e60_17, ↓reduceIte, Bool.false_eq_true, not_false_eq_true, not_true_eq_false, Nat.reduceLeDiff, Nat.reduceAdd, Nat.reduceEqDiff, Int.reduceToNat, Int.toNat_natCast, iB0, iB1, ru_klI, ru_klR, ru_klF, ru_klJ, ru_kl0, ru_cs0, ru_csI, ru_csR, ru_csF, ru_csJ, wI_add, wI_sub, wI_mul, wI_lt, wI_le, wI_inj, ru_fdE, ru_fdN, ru_iaN, ru_baN, ru_laN, ru_qaN, ru_pfN, ru_isN, ru_bsN, ru_jsN, ru_qsN, ru_set2, Nat.add_right_cancel_iff, if_true, if_false, ite_self, Int.reduceEq, and_self, Int.add_neg_cancel_right, Int.add_zero, Int.zero_add, d1, d2, wI_and1]
/-- a byte's sort, as the reference has the bytes -/
def rgM (M : tMd) (lo hi : Int) : Nat → Bool := fun q => decide (lo ≤ M.2 3 q ∧ M.2 3 q ≤ hi)
theorem p57a {n : Nat} (h10 : M.1 10 = (n : Int)) (hn : n ≤ 1200) (hb : ∀ i, i < n → 0 ≤ M.2 3 i ∧ M.2 3 i ≤ 255) : ∀ d i : Nat, i + d = n → ru_n z 57 0 [some (.ref 1315), none, none] [] (mdPut h (scP M (i : Int) b c f)) = ru_n z 57 26 [some (.ref 1315), none, none] [] (mdPut h (scP M ((eF (rgM M 32 32) d i : Nat) : Int) b c f)) := by
  intro d
  induction d with
  | zero =>
    intro i hin
    obtain rfl : i = n := by omega
    have r := p58 (z := z) (h := h) (a := (i : Int)) (b := b) (c := c) (f := f) h10 hn (i := i) (by omega)
    unfold seM at r
    rw [if_neg (Nat.lt_irrefl _)] at r
    have d1 : ((-1 : Int) = 32) = False := eq_false (by decide)
    simp (disch := omega) only [e57_0, e57_1, e57_2, e57_5, e57_8, e57_10, ↓reduceIte, Bool.false_eq_true, not_false_eq_true, not_true_eq_false, Nat.reduceLeDiff, Nat.reduceAdd, Nat.reduceEqDiff, Int.reduceToNat, Int.toNat_natCast, iB0, iB1, ru_klI, ru_klR, ru_klF, ru_klJ, ru_kl0, ru_cs0, ru_csI, ru_csR, ru_csF, ru_csJ, wI_add, wI_sub, wI_mul, wI_lt, wI_le, wI_inj, ru_fdE, ru_fdN, ru_iaN, ru_baN, ru_laN, ru_qaN, ru_pfN, ru_isN, ru_bsN, ru_jsN, ru_qsN, ru_set2, Nat.add_right_cancel_iff, if_true, if_false, ite_self, Int.reduceEq, and_self, Int.add_neg_cancel_right, Int.add_zero, Int.zero_add, md_e, sc_f11, r, d1, not_false_iff, eF]
  | succ d ih =>
    intro i hin
    have r := p58 (z := z) (h := h) (a := (i : Int)) (b := b) (c := c) (f := f) h10 hn (i := i) (by omega)
    unfold seM at r
    rw [if_pos (by omega)] at r
    have bi := hb i (by omega)
    show _ = ru_n z 57 26 [some (.ref 1315), none, none] [] (mdPut h (scP M (((if rgM M 32 32 i = true then eF (rgM M 32 32) d (i + 1) else i : Nat) : Nat) : Int) b c f))
    by_cases c1 : M.2 3 i = 32
    · have d1 : (M.2 3 i = 32) = True := eq_true c1
      have e : rgM M 32 32 i = true := decide_eq_true (by omega)
      have ih1 := ih (i + 1) (by omega)
      simp only [Int.natCast_add, Int.natCast_one] at ih1
      rw [if_pos e, e57_0]
      simp (disch := omega) only [e57_1, e57_2, e57_5, e57_8, e57_10, e57_13, e57_14, e57_15, e57_18, e57_19, e57_20, e57_23, ↓reduceIte, Bool.false_eq_true, not_false_eq_true, not_true_eq_false, Nat.reduceLeDiff, Nat.reduceAdd, Nat.reduceEqDiff, Int.reduceToNat, Int.toNat_natCast, iB0, iB1, ru_klI, ru_klR, ru_klF, ru_klJ, ru_kl0, ru_cs0, ru_csI, ru_csR, ru_csF, ru_csJ, wI_add, wI_sub, wI_mul, wI_lt, wI_le, wI_inj, ru_fdE, ru_fdN, ru_iaN, ru_baN, ru_laN, ru_qaN, ru_pfN, ru_isN, ru_bsN, ru_jsN, ru_qsN, ru_set2, Nat.add_right_cancel_iff, if_true, if_false, ite_self, Int.reduceEq, and_self, Int.add_neg_cancel_right, Int.add_zero, Int.zero_add, md_e, sc_f11, sc_s11, r, d1, not_true, ru_ctR]
      exact ih1
    · have d1 : (M.2 3 i = 32) = False := eq_false c1
      have e : ¬ rgM M 32 32 i = true := fun e => by have := of_decide_eq_true e; omega
      rw [if_neg e, e57_0]
      simp (disch := omega) only [e57_1, e57_2, e57_5, e57_8, e57_10, e57_13, e57_14, e57_15, e57_18, e57_19, e57_20, e57_23, ↓reduceIte, Bool.false_eq_true, not_false_eq_true, not_true_eq_false, Nat.reduceLeDiff, Nat.reduceAdd, Nat.reduceEqDiff, Int.reduceToNat, Int.toNat_natCast, iB0, iB1, ru_klI, ru_klR, ru_klF, ru_klJ, ru_kl0, ru_cs0, ru_csI, ru_csR, ru_csF, ru_csJ, wI_add, wI_sub, wI_mul, wI_lt, wI_le, wI_inj, ru_fdE, ru_fdN, ru_iaN, ru_baN, ru_laN, ru_qaN, ru_pfN, ru_isN, ru_bsN, ru_jsN, ru_qsN, ru_set2, Nat.add_right_cancel_iff, if_true, if_false, ite_self, Int.reduceEq, and_self, Int.add_neg_cancel_right, Int.add_zero, Int.zero_add, md_e, sc_f11, r, d1, not_false_iff, ru_ctR]
end REF
