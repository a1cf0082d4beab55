/-! ===== is the token this word ===== -/
def cmpW (f : Nat → Int) (T : List Nat) : Nat → Nat → Bool
  | 0, _ => true
  | d + 1, k => if f k = ((T.getD k 0 : Nat) : Int) then cmpW f T d (k + 1) else false
theorem cmpW_c {f g : Nat → Int} {T : List Nat} : ∀ d k, (∀ i, k ≤ i → i < k + d → f i = g i) → cmpW f T d k = cmpW g T d k
  | 0, _, _ => rfl
  | d + 1, k, h => by
    show (if f k = ((T.getD k 0 : Nat) : Int) then cmpW f T d (k + 1) else false) = (if g k = ((T.getD k 0 : Nat) : Int) then cmpW g T d (k + 1) else false)
    rw [h k (Nat.le_refl _) (by omega), cmpW_c d (k + 1) (fun i h1 h2 => h i (by omega) (by omega))]
/-- the token is the word T -/
def isW (M : tMd) (T : List Nat) : Bool := decide (M.1 13 = 1 ∧ M.1 15 = (T.length : Int)) && cmpW (M.2 4) T T.length 0
section ISW
variable {z : Bool} {C : tCl} {M : tMd} {n s : Nat}
theorem stAt_cl2 {h : am_H} {S V : Nat} {t : List Nat} (hs : stAt h S V t) : (clPut h C).1 S = some (.inr (50, [.ref V, .int (wI 0)])) ∧ ∃ f, (clPut h C).1 V = some (.inl (11, t.length, .inl f)) ∧ ∀ j, j < t.length → f j = wI ((t.getD j 0 : Nat) : Int) := by
  obtain ⟨a1, ⟨f, a2, a3⟩, a4, a5⟩ := hs
  exact ⟨by rw [clPut_o (by omega)]; exact a1, f, by rw [clPut_o (by omega)]; exact a2, a3⟩
theorem cl_b2 {h : am_H} {i : Int} (h1 : 0 ≤ i) (h2 : i < 1200) : am_ba (clPut h C) 1002 (wI i) = some (wI (C.2.1 1002 i.toNat)) := by
  have k := in_b (h := h) (C := C) (p := C.1 1001) (w := C.2.2.1 1001 8) (k := C.2.2.2 1001 7) h1 h2
  rw [inP_self] at k
  exact k
theorem c28l {h : am_H} {S V : Nat} {T : List Nat} (hs : stAt h S V T) (ht : T.length ≤ 8) (hb : ∀ j, j < T.length → T.getD j 0 ≤ 127) (h5 : C.1 1001 5 = (s : Int)) (hsn : s + T.length ≤ 1200) (hby : ∀ q, q < T.length → -128 ≤ C.2.1 1002 (s + q) ∧ C.2.1 1002 (s + q) ≤ 127) : ∀ d i : Nat, i + d = T.length → ru_n z 28 30 [some (.ref 1001), some (.ref S), some (.int (wI i))] [] (clPut h C) = some (.inl (some (.int (wI (if cmpW (fun q => C.2.1 1002 (s + q)) T d i = true then 1 else 0)))), clPut h C) := by
  obtain ⟨s1, f, s2, s3⟩ := stAt_cl2 (C := C) hs
  have kl := k29 (z := z) s1 s2 (by omega)
  intro d
  induction d with
  | zero =>
    intro i hi
    obtain rfl : i = T.length := by omega
    simp (disch := omega) only [e28_30, e28_31, e28_32, e28_35, e28_65, e28_66, ↓reduceIte, Bool.false_eq_true, not_false_eq_true, not_true_eq_false, Nat.reduceLeDiff, Nat.reduceAdd, Nat.reduceEqDiff, Int.reduceToNat, Int.toNat_natCast, iB0, iB1, ru_klI, ru_klR, ru_klF, ru_klJ, ru_kl0, ru_cs0, ru_csI, ru_csR, ru_csF, ru_csJ, wI_add, wI_sub, wI_mul, wI_lt, wI_le, wI_inj, ru_fdE, ru_fdN, ru_iaN, ru_baN, ru_laN, ru_qaN, ru_pfN, ru_isN, ru_bsN, ru_jsN, ru_qsN, ru_set2, Nat.add_right_cancel_iff, if_true, if_false, ite_self, Int.reduceEq, and_self, Int.add_neg_cancel_right, Int.add_zero, Int.zero_add, kl, Int.le_refl, wI_and1, cmpW]
  | succ d ih =>
    intro i hi
    have kc := k31 (z := z) s1 s2 s3 (by omega) hb (i := i) (by omega)
    have c : ((T.length : Int) ≤ (i : Int)) = False := eq_false (by omega)
    have rb := cl_b2 (C := C) (h := h) (i := (s : Int) + (i : Int)) (by omega) (by omega)
    rw [show ((s : Int) + (i : Int)).toNat = s + i by omega] at rb
    have b1 := hby i (by omega)
    have b2 := hb i (by omega)
    have es : cmpW (fun q => C.2.1 1002 (s + q)) T (d + 1) i = if C.2.1 1002 (s + i) = ((T.getD i 0 : Nat) : Int) then cmpW (fun q => C.2.1 1002 (s + q)) T d (i + 1) else false := rfl
    rw [es]
    by_cases e : C.2.1 1002 (s + i) = ((T.getD i 0 : Nat) : Int)
    · have d1 : (C.2.1 1002 (s + i) = ((T.getD i 0 : Nat) : Int)) = True := eq_true e
      have ih1 := ih (i + 1) (by omega)
      simp only [Int.natCast_add, Int.natCast_one] at ih1
      rw [if_pos e, e28_30]
      simp (disch := omega) only [e28_31, e28_32, e28_35, e28_38, e28_39, e28_42, e28_43, e28_46, e28_47, e28_48, e28_49, e28_50, e28_51, e28_54, e28_57, e28_58, e28_59, e28_62, ↓reduceIte, Bool.false_eq_true, not_false_eq_true, not_true_eq_false, Nat.reduceLeDiff, Nat.reduceAdd, Nat.reduceEqDiff, Int.reduceToNat, Int.toNat_natCast, iB0, iB1, ru_klI, ru_klR, ru_klF, ru_klJ, ru_kl0, ru_cs0, ru_csI, ru_csR, ru_csF, ru_csJ, wI_add, wI_sub, wI_mul, wI_lt, wI_le, wI_inj, ru_fdE, ru_fdN, ru_iaN, ru_baN, ru_laN, ru_qaN, ru_pfN, ru_isN, ru_bsN, ru_jsN, ru_qsN, ru_set2, Nat.add_right_cancel_iff, if_true, if_false, ite_self, Int.reduceEq, and_self, Int.add_neg_cancel_right, Int.add_zero, Int.zero_add, cl_g1_0, cl_g1_5, h5, kl, kc, c, rb, d1]
      exact ih1
    · have d1 : (C.2.1 1002 (s + i) = ((T.getD i 0 : Nat) : Int)) = False := eq_false e
      rw [if_neg e, e28_30]
      simp (disch := omega) only [e28_31, e28_32, e28_35, e28_38, e28_39, e28_42, e28_43, e28_46, e28_47, e28_48, e28_49, e28_50, e28_51, e28_54, e28_57, e28_58, e28_59, e28_62, ↓reduceIte, Bool.false_eq_true, not_false_eq_true, not_true_eq_false, Nat.reduceLeDiff, Nat.reduceAdd, Nat.reduceEqDiff, Int.reduceToNat, Int.toNat_natCast, iB0, iB1, ru_klI, ru_klR, ru_klF, ru_klJ, ru_kl0, ru_cs0, ru_csI, ru_csR, ru_csF, ru_csJ, wI_add, wI_sub, wI_mul, wI_lt, wI_le, wI_inj, ru_fdE, ru_fdN, ru_iaN, ru_baN, ru_laN, ru_qaN, ru_pfN, ru_isN, ru_bsN, ru_jsN, ru_qsN, ru_set2, Nat.add_right_cancel_iff, if_true, if_false, ite_self, Int.reduceEq, and_self, Int.add_neg_cancel_right, Int.add_zero, Int.zero_add, cl_g1_0, cl_g1_5, h5, kl, kc, c, rb, d1, wI_and1, Bool.false_eq_true, if_false]
theorem c28 {h : am_H} {S V : Nat} {T : List Nat} (hs : stAt h S V T) (ht : T.length ≤ 8) (hb : ∀ j, j < T.length → T.getD j 0 ≤ 127) (ht2 : tkR C M n s) (hby : byI C M n) : ru_ev z 28 [.ref 1001, .ref S] (clPut h C) = some (.inl (some (.int (wI (if isW M T = true then 1 else 0)))), clPut h C) := by
  obtain ⟨s1, f, s2, s3⟩ := stAt_cl2 (C := C) hs
  have kl := k29 (z := z) s1 s2 (by omega)
  obtain ⟨a1, a2, a3, a4, a5, a6⟩ := ht2
  obtain ⟨b1, b2⟩ := hby
  have g : 200 ≤ C.2.2.2 1001 7 ∧ C.2.2.2 1001 7 < 206 := by
    rcases a6 with ⟨k1, -⟩ | ⟨t, -, -, -, -, q⟩
    · omega
    · rcases q with ⟨k1, -⟩ | ⟨k1, -⟩ | ⟨k1, -⟩ | ⟨k1, -⟩ | ⟨k1, -⟩ <;> omega
  have g1 : (200 ≤ C.2.2.2 1001 7) = True := eq_true g.1
  have g2 : (C.2.2.2 1001 7 < 206) = True := eq_true g.2
  have no : C.2.2.2 1001 7 ≠ 200 → M.1 13 ≠ 1 → ru_ev z 28 [.ref 1001, .ref S] (clPut h C) = some (.inl (some (.int (wI (if isW M T = true then 1 else 0)))), clPut h C) := fun k1 k2 => by
    have e : isW M T = false := by unfold isW; rw [decide_eq_false (fun h => k2 h.1)]; rfl
    have d1 : (C.2.2.2 1001 7 = 200) = False := eq_false k1
    rw [e]
    simp (disch := omega) only [e28_0, e28_1, e28_4, e28_7, e28_10, e28_11, e28_14, e28_15, e28_18, e28_19, e28_20, e28_23, e28_26, e28_27, en28, ↓reduceIte, Bool.false_eq_true, not_false_eq_true, not_true_eq_false, Nat.reduceLeDiff, Nat.reduceAdd, Nat.reduceEqDiff, Int.reduceToNat, Int.toNat_natCast, iB0, iB1, ru_klI, ru_klR, ru_klF, ru_klJ, ru_kl0, ru_cs0, ru_csI, ru_csR, ru_csF, ru_csJ, wI_add, wI_sub, wI_mul, wI_lt, wI_le, wI_inj, ru_fdE, ru_fdN, ru_iaN, ru_baN, ru_laN, ru_qaN, ru_pfN, ru_isN, ru_bsN, ru_jsN, ru_qsN, ru_set2, Nat.add_right_cancel_iff, if_true, if_false, ite_self, Int.reduceEq, and_self, Int.add_neg_cancel_right, Int.add_zero, Int.zero_add, cl_e1, cl_g1_7, d1, g1, g2, Nat.reduceLT, wI_and1, not_false_iff, Bool.false_eq_true, if_false]
  rcases a6 with ⟨k1, k2⟩ | ⟨t, t1, t2, t3, t4, q⟩
  · exact no (by omega) (by omega)
  rcases q with ⟨k1, k2, k3, k4, k5, k6, k7⟩ | ⟨k1, k2, -⟩ | ⟨k1, k2⟩ | ⟨k1, k2⟩ | ⟨k1, k2⟩
  · have d1 : (C.2.2.2 1001 7 = 200) = True := eq_true k1
    by_cases c : t - s = T.length
    · have d2 : ((t : Int) - (s : Int) = (T.length : Int)) = True := eq_true (by omega)
      have e : isW M T = cmpW (fun q => C.2.1 1002 (s + q)) T T.length 0 := by
        unfold isW
        rw [decide_eq_true ⟨k2, by rw [k4, c]⟩, Bool.true_and]
        exact cmpW_c _ _ (fun i _ hi => by rw [k5 i (by omega), if_pos (by omega)])
      have l := c28l (z := z) (C := C) (s := s) hs ht hb a4 (by omega) (fun q hq => (b2 (s + q) (by omega)).1) T.length 0 (by omega)
      rw [← e, show ((0 : Nat) : Int) = 0 from rfl] at l
      rw [← l]
      simp (disch := omega) only [e28_0, e28_1, e28_4, e28_7, e28_10, e28_11, e28_14, e28_15, e28_18, e28_19, e28_20, e28_23, e28_26, e28_27, e28_28, e28_29, en28, ↓reduceIte, Bool.false_eq_true, not_false_eq_true, not_true_eq_false, Nat.reduceLeDiff, Nat.reduceAdd, Nat.reduceEqDiff, Int.reduceToNat, Int.toNat_natCast, iB0, iB1, ru_klI, ru_klR, ru_klF, ru_klJ, ru_kl0, ru_cs0, ru_csI, ru_csR, ru_csF, ru_csJ, wI_add, wI_sub, wI_mul, wI_lt, wI_le, wI_inj, ru_fdE, ru_fdN, ru_iaN, ru_baN, ru_laN, ru_qaN, ru_pfN, ru_isN, ru_bsN, ru_jsN, ru_qsN, ru_set2, Nat.add_right_cancel_iff, if_true, if_false, ite_self, Int.reduceEq, and_self, Int.add_neg_cancel_right, Int.add_zero, Int.zero_add, cl_e1, cl_g1_5, cl_g1_6, cl_g1_7, d1, d2, g1, g2, Nat.reduceLT, a4, t3, kl, not_true]
    · have d2 : ((t : Int) - (s : Int) = (T.length : Int)) = False := eq_false (by omega)
      have e : isW M T = false := by unfold isW; rw [decide_eq_false (fun h => c (by have := h.2; omega))]; rfl
      rw [e]
      simp (disch := omega) only [e28_0, e28_1, e28_4, e28_7, e28_10, e28_11, e28_14, e28_15, e28_18, e28_19, e28_20, e28_23, e28_26, e28_27, e28_28, e28_29, en28, ↓reduceIte, Bool.false_eq_true, not_false_eq_true, not_true_eq_false, Nat.reduceLeDiff, Nat.reduceAdd, Nat.reduceEqDiff, Int.reduceToNat, Int.toNat_natCast, iB0, iB1, ru_klI, ru_klR, ru_klF, ru_klJ, ru_kl0, ru_cs0, ru_csI, ru_csR, ru_csF, ru_csJ, wI_add, wI_sub, wI_mul, wI_lt, wI_le, wI_inj, ru_fdE, ru_fdN, ru_iaN, ru_baN, ru_laN, ru_qaN, ru_pfN, ru_isN, ru_bsN, ru_jsN, ru_qsN, ru_set2, Nat.add_right_cancel_iff, if_true, if_false, ite_self, Int.reduceEq, and_self, Int.add_neg_cancel_right, Int.add_zero, Int.zero_add, cl_e1, cl_g1_5, cl_g1_6, cl_g1_7, d1, d2, g1, g2, Nat.reduceLT, a4, t3, kl, not_true, not_false_iff, wI_and1, Bool.false_eq_true, if_false]
  · exact no (by omega) (by omega)
  · exact no (by omega) (by omega)
  · exact no (by omega) (by omega)
  · exact no (by omega) (by omega)
end ISW
