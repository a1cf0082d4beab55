/-! ===== the class's history, 2; the reference's stores ===== -/
def phA (C : tCl) : Prop := (∀ t, isSt t → ∀ i, i < 5 → phR (cph C (t + 2 + 5 * i))) ∧ phR (cph C 1065)
def hsOK (C C' : tCl) (s : Nat) : Prop := C'.1 1092 0 = (if C.1 1092 0 = 6 then 6 else C.1 1092 0 + 1) ∧ C'.2.2.2 = (if C.1 1092 0 = 6 then (rotR C).2.2.2 else C.2.2.2) ∧ C'.2.2.1 = C.2.2.1 ∧
  (∃ s', isSt s' ∧ 1094 ≤ s' ∧ s' ≤ 1229 ∧ s' = C'.2.2.2 1093 (C'.1 1092 0 - 1).toNat ∧ C'.1 s' 0 = C.1 s 0 ∧ (∀ i, i < 5 → phS (cph C' (s' + 2 + 5 * i)) (cph C (s + 2 + 5 * i)) ∧ phR (cph C' (s' + 2 + 5 * i))) ∧
    ∀ x, x < s' ∨ s' + 26 < x → (x ≠ 1092 → C'.1 x = C.1 x) ∧ C'.2.1 x = C.2.1 x)
section HIST2
variable {z : Bool} {h : am_H} {C : tCl} {M : tMd}
theorem c113 (hH : hiC C) (hA : phA C) {s : Nat} (hs : isSt s) (hsa : s ≤ 1038) : ∃ C', hsOK C C' s ∧ ru_ev z 113 [.ref 1092, .ref s] (clPut h C) = some (.inl none, clPut h C') := by
  by_cases e : C.1 1092 0 = 6
  · have a0 := hH.1 0 (by decide)
    obtain ⟨C2, k1, k2⟩ := k115 (z := z) (h := h) (C := upI (rotR C) 1092 0 5) a0.1 hs (by omega) (fun i hi => by rw [upI_ph (by omega)]; exact hA.1 _ a0.1 i hi) (fun i hi => by rw [upI_ph (by omega)]; exact hA.1 _ hs i hi)
    have hk : C2.1 1092 0 = 5 := by rw [(k1.2.2.1 1092 (by omega)).1]; simp only [upI, if_true]
    have hr : C2.2.2 = (rotR C).2.2 := k1.2.2.2
    refine ⟨upI C2 1092 0 6, ⟨?_, ?_, ?_, C.2.2.2 1093 0, a0.1, a0.2.1, a0.2.2, ?_, ?_, fun i hi => ?_, fun x hx => ⟨fun hne => ?_, ?_⟩⟩, ?_⟩
    · rw [if_pos e]; simp only [upI, if_true]
    · rw [if_pos e]; show C2.2.2.2 = _; rw [hr]
    · show C2.2.2.1 = _; rw [hr]; rfl
    · have : (upI C2 1092 0 6).1 1092 0 = 6 := by simp only [upI, if_true]
      rw [this]; show _ = C2.2.2.2 1093 5; rw [hr]; rfl
    · rw [upI_n (by omega), k1.1, upI_n (by omega)]; rfl
    · have := k1.2.1 i hi
      rw [upI_ph (by omega)] at this
      rw [upI_ph (by omega)]; exact this
    · rw [upI_n hne, (k1.2.2.1 x hx).1, upI_n hne]; rfl
    · show C2.2.1 x = _; rw [(k1.2.2.1 x hx).2]; rfl
    · have q5 : ∀ D : tCl, am_qa (clPut h D) 1093 (wI 5) = some (D.2.2.2 1093 5) := fun D => hi_qa (by decide) (by decide)
      have e5 : (upI (rotR C) 1092 0 5).2.2.2 1093 5 = C.2.2.2 1093 0 := rfl
      have e6 : (upI (rotR C) 1092 0 5).1 1092 0 = 5 := by simp only [upI, if_true]
      have c1 : ((6 : Int) < 6) = False := eq_false (by omega)
      simp (disch := omega) only [en113, e113_0, e113_1, e113_4, e113_6, e113_9, e113_10, e113_13, e113_14, e113_17, e113_18, e113_21, e113_22, e113_23, e113_26, e113_27, e113_28, e113_31, e113_32, e113_33, e113_36, ↓reduceIte, Bool.false_eq_true, not_false_eq_true, not_true_eq_false, Nat.reduceLeDiff, Nat.reduceAdd, Nat.reduceEqDiff, Int.reduceToNat, Int.toNat_natCast, iB0, iB1, ru_klI, ru_klR, ru_klF, ru_klJ, ru_kl0, ru_cs0, ru_csI, ru_csR, ru_csF, ru_csJ, wI_add, wI_sub, wI_mul, wI_lt, wI_le, wI_inj, ru_fdE, ru_fdN, ru_iaN, ru_baN, ru_laN, ru_qaN, ru_pfN, ru_isN, ru_bsN, ru_jsN, ru_qsN, ru_set2, Nat.add_right_cancel_iff, if_true, if_false, ite_self, Int.reduceEq, and_self, Int.add_neg_cancel_right, Int.add_zero, Int.zero_add, cl_e5, cl_g5_0, cl_q5_0, cl_g5_1, e, c1, c114 hH, e6, q5, e5, k2, hk, ru_ctR, Int.reduceLT, Int.reduceAdd]
  · have hn := hH.2.2
    obtain ⟨n, hnn⟩ := Int.eq_ofNat_of_zero_le hn.1
    have a0 := hH.1 n (by omega)
    obtain ⟨C2, k1, k2⟩ := k115 (z := z) (h := h) (C := C) a0.1 hs (by omega) (fun i hi => hA.1 _ a0.1 i hi) (fun i hi => hA.1 _ hs i hi)
    have hk : C2.1 1092 0 = n := by rw [(k1.2.2.1 1092 (by omega)).1, hnn]
    have hr : C2.2.2 = C.2.2 := k1.2.2.2
    refine ⟨upI C2 1092 0 ((n : Int) + 1), ⟨?_, ?_, ?_, C.2.2.2 1093 n, a0.1, a0.2.1, a0.2.2, ?_, ?_, fun i hi => ?_, fun x hx => ⟨fun hne => ?_, ?_⟩⟩, ?_⟩
    · rw [if_neg e, hnn]; simp only [upI, if_true]
    · rw [if_neg e]; show C2.2.2.2 = _; rw [hr]
    · show C2.2.2.1 = _; rw [hr]
    · have : (upI C2 1092 0 ((n : Int) + 1)).1 1092 0 = (n : Int) + 1 := by simp only [upI, if_true]
      rw [this, Int.add_sub_cancel, Int.toNat_natCast]; show _ = C2.2.2.2 1093 n; rw [hr]
    · rw [upI_n (by omega), k1.1]
    · rw [upI_ph (by omega)]; exact k1.2.1 i hi
    · rw [upI_n hne, (k1.2.2.1 x hx).1]
    · show C2.2.1 x = _; rw [(k1.2.2.1 x hx).2]
    · have q5 : am_qa (clPut h C) 1093 (wI (n : Nat)) = some (C.2.2.2 1093 n) := by rw [hi_qa (by omega) (by omega), Int.toNat_natCast]
      have c1 : ((n : Int) < 6) = True := eq_true (by omega)
      simp (disch := omega) only [en113, e113_0, e113_1, e113_4, e113_6, e113_9, e113_10, e113_13, e113_14, e113_17, e113_18, e113_21, e113_22, e113_23, e113_26, e113_27, e113_28, e113_31, e113_32, e113_33, e113_36, ↓reduceIte, Bool.false_eq_true, not_false_eq_true, not_true_eq_false, Nat.reduceLeDiff, Nat.reduceAdd, Nat.reduceEqDiff, Int.reduceToNat, Int.toNat_natCast, iB0, iB1, ru_klI, ru_klR, ru_klF, ru_klJ, ru_kl0, ru_cs0, ru_csI, ru_csR, ru_csF, ru_csJ, wI_add, wI_sub, wI_mul, wI_lt, wI_le, wI_inj, ru_fdE, ru_fdN, ru_iaN, ru_baN, ru_laN, ru_qaN, ru_pfN, ru_isN, ru_bsN, ru_jsN, ru_qsN, ru_set2, Nat.add_right_cancel_iff, if_true, if_false, ite_self, Int.reduceEq, and_self, Int.add_neg_cancel_right, Int.add_zero, Int.zero_add, cl_e5, cl_g5_0, cl_q5_0, cl_g5_1, hnn, c1, q5, k2, hk, ru_ctR]
/-- the latest state taken back into s -/
theorem c372 (hH : hiC C) (hA : phA C) {s : Nat} (hs : isSt s) (hsa : s ≤ 1038) (hn : 0 < C.1 1092 0) : ∃ C', C'.1 1092 0 = C.1 1092 0 - 1 ∧ C'.2.2 = C.2.2 ∧ C'.1 s 0 = C.1 (C.2.2.2 1093 (C.1 1092 0 - 1).toNat) 0 ∧ (∀ i, i < 5 → phS (cph C' (s + 2 + 5 * i)) (cph C (C.2.2.2 1093 (C.1 1092 0 - 1).toNat + 2 + 5 * i)) ∧ phR (cph C' (s + 2 + 5 * i))) ∧ (∀ x, x < s ∨ s + 26 < x → (x ≠ 1092 → C'.1 x = C.1 x) ∧ C'.2.1 x = C.2.1 x) ∧
    ru_ev z 372 [.ref 1092, .ref s] (clPut h C) = some (.inl none, clPut h C') := by
  have hn2 := hH.2.2
  obtain ⟨n, hnn⟩ := Int.eq_ofNat_of_zero_le (show 0 ≤ C.1 1092 0 - 1 by omega)
  have a0 := hH.1 n (by omega)
  obtain ⟨C2, k1, k2⟩ := k115 (z := z) (h := h) (C := upI C 1092 0 n) hs a0.1 (by omega) (fun i hi => by rw [upI_ph (by have := (isSt_k hs).2.2; omega)]; exact hA.1 _ hs i hi) (fun i hi => by rw [upI_ph (by omega)]; exact hA.1 _ a0.1 i hi)
  rw [hnn, Int.toNat_natCast]
  have hs1 := (isSt_k hs).2.2
  refine ⟨C2, ?_, k1.2.2.2, ?_, fun i hi => ?_, fun x hx => ⟨fun hne => ?_, ?_⟩, ?_⟩
  · rw [(k1.2.2.1 1092 (by omega)).1]; simp only [upI, if_true]
  · rw [k1.1, upI_n (by omega)]
  · have := k1.2.1 i hi
    rw [upI_ph (by omega)] at this
    exact this
  · rw [(k1.2.2.1 x hx).1, upI_n hne]
  · rw [(k1.2.2.1 x hx).2]; rfl
  · have q5 : am_qa (clPut h (upI C 1092 0 n)) 1093 (wI (n : Nat)) = some (C.2.2.2 1093 n) := by rw [hi_qa (by omega) (by omega), Int.toNat_natCast]; rfl
    have c1 : (C.1 1092 0 ≤ 0) = False := eq_false (by omega)
    have c2 : C.1 1092 0 - 1 = (n : Int) := hnn
    have c3 : (upI C 1092 0 n).1 1092 0 = (n : Int) := by simp only [upI, if_true]
    simp (disch := omega) only [en372, e372_0, e372_1, e372_4, e372_7, e372_8, e372_9, e372_12, e372_13, e372_14, e372_17, e372_18, e372_19, e372_22, e372_23, e372_26, e372_27, e372_30, ↓reduceIte, Bool.false_eq_true, not_false_eq_true, not_true_eq_false, Nat.reduceLeDiff, Nat.reduceAdd, Nat.reduceEqDiff, Int.reduceToNat, Int.toNat_natCast, iB0, iB1, ru_klI, ru_klR, ru_klF, ru_klJ, ru_kl0, ru_cs0, ru_csI, ru_csR, ru_csF, ru_csJ, wI_add, wI_sub, wI_mul, wI_lt, wI_le, wI_inj, ru_fdE, ru_fdN, ru_iaN, ru_baN, ru_laN, ru_qaN, ru_pfN, ru_isN, ru_bsN, ru_jsN, ru_qsN, ru_set2, Nat.add_right_cancel_iff, if_true, if_false, ite_self, Int.reduceEq, and_self, Int.add_neg_cancel_right, Int.add_zero, Int.zero_add, cl_e5, cl_g5_0, cl_q5_0, cl_g5_1, c1, c2, c3, q5, k2, ru_ctR]
/-! the reference -/
theorem ly_w1 {G : Nat → Int} {i v : Int} (h1 : 0 ≤ i) (h2 : i < 2430) : am_is (mdPut h (M.1, upC M.2 1 G)) 1317 (wI i) (wI v) = some (mdPut h (M.1, upC M.2 1 (up1 G i.toNat v))) := by
  rw [md_w1 h1 h2, up2_C]
  dsimp only
  rw [upC_e, upC_up]
theorem ly_a1 {G : Nat → Int} {i : Int} (h1 : 0 ≤ i) (h2 : i < 2430) : am_ia (mdPut h (M.1, upC M.2 1 G)) 1317 (wI i) = some (wI (G i.toNat)) := md_a1 h1 h2
theorem ly_a0 {G : Nat → Int} {i : Int} (h1 : 0 ≤ i) (h2 : i < 270) : am_ia (mdPut h (M.1, upC M.2 1 G)) 1316 (wI i) = some (wI (M.2 0 i.toNat)) := md_a0 h1 h2
theorem ly_w0 {G : Nat → Int} {i v : Int} (h1 : 0 ≤ i) (h2 : i < 270) : am_is (mdPut h (M.1, upC M.2 0 G)) 1316 (wI i) (wI v) = some (mdPut h (M.1, upC M.2 0 (up1 G i.toNat v))) := by
  rw [md_w0 h1 h2, up2_C]
  dsimp only
  rw [upC_e, upC_up]
theorem fe_a1 {G : Nat → Int} {i : Int} (h1 : 0 ≤ i) (h2 : i < 2430) : am_ia (mdPut h (M.1, upC M.2 0 G)) 1317 (wI i) = some (wI (M.2 1 i.toNat)) := md_a1 h1 h2
def lyF (G S : Nat → Int) (st k : Nat) : Nat → Int := fun j => if 270 * st ≤ j ∧ j < 270 * st + k then S (j - 270 * st) else G j
def feF (S G : Nat → Int) (st k : Nat) : Nat → Int := fun j => if j < k then G (270 * st + j) else S j
theorem p119 {st : Nat} (hst : st < 9) : ru_ev z 119 [.ref 1315, .int (wI st)] (mdPut h M) = some (.inl none, mdPut h (M.1, upC M.2 1 (lyF (M.2 1) (M.2 0) st 270))) := by
  have key : ∀ d k : Nat, k + d = 270 → ru_n z 119 2 [some (.ref 1315), some (.int (wI st)), some (.int (wI k))] [] (mdPut h (M.1, upC M.2 1 (lyF (M.2 1) (M.2 0) st k))) = some (.inl none, mdPut h (M.1, upC M.2 1 (lyF (M.2 1) (M.2 0) st 270))) := by
    intro d
    induction d with
    | zero =>
      intro k hk
      obtain rfl : k = 270 := by omega
      have e : (((270 : Nat) : Int)) = 270 := rfl
      simp (disch := omega) only [e119_2, e119_3, e119_6, e119_33, ↓reduceIte, Bool.false_eq_true, not_false_eq_true, not_true_eq_false, Nat.reduceLeDiff, Nat.reduceAdd, Nat.reduceEqDiff, Int.reduceToNat, Int.toNat_natCast, iB0, iB1, ru_klI, ru_klR, ru_klF, ru_klJ, ru_kl0, ru_cs0, ru_csI, ru_csR, ru_csF, ru_csJ, wI_add, wI_sub, wI_mul, wI_lt, wI_le, wI_inj, ru_fdE, ru_fdN, ru_iaN, ru_baN, ru_laN, ru_qaN, ru_pfN, ru_isN, ru_bsN, ru_jsN, ru_qsN, ru_set2, Nat.add_right_cancel_iff, if_true, if_false, ite_self, Int.reduceEq, and_self, Int.add_neg_cancel_right, Int.add_zero, Int.zero_add, e, Int.le_refl]
    | succ d ih =>
      intro k hk
      have c : ((270 : Int) ≤ (k : Int)) = False := eq_false (by omega)
      have e1 : (270 * (st : Int) + (k : Int)).toNat = 270 * st + k := by omega
      have eu : up1 (lyF (M.2 1) (M.2 0) st k) (270 * st + k) (M.2 0 k) = lyF (M.2 1) (M.2 0) st (k + 1) := by
        funext j
        unfold up1 lyF
        by_cases e : j = 270 * st + k
        · rw [if_pos e, if_pos (by omega), e, Nat.add_sub_cancel_left]
        · rw [if_neg e]
          by_cases e2 : 270 * st ≤ j ∧ j < 270 * st + k
          · rw [if_pos e2, if_pos (by omega)]
          · rw [if_neg e2, if_neg (by omega)]
      rw [← ih (k + 1) (by omega), ← eu, e119_2]
      simp (disch := omega) only [e119_3, e119_6, e119_9, e119_10, e119_13, e119_16, e119_17, e119_18, e119_19, e119_20, e119_21, e119_24, e119_25, e119_26, e119_27, e119_30, ↓reduceIte, Bool.false_eq_true, not_false_eq_true, not_true_eq_false, Nat.reduceLeDiff, Nat.reduceAdd, Nat.reduceEqDiff, Int.reduceToNat, Int.toNat_natCast, iB0, iB1, ru_klI, ru_klR, ru_klF, ru_klJ, ru_kl0, ru_cs0, ru_csI, ru_csR, ru_csF, ru_csJ, wI_add, wI_sub, wI_mul, wI_lt, wI_le, wI_inj, ru_fdE, ru_fdN, ru_iaN, ru_baN, ru_laN, ru_qaN, ru_pfN, ru_isN, ru_bsN, ru_jsN, ru_qsN, ru_set2, Nat.add_right_cancel_iff, if_true, if_false, ite_self, Int.reduceEq, and_self, Int.add_neg_cancel_right, Int.add_zero, Int.zero_add, md_e, md_f2, md_f3, ly_a0, ly_w1, c, e1, Int.natCast_add, Int.natCast_one]
  have k0 := key 270 0 (by omega)
  have e0 : lyF (M.2 1) (M.2 0) st 0 = M.2 1 := by funext j; unfold lyF; rw [if_neg (by omega)]
  rw [e0, upC_self, show ((0 : Nat) : Int) = 0 from rfl] at k0
  simp (disch := omega) only [en119, e119_0, e119_1, ↓reduceIte, Bool.false_eq_true, not_false_eq_true, not_true_eq_false, Nat.reduceLeDiff, Nat.reduceAdd, Nat.reduceEqDiff, Int.reduceToNat, Int.toNat_natCast, iB0, iB1, ru_klI, ru_klR, ru_klF, ru_klJ, ru_kl0, ru_cs0, ru_csI, ru_csR, ru_csF, ru_csJ, wI_add, wI_sub, wI_mul, wI_lt, wI_le, wI_inj, ru_fdE, ru_fdN, ru_iaN, ru_baN, ru_laN, ru_qaN, ru_pfN, ru_isN, ru_bsN, ru_jsN, ru_qsN, ru_set2, Nat.add_right_cancel_iff, if_true, if_false, ite_self, Int.reduceEq, and_self, Int.add_neg_cancel_right, Int.add_zero, Int.zero_add, md_e]
  exact k0
theorem p152 {st : Nat} (hst : st < 9) : ru_ev z 152 [.ref 1315, .int (wI st)] (mdPut h M) = some (.inl none, mdPut h (M.1, upC M.2 0 (feF (M.2 0) (M.2 1) st 270))) := by
  have key : ∀ d k : Nat, k + d = 270 → ru_n z 152 2 [some (.ref 1315), some (.int (wI st)), some (.int (wI k))] [] (mdPut h (M.1, upC M.2 0 (feF (M.2 0) (M.2 1) st k))) = some (.inl none, mdPut h (M.1, upC M.2 0 (feF (M.2 0) (M.2 1) st 270))) := by
    intro d
    induction d with
    | zero =>
      intro k hk
      obtain rfl : k = 270 := by omega
      have e : (((270 : Nat) : Int)) = 270 := rfl
      simp (disch := omega) only [e152_2, e152_3, e152_6, e152_33, ↓reduceIte, Bool.false_eq_true, not_false_eq_true, not_true_eq_false, Nat.reduceLeDiff, Nat.reduceAdd, Nat.reduceEqDiff, Int.reduceToNat, Int.toNat_natCast, iB0, iB1, ru_klI, ru_klR, ru_klF, ru_klJ, ru_kl0, ru_cs0, ru_csI, ru_csR, ru_csF, ru_csJ, wI_add, wI_sub, wI_mul, wI_lt, wI_le, wI_inj, ru_fdE, ru_fdN, ru_iaN, ru_baN, ru_laN, ru_qaN, ru_pfN, ru_isN, ru_bsN, ru_jsN, ru_qsN, ru_set2, Nat.add_right_cancel_iff, if_true, if_false, ite_self, Int.reduceEq, and_self, Int.add_neg_cancel_right, Int.add_zero, Int.zero_add, e, Int.le_refl]
    | succ d ih =>
      intro k hk
      have c : ((270 : Int) ≤ (k : Int)) = False := eq_false (by omega)
      have e1 : (270 * (st : Int) + (k : Int)).toNat = 270 * st + k := by omega
      have eu : up1 (feF (M.2 0) (M.2 1) st k) k (M.2 1 (270 * st + k)) = feF (M.2 0) (M.2 1) st (k + 1) := by
        funext j
        unfold up1 feF
        by_cases e : j = k
        · rw [if_pos e, if_pos (by omega), e]
        · rw [if_neg e]
          by_cases e2 : j < k
          · rw [if_pos e2, if_pos (by omega)]
          · rw [if_neg e2, if_neg (by omega)]
      rw [← ih (k + 1) (by omega), ← eu, e152_2]
      simp (disch := omega) only [e152_3, e152_6, e152_9, e152_10, e152_13, e152_14, e152_15, e152_18, e152_21, e152_22, e152_23, e152_24, e152_25, e152_26, e152_27, e152_30, ↓reduceIte, Bool.false_eq_true, not_false_eq_true, not_true_eq_false, Nat.reduceLeDiff, Nat.reduceAdd, Nat.reduceEqDiff, Int.reduceToNat, Int.toNat_natCast, iB0, iB1, ru_klI, ru_klR, ru_klF, ru_klJ, ru_kl0, ru_cs0, ru_csI, ru_csR, ru_csF, ru_csJ, wI_add, wI_sub, wI_mul, wI_lt, wI_le, wI_inj, ru_fdE, ru_fdN, ru_iaN, ru_baN, ru_laN, ru_qaN, ru_pfN, ru_isN, ru_bsN, ru_jsN, ru_qsN, ru_set2, Nat.add_right_cancel_iff, if_true, if_false, ite_self, Int.reduceEq, and_self, Int.add_neg_cancel_right, Int.add_zero, Int.zero_add, md_e, md_f2, md_f3, fe_a1, ly_w0, c, e1, Int.natCast_add, Int.natCast_one]
  have k0 := key 270 0 (by omega)
  have e0 : feF (M.2 0) (M.2 1) st 0 = M.2 0 := by funext j; unfold feF; rw [if_neg (by omega)]
  rw [e0, upC_self, show ((0 : Nat) : Int) = 0 from rfl] at k0
  simp (disch := omega) only [en152, e152_0, e152_1, ↓reduceIte, Bool.false_eq_true, not_false_eq_true, not_true_eq_false, Nat.reduceLeDiff, Nat.reduceAdd, Nat.reduceEqDiff, Int.reduceToNat, Int.toNat_natCast, iB0, iB1, ru_klI, ru_klR, ru_klF, ru_klJ, ru_kl0, ru_cs0, ru_csI, ru_csR, ru_csF, ru_csJ, wI_add, wI_sub, wI_mul, wI_lt, wI_le, wI_inj, ru_fdE, ru_fdN, ru_iaN, ru_baN, ru_laN, ru_qaN, ru_pfN, ru_isN, ru_bsN, ru_jsN, ru_qsN, ru_set2, Nat.add_right_cancel_iff, if_true, if_false, ite_self, Int.reduceEq, and_self, Int.add_neg_cancel_right, Int.add_zero, Int.zero_add, md_e]
  exact k0
def shF (G : Nat → Int) (k : Nat) : Nat → Int := fun j => if 270 ≤ j ∧ j < k then G (j + 270) else G j
/-- what was laid aside last is kept: n before, G the stores before, G' behind -/
def ktOK (n : Int) (n' : Int) (G G' : Nat → Int) : Prop := n' = (if n = 6 then 6 else n + 1) ∧ (∀ j, j < 270 → G' (270 * n'.toNat + j) = G j) ∧ (∀ i j : Nat, 1 ≤ i → (i : Int) < n' → j < 270 → G' (270 * i + j) = if n = 6 then G (270 * (i + 1) + j) else G (270 * i + j)) ∧ (∀ j, j < 270 → G' j = G j) ∧ (∀ j, 1890 ≤ j → G' j = G j) ∧ ∀ j, ∃ j', G' j = G j'
theorem p153 (hn : 0 ≤ M.1 4 ∧ M.1 4 ≤ 6) : ∃ n' G', ktOK (M.1 4) n' (M.2 1) G' ∧ ru_ev z 153 [.ref 1315] (mdPut h M) = some (.inl none, mdPut h (up1 M.1 4 n', upC M.2 1 G')) := by
  have cpy : ∀ (N : tMd) (n : Nat), n < 6 → N.1 4 = (n : Int) → ∀ d k : Nat, k + d = 270 → ru_n z 153 54 [some (.ref 1315), some (.int (wI k))] [] (mdPut h (N.1, upC N.2 1 (lyF (N.2 1) (N.2 1) (1 + n) k))) = some (.inl none, mdPut h (up1 N.1 4 ((n : Int) + 1), upC N.2 1 (lyF (N.2 1) (N.2 1) (1 + n) 270))) := by
    intro N n hn6 hN d
    induction d with
    | zero =>
      intro k hk
      obtain rfl : k = 270 := by omega
      have e : (((270 : Nat) : Int)) = 270 := rfl
      have f4 : am_fd (mdPut h (N.1, upC N.2 1 (lyF (N.2 1) (N.2 1) (1 + n) 270))) 1315 10 4 = some (.int (wI n)) := by rw [md_f4]; rw [hN]
      simp (disch := omega) only [e153_54, e153_55, e153_58, e153_90, e153_91, e153_92, e153_95, e153_96, e153_97, e153_100, ↓reduceIte, Bool.false_eq_true, not_false_eq_true, not_true_eq_false, Nat.reduceLeDiff, Nat.reduceAdd, Nat.reduceEqDiff, Int.reduceToNat, Int.toNat_natCast, iB0, iB1, ru_klI, ru_klR, ru_klF, ru_klJ, ru_kl0, ru_cs0, ru_csI, ru_csR, ru_csF, ru_csJ, wI_add, wI_sub, wI_mul, wI_lt, wI_le, wI_inj, ru_fdE, ru_fdN, ru_iaN, ru_baN, ru_laN, ru_qaN, ru_pfN, ru_isN, ru_bsN, ru_jsN, ru_qsN, ru_set2, Nat.add_right_cancel_iff, if_true, if_false, ite_self, Int.reduceEq, and_self, Int.add_neg_cancel_right, Int.add_zero, Int.zero_add, md_e, ru_ctR, f4, md_s4, e, Int.le_refl]
    | succ d ih =>
      intro k hk
      have c : ((270 : Int) ≤ (k : Int)) = False := eq_false (by omega)
      have e1 : (270 * (1 + (n : Int)) + (k : Int)).toNat = 270 * (1 + n) + k := by omega
      have eg : lyF (N.2 1) (N.2 1) (1 + n) k k = N.2 1 k := by unfold lyF; rw [if_neg (by omega)]
      have f4 : am_fd (mdPut h (N.1, upC N.2 1 (lyF (N.2 1) (N.2 1) (1 + n) k))) 1315 10 4 = some (.int (wI n)) := by rw [md_f4]; rw [hN]
      have eu : up1 (lyF (N.2 1) (N.2 1) (1 + n) k) (270 * (1 + n) + k) (N.2 1 k) = lyF (N.2 1) (N.2 1) (1 + n) (k + 1) := by
        funext j
        unfold up1 lyF
        by_cases e : j = 270 * (1 + n) + k
        · rw [if_pos e, if_pos (by omega), e, Nat.add_sub_cancel_left]
        · rw [if_neg e]
          by_cases e2 : 270 * (1 + n) ≤ j ∧ j < 270 * (1 + n) + k
          · rw [if_pos e2, if_pos (by omega)]
          · rw [if_neg e2, if_neg (by omega)]
      rw [← ih (k + 1) (by omega), ← eu, e153_54]
      simp (disch := omega) only [e153_55, e153_58, e153_61, e153_62, e153_65, e153_68, e153_69, e153_70, e153_73, e153_74, e153_75, e153_76, e153_77, e153_78, e153_81, e153_82, e153_83, e153_84, e153_87, ↓reduceIte, Bool.false_eq_true, not_false_eq_true, not_true_eq_false, Nat.reduceLeDiff, Nat.reduceAdd, Nat.reduceEqDiff, Int.reduceToNat, Int.toNat_natCast, iB0, iB1, ru_klI, ru_klR, ru_klF, ru_klJ, ru_kl0, ru_cs0, ru_csI, ru_csR, ru_csF, ru_csJ, wI_add, wI_sub, wI_mul, wI_lt, wI_le, wI_inj, ru_fdE, ru_fdN, ru_iaN, ru_baN, ru_laN, ru_qaN, ru_pfN, ru_isN, ru_bsN, ru_jsN, ru_qsN, ru_set2, Nat.add_right_cancel_iff, if_true, if_false, ite_self, Int.reduceEq, and_self, Int.add_neg_cancel_right, Int.add_zero, Int.zero_add, md_e, md_f3, f4, ly_a1, ly_w1, c, e1, eg, Int.natCast_add, Int.natCast_one]
  have cp0 : ∀ (N : tMd) (n : Nat), n < 6 → N.1 4 = (n : Int) → ru_n z 153 54 [some (.ref 1315), some (.int (wI 0))] [] (mdPut h N) = some (.inl none, mdPut h (up1 N.1 4 ((n : Int) + 1), upC N.2 1 (lyF (N.2 1) (N.2 1) (1 + n) 270))) := fun N n h6 hN => by
    have k0 := cpy N n h6 hN 270 0 (by omega)
    have e0 : lyF (N.2 1) (N.2 1) (1 + n) 0 = N.2 1 := by funext j; unfold lyF; rw [if_neg (by omega)]
    rw [e0, upC_self, show ((0 : Nat) : Int) = 0 from rfl] at k0
    exact k0
  by_cases e : M.1 4 = 6
  · have shl : ∀ d k : Nat, k + d = 1620 → 270 ≤ k → ru_n z 153 13 [some (.ref 1315), some (.int (wI k))] [] (mdPut h (M.1, upC M.2 1 (shF (M.2 1) k))) = ru_n z 153 54 [some (.ref 1315), some (.int (wI 0))] [] (mdPut h (up1 M.1 4 5, upC M.2 1 (shF (M.2 1) 1620))) := by
      intro d
      induction d with
      | zero =>
        intro k hk _
        obtain rfl : k = 1620 := by omega
        have e2 : (((1620 : Nat) : Int)) = 1620 := rfl
        have f4 : am_fd (mdPut h (M.1, upC M.2 1 (shF (M.2 1) 1620))) 1315 10 4 = some (.int (wI 6)) := by rw [md_f4]; rw [e]
        simp (disch := omega) only [e153_13, e153_14, e153_17, e153_42, e153_43, e153_44, e153_47, e153_48, e153_49, e153_52, e153_53, ↓reduceIte, Bool.false_eq_true, not_false_eq_true, not_true_eq_false, Nat.reduceLeDiff, Nat.reduceAdd, Nat.reduceEqDiff, Int.reduceToNat, Int.toNat_natCast, iB0, iB1, ru_klI, ru_klR, ru_klF, ru_klJ, ru_kl0, ru_cs0, ru_csI, ru_csR, ru_csF, ru_csJ, wI_add, wI_sub, wI_mul, wI_lt, wI_le, wI_inj, ru_fdE, ru_fdN, ru_iaN, ru_baN, ru_laN, ru_qaN, ru_pfN, ru_isN, ru_bsN, ru_jsN, ru_qsN, ru_set2, Nat.add_right_cancel_iff, if_true, if_false, ite_self, Int.reduceEq, and_self, Int.add_neg_cancel_right, Int.add_zero, Int.zero_add, md_e, ru_ctR, f4, md_s4, e2, Int.le_refl, Int.reduceSub]
      | succ d ih =>
        intro k hk hk2
        have c : ((1620 : Int) ≤ (k : Int)) = False := eq_false (by omega)
        have e1 : ((k : Int) + 270).toNat = k + 270 := by omega
        have eg : shF (M.2 1) k (k + 270) = M.2 1 (k + 270) := by unfold shF; rw [if_neg (by omega)]
        have eu : up1 (shF (M.2 1) k) k (M.2 1 (k + 270)) = shF (M.2 1) (k + 1) := by
          funext j
          unfold up1 shF
          by_cases e : j = k
          · rw [if_pos e, if_pos (by omega), e]
          · rw [if_neg e]
            by_cases e2 : 270 ≤ j ∧ j < k
            · rw [if_pos e2, if_pos (by omega)]
            · rw [if_neg e2, if_neg (by omega)]
        rw [← ih (k + 1) (by omega) (by omega), ← eu, e153_13]
        simp (disch := omega) only [e153_14, e153_17, e153_20, e153_21, e153_24, e153_25, e153_26, e153_29, e153_30, e153_33, e153_34, e153_35, e153_36, e153_39, ↓reduceIte, Bool.false_eq_true, not_false_eq_true, not_true_eq_false, Nat.reduceLeDiff, Nat.reduceAdd, Nat.reduceEqDiff, Int.reduceToNat, Int.toNat_natCast, iB0, iB1, ru_klI, ru_klR, ru_klF, ru_klJ, ru_kl0, ru_cs0, ru_csI, ru_csR, ru_csF, ru_csJ, wI_add, wI_sub, wI_mul, wI_lt, wI_le, wI_inj, ru_fdE, ru_fdN, ru_iaN, ru_baN, ru_laN, ru_qaN, ru_pfN, ru_isN, ru_bsN, ru_jsN, ru_qsN, ru_set2, Nat.add_right_cancel_iff, if_true, if_false, ite_self, Int.reduceEq, and_self, Int.add_neg_cancel_right, Int.add_zero, Int.zero_add, md_e, md_f3, ly_a1, ly_w1, c, e1, eg, Int.natCast_add, Int.natCast_one]
    have s0 := shl 1350 270 (by omega) (by omega)
    have e0 : shF (M.2 1) 270 = M.2 1 := by funext j; unfold shF; rw [if_neg (by omega)]
    rw [e0, upC_self, show ((270 : Nat) : Int) = 270 from rfl] at s0
    have s1 := cp0 (up1 M.1 4 5, upC M.2 1 (shF (M.2 1) 1620)) 5 (by decide) (by dsimp only; rw [up1_e]; rfl)
    dsimp only at s1
    rw [upC_e, upC_up, up1_up1] at s1
    refine ⟨6, lyF (shF (M.2 1) 1620) (shF (M.2 1) 1620) (1 + 5) 270, ⟨by rw [if_pos e], fun j hj => ?_, fun i j hi hi6 hj => ?_, fun j hj => ?_, fun j hj => ?_, fun j => ?_⟩, ?_⟩
    rotate_left 5
    · have e6 : ((5 : Nat) : Int) + 1 = 6 := rfl
      rw [e6] at s1
      simp (disch := omega) only [en153, e153_0, e153_1, e153_4, e153_6, e153_9, e153_12, ↓reduceIte, Bool.false_eq_true, not_false_eq_true, not_true_eq_false, Nat.reduceLeDiff, Nat.reduceAdd, Nat.reduceEqDiff, Int.reduceToNat, Int.toNat_natCast, iB0, iB1, ru_klI, ru_klR, ru_klF, ru_klJ, ru_kl0, ru_cs0, ru_csI, ru_csR, ru_csF, ru_csJ, wI_add, wI_sub, wI_mul, wI_lt, wI_le, wI_inj, ru_fdE, ru_fdN, ru_iaN, ru_baN, ru_laN, ru_qaN, ru_pfN, ru_isN, ru_bsN, ru_jsN, ru_qsN, ru_set2, Nat.add_right_cancel_iff, if_true, if_false, ite_self, Int.reduceEq, and_self, Int.add_neg_cancel_right, Int.add_zero, Int.zero_add, md_e, md_f4, e, not_true]
      rw [s0]; exact s1
    · unfold lyF shF
      rw [if_pos (by omega), if_neg (by omega)]
      exact congrArg (M.2 1) (by omega)
    · unfold lyF shF
      rw [if_pos e, if_neg (by omega), if_pos (by omega)]
      exact congrArg (M.2 1) (by omega)
    · unfold lyF shF
      rw [if_neg (by omega), if_neg (by omega)]
    · unfold lyF shF
      rw [if_neg (by omega), if_neg (by omega)]
    · unfold lyF shF
      repeat' split
      all_goals exact ⟨_, rfl⟩
  · obtain ⟨n, hnn⟩ := Int.eq_ofNat_of_zero_le hn.1
    have s1 := cp0 M n (by omega) hnn
    refine ⟨(n : Int) + 1, lyF (M.2 1) (M.2 1) (1 + n) 270, ⟨by rw [if_neg e, hnn], fun j hj => ?_, fun i j hi hi6 hj => ?_, fun j hj => ?_, fun j hj => ?_, fun j => ?_⟩, ?_⟩
    rotate_left 5
    · have c1 : ((n : Int) = 6) = False := eq_false (by omega)
      simp (disch := omega) only [en153, e153_0, e153_1, e153_4, e153_6, e153_52, e153_53, ↓reduceIte, Bool.false_eq_true, not_false_eq_true, not_true_eq_false, Nat.reduceLeDiff, Nat.reduceAdd, Nat.reduceEqDiff, Int.reduceToNat, Int.toNat_natCast, iB0, iB1, ru_klI, ru_klR, ru_klF, ru_klJ, ru_kl0, ru_cs0, ru_csI, ru_csR, ru_csF, ru_csJ, wI_add, wI_sub, wI_mul, wI_lt, wI_le, wI_inj, ru_fdE, ru_fdN, ru_iaN, ru_baN, ru_laN, ru_qaN, ru_pfN, ru_isN, ru_bsN, ru_jsN, ru_qsN, ru_set2, Nat.add_right_cancel_iff, if_true, if_false, ite_self, Int.reduceEq, and_self, Int.add_neg_cancel_right, Int.add_zero, Int.zero_add, md_e, md_f4, hnn, c1, not_false_iff]
      exact s1
    · unfold lyF
      rw [if_pos (by omega)]
      exact congrArg (M.2 1) (by omega)
    · unfold lyF
      rw [if_neg e, if_neg (by omega)]
    · unfold lyF
      rw [if_neg (by omega)]
    · unfold lyF
      rw [if_neg (by omega)]
    · unfold lyF
      repeat' split
      all_goals exact ⟨_, rfl⟩
/-- the reference keeps its state -/
theorem p350 (hn : 0 ≤ M.1 4 ∧ M.1 4 ≤ 6) : ∃ n' G', ktOK (M.1 4) n' (lyF (M.2 1) (M.2 0) 0 270) G' ∧ ru_ev z 350 [.ref 1315] (mdPut h M) = some (.inl none, mdPut h (up1 M.1 4 n', upC M.2 1 G')) := by
  have e1 := p119 (z := z) (h := h) (M := M) (st := 0) (by decide)
  obtain ⟨n', G', k1, k2⟩ := p153 (z := z) (h := h) (M := (M.1, upC M.2 1 (lyF (M.2 1) (M.2 0) 0 270))) hn
  dsimp only at k1 k2
  rw [upC_e] at k1
  rw [upC_up] at k2
  rw [show ((0 : Nat) : Int) = 0 from rfl] at e1
  refine ⟨n', G', k1, ?_⟩
  simp (disch := omega) only [en350, e350_0, e350_1, e350_2, e350_5, e350_6, e350_9, ↓reduceIte, Bool.false_eq_true, not_false_eq_true, not_true_eq_false, Nat.reduceLeDiff, Nat.reduceAdd, Nat.reduceEqDiff, Int.reduceToNat, Int.toNat_natCast, iB0, iB1, ru_klI, ru_klR, ru_klF, ru_klJ, ru_kl0, ru_cs0, ru_csI, ru_csR, ru_csF, ru_csJ, wI_add, wI_sub, wI_mul, wI_lt, wI_le, wI_inj, ru_fdE, ru_fdN, ru_iaN, ru_baN, ru_laN, ru_qaN, ru_pfN, ru_isN, ru_bsN, ru_jsN, ru_qsN, ru_set2, Nat.add_right_cancel_iff, if_true, if_false, ite_self, Int.reduceEq, and_self, Int.add_neg_cancel_right, Int.add_zero, Int.zero_add, md_e, e1, k2]
end HIST2
