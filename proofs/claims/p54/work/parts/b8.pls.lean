/-! ===== phrases: one after the other ===== -/
section PLS
variable {z : Bool} {M M0 : tMd} {C C0 : tCl} {n l s A N R nm : Nat} {gv rc : Int}
def plO (z : Bool) (n : Nat) (C0 : tCl) (M0 : tMd) (H : am_H) (R A : Nat) (cr : Option (Sum (Option Value) Nat × am_H)) (rf : tMd → Prop) : Prop :=
  (∃ C' S' M' gv', cr = some (.inl (some (.int (wI gv'))), clPut (rdH H R (A + 1) S') C') ∧ rf M' ∧ prI n C0 M0 C' M' gv') ∨ ∃ C' S' M', cr = some (.inr 2, clPut (rdH (thr H) R (A + 1) S') C') ∧ rf M' ∧ epI n C0 M0 C' M'
/-- the reference's end of reading: mute -/
theorem p116m {h : am_H} {f v : Int32} (hm : mutM M) : ru_n z 116 60 [some (.ref 1315), some (.int f), some (.int v)] [] (mdPut h M) = ru_n z 116 99 [some (.ref 1315), some (.int f), some (.int v)] [] (mdPut h M) := by
  have f1 := u63 (z := z) (h := h) (c := 1) hm
  obtain ⟨m1, m2, m3⟩ := hm
  have d9 : (M.1 17 = 0) = False := eq_false (by omega)
  by_cases c : M.1 13 = 0
  · have d1 : (M.1 13 = 0) = True := eq_true c
    simp (disch := omega) only [e116_60, e116_61, e116_64, e116_67, e116_68, e116_71, e116_72, e116_75, e116_76, e116_79, e116_80, e116_81, e116_84, e116_87, e116_88, e116_91, e116_94, e116_95, e116_96, ↓reduceIte, Bool.false_eq_true, not_false_eq_true, not_true_eq_false, Nat.reduceLeDiff, Nat.reduceAdd, Nat.reduceEqDiff, Int.reduceToNat, Int.toNat_natCast, iB0, iB1, ru_klI, ru_klR, ru_klF, ru_klJ, ru_kl0, ru_cs0, ru_csI, ru_csR, ru_csF, ru_csJ, wI_add, wI_sub, wI_mul, wI_lt, wI_le, wI_inj, ru_fdE, ru_fdN, ru_iaN, ru_baN, ru_laN, ru_qaN, ru_pfN, ru_isN, ru_bsN, ru_jsN, ru_qsN, ru_set2, Nat.add_right_cancel_iff, if_true, if_false, ite_self, Int.reduceEq, and_self, Int.add_neg_cancel_right, Int.add_zero, Int.zero_add, md_e, md_f13, md_f17, d1, d9, not_true, not_false_iff]
  · have d1 : (M.1 13 = 0) = False := eq_false c
    simp (disch := omega) only [e116_60, e116_61, e116_64, e116_67, e116_68, e116_71, e116_72, e116_75, e116_76, e116_79, e116_80, e116_81, e116_84, e116_87, e116_88, e116_91, e116_94, e116_95, e116_96, ↓reduceIte, Bool.false_eq_true, not_false_eq_true, not_true_eq_false, Nat.reduceLeDiff, Nat.reduceAdd, Nat.reduceEqDiff, Int.reduceToNat, Int.toNat_natCast, iB0, iB1, ru_klI, ru_klR, ru_klF, ru_klJ, ru_kl0, ru_cs0, ru_csI, ru_csR, ru_csF, ru_csJ, wI_add, wI_sub, wI_mul, wI_lt, wI_le, wI_inj, ru_fdE, ru_fdN, ru_iaN, ru_baN, ru_laN, ru_qaN, ru_pfN, ru_isN, ru_bsN, ru_jsN, ru_qsN, ru_set2, Nat.add_right_cancel_iff, if_true, if_false, ite_self, Int.reduceEq, and_self, Int.add_neg_cancel_right, Int.add_zero, Int.zero_add, md_e, md_f13, md_f17, d1, d9, f1, not_true, not_false_iff]
theorem pl_j (hR : 1315 ≤ R) {H : am_H} (hH : strs H) (hs : prS A N n C0 M0) (hp : prR n C0 M0 rc) (hb0 : byI C0 M0 l) {v : Int32} : ∀ d i s C M S gv, l ≤ s + d → i ≤ s → tkR C M l s → prI n C0 M0 C M gv → S.1 = gv →
    plO z n C0 M0 H R A (ru_n z 90 6 [some (.ref R), some (.int (wI ((i : Nat) : Int)))] [] (clPut (rdH H R (A + 1) S) C)) (fun M' => ∀ h, strs h → ru_n z 116 60 [some (.ref 1315), some (.int (wI n)), some (.int v)] [] (mdPut h M) = ru_n z 116 99 [some (.ref 1315), some (.int (wI n)), some (.int v)] [] (mdPut h M')) := by
  intro d
  have hn := hb0.1
  have d0 : ((0 : Int) = 0) = True := eq_true rfl
  have d1 : ((1 : Int) = 0) = False := eq_false (by decide)
  have stop : ∀ (i s : Nat) (C : tCl) (M : tMd) (S : tRd) (gv : Int), i ≤ s → tkR C M l s → prI n C0 M0 C M gv → S.1 = gv → ¬ M.1 13 = 3 →
      plO z n C0 M0 H R A (ru_n z 90 6 [some (.ref R), some (.int (wI ((i : Nat) : Int)))] [] (clPut (rdH H R (A + 1) S) C)) (fun M' => ∀ h, strs h → ru_n z 116 60 [some (.ref 1315), some (.int (wI n)), some (.int v)] [] (mdPut h M) = ru_n z 116 99 [some (.ref 1315), some (.int (wI n)), some (.int v)] [] (mdPut h M')) := by
    intro i s C M S gv his ht hr hS c
    obtain ⟨k0, kk, -, -, k3, -, k5, -⟩ := tkR_k ht
    have h17 := hr.2.2.2.1
    have hsn := ht.2.2.1
    have ck : ¬ C.2.2.2 1001 7 = 202 := fun e => c (k3.mp e)
    have g17 : ∀ h, am_fd (mdPut h M) 1315 10 17 = some (.int (wI 0)) := fun h => by rw [md_f17, h17]
    have e2 : (M.1 13 = 3) = False := eq_false c
    have ex : ru_n z 90 6 [some (.ref R), some (.int (wI ((i : Nat) : Int)))] [] (clPut (rdH H R (A + 1) S) C) = ru_n z 90 43 [some (.ref R), some (.int (wI ((i : Nat) : Int)))] [] (clPut (rdH H R (A + 1) S) C) := by
      by_cases c2 : 1200 ≤ i
      · have e2 : ((1200 : Int) ≤ (i : Int)) = True := eq_true (by omega)
        simp (disch := omega) only [e90_6, e90_7, e90_10, ↓reduceIte, Bool.false_eq_true, not_false_eq_true, not_true_eq_false, Nat.reduceLeDiff, Nat.reduceAdd, Nat.reduceEqDiff, Int.reduceToNat, Int.toNat_natCast, iB0, iB1, ru_klI, ru_klR, ru_klF, ru_klJ, ru_kl0, ru_cs0, ru_csI, ru_csR, ru_csF, ru_csJ, wI_add, wI_sub, wI_mul, wI_lt, wI_le, wI_inj, ru_fdE, ru_fdN, ru_iaN, ru_baN, ru_laN, ru_qaN, ru_pfN, ru_isN, ru_bsN, ru_jsN, ru_qsN, ru_set2, Nat.add_right_cancel_iff, if_true, if_false, ite_self, Int.reduceEq, and_self, Int.add_neg_cancel_right, Int.add_zero, Int.zero_add, e2]
      · have e2 : ((1200 : Int) ≤ (i : Int)) = False := eq_false (by omega)
        have x := c39 (z := z) (h := rdH H R (A + 1) S) (K := 202) k0 (by decide)
        rw [if_neg ck] at x
        simp (disch := omega) only [e90_6, e90_7, e90_10, e90_13, e90_14, e90_17, e90_20, e90_23, ↓reduceIte, Bool.false_eq_true, not_false_eq_true, not_true_eq_false, Nat.reduceLeDiff, Nat.reduceAdd, Nat.reduceEqDiff, Int.reduceToNat, Int.toNat_natCast, iB0, iB1, ru_klI, ru_klR, ru_klF, ru_klJ, ru_kl0, ru_cs0, ru_csI, ru_csR, ru_csF, ru_csJ, wI_add, wI_sub, wI_mul, wI_lt, wI_le, wI_inj, ru_fdE, ru_fdN, ru_iaN, ru_baN, ru_laN, ru_qaN, ru_pfN, ru_isN, ru_bsN, ru_jsN, ru_qsN, ru_set2, Nat.add_right_cancel_iff, if_true, if_false, ite_self, Int.reduceEq, and_self, Int.add_neg_cancel_right, Int.add_zero, Int.zero_add, rd_e hR, rd_f0 hR, cl_e1, e2, x, d0, not_true, not_false_iff]
    have x := c39 (z := z) (h := rdH H R (A + 1) S) (K := 205) k0 (by decide)
    by_cases c0 : M.1 13 = 0
    · left
      rw [if_pos (k5.mpr c0)] at x
      have y := c36 (z := z) (h := rdH H R (A + 1) S) (C := C) (b := 1) (Or.inr rfl) (c := 1)
      rw [if_pos rfl] at y
      have f4 := rd_f4 (h := H) (C := C) (R := R) (nm := A + 1) (S := S) hR
      refine ⟨C, S, M, gv, ?_, fun h hh => ?_, hr⟩
      · rw [ex]
        rw [hS] at f4
        simp (disch := omega) only [e90_43, e90_44, e90_47, e90_48, e90_51, e90_54, e90_57, e90_58, e90_61, e90_62, e90_65, ↓reduceIte, Bool.false_eq_true, not_false_eq_true, not_true_eq_false, Nat.reduceLeDiff, Nat.reduceAdd, Nat.reduceEqDiff, Int.reduceToNat, Int.toNat_natCast, iB0, iB1, ru_klI, ru_klR, ru_klF, ru_klJ, ru_kl0, ru_cs0, ru_csI, ru_csR, ru_csF, ru_csJ, wI_add, wI_sub, wI_mul, wI_lt, wI_le, wI_inj, ru_fdE, ru_fdN, ru_iaN, ru_baN, ru_laN, ru_qaN, ru_pfN, ru_isN, ru_bsN, ru_jsN, ru_qsN, ru_set2, Nat.add_right_cancel_iff, if_true, if_false, ite_self, Int.reduceEq, and_self, Int.add_neg_cancel_right, Int.add_zero, Int.zero_add, rd_e hR, rd_f0 hR, f4, cl_e1, x, y]
      · have d5 : (M.1 13 = 0) = True := eq_true c0
        simp (disch := omega) only [e116_60, e116_61, e116_64, e116_67, e116_68, e116_71, e116_72, e116_75, e116_76, e116_79, e116_80, e116_81, e116_84, e116_87, e116_88, e116_91, e116_94, e116_95, e116_96, ↓reduceIte, Bool.false_eq_true, not_false_eq_true, not_true_eq_false, Nat.reduceLeDiff, Nat.reduceAdd, Nat.reduceEqDiff, Int.reduceToNat, Int.toNat_natCast, iB0, iB1, ru_klI, ru_klR, ru_klF, ru_klJ, ru_kl0, ru_cs0, ru_csI, ru_csR, ru_csF, ru_csJ, wI_add, wI_sub, wI_mul, wI_lt, wI_le, wI_inj, ru_fdE, ru_fdN, ru_iaN, ru_baN, ru_laN, ru_qaN, ru_pfN, ru_isN, ru_bsN, ru_jsN, ru_qsN, ru_set2, Nat.add_right_cancel_iff, if_true, if_false, ite_self, Int.reduceEq, and_self, Int.add_neg_cancel_right, Int.add_zero, Int.zero_add, md_e, md_f13, g17, e2, d0, d5, not_true, not_false_iff]
    · right
      rw [if_neg (fun e => c0 (k5.mp e))] at x
      have y := c36 (z := z) (h := rdH H R (A + 1) S) (C := C) (b := 0) (Or.inl rfl) (c := 1)
      rw [if_neg (by decide)] at y
      refine ⟨_, S, _, ?_, fun h hh => ?_, ep_of hr ht hn (t := 1) (by decide)⟩
      · rw [ex]
        simp (disch := omega) only [e90_43, e90_44, e90_47, e90_48, e90_51, e90_54, e90_57, e90_58, e90_61, e90_62, e90_65, ↓reduceIte, Bool.false_eq_true, not_false_eq_true, not_true_eq_false, Nat.reduceLeDiff, Nat.reduceAdd, Nat.reduceEqDiff, Int.reduceToNat, Int.toNat_natCast, iB0, iB1, ru_klI, ru_klR, ru_klF, ru_klJ, ru_kl0, ru_cs0, ru_csI, ru_csR, ru_csF, ru_csJ, wI_add, wI_sub, wI_mul, wI_lt, wI_le, wI_inj, ru_fdE, ru_fdN, ru_iaN, ru_baN, ru_laN, ru_qaN, ru_pfN, ru_isN, ru_bsN, ru_jsN, ru_qsN, ru_set2, Nat.add_right_cancel_iff, if_true, if_false, ite_self, Int.reduceEq, and_self, Int.add_neg_cancel_right, Int.add_zero, Int.zero_add, rd_e hR, rd_f0 hR, cl_e1, x, y]
        rfl
      · have d5 : (M.1 13 = 0) = False := eq_false c0
        simp (disch := omega) only [e116_60, e116_61, e116_64, e116_67, e116_68, e116_71, e116_72, e116_75, e116_76, e116_79, e116_80, e116_81, e116_84, e116_87, e116_88, e116_91, e116_94, e116_95, e116_96, ↓reduceIte, Bool.false_eq_true, not_false_eq_true, not_true_eq_false, Nat.reduceLeDiff, Nat.reduceAdd, Nat.reduceEqDiff, Int.reduceToNat, Int.toNat_natCast, iB0, iB1, ru_klI, ru_klR, ru_klF, ru_klJ, ru_kl0, ru_cs0, ru_csI, ru_csR, ru_csF, ru_csJ, wI_add, wI_sub, wI_mul, wI_lt, wI_le, wI_inj, ru_fdE, ru_fdN, ru_iaN, ru_baN, ru_laN, ru_qaN, ru_pfN, ru_isN, ru_bsN, ru_jsN, ru_qsN, ru_set2, Nat.add_right_cancel_iff, if_true, if_false, ite_self, Int.reduceEq, and_self, Int.add_neg_cancel_right, Int.add_zero, Int.zero_add, md_e, md_f13, g17, e2, d0, d5, f63 h17, not_true, not_false_iff]
  induction d with
  | zero =>
    intro i s C M S gv hd his ht hr hS
    exact stop i s C M S gv his ht hr hS (fun e => by have := tkR_lt ht (by omega); omega)
  | succ d ih =>
    intro i s C M S gv hd his ht hr hS
    by_cases c : M.1 13 = 3
    rotate_left
    · exact stop i s C M S gv his ht hr hS c
    obtain ⟨k0, kk, -, -, k3, -⟩ := tkR_k ht
    have h17 := hr.2.2.2.1
    have hsn := tkR_lt ht (by omega)
    have ck : C.2.2.2 1001 7 = 202 := k3.mpr c
    obtain ⟨C1, M1, s1, q1, q2, q3, q4, q5, q6⟩ := tk_adv (z := z) ht (by omega) (pr_byI hb0 hr)
    have r1 := prI_tok hr q4 q5
    have e2 : ((1200 : Int) ≤ (i : Int)) = False := eq_false (by omega)
    have e3 : (M.1 13 = 3) = True := eq_true c
    have x : ∀ h, ru_ev z 39 [.ref 1001, .ref 202] (clPut h C) = some (.inl (some (.int (wI 1))), clPut h C) := fun h => by rw [c39 k0 (by decide), if_pos ck]
    have g17 : ∀ h, am_fd (mdPut h M) 1315 10 17 = some (.int (wI 0)) := fun h => by rw [md_f17, h17]
    rcases ph_j (z := z) hR hH hs hp hb0 (S := S) q3 r1 hS with ⟨C', S', M', s', gv', o1, o2, o3, o4, o5, o6⟩ | ⟨C', S', M', o1, o2, o3⟩
    · have hcl : ru_n z 90 6 [some (.ref R), some (.int (wI ((i : Nat) : Int)))] [] (clPut (rdH H R (A + 1) S) C) = ru_n z 90 6 [some (.ref R), some (.int (wI ((i + 1 : Nat) : Int)))] [] (clPut (rdH H R (A + 1) S') C') := by
        rw [e90_6]
        simp only [Int.natCast_add, Int.natCast_one]
        simp (disch := omega) only [e90_7, e90_10, e90_13, e90_14, e90_17, e90_20, e90_23, e90_26, e90_27, e90_30, e90_33, e90_34, e90_37, e90_40, ↓reduceIte, Bool.false_eq_true, not_false_eq_true, not_true_eq_false, Nat.reduceLeDiff, Nat.reduceAdd, Nat.reduceEqDiff, Int.reduceToNat, Int.toNat_natCast, iB0, iB1, ru_klI, ru_klR, ru_klF, ru_klJ, ru_kl0, ru_cs0, ru_csI, ru_csR, ru_csF, ru_csJ, wI_add, wI_sub, wI_mul, wI_lt, wI_le, wI_inj, ru_fdE, ru_fdN, ru_iaN, ru_baN, ru_laN, ru_qaN, ru_pfN, ru_isN, ru_bsN, ru_jsN, ru_qsN, ru_set2, Nat.add_right_cancel_iff, if_true, if_false, ite_self, Int.reduceEq, and_self, Int.add_neg_cancel_right, Int.add_zero, Int.zero_add, rd_e hR, rd_f0 hR, cl_e1, e2, x, d1, q1, o1, not_true, not_false_iff]
      have hmd : ∀ h, strs h → ru_n z 116 60 [some (.ref 1315), some (.int (wI n)), some (.int v)] [] (mdPut h M) = ru_n z 116 60 [some (.ref 1315), some (.int (wI n)), some (.int v)] [] (mdPut h M') := fun h hh => by
        rw [e116_60]
        simp (disch := omega) only [e116_61, e116_64, e116_67, e116_68, e116_71, e116_72, e116_75, e116_76, e116_79, e116_80, e116_81, e116_84, ↓reduceIte, Bool.false_eq_true, not_false_eq_true, not_true_eq_false, Nat.reduceLeDiff, Nat.reduceAdd, Nat.reduceEqDiff, Int.reduceToNat, Int.toNat_natCast, iB0, iB1, ru_klI, ru_klR, ru_klF, ru_klJ, ru_kl0, ru_cs0, ru_csI, ru_csR, ru_csF, ru_csJ, wI_add, wI_sub, wI_mul, wI_lt, wI_le, wI_inj, ru_fdE, ru_fdN, ru_iaN, ru_baN, ru_laN, ru_qaN, ru_pfN, ru_isN, ru_bsN, ru_jsN, ru_qsN, ru_set2, Nat.add_right_cancel_iff, if_true, if_false, ite_self, Int.reduceEq, and_self, Int.add_neg_cancel_right, Int.add_zero, Int.zero_add, md_e, md_f13, g17, e3, d0, q2, o2 h hh, not_true, not_false_iff]
      rcases ih (i + 1) s' C' M' S' gv' (by omega) (by omega) o3 o4 o5 with ⟨C2, S2, M2, gv2, v1, v2, v3⟩ | ⟨C2, S2, M2, v1, v2, v3⟩
      · exact Or.inl ⟨C2, S2, M2, gv2, hcl.trans v1, fun h hh => (hmd h hh).trans (v2 h hh), v3⟩
      · exact Or.inr ⟨C2, S2, M2, hcl.trans v1, fun h hh => (hmd h hh).trans (v2 h hh), v3⟩
    · refine Or.inr ⟨C', S', M', ?_, fun h hh => ?_, o3⟩
      · rw [e90_6]
        simp (disch := omega) only [e90_7, e90_10, e90_13, e90_14, e90_17, e90_20, e90_23, e90_26, e90_27, e90_30, e90_33, e90_34, e90_37, e90_40, ↓reduceIte, Bool.false_eq_true, not_false_eq_true, not_true_eq_false, Nat.reduceLeDiff, Nat.reduceAdd, Nat.reduceEqDiff, Int.reduceToNat, Int.toNat_natCast, iB0, iB1, ru_klI, ru_klR, ru_klF, ru_klJ, ru_kl0, ru_cs0, ru_csI, ru_csR, ru_csF, ru_csJ, wI_add, wI_sub, wI_mul, wI_lt, wI_le, wI_inj, ru_fdE, ru_fdN, ru_iaN, ru_baN, ru_laN, ru_qaN, ru_pfN, ru_isN, ru_bsN, ru_jsN, ru_qsN, ru_set2, Nat.add_right_cancel_iff, if_true, if_false, ite_self, Int.reduceEq, and_self, Int.add_neg_cancel_right, Int.add_zero, Int.zero_add, rd_e hR, rd_f0 hR, cl_e1, e2, x, d1, q1, o1, not_true, not_false_iff]
      · rw [← p116m o3.2.2.2.2.2.2.2.2, e116_60]
        simp (disch := omega) only [e116_61, e116_64, e116_67, e116_68, e116_71, e116_72, e116_75, e116_76, e116_79, e116_80, e116_81, e116_84, ↓reduceIte, Bool.false_eq_true, not_false_eq_true, not_true_eq_false, Nat.reduceLeDiff, Nat.reduceAdd, Nat.reduceEqDiff, Int.reduceToNat, Int.toNat_natCast, iB0, iB1, ru_klI, ru_klR, ru_klF, ru_klJ, ru_kl0, ru_cs0, ru_csI, ru_csR, ru_csF, ru_csJ, wI_add, wI_sub, wI_mul, wI_lt, wI_le, wI_inj, ru_fdE, ru_fdN, ru_iaN, ru_baN, ru_laN, ru_qaN, ru_pfN, ru_isN, ru_bsN, ru_jsN, ru_qsN, ru_set2, Nat.add_right_cancel_iff, if_true, if_false, ite_self, Int.reduceEq, and_self, Int.add_neg_cancel_right, Int.add_zero, Int.zero_add, md_e, md_f13, g17, e3, d0, q2, o2 h hh, not_true, not_false_iff]
theorem ca_j (hR : 1315 ≤ R) {H : am_H} (hH : strs H) (hs : prS A N n C0 M0) (hp : prR n C0 M0 rc) (hb0 : byI C0 M0 l) {v : Int32} {S : tRd} (ht : tkR C M l s) (hr : prI n C0 M0 C M gv) (h1 : S.1 = gv) :
    plO z n C0 M0 H R A (ru_ev z 90 [.ref R] (clPut (rdH H R (A + 1) S) C)) (fun M' => ∀ h, strs h → ru_n z 116 55 [some (.ref 1315), some (.int (wI n)), some (.int v)] [] (mdPut h M) = ru_n z 116 99 [some (.ref 1315), some (.int (wI n)), some (.int v)] [] (mdPut h M')) := by
  rcases ph_j (z := z) hR hH hs hp hb0 (S := S) ht hr h1 with ⟨C', S', M', s', gv', o1, o2, o3, o4, o5, o6⟩ | ⟨C', S', M', o1, o2, o3⟩
  · have hcl : ru_ev z 90 [.ref R] (clPut (rdH H R (A + 1) S) C) = ru_n z 90 6 [some (.ref R), some (.int (wI ((0 : Nat) : Int)))] [] (clPut (rdH H R (A + 1) S') C') := by
      simp (disch := omega) only [en90, e90_0, e90_1, e90_4, e90_5, ↓reduceIte, Bool.false_eq_true, not_false_eq_true, not_true_eq_false, Nat.reduceLeDiff, Nat.reduceAdd, Nat.reduceEqDiff, Int.reduceToNat, Int.toNat_natCast, iB0, iB1, ru_klI, ru_klR, ru_klF, ru_klJ, ru_kl0, ru_cs0, ru_csI, ru_csR, ru_csF, ru_csJ, wI_add, wI_sub, wI_mul, wI_lt, wI_le, wI_inj, ru_fdE, ru_fdN, ru_iaN, ru_baN, ru_laN, ru_qaN, ru_pfN, ru_isN, ru_bsN, ru_jsN, ru_qsN, ru_set2, Nat.add_right_cancel_iff, if_true, if_false, ite_self, Int.reduceEq, and_self, Int.add_neg_cancel_right, Int.add_zero, Int.zero_add, rd_e hR, o1]
      rfl
    have hmd : ∀ h, strs h → ru_n z 116 55 [some (.ref 1315), some (.int (wI n)), some (.int v)] [] (mdPut h M) = ru_n z 116 60 [some (.ref 1315), some (.int (wI n)), some (.int v)] [] (mdPut h M') := fun h hh => by
      simp (disch := omega) only [e116_55, e116_56, e116_57, ↓reduceIte, Bool.false_eq_true, not_false_eq_true, not_true_eq_false, Nat.reduceLeDiff, Nat.reduceAdd, Nat.reduceEqDiff, Int.reduceToNat, Int.toNat_natCast, iB0, iB1, ru_klI, ru_klR, ru_klF, ru_klJ, ru_kl0, ru_cs0, ru_csI, ru_csR, ru_csF, ru_csJ, wI_add, wI_sub, wI_mul, wI_lt, wI_le, wI_inj, ru_fdE, ru_fdN, ru_iaN, ru_baN, ru_laN, ru_qaN, ru_pfN, ru_isN, ru_bsN, ru_jsN, ru_qsN, ru_set2, Nat.add_right_cancel_iff, if_true, if_false, ite_self, Int.reduceEq, and_self, Int.add_neg_cancel_right, Int.add_zero, Int.zero_add, md_e, o2 h hh]
    rcases pl_j (z := z) (v := v) hR hH hs hp hb0 l 0 s' C' M' S' gv' (by omega) (by omega) o3 o4 o5 with ⟨C2, S2, M2, gv2, v1, v2, v3⟩ | ⟨C2, S2, M2, v1, v2, v3⟩
    · exact Or.inl ⟨C2, S2, M2, gv2, hcl.trans v1, fun h hh => (hmd h hh).trans (v2 h hh), v3⟩
    · exact Or.inr ⟨C2, S2, M2, hcl.trans v1, fun h hh => (hmd h hh).trans (v2 h hh), v3⟩
  · refine Or.inr ⟨C', S', M', ?_, fun h hh => ?_, o3⟩
    · simp (disch := omega) only [en90, e90_0, e90_1, e90_4, e90_5, ↓reduceIte, Bool.false_eq_true, not_false_eq_true, not_true_eq_false, Nat.reduceLeDiff, Nat.reduceAdd, Nat.reduceEqDiff, Int.reduceToNat, Int.toNat_natCast, iB0, iB1, ru_klI, ru_klR, ru_klF, ru_klJ, ru_kl0, ru_cs0, ru_csI, ru_csR, ru_csF, ru_csJ, wI_add, wI_sub, wI_mul, wI_lt, wI_le, wI_inj, ru_fdE, ru_fdN, ru_iaN, ru_baN, ru_laN, ru_qaN, ru_pfN, ru_isN, ru_bsN, ru_jsN, ru_qsN, ru_set2, Nat.add_right_cancel_iff, if_true, if_false, ite_self, Int.reduceEq, and_self, Int.add_neg_cancel_right, Int.add_zero, Int.zero_add, rd_e hR, o1]
    · rw [← p116m o3.2.2.2.2.2.2.2.2]
      simp (disch := omega) only [e116_55, e116_56, e116_57, ↓reduceIte, Bool.false_eq_true, not_false_eq_true, not_true_eq_false, Nat.reduceLeDiff, Nat.reduceAdd, Nat.reduceEqDiff, Int.reduceToNat, Int.toNat_natCast, iB0, iB1, ru_klI, ru_klR, ru_klF, ru_klJ, ru_kl0, ru_cs0, ru_csI, ru_csR, ru_csF, ru_csJ, wI_add, wI_sub, wI_mul, wI_lt, wI_le, wI_inj, ru_fdE, ru_fdN, ru_iaN, ru_baN, ru_laN, ru_qaN, ru_pfN, ru_isN, ru_bsN, ru_jsN, ru_qsN, ru_set2, Nat.add_right_cancel_iff, if_true, if_false, ite_self, Int.reduceEq, and_self, Int.add_neg_cancel_right, Int.add_zero, Int.zero_add, md_e, o2 h hh]
end PLS
