/-! ===== phrases: items ===== -/
def lpO (n l : Nat) (C0 : tCl) (M0 : tMd) (s : Nat) (cr ce : tRd → tCl → Prop) (rf : tMd → Prop) : Prop :=
  (∃ C' S' M' s' gv', cr S' C' ∧ rf M' ∧ tkR C' M' l s' ∧ prI n C0 M0 C' M' gv' ∧ S'.1 = gv' ∧ s ≤ s') ∨ ∃ C' S' M', ce S' C' ∧ rf M' ∧ epI n C0 M0 C' M'
section ITS
variable {z : Bool} {M M0 : tMd} {C C0 : tCl} {n l s A N R nm : Nat} {gv rc : Int}
theorem io_j (hR : 1315 ≤ R) {H : am_H} (hH : strs H) (hs : prS A N n C0 M0) (hp : prR n C0 M0 rc) (hb0 : byI C0 M0 l) {S : tRd} {row isL : Int} (hrow : row = -1 ∨ (0 ≤ row ∧ row < rc)) (hL : isL = 0 ∨ isL = 1) {t : Nat} (ht : tkR C M l s) (hr : prI n C0 M0 C M gv) (hq : quI M0 n row isL t gv S) :
    itO H R A n l C0 M0 row isL s (fun S' C' => ru_ev z 98 [.ref R] (clPut (rdH H R (A + 1) S) C) = some (.inl none, clPut (rdH H R (A + 1) S') C'))
      (fun S' C' => ru_ev z 98 [.ref R] (clPut (rdH H R (A + 1) S) C) = some (.inr 2, clPut (rdH (thr H) R (A + 1) S') C'))
      (fun V M' => ∀ h, strs h → ∀ l5 : Int32, ru_n z 131 27 [some (.ref 1315), some (.int (wI n)), some (.int (wI row)), some (.int (wI isL)), some (.int (wI ((t : Nat) : Int))), some (.int l5)] [] (mdPut h M) = ru_n z 131 76 [some (.ref 1315), some (.int (wI n)), some (.int (wI row)), some (.int (wI isL)), some (.int (wI V)), some (.int l5)] [] (mdPut h M')) := by
  obtain ⟨g, T', t', Q, F⟩ := S
  obtain ⟨q1, q2, q3, q4, q5⟩ := id hq
  dsimp only at q1 q2 q3 q5
  subst q1 q2 q3
  have T12 := (nxT_12 hp hrow).1
  have hb := pr_byI hb0 hr
  have h17 := hr.2.2.2.1
  have hn := hb0.1
  have hn5 := hs.2.2.2.2.1
  have d0 : ((0 : Int) = 0) = True := eq_true rfl
  have d1 : ((1 : Int) = 0) = False := eq_false (by decide)
  have dm : ((-1 : Int) = -1) = True := eq_true rfl
  have sS : strs (rdH H R (A + 1) (g, ((nxT M0 n row : Nat) : Int), (t : Int), Q, F)) := strs_rd hR hH
  have xa : ∀ h, strs h → ru_ev z 28 [.ref 1001, .ref 321] (clPut h C) = _ := w28 (z := z) (j := 21) (by decide) ht hb (by decide)
  have ya : ∀ h, strs h → ru_ev z 62 [.ref 1315, .ref 365] (mdPut h M) = _ := w62 (z := z) (i := 21) (j := 65) (by decide) (by decide) h17 ht (by decide)
  have xaS := xa _ sS
  by_cases ca : isW M (sbT 21) = true
  · rw [if_pos ca] at xaS
    have x133 := fun h => p133 (z := z) (h := h) hn5 hr hp hrow hL (t := t) (by omega)
    have f6 : am_fd (clPut (rdH H R (A + 1) (g, ((nxT M0 n row : Nat) : Int), (t : Int), Q, F)) C) R 8 6 = some (.int (wI ((nxT M0 n row : Nat) : Int))) := rd_f6 hR
    have f7 : am_fd (clPut (rdH H R (A + 1) (g, ((nxT M0 n row : Nat) : Int), (t : Int), Q, F)) C) R 8 7 = some (.int (wI (t : Int))) := rd_f7 hR
    by_cases cT : t < nxT M0 n row
    · left
      obtain ⟨k, kv1, kv2⟩ := nx_sh hp hrow (isL := isL) cT
      have dk : ((k : Int) = -1) = False := eq_false (by omega)
      have k12 := (shS_rng hp.2.2.2.2.1 kv2).2.2.2.1
      obtain ⟨C1, M1, s1, k1, k2, k3, k4, k5, k6⟩ := tk_adv (z := z) ht (by rw [isW_13 ca]; decide) hb
      refine ⟨C1, (g, ((nxT M0 n row : Nat) : Int), (t : Int) + 1, Q, F), M1, s1, g, t + 1, ?_, fun h hS l5 => ?_, k3, prI_tok hr k4 k5, ⟨rfl, rfl, rfl, by omega, q5⟩, k6⟩
      · have c2 : (((nxT M0 n row : Nat) : Int) ≤ (t : Int)) = False := eq_false (by omega)
        have y := c36 (z := z) (h := rdH H R (A + 1) (g, ((nxT M0 n row : Nat) : Int), (t : Int), Q, F)) (C := C) (b := 1) (Or.inr rfl) (c := 7)
        rw [if_pos rfl] at y
        have s7 := rd_s7 (h := H) (C := C) (R := R) (nm := A + 1) (S := (g, ((nxT M0 n row : Nat) : Int), (t : Int), Q, F)) hR (v := (t : Int) + 1)
        dsimp only at s7
        simp (disch := omega) only [en98, e98_0, e98_1, e98_4, e98_6, e98_9, e98_12, e98_13, e98_16, e98_17, e98_20, e98_21, e98_24, e98_27, e98_28, e98_31, e98_32, e98_34, e98_37, e98_38, e98_39, e98_42, e98_43, e98_44, e98_47, e98_48, e98_51, e98_54, e98_55, e98_56, e98_57, e98_58, e98_59, e98_60, e98_62, e98_65, e98_66, e98_69, e98_70, e98_73, e98_76, e98_77, e98_78, e98_81, e98_82, e98_85, e98_86, e98_87, e98_88, e98_91, e98_94, e98_95, e98_98, e98_99, e98_101, e98_104, e98_105, e98_108, e98_109, e98_110, e98_111, e98_112, e98_115, e98_118, e98_119, e98_122, e98_124, e98_127, e98_128, e98_129, e98_132, e98_133, e98_136, e98_139, e98_142, e98_145, e98_146, e98_149, e98_152, e98_153, e98_154, e98_156, e98_158, e98_159, e98_162, e98_163, e98_164, e98_167, e98_168, e98_171, e98_173, e98_174, e98_175, e98_176, e98_177, e98_180, e98_182, e98_183, e98_184, e98_187, e98_190, e98_193, e98_196, e98_197, e98_198, e98_201, e98_202, e98_203, e98_206, e98_207, e98_210, e98_213, ↓reduceIte, Bool.false_eq_true, not_false_eq_true, not_true_eq_false, Nat.reduceLeDiff, Nat.reduceAdd, Nat.reduceEqDiff, Int.reduceToNat, Int.toNat_natCast, iB0, iB1, ru_klI, ru_klR, ru_klF, ru_klJ, ru_kl0, ru_cs0, ru_csI, ru_csR, ru_csF, ru_csJ, wI_add, wI_sub, wI_mul, wI_lt, wI_le, wI_inj, ru_fdE, ru_fdN, ru_iaN, ru_baN, ru_laN, ru_qaN, ru_pfN, ru_isN, ru_bsN, ru_jsN, ru_qsN, ru_set2, Nat.add_right_cancel_iff, if_true, if_false, ite_self, Int.reduceEq, and_self, Int.add_neg_cancel_right, Int.add_zero, Int.zero_add, ru_ctR, ru_ctI, rd_e hR, rd_f0 hR, f6, f7, cl_e1, xaS, c2, d1, y, s7, k1]
      · have xx := x133 h
        rw [kv1] at xx
        have yy := ya h hS
        rw [if_pos ca] at yy
        have y66 := p66 (z := z) (h := h) h17 (k2 h)
        simp only [Int.natCast_add, Int.natCast_one]
        simp (disch := omega) only [e131_27, e131_28, e131_30, e131_33, e131_36, e131_37, e131_38, e131_39, e131_40, e131_42, e131_45, e131_46, e131_49, e131_50, e131_52, e131_55, e131_56, e131_59, e131_62, ↓reduceIte, Bool.false_eq_true, not_false_eq_true, not_true_eq_false, Nat.reduceLeDiff, Nat.reduceAdd, Nat.reduceEqDiff, Int.reduceToNat, Int.toNat_natCast, iB0, iB1, ru_klI, ru_klR, ru_klF, ru_klJ, ru_kl0, ru_cs0, ru_csI, ru_csR, ru_csF, ru_csJ, wI_add, wI_sub, wI_mul, wI_lt, wI_le, wI_inj, ru_fdE, ru_fdN, ru_iaN, ru_baN, ru_laN, ru_qaN, ru_pfN, ru_isN, ru_bsN, ru_jsN, ru_qsN, ru_set2, Nat.add_right_cancel_iff, if_true, if_false, ite_self, Int.reduceEq, and_self, Int.add_neg_cancel_right, Int.add_zero, Int.zero_add, md_e, yy, xx, dk, d1, y66, not_true, not_false_iff]
    · right
      have hm := mut_er ht (t := 7) (by decide)
      have v : nxV M0 n row isL t = -1 := if_pos (by omega)
      refine ⟨erC C 7, (g, ((nxT M0 n row : Nat) : Int), (t : Int), Q, F), erM M 7, (t : Int) + 1, ?_, fun h hS l5 => ?_, ep_of hr ht hn (t := 7) (by decide)⟩
      · have c2 : (((nxT M0 n row : Nat) : Int) ≤ (t : Int)) = True := eq_true (by omega)
        have y := c36 (z := z) (h := rdH H R (A + 1) (g, ((nxT M0 n row : Nat) : Int), (t : Int), Q, F)) (C := C) (b := 0) (Or.inl rfl) (c := 7)
        rw [if_neg (by decide)] at y
        simp (disch := omega) only [en98, e98_0, e98_1, e98_4, e98_6, e98_9, e98_12, e98_13, e98_16, e98_17, e98_20, e98_21, e98_24, e98_27, e98_28, e98_31, e98_32, e98_34, e98_37, e98_38, e98_39, e98_42, e98_43, e98_44, e98_47, e98_48, e98_51, e98_54, e98_55, e98_56, e98_57, e98_58, e98_59, e98_60, e98_62, e98_65, e98_66, e98_69, e98_70, e98_73, e98_76, e98_77, e98_78, e98_81, e98_82, e98_85, e98_86, e98_87, e98_88, e98_91, e98_94, e98_95, e98_98, e98_99, e98_101, e98_104, e98_105, e98_108, e98_109, e98_110, e98_111, e98_112, e98_115, e98_118, e98_119, e98_122, e98_124, e98_127, e98_128, e98_129, e98_132, e98_133, e98_136, e98_139, e98_142, e98_145, e98_146, e98_149, e98_152, e98_153, e98_154, e98_156, e98_158, e98_159, e98_162, e98_163, e98_164, e98_167, e98_168, e98_171, e98_173, e98_174, e98_175, e98_176, e98_177, e98_180, e98_182, e98_183, e98_184, e98_187, e98_190, e98_193, e98_196, e98_197, e98_198, e98_201, e98_202, e98_203, e98_206, e98_207, e98_210, e98_213, ↓reduceIte, Bool.false_eq_true, not_false_eq_true, not_true_eq_false, Nat.reduceLeDiff, Nat.reduceAdd, Nat.reduceEqDiff, Int.reduceToNat, Int.toNat_natCast, iB0, iB1, ru_klI, ru_klR, ru_klF, ru_klJ, ru_kl0, ru_cs0, ru_csI, ru_csR, ru_csF, ru_csJ, wI_add, wI_sub, wI_mul, wI_lt, wI_le, wI_inj, ru_fdE, ru_fdN, ru_iaN, ru_baN, ru_laN, ru_qaN, ru_pfN, ru_isN, ru_bsN, ru_jsN, ru_qsN, ru_set2, Nat.add_right_cancel_iff, if_true, if_false, ite_self, Int.reduceEq, and_self, Int.add_neg_cancel_right, Int.add_zero, Int.zero_add, rd_e hR, rd_f0 hR, f6, f7, cl_e1, xaS, c2, d1, y]
        rfl
      · have xx := x133 h
        rw [v] at xx
        have yy := ya h hS
        rw [if_pos ca] at yy
        have u1 := u66 (z := z) (h := h) hm
        simp (disch := omega) only [e131_27, e131_28, e131_30, e131_33, e131_36, e131_37, e131_38, e131_39, e131_40, e131_42, e131_45, e131_46, e131_49, e131_50, e131_52, e131_55, e131_56, e131_59, e131_62, ↓reduceIte, Bool.false_eq_true, not_false_eq_true, not_true_eq_false, Nat.reduceLeDiff, Nat.reduceAdd, Nat.reduceEqDiff, Int.reduceToNat, Int.toNat_natCast, iB0, iB1, ru_klI, ru_klR, ru_klF, ru_klJ, ru_kl0, ru_cs0, ru_csI, ru_csR, ru_csF, ru_csJ, wI_add, wI_sub, wI_mul, wI_lt, wI_le, wI_inj, ru_fdE, ru_fdN, ru_iaN, ru_baN, ru_laN, ru_qaN, ru_pfN, ru_isN, ru_bsN, ru_jsN, ru_qsN, ru_set2, Nat.add_right_cancel_iff, if_true, if_false, ite_self, Int.reduceEq, and_self, Int.add_neg_cancel_right, Int.add_zero, Int.zero_add, md_e, yy, xx, dm, d1, f63 h17, u1, not_true, not_false_iff]
  · rw [if_neg ca] at xaS
    have hcl : ru_ev z 98 [.ref R] (clPut (rdH H R (A + 1) (g, ((nxT M0 n row : Nat) : Int), (t : Int), Q, F)) C) = ru_n z 98 59 [some (.ref R), some (.int (wI ((0 : Nat) : Int))), some (.int (wI 1)), none, none, none] [] (clPut (rdH H R (A + 1) (g, ((nxT M0 n row : Nat) : Int), (t : Int), Q, F)) C) := by
      simp (disch := omega) only [en98, e98_0, e98_1, e98_4, e98_6, e98_9, e98_55, e98_56, e98_57, e98_58, ↓reduceIte, Bool.false_eq_true, not_false_eq_true, not_true_eq_false, Nat.reduceLeDiff, Nat.reduceAdd, Nat.reduceEqDiff, Int.reduceToNat, Int.toNat_natCast, iB0, iB1, ru_klI, ru_klR, ru_klF, ru_klJ, ru_kl0, ru_cs0, ru_csI, ru_csR, ru_csF, ru_csJ, wI_add, wI_sub, wI_mul, wI_lt, wI_le, wI_inj, ru_fdE, ru_fdN, ru_iaN, ru_baN, ru_laN, ru_qaN, ru_pfN, ru_isN, ru_bsN, ru_jsN, ru_qsN, ru_set2, Nat.add_right_cancel_iff, if_true, if_false, ite_self, Int.reduceEq, and_self, Int.add_neg_cancel_right, Int.add_zero, Int.zero_add, rd_e hR, rd_f0 hR, cl_e1, xaS, d0]
      rfl
    have hmd : ∀ (V : Int) (M' : tMd), (∀ h, strs h → ru_n z 138 6 [some (.ref 1315), some (.int (wI n)), some (.int (wI row)), some (.int (wI isL)), some (.int (wI ((t : Nat) : Int))), some (.int (wI ((0 : Nat) : Int))), some (.int (wI 1)), none] [] (mdPut h M) = some (.inl (some (.int (wI V))), mdPut h M')) → ∀ h, strs h → ∀ l5 : Int32, ru_n z 131 27 [some (.ref 1315), some (.int (wI n)), some (.int (wI row)), some (.int (wI isL)), some (.int (wI ((t : Nat) : Int))), some (.int l5)] [] (mdPut h M) = ru_n z 131 76 [some (.ref 1315), some (.int (wI n)), some (.int (wI row)), some (.int (wI isL)), some (.int (wI V)), some (.int l5)] [] (mdPut h M') := fun V M' k h hS l5 => by
      have yy := ya h hS
      rw [if_neg ca] at yy
      have kk : ru_n z 138 6 [some (.ref 1315), some (.int (wI n)), some (.int (wI row)), some (.int (wI isL)), some (.int (wI ((t : Nat) : Int))), some (.int (wI 0)), some (.int (wI 1)), none] [] (mdPut h M) = some (.inl (some (.int (wI V))), mdPut h M') := k h hS
      have x138 : ru_ev z 138 [.ref 1315, .int (wI n), .int (wI row), .int (wI isL), .int (wI ((t : Nat) : Int))] (mdPut h M) = some (.inl (some (.int (wI V))), mdPut h M') := by
        simp (disch := omega) only [en138, e138_0, e138_1, e138_3, e138_4, ↓reduceIte, Bool.false_eq_true, not_false_eq_true, not_true_eq_false, Nat.reduceLeDiff, Nat.reduceAdd, Nat.reduceEqDiff, Int.reduceToNat, Int.toNat_natCast, iB0, iB1, ru_klI, ru_klR, ru_klF, ru_klJ, ru_kl0, ru_cs0, ru_csI, ru_csR, ru_csF, ru_csJ, wI_add, wI_sub, wI_mul, wI_lt, wI_le, wI_inj, ru_fdE, ru_fdN, ru_iaN, ru_baN, ru_laN, ru_qaN, ru_pfN, ru_isN, ru_bsN, ru_jsN, ru_qsN, ru_set2, Nat.add_right_cancel_iff, if_true, if_false, ite_self, Int.reduceEq, and_self, Int.add_neg_cancel_right, Int.add_zero, Int.zero_add, md_e, kk]
      simp (disch := omega) only [e131_27, e131_28, e131_30, e131_33, e131_65, e131_66, e131_67, e131_68, e131_69, e131_71, e131_74, ↓reduceIte, Bool.false_eq_true, not_false_eq_true, not_true_eq_false, Nat.reduceLeDiff, Nat.reduceAdd, Nat.reduceEqDiff, Int.reduceToNat, Int.toNat_natCast, iB0, iB1, ru_klI, ru_klR, ru_klF, ru_klJ, ru_kl0, ru_cs0, ru_csI, ru_csR, ru_csF, ru_csJ, wI_add, wI_sub, wI_mul, wI_lt, wI_le, wI_inj, ru_fdE, ru_fdN, ru_iaN, ru_baN, ru_laN, ru_qaN, ru_pfN, ru_isN, ru_bsN, ru_jsN, ru_qsN, ru_set2, Nat.add_right_cancel_iff, if_true, if_false, ite_self, Int.reduceEq, and_self, Int.add_neg_cancel_right, Int.add_zero, Int.zero_add, md_e, yy, d0, x138, not_true, not_false_iff]
    rcases wl_j (z := z) hR hH hs hp hb0 hrow hL (nxT M0 n row - t) 0 s C M (g, ((nxT M0 n row : Nat) : Int), (t : Int), Q, F) none (by omega) (by omega) ht hr hq (fun i hi => absurd hi (Nat.not_lt_zero _)) with ⟨C', S', M', s', gv', t'', o1, o2, o3, o4, o5, o6⟩ | ⟨C', S', M', V, o1, o2, o3⟩
    · exact Or.inl ⟨C', S', M', s', gv', t'', hcl.trans o1, hmd _ M' o2, o3, o4, o5, o6⟩
    · exact Or.inr ⟨C', S', M', V, hcl.trans o1, hmd V M' o2, o3⟩
theorem il_j (hR : 1315 ≤ R) {H : am_H} (hH : strs H) (hs : prS A N n C0 M0) (hp : prR n C0 M0 rc) (hb0 : byI C0 M0 l) {row isL : Int} (hrow : row = -1 ∨ (0 ≤ row ∧ row < rc)) (hL : isL = 0 ∨ isL = 1) : ∀ d i s C M S t gv, l ≤ s + d → i ≤ s → tkR C M l s → prI n C0 M0 C M gv → quI M0 n row isL t gv S →
    lpO n l C0 M0 s (fun S' C' => ru_n z 95 29 [some (.ref R), some (.int (wI ((i : Nat) : Int)))] [] (clPut (rdH H R (A + 1) S) C) = some (.inl none, clPut (rdH H R (A + 1) S') C'))
      (fun S' C' => ru_n z 95 29 [some (.ref R), some (.int (wI ((i : Nat) : Int)))] [] (clPut (rdH H R (A + 1) S) C) = some (.inr 2, clPut (rdH (thr H) R (A + 1) S') C'))
      (fun M' => ∀ h, strs h → ∀ l5 : Int32, ru_n z 131 76 [some (.ref 1315), some (.int (wI n)), some (.int (wI row)), some (.int (wI isL)), some (.int (wI ((t : Nat) : Int))), some (.int l5)] [] (mdPut h M) = some (.inl none, mdPut h M')) := by
  intro d
  have hn := hb0.1
  have d0 : ((0 : Int) = 0) = True := eq_true rfl
  have d1 : ((1 : Int) = 0) = False := eq_false (by decide)
  have stop : ∀ (i s : Nat) (C : tCl) (M : tMd) (S : tRd) (t : Nat) (gv : Int), i ≤ s → tkR C M l s → prI n C0 M0 C M gv → ¬ M.1 13 = 4 → ru_n z 95 29 [some (.ref R), some (.int (wI ((i : Nat) : Int)))] [] (clPut (rdH H R (A + 1) S) C) = some (.inl none, clPut (rdH H R (A + 1) S) C) ∧ ∀ h, ∀ l5 : Int32, ru_n z 131 76 [some (.ref 1315), some (.int (wI n)), some (.int (wI row)), some (.int (wI isL)), some (.int (wI ((t : Nat) : Int))), some (.int l5)] [] (mdPut h M) = some (.inl none, mdPut h M) := by
    intro i s C M S t gv his ht hr c
    obtain ⟨k0, kk, -, -, -, k4, -⟩ := tkR_k ht
    have h17 := hr.2.2.2.1
    have hsn := ht.2.2.1
    have ck : ¬ C.2.2.2 1001 7 = 203 := fun e => c (k4.mp e)
    refine ⟨?_, fun h l5 => ?_⟩
    · by_cases c2 : 1200 ≤ i
      · have e2 : ((1200 : Int) ≤ (i : Int)) = True := eq_true (by omega)
        simp (disch := omega) only [e95_29, e95_30, e95_33, e95_66, ↓reduceIte, Bool.false_eq_true, not_false_eq_true, not_true_eq_false, Nat.reduceLeDiff, Nat.reduceAdd, Nat.reduceEqDiff, Int.reduceToNat, Int.toNat_natCast, iB0, iB1, ru_klI, ru_klR, ru_klF, ru_klJ, ru_kl0, ru_cs0, ru_csI, ru_csR, ru_csF, ru_csJ, wI_add, wI_sub, wI_mul, wI_lt, wI_le, wI_inj, ru_fdE, ru_fdN, ru_iaN, ru_baN, ru_laN, ru_qaN, ru_pfN, ru_isN, ru_bsN, ru_jsN, ru_qsN, ru_set2, Nat.add_right_cancel_iff, if_true, if_false, ite_self, Int.reduceEq, and_self, Int.add_neg_cancel_right, Int.add_zero, Int.zero_add, e2]
      · have e2 : ((1200 : Int) ≤ (i : Int)) = False := eq_false (by omega)
        have x := c39 (z := z) (h := rdH H R (A + 1) S) (K := 203) k0 (by decide)
        rw [if_neg ck] at x
        simp (disch := omega) only [e95_29, e95_30, e95_33, e95_36, e95_37, e95_40, e95_43, e95_46, e95_66, ↓reduceIte, Bool.false_eq_true, not_false_eq_true, not_true_eq_false, Nat.reduceLeDiff, Nat.reduceAdd, Nat.reduceEqDiff, Int.reduceToNat, Int.toNat_natCast, iB0, iB1, ru_klI, ru_klR, ru_klF, ru_klJ, ru_kl0, ru_cs0, ru_csI, ru_csR, ru_csF, ru_csJ, wI_add, wI_sub, wI_mul, wI_lt, wI_le, wI_inj, ru_fdE, ru_fdN, ru_iaN, ru_baN, ru_laN, ru_qaN, ru_pfN, ru_isN, ru_bsN, ru_jsN, ru_qsN, ru_set2, Nat.add_right_cancel_iff, if_true, if_false, ite_self, Int.reduceEq, and_self, Int.add_neg_cancel_right, Int.add_zero, Int.zero_add, rd_e hR, rd_f0 hR, cl_e1, e2, x, d0, not_true, not_false_iff]
    · have e2 : (M.1 13 = 4) = False := eq_false c
      have g17 : am_fd (mdPut h M) 1315 10 17 = some (.int (wI 0)) := by rw [md_f17, h17]
      simp (disch := omega) only [e131_15, e131_17, e131_76, e131_77, e131_80, e131_83, e131_84, e131_87, e131_88, e131_91, e131_92, e131_95, e131_96, e131_98, e131_100, e131_110, ↓reduceIte, Bool.false_eq_true, not_false_eq_true, not_true_eq_false, Nat.reduceLeDiff, Nat.reduceAdd, Nat.reduceEqDiff, Int.reduceToNat, Int.toNat_natCast, iB0, iB1, ru_klI, ru_klR, ru_klF, ru_klJ, ru_kl0, ru_cs0, ru_csI, ru_csR, ru_csF, ru_csJ, wI_add, wI_sub, wI_mul, wI_lt, wI_le, wI_inj, ru_fdE, ru_fdN, ru_iaN, ru_baN, ru_laN, ru_qaN, ru_pfN, ru_isN, ru_bsN, ru_jsN, ru_qsN, ru_set2, Nat.add_right_cancel_iff, if_true, if_false, ite_self, Int.reduceEq, and_self, Int.add_neg_cancel_right, Int.add_zero, Int.zero_add, md_e, md_f13, g17, e2, d0, not_true, not_false_iff]
  induction d with
  | zero =>
    intro i s C M S t gv hd his ht hr hq
    left
    have c : ¬ M.1 13 = 4 := fun e => by have := tkR_lt ht (by omega); omega
    obtain ⟨q1, q2⟩ := stop i s C M S t gv his ht hr c
    exact ⟨C, S, M, s, gv, q1, fun h _ l5 => q2 h l5, ht, hr, hq.1, Nat.le_refl _⟩
  | succ d ih =>
    intro i s C M S t gv hd his ht hr hq
    by_cases c : M.1 13 = 4
    rotate_left
    · left
      obtain ⟨q1, q2⟩ := stop i s C M S t gv his ht hr c
      exact ⟨C, S, M, s, gv, q1, fun h _ l5 => q2 h l5, ht, hr, hq.1, Nat.le_refl _⟩
    obtain ⟨k0, kk, -, -, -, k4, -⟩ := tkR_k ht
    have h17 := hr.2.2.2.1
    have hsn := tkR_lt ht (by omega)
    have ck : C.2.2.2 1001 7 = 203 := k4.mpr c
    obtain ⟨C1, M1, s1, q1, q2, q3, q4, q5, q6⟩ := tk_adv (z := z) ht (by omega) (pr_byI hb0 hr)
    have r1 := prI_tok hr q4 q5
    have e2 : ((1200 : Int) ≤ (i : Int)) = False := eq_false (by omega)
    have e3 : (M.1 13 = 4) = True := eq_true c
    have x : ∀ h, ru_ev z 39 [.ref 1001, .ref 203] (clPut h C) = some (.inl (some (.int (wI 1))), clPut h C) := fun h => by rw [c39 k0 (by decide), if_pos ck]
    have g17 : ∀ h, am_fd (mdPut h M) 1315 10 17 = some (.int (wI 0)) := fun h => by rw [md_f17, h17]
    have h171 := r1.2.2.2.1
    have g171 : ∀ h, am_fd (mdPut h M1) 1315 10 17 = some (.int (wI 0)) := fun h => by rw [md_f17, h171]
    have rf1 : ∀ h, ∀ l5 : Int32, ru_n z 131 76 [some (.ref 1315), some (.int (wI n)), some (.int (wI row)), some (.int (wI isL)), some (.int (wI ((t : Nat) : Int))), some (.int l5)] [] (mdPut h M) = ru_n z 131 27 [some (.ref 1315), some (.int (wI n)), some (.int (wI row)), some (.int (wI isL)), some (.int (wI ((t : Nat) : Int))), some (.int (wI 1))] [] (mdPut h M1) := fun h l5 => by
      simp (disch := omega) only [e131_15, e131_17, e131_20, e131_21, e131_24, e131_76, e131_77, e131_80, e131_83, e131_84, e131_87, e131_88, e131_91, e131_92, e131_95, e131_96, e131_98, e131_100, e131_103, e131_104, e131_107, ↓reduceIte, Bool.false_eq_true, not_false_eq_true, not_true_eq_false, Nat.reduceLeDiff, Nat.reduceAdd, Nat.reduceEqDiff, Int.reduceToNat, Int.toNat_natCast, iB0, iB1, ru_klI, ru_klR, ru_klF, ru_klJ, ru_kl0, ru_cs0, ru_csI, ru_csR, ru_csF, ru_csJ, wI_add, wI_sub, wI_mul, wI_lt, wI_le, wI_inj, ru_fdE, ru_fdN, ru_iaN, ru_baN, ru_laN, ru_qaN, ru_pfN, ru_isN, ru_bsN, ru_jsN, ru_qsN, ru_set2, Nat.add_right_cancel_iff, if_true, if_false, ite_self, Int.reduceEq, and_self, Int.add_neg_cancel_right, Int.add_zero, Int.zero_add, md_e, md_f13, g17, g171, e3, d0, d1, q2, not_true, not_false_iff]
    have cf1 : ∀ S', ru_ev z 98 [.ref R] (clPut (rdH H R (A + 1) S) C1) = S' → ru_n z 95 29 [some (.ref R), some (.int (wI ((i : Nat) : Int)))] [] (clPut (rdH H R (A + 1) S) C) = match S' with | some (.inl none, h') => ru_n z 95 29 [some (.ref R), some (.int (wI ((i + 1 : Nat) : Int)))] [] h' | some (.inr E, h') => some (.inr E, h') | _ => none := fun S' hS' => by
      rw [e95_29]
      simp only [Int.natCast_add, Int.natCast_one]
      simp (disch := omega) only [e95_30, e95_33, e95_36, e95_37, e95_40, e95_43, e95_46, e95_49, e95_50, e95_53, e95_56, e95_57, e95_60, e95_63, ↓reduceIte, Bool.false_eq_true, not_false_eq_true, not_true_eq_false, Nat.reduceLeDiff, Nat.reduceAdd, Nat.reduceEqDiff, Int.reduceToNat, Int.toNat_natCast, iB0, iB1, ru_klI, ru_klR, ru_klF, ru_klJ, ru_kl0, ru_cs0, ru_csI, ru_csR, ru_csF, ru_csJ, wI_add, wI_sub, wI_mul, wI_lt, wI_le, wI_inj, ru_fdE, ru_fdN, ru_iaN, ru_baN, ru_laN, ru_qaN, ru_pfN, ru_isN, ru_bsN, ru_jsN, ru_qsN, ru_set2, Nat.add_right_cancel_iff, if_true, if_false, ite_self, Int.reduceEq, and_self, Int.add_neg_cancel_right, Int.add_zero, Int.zero_add, rd_e hR, rd_f0 hR, cl_e1, e2, x, d0, d1, q1, hS', not_true, not_false_iff]
      rfl
    rcases io_j (z := z) hR hH hs hp hb0 hrow hL (t := t) q3 r1 (S := S) hq with ⟨C', S', M', s', gv', t', o1, o2, o3, o4, o5, o6⟩ | ⟨C', S', M', V, o1, o2, o3⟩
    · rcases ih (i + 1) s' C' M' S' t' gv' (by omega) (by omega) o3 o4 o5 with ⟨C2, S2, M2, s2, gv2, v1, v2, v3, v4, v5, v6⟩ | ⟨C2, S2, M2, v1, v2, v3⟩
      · exact Or.inl ⟨C2, S2, M2, s2, gv2, (cf1 _ o1).trans v1, fun h hS l5 => ((rf1 h l5).trans (o2 h hS _)).trans (v2 h hS _), v3, v4, v5, by omega⟩
      · exact Or.inr ⟨C2, S2, M2, (cf1 _ o1).trans v1, fun h hS l5 => ((rf1 h l5).trans (o2 h hS _)).trans (v2 h hS _), v3⟩
    · refine Or.inr ⟨C', S', M', (cf1 _ o1), fun h hS l5 => ((rf1 h l5).trans (o2 h hS _)).trans ?_, o3⟩
      have r17 := o3.2.2.2.2.2.2.2.2.1
      have d9 : (M'.1 17 = 0) = False := eq_false (by omega)
      simp (disch := omega) only [e131_15, e131_17, e131_76, e131_77, e131_80, e131_83, e131_84, e131_87, e131_88, e131_91, e131_92, e131_95, e131_96, e131_98, e131_100, e131_110, ↓reduceIte, Bool.false_eq_true, not_false_eq_true, not_true_eq_false, Nat.reduceLeDiff, Nat.reduceAdd, Nat.reduceEqDiff, Int.reduceToNat, Int.toNat_natCast, iB0, iB1, ru_klI, ru_klR, ru_klF, ru_klJ, ru_kl0, ru_cs0, ru_csI, ru_csR, ru_csF, ru_csJ, wI_add, wI_sub, wI_mul, wI_lt, wI_le, wI_inj, ru_fdE, ru_fdN, ru_iaN, ru_baN, ru_laN, ru_qaN, ru_pfN, ru_isN, ru_bsN, ru_jsN, ru_qsN, ru_set2, Nat.add_right_cancel_iff, if_true, if_false, ite_self, Int.reduceEq, and_self, Int.add_neg_cancel_right, Int.add_zero, Int.zero_add, md_e, md_f17, d9, d0, not_true, not_false_iff]
theorem is_j (hR : 1315 ≤ R) {H : am_H} (hH : strs H) (hs : prS A N n C0 M0) (hp : prR n C0 M0 rc) (hb0 : byI C0 M0 l) {row : Int} (hrow : row = -1 ∨ (0 ≤ row ∧ row < rc)) {S : tRd} (ht : tkR C M l s) (hr : prI n C0 M0 C M gv) (h1 : S.1 = gv) (h2 : S.2.1 = (nxT M0 n row : Nat)) (hQ : ∀ j, j < nxT M0 n row → S.2.2.2.1 j = sqV M0 n row j) :
    lpO n l C0 M0 s (fun S' C' => ru_ev z 95 [.ref R] (clPut (rdH H R (A + 1) S) C) = some (.inl none, clPut (rdH H R (A + 1) S') C'))
      (fun S' C' => ru_ev z 95 [.ref R] (clPut (rdH H R (A + 1) S) C) = some (.inr 2, clPut (rdH (thr H) R (A + 1) S') C'))
      (fun M' => ∀ h, strs h → ru_ev z 131 [.ref 1315, .int (wI n), .int (wI row)] (mdPut h M) = some (.inl none, mdPut h M')) := by
  obtain ⟨g, T', c, Q, F⟩ := S
  dsimp only at h1 h2 hQ
  subst h1 h2
  have T12 := (nxT_12 hp hrow).1
  have hb := pr_byI hb0 hr
  have h17 := hr.2.2.2.1
  have hn := hb0.1
  have d0 : ((0 : Int) = 0) = True := eq_true rfl
  have d1 : ((1 : Int) = 0) = False := eq_false (by decide)
  rcases sd_j (z := z) (nm := A + 1) hR hr ht hb0 with ⟨d, hd, e1, e2, e13⟩ | ⟨e1, e2⟩
  rotate_left
  · right
    have hm := mut_er ht (t := 1) (by decide)
    refine ⟨_, (g, ((nxT M0 n row : Nat) : Int), c, Q, F), _, ?_, fun h hh => ?_, ep_of hr ht hn (t := 1) (by decide)⟩
    · have y := e1 H (g, ((nxT M0 n row : Nat) : Int), c, Q, F) hH
      simp (disch := omega) only [en95, e95_0, e95_1, e95_4, e95_7, e95_8, e95_11, e95_12, e95_15, e95_18, e95_19, e95_20, e95_23, e95_24, e95_27, e95_28, e95_29, e95_30, e95_33, e95_36, e95_37, e95_40, e95_43, e95_46, e95_49, e95_50, e95_53, e95_56, e95_57, e95_60, e95_63, e95_66, ↓reduceIte, Bool.false_eq_true, not_false_eq_true, not_true_eq_false, Nat.reduceLeDiff, Nat.reduceAdd, Nat.reduceEqDiff, Int.reduceToNat, Int.toNat_natCast, iB0, iB1, ru_klI, ru_klR, ru_klF, ru_klJ, ru_kl0, ru_cs0, ru_csI, ru_csR, ru_csF, ru_csJ, wI_add, wI_sub, wI_mul, wI_lt, wI_le, wI_inj, ru_fdE, ru_fdN, ru_iaN, ru_baN, ru_laN, ru_qaN, ru_pfN, ru_isN, ru_bsN, ru_jsN, ru_qsN, ru_set2, Nat.add_right_cancel_iff, if_true, if_false, ite_self, Int.reduceEq, and_self, Int.add_neg_cancel_right, Int.add_zero, Int.zero_add, rd_e hR, y]
    · have y := e2 h hh
      have u1 := u66 (z := z) (h := h) hm
      have g17 : am_fd (mdPut h (erM M 1)) 1315 10 17 = some (.int (wI 1)) := by rw [md_f17]; rfl
      simp (disch := omega) only [en131, e131_0, e131_1, e131_4, e131_5, e131_6, e131_9, e131_10, e131_12, e131_13, e131_15, e131_17, e131_20, e131_21, e131_24, e131_27, e131_28, e131_30, e131_33, e131_36, e131_37, e131_38, e131_39, e131_40, e131_42, e131_45, e131_46, e131_49, e131_50, e131_52, e131_55, e131_56, e131_59, e131_62, e131_65, e131_66, e131_67, e131_68, e131_69, e131_71, e131_74, e131_76, e131_77, e131_80, e131_83, e131_84, e131_87, e131_88, e131_91, e131_92, e131_95, e131_96, e131_98, e131_100, e131_103, e131_104, e131_107, e131_110, ↓reduceIte, Bool.false_eq_true, not_false_eq_true, not_true_eq_false, Nat.reduceLeDiff, Nat.reduceAdd, Nat.reduceEqDiff, Int.reduceToNat, Int.toNat_natCast, iB0, iB1, ru_klI, ru_klR, ru_klF, ru_klJ, ru_kl0, ru_cs0, ru_csI, ru_csR, ru_csF, ru_csJ, wI_add, wI_sub, wI_mul, wI_lt, wI_le, wI_inj, ru_fdE, ru_fdN, ru_iaN, ru_baN, ru_laN, ru_qaN, ru_pfN, ru_isN, ru_bsN, ru_jsN, ru_qsN, ru_set2, Nat.add_right_cancel_iff, if_true, if_false, ite_self, Int.reduceEq, and_self, Int.add_neg_cancel_right, Int.add_zero, Int.zero_add, md_e, y, g17, u1, d0, d1, not_true, not_false_iff]
  obtain ⟨C2, M2, s2, q1, q2, q3, q4, q5, q6⟩ := tk_adv (z := z) ht (by omega) hb
  have r2 := prI_tok hr q4 q5
  have h172 := r2.2.2.2.1
  have y66 : ∀ h, ru_ev z 66 [.ref 1315] (mdPut h M) = some (.inl none, mdPut h M2) := fun h => p66 (z := z) h17 (q2 h)
  have g17 : ∀ h, am_fd (mdPut h M2) 1315 10 17 = some (.int (wI 0)) := fun h => by rw [md_f17, h172]
  obtain ⟨isL, hiL⟩ : ∃ isL : Int, isL = if d = -1 then 1 else 0 := ⟨_, rfl⟩
  have hL : isL = 0 ∨ isL = 1 := by rw [hiL]; split <;> omega
  -- the queue, as it is called
  obtain ⟨Q2, hQ2, hcl⟩ : ∃ Q2 : Nat → Int, (∀ j, j < nxT M0 n row → Q2 j = nxV M0 n row isL j) ∧ ∀ X, (∀ S', S' = (g, ((nxT M0 n row : Nat) : Int), (0 : Int), Q2, F) → ru_n z 95 23 [some (.ref R), none] [] (clPut (rdH H R (A + 1) S') C2) = X) → ru_ev z 95 [.ref R] (clPut (rdH H R (A + 1) (g, ((nxT M0 n row : Nat) : Int), c, Q, F)) C) = X := by
    have y := e1 H (g, ((nxT M0 n row : Nat) : Int), c, Q, F) hH
    rcases hd with rfl | rfl
    · refine ⟨Q, fun j hj => ?_, fun X hX => ?_⟩
      · rw [hQ j hj, hiL, if_pos rfl]
        exact ((if_neg (by omega)).trans (by rw [if_pos rfl])).symm
      · have s7 := rd_s7 (h := H) (C := C2) (R := R) (nm := A + 1) (S := (g, ((nxT M0 n row : Nat) : Int), c, Q, F)) hR (v := 0)
        dsimp only at s7
        have hh := hX _ rfl
        have dn : ((-1 : Int) ≤ 0) = True := eq_true (by decide)
        rw [← hh]
        simp (disch := omega) only [en95, e95_0, e95_1, e95_4, e95_7, e95_8, e95_11, e95_12, e95_15, e95_18, e95_19, e95_20, ↓reduceIte, Bool.false_eq_true, not_false_eq_true, not_true_eq_false, Nat.reduceLeDiff, Nat.reduceAdd, Nat.reduceEqDiff, Int.reduceToNat, Int.toNat_natCast, iB0, iB1, ru_klI, ru_klR, ru_klF, ru_klJ, ru_kl0, ru_cs0, ru_csI, ru_csR, ru_csF, ru_csJ, wI_add, wI_sub, wI_mul, wI_lt, wI_le, wI_inj, ru_fdE, ru_fdN, ru_iaN, ru_baN, ru_laN, ru_qaN, ru_pfN, ru_isN, ru_bsN, ru_jsN, ru_qsN, ru_set2, Nat.add_right_cancel_iff, if_true, if_false, ite_self, Int.reduceEq, and_self, Int.add_neg_cancel_right, Int.add_zero, Int.zero_add, rd_e hR, rd_f0 hR, cl_e1, y, dn, q1, s7]
    · obtain ⟨Q', w1, w2⟩ := c97l (z := z) (C := C) (nm := A + 1) hR (H := H) (T := nxT M0 n row) T12 (v := sqV M0 n row) (g := g) (c := c) (F := F) (nxT M0 n row / 2) 0 (by omega) Q none (fun j hj => by rw [if_neg (by omega)]; exact hQ j hj)
      refine ⟨Q', fun j hj => ?_, fun X hX => ?_⟩
      · rw [w1 j hj, hiL, if_neg (by decide)]
        exact ((if_neg (by omega)).trans (by rw [if_neg (by decide)])).symm
      · have w2' : ru_ev z 97 [.ref R] (clPut (rdH H R (A + 1) (g, ((nxT M0 n row : Nat) : Int), c, Q, F)) C) = some (.inl none, clPut (rdH H R (A + 1) (g, ((nxT M0 n row : Nat) : Int), c, Q', F)) C) := by
          rw [show ((0 : Nat) : Int) = 0 from rfl] at w2
          simp (disch := omega) only [en97, e97_0, e97_1, ↓reduceIte, Bool.false_eq_true, not_false_eq_true, not_true_eq_false, Nat.reduceLeDiff, Nat.reduceAdd, Nat.reduceEqDiff, Int.reduceToNat, Int.toNat_natCast, iB0, iB1, ru_klI, ru_klR, ru_klF, ru_klJ, ru_kl0, ru_cs0, ru_csI, ru_csR, ru_csF, ru_csJ, wI_add, wI_sub, wI_mul, wI_lt, wI_le, wI_inj, ru_fdE, ru_fdN, ru_iaN, ru_baN, ru_laN, ru_qaN, ru_pfN, ru_isN, ru_bsN, ru_jsN, ru_qsN, ru_set2, Nat.add_right_cancel_iff, if_true, if_false, ite_self, Int.reduceEq, and_self, Int.add_neg_cancel_right, Int.add_zero, Int.zero_add, rd_e hR, w2]
        have s7 := rd_s7 (h := H) (C := C2) (R := R) (nm := A + 1) (S := (g, ((nxT M0 n row : Nat) : Int), c, Q', F)) hR (v := 0)
        dsimp only at s7
        have hh := hX _ rfl
        have dn : ((1 : Int) ≤ 0) = False := eq_false (by decide)
        rw [← hh]
        simp (disch := omega) only [en95, e95_0, e95_1, e95_4, e95_7, e95_8, e95_11, e95_12, e95_15, e95_18, e95_19, e95_20, ↓reduceIte, Bool.false_eq_true, not_false_eq_true, not_true_eq_false, Nat.reduceLeDiff, Nat.reduceAdd, Nat.reduceEqDiff, Int.reduceToNat, Int.toNat_natCast, iB0, iB1, ru_klI, ru_klR, ru_klF, ru_klJ, ru_kl0, ru_cs0, ru_csI, ru_csR, ru_csF, ru_csJ, wI_add, wI_sub, wI_mul, wI_lt, wI_le, wI_inj, ru_fdE, ru_fdN, ru_iaN, ru_baN, ru_laN, ru_qaN, ru_pfN, ru_isN, ru_bsN, ru_jsN, ru_qsN, ru_set2, Nat.add_right_cancel_iff, if_true, if_false, ite_self, Int.reduceEq, and_self, Int.add_neg_cancel_right, Int.add_zero, Int.zero_add, rd_e hR, rd_f0 hR, cl_e1, y, dn, w2', q1, s7]
  have hq2 : quI M0 n row isL 0 g (g, ((nxT M0 n row : Nat) : Int), (0 : Int), Q2, F) := ⟨rfl, rfl, rfl, Nat.zero_le _, hQ2⟩
  have rf1 : ∀ h, strs h → ru_ev z 131 [.ref 1315, .int (wI n), .int (wI row)] (mdPut h M) = ru_n z 131 27 [some (.ref 1315), some (.int (wI n)), some (.int (wI row)), some (.int (wI isL)), some (.int (wI ((0 : Nat) : Int))), some (.int (wI 1))] [] (mdPut h M2) := fun h hh => by
    have y := e2 h hh
    rw [← hiL] at y
    simp (disch := omega) only [en131, e131_0, e131_1, e131_4, e131_5, e131_6, e131_9, e131_10, e131_12, e131_13, e131_15, e131_17, e131_20, e131_21, e131_24, ↓reduceIte, Bool.false_eq_true, not_false_eq_true, not_true_eq_false, Nat.reduceLeDiff, Nat.reduceAdd, Nat.reduceEqDiff, Int.reduceToNat, Int.toNat_natCast, iB0, iB1, ru_klI, ru_klR, ru_klF, ru_klJ, ru_kl0, ru_cs0, ru_csI, ru_csR, ru_csF, ru_csJ, wI_add, wI_sub, wI_mul, wI_lt, wI_le, wI_inj, ru_fdE, ru_fdN, ru_iaN, ru_baN, ru_laN, ru_qaN, ru_pfN, ru_isN, ru_bsN, ru_jsN, ru_qsN, ru_set2, Nat.add_right_cancel_iff, if_true, if_false, ite_self, Int.reduceEq, and_self, Int.add_neg_cancel_right, Int.add_zero, Int.zero_add, md_e, y, y66, g17, d0, d1, not_true, not_false_iff]
    rfl
  have cf1 : ∀ X, ru_ev z 98 [.ref R] (clPut (rdH H R (A + 1) (g, ((nxT M0 n row : Nat) : Int), (0 : Int), Q2, F)) C2) = X → ru_ev z 95 [.ref R] (clPut (rdH H R (A + 1) (g, ((nxT M0 n row : Nat) : Int), c, Q, F)) C) = match X with | some (.inl none, h') => ru_n z 95 29 [some (.ref R), some (.int (wI ((0 : Nat) : Int)))] [] h' | some (.inr E, h') => some (.inr E, h') | _ => none := fun X hX => by
    refine hcl _ (fun S' hS' => ?_)
    rw [hS']
    simp (disch := omega) only [e95_23, e95_24, e95_27, e95_28, ↓reduceIte, Bool.false_eq_true, not_false_eq_true, not_true_eq_false, Nat.reduceLeDiff, Nat.reduceAdd, Nat.reduceEqDiff, Int.reduceToNat, Int.toNat_natCast, iB0, iB1, ru_klI, ru_klR, ru_klF, ru_klJ, ru_kl0, ru_cs0, ru_csI, ru_csR, ru_csF, ru_csJ, wI_add, wI_sub, wI_mul, wI_lt, wI_le, wI_inj, ru_fdE, ru_fdN, ru_iaN, ru_baN, ru_laN, ru_qaN, ru_pfN, ru_isN, ru_bsN, ru_jsN, ru_qsN, ru_set2, Nat.add_right_cancel_iff, if_true, if_false, ite_self, Int.reduceEq, and_self, Int.add_neg_cancel_right, Int.add_zero, Int.zero_add, rd_e hR, hX]
    rfl
  rcases io_j (z := z) hR hH hs hp hb0 hrow hL (t := 0) q3 r2 (S := (g, ((nxT M0 n row : Nat) : Int), (0 : Int), Q2, F)) hq2 with ⟨C', S', M', s', gv', t', o1, o2, o3, o4, o5, o6⟩ | ⟨C', S', M', V, o1, o2, o3⟩
  · rcases il_j (z := z) hR hH hs hp hb0 hrow hL l 0 s' C' M' S' t' gv' (by omega) (by omega) o3 o4 o5 with ⟨C3, S3, M3, s3, gv3, v1, v2, v3, v4, v5, v6⟩ | ⟨C3, S3, M3, v1, v2, v3⟩
    · exact Or.inl ⟨C3, S3, M3, s3, gv3, (cf1 _ o1).trans v1, fun h hS => ((rf1 h hS).trans (o2 h hS _)).trans (v2 h hS _), v3, v4, v5, by omega⟩
    · exact Or.inr ⟨C3, S3, M3, (cf1 _ o1).trans v1, fun h hS => ((rf1 h hS).trans (o2 h hS _)).trans (v2 h hS _), v3⟩
  · refine Or.inr ⟨C', S', M', (cf1 _ o1), fun h hS => ((rf1 h hS).trans (o2 h hS _)).trans ?_, o3⟩
    have r17 := o3.2.2.2.2.2.2.2.2.1
    have d9 : (M'.1 17 = 0) = False := eq_false (by omega)
    simp (disch := omega) only [e131_15, e131_17, e131_76, e131_77, e131_80, e131_83, e131_84, e131_87, e131_88, e131_91, e131_92, e131_95, e131_96, e131_98, e131_100, e131_110, ↓reduceIte, Bool.false_eq_true, not_false_eq_true, not_true_eq_false, Nat.reduceLeDiff, Nat.reduceAdd, Nat.reduceEqDiff, Int.reduceToNat, Int.toNat_natCast, iB0, iB1, ru_klI, ru_klR, ru_klF, ru_klJ, ru_kl0, ru_cs0, ru_csI, ru_csR, ru_csF, ru_csJ, wI_add, wI_sub, wI_mul, wI_lt, wI_le, wI_inj, ru_fdE, ru_fdN, ru_iaN, ru_baN, ru_laN, ru_qaN, ru_pfN, ru_isN, ru_bsN, ru_jsN, ru_qsN, ru_set2, Nat.add_right_cancel_iff, if_true, if_false, ite_self, Int.reduceEq, and_self, Int.add_neg_cancel_right, Int.add_zero, Int.zero_add, md_e, md_f17, d9, d0, not_true, not_false_iff]
end ITS
