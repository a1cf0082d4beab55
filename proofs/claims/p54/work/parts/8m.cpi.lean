/-! ===== copyNames: a row of the reference ===== -/
def cpM (W H : Nat → Int) (f mf : Nat) (D E NK : Nat → Int) : Nat → (Nat → Int) × Nat → (Nat → Int) × Nat
  | 0, s => s
  | j + 1, s => if E j = -1 ∨ D j = -1 ∨ NK (E j).toNat = -1 then cpM W H f mf D E NK j s else (gvS (cpM W H f mf D E NK j s).1 f (D j).toNat (hofF ((msf (cpM W H f mf D E NK j s).1 W H f).2 3) (NK (E j).toNat) mf 0) (NK (E j).toNat), (cpM W H f mf D E NK j s).2 + 1)
section CPI
variable {z : Bool} {h : am_H} {M : tMd} {f k : Nat}
theorem p369r {mf mk : Nat} {D E : Nat → Nat → Int} {NK : Nat → Int} {P : (Nat → Int) → Prop} (hf : f < 5) (hk : k < 5) (hG : 0 ≤ M.1 24 ∧ M.1 24 ≤ 99)
    (hP1 : ∀ S, P S → phR (msf S (M.2 8) (M.2 9) f) ∧ phR (msf S (M.2 8) (M.2 9) k) ∧ (msf S (M.2 8) (M.2 9) f).1 7 = (mf : Int) ∧ (msf S (M.2 8) (M.2 9) k).1 7 = (mk : Int))
    (hPD : ∀ S, P S → ∀ rc R L Q, lrOK (M.1, upC M.2 0 S) f rc R L Q → (∀ x, x < 12 → -1 ≤ R x ∧ R x ≤ 12) ∧ (∀ x, x < 12 → -1 ≤ L x ∧ L x ≤ 12) ∧ ∀ r j : Nat, r < 12 → j < 12 → fnF (stP R L r j) mf 0 = D r j)
    (hPE : ∀ S, P S → ∀ rc R L Q, lrOK (M.1, upC M.2 0 S) k rc R L Q → (∀ x, x < 12 → -1 ≤ R x ∧ R x ≤ 12) ∧ (∀ x, x < 12 → -1 ≤ L x ∧ L x ≤ 12) ∧ ∀ r j : Nat, r < 12 → j < 12 → fnF (stP R L r j) mk 0 = E r j)
    (hD : ∀ r j, r < 12 → j < 12 → D r j = -1 ∨ (0 ≤ D r j ∧ D r j < (mf : Int))) (hE : ∀ r j, r < 12 → j < 12 → E r j = -1 ∨ (0 ≤ E r j ∧ E r j < (mk : Int)))
    (hPN : ∀ S, P S → ∀ x, x < mk → S (54 * k + 6 + 4 * x + 3) = NK x + 1) (hN : ∀ x, x < 12 → -1 ≤ NK x ∧ NK x ≤ 19)
    (hPg : ∀ S, P S → ∀ (x : Nat) (nm : Int), x < mf → ¬ nm = -1 → -1 ≤ nm ∧ nm ≤ 19 → (∃ y, y < mk ∧ nm = NK y) → P (gvS S f x (hofF ((msf S (M.2 8) (M.2 9) f).2 3) nm mf 0) nm))
    {r : Nat} (hr : r < 12) {s : (Nat → Int) × Nat} (hs : P s.1) (hs2 : s.2 ≤ 200) : ∀ d j, j + d = 12 → P (cpM (M.2 8) (M.2 9) f mf (D r) (E r) NK j s).1 → (cpM (M.2 8) (M.2 9) f mf (D r) (E r) NK j s).2 ≤ s.2 + j → ∀ (N : tMd) (l6 l7 : Option Value), mdK (M.1, upC M.2 0 (cpM (M.2 8) (M.2 9) f mf (D r) (E r) NK j s).1) N → ∃ (N' : tMd) (l6' l7' : Option Value), P (cpM (M.2 8) (M.2 9) f mf (D r) (E r) NK 12 s).1 ∧ (cpM (M.2 8) (M.2 9) f mf (D r) (E r) NK 12 s).2 ≤ s.2 + 12 ∧ mdK (M.1, upC M.2 0 (cpM (M.2 8) (M.2 9) f mf (D r) (E r) NK 12 s).1) N' ∧
      ru_n z 369 48 [some (.ref 1315), some (.int (wI f)), some (.int (wI k)), some (.int (wI ((cpM (M.2 8) (M.2 9) f mf (D r) (E r) NK j s).2 : Nat))), some (.int (wI r)), some (.int (wI j)), l6, l7] [] (mdPut h N) = ru_n z 369 139 [some (.ref 1315), some (.int (wI f)), some (.int (wI k)), some (.int (wI ((cpM (M.2 8) (M.2 9) f mf (D r) (E r) NK 12 s).2 : Nat))), some (.int (wI r)), some (.int (wI 12)), l6', l7'] [] (mdPut h N') := by
  intro d
  induction d with
  | zero =>
    intro j hj p1 p2 N l6 l7 hK
    obtain rfl : j = 12 := by omega
    refine ⟨N, l6, l7, p1, p2, hK, ?_⟩
    simp (disch := omega) only [e369_48, e369_50, e369_52, ↓reduceIte, Bool.false_eq_true, not_false_eq_true, not_true_eq_false, Nat.reduceLeDiff, Nat.reduceAdd, Nat.reduceEqDiff, Int.reduceToNat, Int.toNat_natCast, iB0, iB1, ru_klI, ru_klR, ru_klF, ru_klJ, ru_kl0, ru_cs0, ru_csI, ru_csR, ru_csF, ru_csJ, wI_add, wI_sub, wI_mul, wI_lt, wI_le, wI_inj, ru_fdE, ru_fdN, ru_iaN, ru_baN, ru_laN, ru_qaN, ru_pfN, ru_isN, ru_bsN, ru_jsN, ru_qsN, ru_set2, Nat.add_right_cancel_iff, if_true, if_false, ite_self, Int.reduceEq, and_self, Int.add_neg_cancel_right, Int.add_zero, Int.zero_add, show (((12 : Nat) : Int)) = 12 from rfl, Int.le_refl]
  | succ d ih =>
    intro j hj p1 p2 N l6 l7 hK
    obtain ⟨q1, q2, q3, q4⟩ := hP1 _ p1
    generalize hS : (cpM (M.2 8) (M.2 9) f mf (D r) (E r) NK j s) = t at *
    have c : ((12 : Int) ≤ (j : Int)) = False := eq_false (by omega)
    have s1 := phR_s q1
    have s2 := phR_s q2
    have hmk12 : mk ≤ 12 := by omega
    have hmf12 : mf ≤ 12 := by omega
    have eM : ∀ x, mph (M.1, upC M.2 0 t.1) x = msf t.1 (M.2 8) (M.2 9) x := fun x => by rw [mph_f]; rfl
    obtain ⟨rc1, R1, L1, Q1, a1, a2, a3⟩ := p120K (z := z) (h := h) hK hk (by rw [eM]; exact q2) hG
    obtain ⟨b1, b2, b3⟩ := hPE _ p1 _ _ _ _ a1
    have x1 := p137 (z := z) (h := h) (M := N) (rm := rc1) (R := R1) (L := L1) (Q := Q1) hk (m := mk) (by rw [mdK_ph hK, eM]; exact q4) hmk12 b1 b2 (r := (r : Int)) (j := (j : Int)) (by omega) (by omega)
    rw [b3 r j hr (by omega)] at x1
    obtain ⟨rc2, R2, L2, Q2, c1, c2, c3⟩ := p120K (z := z) (h := h) a2 hf (by rw [eM]; exact q1) hG
    obtain ⟨d1, d2, d3⟩ := hPD _ p1 _ _ _ _ c1
    have x2 := p137 (z := z) (h := h) (M := mdQ N rc1 R1 L1 Q1) (rm := rc2) (R := R2) (L := L2) (Q := Q2) hf (m := mf) (by rw [mdK_ph a2, eM]; exact q3) hmf12 d1 d2 (r := (r : Int)) (j := (j : Int)) (by omega) (by omega)
    rw [d3 r j hr (by omega)] at x2
    have hnx := ih (j + 1) (by omega)
    have eC : cpM (M.2 8) (M.2 9) f mf (D r) (E r) NK (j + 1) s = if E r j = -1 ∨ D r j = -1 ∨ NK (E r j).toNat = -1 then t else (gvS t.1 f (D r j).toNat (hofF ((msf t.1 (M.2 8) (M.2 9) f).2 3) (NK (E r j).toNat) mf 0) (NK (E r j).toNat), t.2 + 1) := by rw [← hS]; rfl
    simp only [Int.natCast_add, Int.natCast_one] at hnx
    by_cases n1 : E r j = -1
    · rw [eC, if_pos (Or.inl n1)] at hnx
      obtain ⟨N', l6', l7', u1, u2, u3, u4⟩ := hnx p1 (by omega) _ (some (.int (wI (E r j)))) (some (.int (wI (D r j)))) c2
      have dn : (E r j = -1) = True := eq_true n1
      refine ⟨N', l6', l7', u1, u2, u3, ?_⟩
      rw [← u4, e369_48]
      simp (disch := omega) only [e369_50, e369_52, e369_55, e369_56, e369_57, e369_60, e369_61, e369_62, e369_64, e369_66, e369_69, e369_71, e369_72, e369_73, e369_76, e369_77, e369_78, e369_80, e369_82, e369_85, e369_87, e369_89, e369_90, e369_93, e369_95, e369_96, e369_99, e369_100, e369_101, e369_103, e369_104, e369_107, e369_110, e369_113, e369_114, e369_115, e369_117, e369_118, e369_119, e369_121, e369_122, e369_125, e369_126, e369_127, e369_130, e369_133, e369_136, ↓reduceIte, Bool.false_eq_true, not_false_eq_true, not_true_eq_false, Nat.reduceLeDiff, Nat.reduceAdd, Nat.reduceEqDiff, Int.reduceToNat, Int.toNat_natCast, iB0, iB1, ru_klI, ru_klR, ru_klF, ru_klJ, ru_kl0, ru_cs0, ru_csI, ru_csR, ru_csF, ru_csJ, wI_add, wI_sub, wI_mul, wI_lt, wI_le, wI_inj, ru_fdE, ru_fdN, ru_iaN, ru_baN, ru_laN, ru_qaN, ru_pfN, ru_isN, ru_bsN, ru_jsN, ru_qsN, ru_set2, Nat.add_right_cancel_iff, if_true, if_false, ite_self, Int.reduceEq, and_self, Int.add_neg_cancel_right, Int.add_zero, Int.zero_add, md_e, c, a3, x1, c3, x2, dn]
    · have dn : (E r j = -1) = False := eq_false n1
      have hEr := hE r j hr (by omega)
      by_cases n2 : D r j = -1
      · rw [eC, if_pos (Or.inr (Or.inl n2))] at hnx
        obtain ⟨N', l6', l7', u1, u2, u3, u4⟩ := hnx p1 (by omega) _ (some (.int (wI (E r j)))) (some (.int (wI (D r j)))) c2
        have dn2 : (D r j = -1) = True := eq_true n2
        refine ⟨N', l6', l7', u1, u2, u3, ?_⟩
        rw [← u4, e369_48]
        simp (disch := omega) only [e369_50, e369_52, e369_55, e369_56, e369_57, e369_60, e369_61, e369_62, e369_64, e369_66, e369_69, e369_71, e369_72, e369_73, e369_76, e369_77, e369_78, e369_80, e369_82, e369_85, e369_87, e369_89, e369_90, e369_93, e369_95, e369_96, e369_99, e369_100, e369_101, e369_103, e369_104, e369_107, e369_110, e369_113, e369_114, e369_115, e369_117, e369_118, e369_119, e369_121, e369_122, e369_125, e369_126, e369_127, e369_130, e369_133, e369_136, ↓reduceIte, Bool.false_eq_true, not_false_eq_true, not_true_eq_false, Nat.reduceLeDiff, Nat.reduceAdd, Nat.reduceEqDiff, Int.reduceToNat, Int.toNat_natCast, iB0, iB1, ru_klI, ru_klR, ru_klF, ru_klJ, ru_kl0, ru_cs0, ru_csI, ru_csR, ru_csF, ru_csJ, wI_add, wI_sub, wI_mul, wI_lt, wI_le, wI_inj, ru_fdE, ru_fdN, ru_iaN, ru_baN, ru_laN, ru_qaN, ru_pfN, ru_isN, ru_bsN, ru_jsN, ru_qsN, ru_set2, Nat.add_right_cancel_iff, if_true, if_false, ite_self, Int.reduceEq, and_self, Int.add_neg_cancel_right, Int.add_zero, Int.zero_add, md_e, c, a3, x1, c3, x2, dn, dn2]
      · have dn2 : (D r j = -1) = False := eq_false n2
        have hDr := hD r j hr (by omega)
        obtain ⟨x, hx⟩ := Int.eq_ofNat_of_zero_le (show 0 ≤ E r j by omega)
        obtain ⟨y, hy⟩ := Int.eq_ofNat_of_zero_le (show 0 ≤ D r j by omega)
        have hNx := hN x (by omega)
        have r1 := p125 (z := z) (h := h) (M := mdQ (mdQ N rc1 R1 L1 Q1) rc2 R2 L2 Q2) (f := k) (k := x) hk (by omega) (w := 3) (by omega) (by omega)
        rw [c2.2 0 (by decide) (by decide) (by decide) (by decide)] at r1
        have r1 : ru_ev z 125 [.ref 1315, .int (wI k), .int (wI (x : Int)), .int (wI 3)] (mdPut h (mdQ (mdQ N rc1 R1 L1 Q1) rc2 R2 L2 Q2)) = some (.inl (some (.int (wI (NK x + 1)))), mdPut h (mdQ (mdQ N rc1 R1 L1 Q1) rc2 R2 L2 Q2)) := by
          rw [r1]
          show some (Sum.inl (some (Value.int (wI (t.1 (54 * k + 6 + 4 * x + 3))))), _) = _
          rw [hPN _ p1 x (by omega)]
        rw [hx] at x1 dn eC
        rw [hy] at x2 dn2 eC
        simp only [Int.toNat_natCast] at eC
        by_cases n3 : NK x = -1
        · rw [eC, if_pos (Or.inr (Or.inr n3))] at hnx
          obtain ⟨N', l6', l7', u1, u2, u3, u4⟩ := hnx p1 (by omega) _ (some (.int (wI (x : Int)))) (some (.int (wI (y : Int)))) c2
          have dn3 : (NK x + 1 = 0) = True := eq_true (by omega)
          refine ⟨N', l6', l7', u1, u2, u3, ?_⟩
          rw [← u4, e369_48]
          simp (disch := omega) only [e369_50, e369_52, e369_55, e369_56, e369_57, e369_60, e369_61, e369_62, e369_64, e369_66, e369_69, e369_71, e369_72, e369_73, e369_76, e369_77, e369_78, e369_80, e369_82, e369_85, e369_87, e369_89, e369_90, e369_93, e369_95, e369_96, e369_99, e369_100, e369_101, e369_103, e369_104, e369_107, e369_110, e369_113, e369_114, e369_115, e369_117, e369_118, e369_119, e369_121, e369_122, e369_125, e369_126, e369_127, e369_130, e369_133, e369_136, ↓reduceIte, Bool.false_eq_true, not_false_eq_true, not_true_eq_false, Nat.reduceLeDiff, Nat.reduceAdd, Nat.reduceEqDiff, Int.reduceToNat, Int.toNat_natCast, iB0, iB1, ru_klI, ru_klR, ru_klF, ru_klJ, ru_kl0, ru_cs0, ru_csI, ru_csR, ru_csF, ru_csJ, wI_add, wI_sub, wI_mul, wI_lt, wI_le, wI_inj, ru_fdE, ru_fdN, ru_iaN, ru_baN, ru_laN, ru_qaN, ru_pfN, ru_isN, ru_bsN, ru_jsN, ru_qsN, ru_set2, Nat.add_right_cancel_iff, if_true, if_false, ite_self, Int.reduceEq, and_self, Int.add_neg_cancel_right, Int.add_zero, Int.zero_add, md_e, c, a3, x1, c3, x2, dn, dn2, r1, dn3, not_true]
        · rw [eC, if_neg (by omega)] at hnx
          have w1 := p139 (z := z) (h := h) (N := mdQ (mdQ N rc1 R1 L1 Q1) rc2 R2 L2 Q2) (n := f) (k := y) hf (by omega) (by rw [mdK_ph c2, eM]; exact q1) (nm := NK x) (by omega)
          rw [mdK_ph c2, eM, c2.2 0 (by decide) (by decide) (by decide) (by decide), q3, Int.toNat_natCast] at w1
          have hKn := mdK_S (S := gvS t.1 f y (hofF ((msf t.1 (M.2 8) (M.2 9) f).2 3) (NK x) mf 0) (NK x)) c2
          dsimp only at hKn
          rw [upC_up] at hKn
          obtain ⟨N', l6', l7', u1, u2, u3, u4⟩ := hnx (hPg _ p1 y (NK x) (by omega) n3 hNx ⟨x, by omega, rfl⟩) (by show t.2 + 1 ≤ _; omega) _ (some (.int (wI (x : Int)))) (some (.int (wI (y : Int)))) hKn
          have dn3 : (NK x + 1 = 0) = False := eq_false (by omega)
          refine ⟨N', l6', l7', u1, u2, u3, ?_⟩
          dsimp only at u4
          rw [← u4, e369_48]
          have w1 : ru_ev z 139 [.ref 1315, .int (wI f), .int (wI (y : Int)), .int (wI (NK x))] (mdPut h (mdQ (mdQ N rc1 R1 L1 Q1) rc2 R2 L2 Q2)) = some (.inl none, mdPut h ((mdQ (mdQ N rc1 R1 L1 Q1) rc2 R2 L2 Q2).1, upC (mdQ (mdQ N rc1 R1 L1 Q1) rc2 R2 L2 Q2).2 0 (gvS t.1 f y (hofF ((msf t.1 (M.2 8) (M.2 9) f).2 3) (NK x) mf 0) (NK x)))) := w1
          simp (disch := omega) only [e369_50, e369_52, e369_55, e369_56, e369_57, e369_60, e369_61, e369_62, e369_64, e369_66, e369_69, e369_71, e369_72, e369_73, e369_76, e369_77, e369_78, e369_80, e369_82, e369_85, e369_87, e369_89, e369_90, e369_93, e369_95, e369_96, e369_99, e369_100, e369_101, e369_103, e369_104, e369_107, e369_110, e369_113, e369_114, e369_115, e369_117, e369_118, e369_119, e369_121, e369_122, e369_125, e369_126, e369_127, e369_130, e369_133, e369_136, ↓reduceIte, Bool.false_eq_true, not_false_eq_true, not_true_eq_false, Nat.reduceLeDiff, Nat.reduceAdd, Nat.reduceEqDiff, Int.reduceToNat, Int.toNat_natCast, iB0, iB1, ru_klI, ru_klR, ru_klF, ru_klJ, ru_kl0, ru_cs0, ru_csI, ru_csR, ru_csF, ru_csJ, wI_add, wI_sub, wI_mul, wI_lt, wI_le, wI_inj, ru_fdE, ru_fdN, ru_iaN, ru_baN, ru_laN, ru_qaN, ru_pfN, ru_isN, ru_bsN, ru_jsN, ru_qsN, ru_set2, Nat.add_right_cancel_iff, if_true, if_false, ite_self, Int.reduceEq, and_self, Int.add_neg_cancel_right, Int.add_zero, Int.zero_add, md_e, c, a3, x1, c3, x2, dn, dn2, r1, dn3, not_false_iff, w1, Int.add_sub_cancel, Int.natCast_add, Int.natCast_one]
end CPI
