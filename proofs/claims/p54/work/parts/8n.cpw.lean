/-! ===== copyNames: all rows of the reference ===== -/
def cpW (W H : Nat → Int) (f mf : Nat) (D E : Nat → Nat → Int) (NK : Nat → Int) : Nat → (Nat → Int) × Nat → (Nat → Int) × Nat
  | 0, s => s
  | r + 1, s => cpM W H f mf (D r) (E r) NK 12 (cpW W H f mf D E NK r s)
section CPW
variable {z : Bool} {h : am_H} {M : tMd} {f k : Nat}
theorem p369w {mf mk : Nat} {D E : Nat → Nat → Int} {NK : Nat → Int} {P : (Nat → Int) → Prop} (hf : f < 5) (hk : k < 5) (hG : 0 ≤ M.1 24 ∧ M.1 24 ≤ 99)
    (hP1 : ∀ S, P S → phR (msf S (M.2 8) (M.2 9) f) ∧ phR (msf S (M.2 8) (M.2 9) k) ∧ (msf S (M.2 8) (M.2 9) f).1 7 = (mf : Int) ∧ (msf S (M.2 8) (M.2 9) k).1 7 = (mk : Int))
    (hPD : ∀ S, P S → ∀ rc R L Q, lrOK (M.1, upC M.2 0 S) f rc R L Q → (∀ x, x < 12 → -1 ≤ R x ∧ R x ≤ 12) ∧ (∀ x, x < 12 → -1 ≤ L x ∧ L x ≤ 12) ∧ ∀ r j : Nat, r < 12 → j < 12 → fnF (stP R L r j) mf 0 = D r j)
    (hPE : ∀ S, P S → ∀ rc R L Q, lrOK (M.1, upC M.2 0 S) k rc R L Q → (∀ x, x < 12 → -1 ≤ R x ∧ R x ≤ 12) ∧ (∀ x, x < 12 → -1 ≤ L x ∧ L x ≤ 12) ∧ ∀ r j : Nat, r < 12 → j < 12 → fnF (stP R L r j) mk 0 = E r j)
    (hD : ∀ r j, r < 12 → j < 12 → D r j = -1 ∨ (0 ≤ D r j ∧ D r j < (mf : Int))) (hE : ∀ r j, r < 12 → j < 12 → E r j = -1 ∨ (0 ≤ E r j ∧ E r j < (mk : Int)))
    (hPN : ∀ S, P S → ∀ x, x < mk → S (54 * k + 6 + 4 * x + 3) = NK x + 1) (hN : ∀ x, x < 12 → -1 ≤ NK x ∧ NK x ≤ 19)
    (hPg : ∀ S, P S → ∀ (x : Nat) (nm : Int), x < mf → ¬ nm = -1 → -1 ≤ nm ∧ nm ≤ 19 → (∃ y, y < mk ∧ nm = NK y) → P (gvS S f x (hofF ((msf S (M.2 8) (M.2 9) f).2 3) nm mf 0) nm))
    {s : (Nat → Int) × Nat} : ∀ d r, r + d = 12 → P (cpW (M.2 8) (M.2 9) f mf D E NK r s).1 → (cpW (M.2 8) (M.2 9) f mf D E NK r s).2 ≤ 12 * r → ∀ (N : tMd) (l5 l6 l7 : Option Value), mdK (M.1, upC M.2 0 (cpW (M.2 8) (M.2 9) f mf D E NK r s).1) N → ∃ (N' : tMd), P (cpW (M.2 8) (M.2 9) f mf D E NK 12 s).1 ∧ (cpW (M.2 8) (M.2 9) f mf D E NK 12 s).2 ≤ 144 ∧ mdK (M.1, upC M.2 0 (cpW (M.2 8) (M.2 9) f mf D E NK 12 s).1) N' ∧
      ru_n z 369 38 [some (.ref 1315), some (.int (wI f)), some (.int (wI k)), some (.int (wI ((cpW (M.2 8) (M.2 9) f mf D E NK r s).2 : Nat))), some (.int (wI r)), l5, l6, l7] [] (mdPut h N) = some (.inl (some (.int (wI ((cpW (M.2 8) (M.2 9) f mf D E NK 12 s).2 : Nat)))), mdPut h N') := by
  intro d
  induction d with
  | zero =>
    intro r hr p1 p2 N l5 l6 l7 hK
    obtain rfl : r = 12 := by omega
    refine ⟨N, p1, by omega, hK, ?_⟩
    simp (disch := omega) only [e369_38, e369_40, e369_42, e369_145, e369_146, ↓reduceIte, Bool.false_eq_true, not_false_eq_true, not_true_eq_false, Nat.reduceLeDiff, Nat.reduceAdd, Nat.reduceEqDiff, Int.reduceToNat, Int.toNat_natCast, iB0, iB1, ru_klI, ru_klR, ru_klF, ru_klJ, ru_kl0, ru_cs0, ru_csI, ru_csR, ru_csF, ru_csJ, wI_add, wI_sub, wI_mul, wI_lt, wI_le, wI_inj, ru_fdE, ru_fdN, ru_iaN, ru_baN, ru_laN, ru_qaN, ru_pfN, ru_isN, ru_bsN, ru_jsN, ru_qsN, ru_set2, Nat.add_right_cancel_iff, if_true, if_false, ite_self, Int.reduceEq, and_self, Int.add_neg_cancel_right, Int.add_zero, Int.zero_add, show (((12 : Nat) : Int)) = 12 from rfl, Int.le_refl]
  | succ d ih =>
    intro r hr p1 p2 N l5 l6 l7 hK
    have c : ((12 : Int) ≤ (r : Int)) = False := eq_false (by omega)
    obtain ⟨N1, m6, m7, t1, t2, t3, t4⟩ := p369r (z := z) (h := h) (M := M) (mf := mf) (mk := mk) (D := D) (E := E) (NK := NK) (P := P) hf hk hG hP1 hPD hPE hD hE hPN hN hPg (r := r) (by omega) (s := cpW (M.2 8) (M.2 9) f mf D E NK r s) p1 (by omega) 12 0 (by omega) p1 (Nat.le_refl _) N l6 l7 hK
    obtain ⟨N', u1, u2, u3, u4⟩ := ih (r + 1) (by omega) t1 (by show (cpM (M.2 8) (M.2 9) f mf (D r) (E r) NK 12 (cpW (M.2 8) (M.2 9) f mf D E NK r s)).2 ≤ 12 * (r + 1); omega) N1 (some (.int (wI 12))) m6 m7 t3
    refine ⟨N', u1, u2, u3, ?_⟩
    rw [← u4, e369_38]
    have t4' := t4
    rw [show cpM (M.2 8) (M.2 9) f mf (D r) (E r) NK 0 (cpW (M.2 8) (M.2 9) f mf D E NK r s) = cpW (M.2 8) (M.2 9) f mf D E NK r s from rfl, show ((0 : Nat) : Int) = 0 from rfl] at t4'
    simp (disch := omega) only [e369_40, e369_42, e369_45, e369_46, ↓reduceIte, Bool.false_eq_true, not_false_eq_true, not_true_eq_false, Nat.reduceLeDiff, Nat.reduceAdd, Nat.reduceEqDiff, Int.reduceToNat, Int.toNat_natCast, iB0, iB1, ru_klI, ru_klR, ru_klF, ru_klJ, ru_kl0, ru_cs0, ru_csI, ru_csR, ru_csF, ru_csJ, wI_add, wI_sub, wI_mul, wI_lt, wI_le, wI_inj, ru_fdE, ru_fdN, ru_iaN, ru_baN, ru_laN, ru_qaN, ru_pfN, ru_isN, ru_bsN, ru_jsN, ru_qsN, ru_set2, Nat.add_right_cancel_iff, if_true, if_false, ite_self, Int.reduceEq, and_self, Int.add_neg_cancel_right, Int.add_zero, Int.zero_add, c, t4']
    rw [show cpW (M.2 8) (M.2 9) f mf D E NK (r + 1) s = cpM (M.2 8) (M.2 9) f mf (D r) (E r) NK 12 (cpW (M.2 8) (M.2 9) f mf D E NK r s) from rfl]
    simp (disch := omega) only [e369_139, e369_142, ↓reduceIte, Bool.false_eq_true, not_false_eq_true, not_true_eq_false, Nat.reduceLeDiff, Nat.reduceAdd, Nat.reduceEqDiff, Int.reduceToNat, Int.toNat_natCast, iB0, iB1, ru_klI, ru_klR, ru_klF, ru_klJ, ru_kl0, ru_cs0, ru_csI, ru_csR, ru_csF, ru_csJ, wI_add, wI_sub, wI_mul, wI_lt, wI_le, wI_inj, ru_fdE, ru_fdN, ru_iaN, ru_baN, ru_laN, ru_qaN, ru_pfN, ru_isN, ru_bsN, ru_jsN, ru_qsN, ru_set2, Nat.add_right_cancel_iff, if_true, if_false, ite_self, Int.reduceEq, and_self, Int.add_neg_cancel_right, Int.add_zero, Int.zero_add, Int.natCast_add, Int.natCast_one]
end CPW
