/-! ===== copyNames: the reference, where it is not refused ===== -/
section CPX
variable {z : Bool} {h : am_H} {M : tMd} {f k : Nat}
theorem p369s {mf mk : Nat} {D E : Nat → Nat → Int} {NK : Nat → Int} {P : (Nat → Int) → Prop} (hf : f < 5) (hk : k < 5) (hG : 0 ≤ M.1 24 ∧ M.1 24 ≤ 99)
    (hP1 : ∀ S, P S → phR (msf S (M.2 8) (M.2 9) f) ∧ phR (msf S (M.2 8) (M.2 9) k) ∧ (msf S (M.2 8) (M.2 9) f).1 7 = (mf : Int) ∧ (msf S (M.2 8) (M.2 9) k).1 7 = (mk : Int))
    (hPD : ∀ S, P S → ∀ rc R L Q, lrOK (M.1, upC M.2 0 S) f rc R L Q → (∀ x, x < 12 → -1 ≤ R x ∧ R x ≤ 12) ∧ (∀ x, x < 12 → -1 ≤ L x ∧ L x ≤ 12) ∧ ∀ r j : Nat, r < 12 → j < 12 → fnF (stP R L r j) mf 0 = D r j)
    (hPE : ∀ S, P S → ∀ rc R L Q, lrOK (M.1, upC M.2 0 S) k rc R L Q → (∀ x, x < 12 → -1 ≤ R x ∧ R x ≤ 12) ∧ (∀ x, x < 12 → -1 ≤ L x ∧ L x ≤ 12) ∧ ∀ r j : Nat, r < 12 → j < 12 → fnF (stP R L r j) mk 0 = E r j)
    (hD : ∀ r j, r < 12 → j < 12 → D r j = -1 ∨ (0 ≤ D r j ∧ D r j < (mf : Int))) (hE : ∀ r j, r < 12 → j < 12 → E r j = -1 ∨ (0 ≤ E r j ∧ E r j < (mk : Int)))
    (hPN : ∀ S, P S → ∀ x, x < mk → S (54 * k + 6 + 4 * x + 3) = NK x + 1) (hN : ∀ x, x < 12 → -1 ≤ NK x ∧ NK x ≤ 19)
    (hPg : ∀ S, P S → ∀ (x : Nat) (nm : Int), x < mf → ¬ nm = -1 → -1 ≤ nm ∧ nm ≤ 19 → (∃ y, y < mk ∧ nm = NK y) → P (gvS S f x (hofF ((msf S (M.2 8) (M.2 9) f).2 3) nm mf 0) nm))
    (hM : mdR M) (e : rfPP M (f : Int) (k : Int) = 0) (hne : f ≠ k) (hp : P (M.2 0)) : ∃ n' G' N', ktOK (M.1 4) n' (lyF (M.2 1) (M.2 0) 0 270) G' ∧ P (cpW (M.2 8) (M.2 9) f mf D E NK 12 (M.2 0, 0)).1 ∧ (cpW (M.2 8) (M.2 9) f mf D E NK 12 (M.2 0, 0)).2 ≤ 144 ∧ mdK (up1 (mdT M 0).1 4 n', upC (upC M.2 1 G') 0 (cpW (M.2 8) (M.2 9) f mf D E NK 12 (M.2 0, 0)).1) N' ∧
      ru_ev z 369 [.ref 1315, .int (wI f), .int (wI k)] (mdPut h M) = some (.inl (some (.int (wI ((cpW (M.2 8) (M.2 9) f mf D E NK 12 (M.2 0, 0)).2 : Nat)))), mdPut h N') := by
  have e1 := p246 (z := z) (h := h) hM (f := (f : Int)) (k := (k : Int)) (by omega) (by omega)
  rw [if_pos e, e] at e1
  obtain ⟨n', G', k1, k2⟩ := p350 (z := z) (h := h) (M := mdT M 0) hM.2.2.1
  have d1 : ((f : Int) = (k : Int)) = False := eq_false (by omega)
  obtain ⟨N', u1, u2, u3, u4⟩ := p369w (z := z) (h := h) (M := (up1 (mdT M 0).1 4 n', upC (mdT M 0).2 1 G')) (mf := mf) (mk := mk) (D := D) (E := E) (NK := NK) (P := P) hf hk hG hP1 (fun S p rc R L Q hl => hPD S p rc R L Q hl) (fun S p rc R L Q hl => hPE S p rc R L Q hl) hD hE hPN hN hPg (s := (M.2 0, 0)) 12 0 (by omega) hp (Nat.zero_le _) (up1 (mdT M 0).1 4 n', upC (mdT M 0).2 1 G') none none none (by
    have q0 : upC (upC (mdT M 0).2 1 G') 0 (M.2 0) = upC (mdT M 0).2 1 G' := by
      have : (upC (mdT M 0).2 1 G') 0 = M.2 0 := upC_n (by decide)
      rw [← this, upC_self]
    show mdK (up1 (mdT M 0).1 4 n', upC (upC (mdT M 0).2 1 G') 0 (M.2 0)) _
    rw [q0]
    exact mdK_refl _)
  refine ⟨n', G', N', k1, u1, u2, u3, ?_⟩
  have u4' : ru_n z 369 38 [some (.ref 1315), some (.int (wI f)), some (.int (wI k)), some (.int (wI 0)), some (.int (wI 0)), none, none, none] [] (mdPut h (up1 (mdT M 0).1 4 n', upC (mdT M 0).2 1 G')) = some (.inl (some (.int (wI ((cpW (M.2 8) (M.2 9) f mf D E NK 12 (M.2 0, 0)).2 : Nat)))), mdPut h N') := u4
  simp (disch := omega) only [e369_0, e369_1, e369_2, e369_3, e369_6, e369_9, e369_10, e369_11, e369_12, e369_15, e369_16, e369_19, e369_20, e369_21, e369_24, e369_27, e369_28, e369_29, e369_30, e369_33, e369_34, e369_35, e369_36, en369, ↓reduceIte, Bool.false_eq_true, not_false_eq_true, not_true_eq_false, Nat.reduceLeDiff, Nat.reduceAdd, Nat.reduceEqDiff, Int.reduceToNat, Int.toNat_natCast, iB0, iB1, ru_klI, ru_klR, ru_klF, ru_klJ, ru_kl0, ru_cs0, ru_csI, ru_csR, ru_csF, ru_csJ, wI_add, wI_sub, wI_mul, wI_lt, wI_le, wI_inj, ru_fdE, ru_fdN, ru_iaN, ru_baN, ru_laN, ru_qaN, ru_pfN, ru_isN, ru_bsN, ru_jsN, ru_qsN, ru_set2, Nat.add_right_cancel_iff, if_true, if_false, ite_self, Int.reduceEq, and_self, Int.add_neg_cancel_right, Int.add_zero, Int.zero_add, md_e, e1, d1, p54, k2, u4', not_false_iff]
end CPX
