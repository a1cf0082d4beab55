/-! ===== a builder made a text ===== -/
section STR
variable {z : Bool} {X : am_H} {S r : Nat} {m : Int} {f : Nat → Int} {l : List Nat} {cap : Nat}
theorem g395 (h : gbS X S r m f l cap) : ∃ (X' : am_H) (g : Nat → Int32), ru_ev z 395 [.ref r, .int (wI 0), .int (wI (l.length : Nat))] X = some (.inl (some (.ref X.2.1)), X') ∧ X'.1 X.2.1 = some (.inl (1, l.length, .inl g)) ∧ (∀ j, j < l.length → g j = wI ((l.getD j 0 : Nat) : Int)) ∧ (∀ q, q ≠ X.2.1 → X'.1 q = X.1 q) ∧ X'.2.1 = X.2.1 + 1 ∧ X'.2.2 = X.2.2 + l.length := by
  have al := gb_al h
  obtain ⟨a1, a2, a3, a4, a5, a6, a7, a8⟩ := h
  by_cases c : l.length = cap
  · have cn : am_cn1 X r = some (am_new X (.inl (1, cap, .inl (fun i => wI (f i)))) cap) := by
      unfold am_cn1
      rw [a2]
      dsimp only
      rw [if_pos ⟨rfl, by omega⟩]
    have ib : am_isb (am_new X (.inl (1, cap, .inl (fun i => wI (f i)))) cap) X.2.1 = true := by
      unfold am_isb
      rw [nw_e]
      rfl
    refine ⟨am_new X (.inl (1, cap, .inl (fun i => wI (f i)))) cap, fun i => wI (f i), ?_, by rw [c]; exact nw_e, fun j hj => by dsimp only; rw [a3 j hj], fun q hq => if_neg hq, rfl, by rw [c]; rfl⟩
    rw [c]
    simp (disch := omega) only [en395, e395_0, e395_1, e395_4, e395_5, e395_6, e395_7, e395_10, e395_11, e395_12, e395_13, e395_16, e395_17, e395_18, e395_21, e395_24, ↓reduceIte, Bool.false_eq_true, not_false_eq_true, not_true_eq_false, Nat.reduceLeDiff, Nat.reduceAdd, Nat.reduceEqDiff, Int.reduceToNat, Int.toNat_natCast, iB0, iB1, ru_klI, ru_klR, ru_klF, ru_klJ, ru_kl0, ru_cs0, ru_csI, ru_csR, ru_csF, ru_csJ, wI_add, wI_sub, wI_mul, wI_lt, wI_le, wI_inj, ru_fdE, ru_fdN, ru_iaN, ru_baN, ru_laN, ru_qaN, ru_pfN, ru_isN, ru_bsN, ru_jsN, ru_qsN, ru_set2, Nat.add_right_cancel_iff, if_true, if_false, ite_self, Int.reduceEq, and_self, Int.add_neg_cancel_right, Int.add_zero, Int.zero_add, al, cn, ib, not_true]
  · obtain ⟨n, hn⟩ : ∃ n, n = l.length := ⟨_, rfl⟩
    rw [← hn] at a4 c ⊢
    have e0 : am_na X 1 (wI n) = some (am_new X (.inl (1, n, .inl (fun _ => 0))) n) := by
      unfold am_na
      have e1 : (wI n).toNatClampNeg = n := by rw [wI_clamp (by omega) (by omega)]; exact Int.toNat_natCast n
      rw [e1, if_pos ⟨by rw [wI_0, wI_lt (by omega) (by omega) (by omega) (by omega)]; omega, by omega⟩, if_pos (by decide)]
    have e2 : (am_new X (.inl (1, n, .inl (fun _ => 0))) n).1 r = some (.inl (1, cap, .inl (fun i => wI (f i)))) := by rw [nw_lo a7]; exact a2
    have e3 : (am_new X (.inl (1, n, .inl (fun _ => 0))) n).1 X.2.1 = some (.inl (1, n, .inl (fun _ => 0))) := nw_e
    have al2 : am_al (am_new X (.inl (1, n, .inl (fun _ => 0))) n) r = some (wI cap) := ru_al e2 (by decide)
    have e4 : am_ac (am_new X (.inl (1, n, .inl (fun _ => 0))) n) r (wI 0) X.2.1 (wI 0) (wI n) = some (am_set (am_new X (.inl (1, n, .inl (fun _ => 0))) n) X.2.1 (.inl (1, n, .inl (va_cpy (fun i => wI (f i)) (fun _ => 0) 0 0 n)))) := by
      unfold am_ac
      rw [e2, e3]
      dsimp only
      have t0 : (wI 0).toNatClampNeg = 0 := by decide +kernel
      have t1 : (wI n).toNatClampNeg = n := by rw [wI_clamp (by omega) (by omega)]; exact Int.toNat_natCast n
      have l0 : ¬ wI 0 < 0 := by decide +kernel
      have l1 : ¬ wI n < 0 := by rw [wI_0, wI_lt (by omega) (by omega) (by omega) (by omega)]; omega
      rw [t0, t1, if_pos ⟨Or.inl rfl, rfl, l0, l0, l1, by omega, by omega, by omega⟩]
    have mn := m264 (z := z) (h := am_new X (.inl (1, n, .inl (fun _ => 0))) n) (a := (cap : Int)) (b := (n : Int)) (by omega) (by omega)
    rw [if_neg (by omega)] at mn
    have d1 : ((n : Int) = (cap : Int)) = False := eq_false (by omega)
    have d2 : ((n : Int) < 0) = False := eq_false (by omega)
    have d3 : (0 ≤ (n : Int)) = True := eq_true (by omega)
    refine ⟨am_set (am_new X (.inl (1, n, .inl (fun _ => 0))) n) X.2.1 (.inl (1, n, .inl (va_cpy (fun i => wI (f i)) (fun _ => 0) 0 0 n))), _, ?_, ru_setE _ _ _, fun j hj => ?_, fun q hq => ?_, rfl, rfl⟩
    · simp (disch := omega) only [en395, e395_0, e395_1, e395_4, e395_5, e395_6, e395_7, e395_10, e395_11, e395_12, e395_13, e395_16, e395_17, e395_18, e395_21, e395_24, en396, e396_0, e396_1, e396_2, e396_5, e396_6, e396_7, e396_8, e396_9, e396_10, e396_12, e396_14, e396_15, e396_16, e396_18, e396_19, e396_20, e396_21, e396_22, e396_23, e396_24, e396_27, e396_30, e396_32, en397, e397_0, e397_1, e397_2, e397_37, ↓reduceIte, Bool.false_eq_true, not_false_eq_true, not_true_eq_false, Nat.reduceLeDiff, Nat.reduceAdd, Nat.reduceEqDiff, Int.reduceToNat, Int.toNat_natCast, iB0, iB1, ru_klI, ru_klR, ru_klF, ru_klJ, ru_kl0, ru_cs0, ru_csI, ru_csR, ru_csF, ru_csJ, wI_add, wI_sub, wI_mul, wI_lt, wI_le, wI_inj, ru_fdE, ru_fdN, ru_iaN, ru_baN, ru_laN, ru_qaN, ru_pfN, ru_isN, ru_bsN, ru_jsN, ru_qsN, ru_set2, Nat.add_right_cancel_iff, if_true, if_false, ite_self, Int.reduceEq, and_self, Int.add_neg_cancel_right, Int.add_zero, Int.zero_add, al, e0, al2, mn, e4, d1, d2, d3, not_false_iff, Int.sub_zero]
    · unfold va_cpy
      dsimp only
      simp only [Nat.zero_le, true_and, Nat.zero_add, Nat.sub_zero]
      rw [if_pos hj, a3 j (by omega)]
    · rw [ru_setN hq]
      exact if_neg hq
theorem g391 (h : gbS X S r m f l cap) : ∃ X', ru_ev z 391 [.ref S] X = some (.inl (some (.ref X.2.1)), X') ∧ gT X' X.2.1 (X.2.1 + 1) l ∧ (∀ q, q < X.2.1 → X'.1 q = X.1 q) ∧ X'.2.1 = X.2.1 + 2 ∧ X'.2.2 = X.2.2 + 4 + l.length := by
  obtain ⟨X1, hX1⟩ : ∃ X1, X1 = am_new X (.inr (50, [.null, .int (wI 0)])) 4 := ⟨_, rfl⟩
  have p0 : X1.1 X.2.1 = some (.inr (50, [.null, .int (wI 0)])) := by rw [hX1]; exact nw_e
  have p1 : ∀ q, q < X.2.1 → X1.1 q = X.1 q := fun q hq => by rw [hX1]; exact nw_lo hq
  have p2 : X1.2.1 = X.2.1 + 1 := by rw [hX1]; rfl
  have p3 : X1.2.2 = X.2.2 + 4 := by rw [hX1]; rfl
  obtain ⟨a1, a2, a3, a4, a5, a6, a7, a8⟩ := h
  have h1 : gbS X1 S r m f l cap := ⟨by rw [p1 S a6]; exact a1, by rw [p1 r a7]; exact a2, a3, a4, a5, by omega, by omega, a8⟩
  have w1 : am_pf X1 X.2.1 50 1 4 (.int (wI 0)) = some X1 := by
    unfold am_pf
    rw [p0]
    dsimp only
    rw [if_pos (by exact ⟨rfl, Or.inr ⟨rfl, rfl⟩, by decide⟩)]
    show (if am_nb (wI 0) = wI 0 then some (am_set X1 X.2.1 (.inr (50, [.null, .int (wI 0)]))) else none) = some X1
    rw [if_pos (by decide +kernel)]
    exact congrArg some (ru_setself p0)
  obtain ⟨X2, g, q1, q2, q3, q4, q5, q6⟩ := g395 (z := z) h1
  have p0' : X2.1 X.2.1 = some (.inr (50, [.null, .int (wI 0)])) := by rw [q4 _ (by omega)]; exact p0
  have w2 : am_pf X2 X.2.1 50 0 2 (.ref X1.2.1) = some (am_set X2 X.2.1 (.inr (50, [.ref X1.2.1, .int (wI 0)]))) := by
    unfold am_pf
    rw [p0']
    dsimp only
    rw [if_pos (by exact ⟨rfl, Or.inr ⟨rfl, rfl⟩, by decide⟩)]
    rfl
  have g0 := gb_f0 h1
  have k24 := g324 (z := z) h1
  have k15 := g315 (z := z) h1
  have d1 : ((1 : Int) = 0) = False := eq_false (by decide)
  refine ⟨am_set X2 X.2.1 (.inr (50, [.ref X1.2.1, .int (wI 0)])), ?_, ⟨by rw [ru_setE, p2], 1, g, Or.inl rfl, by rw [ru_setN (by omega), ← p2]; exact q2, q3⟩, fun q hq => ?_, by show X2.2.1 = _; omega, by show X2.2.2 = _; omega⟩
  · simp (disch := omega) only [en391, e391_0, e391_3, e391_4, e391_5, e391_8, en392, e392_0, e392_1, e392_2, e392_3, e392_6, en393, e393_0, e393_1, e393_4, e393_5, e393_8, e393_9, e393_10, e393_13, e393_15, e393_16, e393_19, e393_22, e393_23, e393_24, e393_27, e393_28, e393_29, e393_30, e393_32, e393_35, e393_38, e393_97, en394, e394_0, e394_1, e394_4, ↓reduceIte, Bool.false_eq_true, not_false_eq_true, not_true_eq_false, Nat.reduceLeDiff, Nat.reduceAdd, Nat.reduceEqDiff, Int.reduceToNat, Int.toNat_natCast, iB0, iB1, ru_klI, ru_klR, ru_klF, ru_klJ, ru_kl0, ru_cs0, ru_csI, ru_csR, ru_csF, ru_csJ, wI_add, wI_sub, wI_mul, wI_lt, wI_le, wI_inj, ru_fdE, ru_fdN, ru_iaN, ru_baN, ru_laN, ru_qaN, ru_pfN, ru_isN, ru_bsN, ru_jsN, ru_qsN, ru_set2, Nat.add_right_cancel_iff, if_true, if_false, ite_self, Int.reduceEq, and_self, Int.add_neg_cancel_right, Int.add_zero, Int.zero_add, a1, ← hX1, ru_ctR, p0, h1.1, g0, k24, k15, w1, q1, w2, List.length_nil, Nat.zero_le]
  · rw [ru_setN (by omega), q4 _ (by omega)]
    exact p1 q hq
end STR
