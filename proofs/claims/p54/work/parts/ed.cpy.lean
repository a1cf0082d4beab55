/-! ===== the law copies names ===== -/
def agA (B : Nat) (X Y : am_H) (c s : Nat) : Prop := (∀ q, q < X.2.1 → (q ≤ B ∨ B + 30 ≤ q) → Y.1 q = X.1 q) ∧ X.2.1 ≤ Y.2.1 ∧ Y.2.1 ≤ X.2.1 + c ∧ Y.2.2 ≤ X.2.2 + s
theorem agA_r {B : Nat} {X : am_H} : agA B X X 0 0 := ⟨fun _ _ _ => rfl, Nat.le_refl _, Nat.le_refl _, Nat.le_refl _⟩
theorem agA_x {B : Nat} {X Y : am_H} {c s : Nat} (h : agX X Y c s) : agA B X Y c s := ⟨fun q h1 _ => h.1 q h1, h.2⟩
theorem agA_e {B : Nat} {X Y : am_H} (h : ylE X Y B) : agA B X Y 0 0 := ⟨fun q _ h1 => h.1 q h1, by rw [h.2]; exact Nat.le_refl _, by rw [h.2]; exact Nat.le_refl _, by rw [h.2]; exact Nat.le_refl _⟩
theorem agA_t {B : Nat} {X Y W : am_H} {c s c' s' : Nat} (h : agA B X Y c s) (k : agA B Y W c' s') : agA B X W (c + c') (s + s') := ⟨fun q hq h2 => (k.1 q (by have := h.2.1; omega) h2).trans (h.1 q hq h2), by have := h.2.1; have := k.2.1; omega, by have := h.2.2.1; have := k.2.2.1; omega, by have := h.2.2.2; have := k.2.2.2; omega⟩
theorem agA_m {B : Nat} {X Y : am_H} {c s c' s' : Nat} (h : agA B X Y c s) (h1 : c ≤ c') (h2 : s ≤ s') : agA B X Y c' s' := ⟨h.1, h.2.1, by have := h.2.2.1; omega, by have := h.2.2.2; omega⟩
section CPY
variable {z : Bool} {B : Nat} {A : tLw}
theorem d415i (hA : ylR A) {f o n1 n2 m ha hb : Nat} {w1 w2 : Nat → Int} {NN : Int} {D N : Nat → Int} {s0 : tPh × Nat} {n0 : Nat} {vr : Int} (hf : f < 3) (ho : o < 3) (hne : o ≠ f) (h1 : n1 ≤ 12) (h2 : n2 ≤ 12) (hm : m = if n1 ≤ n2 then n1 else n2) (hNN : NN ≤ 20) (hD : ∀ j, j < m → D j = w1 j ∧ (0 ≤ w1 j ∧ w1 j < 12)) (hNj : ∀ j, j < m → N j = (A.2.1 o).2 3 (w2 j).toNat ∧ (0 ≤ w2 j ∧ w2 j < 12) ∧ N j < NN) (ka : B + 30 ≤ ha) (kb : B + 30 ≤ hb) : ∀ d k, k + d = m → ∀ (X : am_H) (q' : tPh), ylP X B (ylU A f q') → ha < X.2.1 → hb < X.2.1 → X.1 ha = some (ylI 0 n1 w1) → X.1 hb = some (ylI 0 n2 w2) → phR q' → phN q' NN → pheq (cpF D N k s0).1 q' →
    ∃ (X' : am_H) (q'' : tPh), ylP X' B (ylU A f q'') ∧ phR q'' ∧ phN q'' NN ∧ psE q'' q' ∧ pheq (cpF D N m s0).1 q'' ∧ agA B X X' 0 0 ∧
      ru_n z 415 45 [some (.ref 1000), some (.ref (B + 1)), some (.int (wI f)), some (.int (wI o)), some (.int (wI ((n0 + (cpF D N k s0).2 : Nat) : Int))), some (.int (wI vr)), some (.ref ha), some (.ref hb), some (.int (wI k))] [] X =
      ru_n z 415 108 [some (.ref 1000), some (.ref (B + 1)), some (.int (wI f)), some (.int (wI o)), some (.int (wI ((n0 + (cpF D N m s0).2 : Nat) : Int))), some (.int (wI vr)), some (.ref ha), some (.ref hb), some (.int (wI m))] [] X' := by
  have hmI : (if (n1 : Int) ≤ (n2 : Int) then (n1 : Int) else (n2 : Int)) = (m : Int) := by
    rw [hm]
    by_cases c : n1 ≤ n2
    · rw [if_pos c, if_pos (by omega)]
    · rw [if_neg c, if_neg (by omega)]
  intro d
  induction d with
  | zero =>
    intro k hk X q' hp k1 k2 a1 a2 r1 r2 r3
    obtain rfl : k = m := by omega
    refine ⟨X, q', hp, r1, r2, psE_refl _, r3, agA_r, ?_⟩
    have l1 : am_al X ha = some (wI n1) := ru_al a1 (by decide)
    have l2 : am_al X hb = some (wI n2) := ru_al a2 (by decide)
    simp (disch := omega) only [e415_45, e415_47, e415_49, e415_50, e415_52, e415_53, e415_56, ↓reduceIte, Bool.false_eq_true, not_false_eq_true, not_true_eq_false, Nat.reduceLeDiff, Nat.reduceAdd, Nat.reduceEqDiff, Int.reduceToNat, Int.toNat_natCast, iB0, iB1, ru_klI, ru_klR, ru_klF, ru_klJ, ru_kl0, ru_cs0, ru_csI, ru_csR, ru_csF, ru_csJ, wI_add, wI_sub, wI_mul, wI_lt, wI_le, wI_inj, ru_fdE, ru_fdN, ru_iaN, ru_baN, ru_laN, ru_qaN, ru_pfN, ru_isN, ru_bsN, ru_jsN, ru_qsN, ru_set2, Nat.add_right_cancel_iff, if_true, if_false, ite_self, Int.reduceEq, and_self, Int.add_neg_cancel_right, Int.add_zero, Int.zero_add, l1, l2, m264, hmI, Int.le_refl]
  | succ d ih =>
    intro k hk X q' hp k1 k2 a1 a2 r1 r2 r3
    have l1 : am_al X ha = some (wI n1) := ru_al a1 (by decide)
    have l2 : am_al X hb = some (wI n2) := ru_al a2 (by decide)
    have d1 : ((m : Int) ≤ (k : Int)) = False := eq_false (by omega)
    obtain ⟨t1, t2⟩ := hD k (by omega)
    obtain ⟨t3, t4, t5⟩ := hNj k (by omega)
    have km : k < n1 ∧ k < n2 := by rw [hm] at hk; split at hk <;> omega
    have i1 := yl_ia a1 (k := (k : Int)) (by omega) (by omega) (by omega)
    have i2 := yl_ia a2 (k := (k : Int)) (by omega) (by omega) (by omega)
    rw [Int.toNat_natCast] at i1 i2
    have i3 := yl_n hp (f := o) (k := w2 k) ho t4.1 t4.2
    rw [ylU_n hne, ← t3] at i3
    have nb := phR_i (hA o) (w2 k).toNat
    rw [← t3] at nb
    have ec : cpF D N (k + 1) s0 = if N k = -1 then cpF D N k s0 else (gvQ (cpF D N k s0).1 (D k).toNat (N k), (cpF D N k s0).2 + 1) := rfl
    by_cases c : N k = -1
    · rw [if_pos c] at ec
      obtain ⟨X', q'', b1, b2, b3, b4, b5, b6, b7⟩ := ih (k + 1) (by omega) X q' hp k1 k2 a1 a2 r1 r2 (by rw [ec]; exact r3)
      refine ⟨X', q'', b1, b2, b3, b4, b5, b6, ?_⟩
      rw [ec, show (((k + 1 : Nat)) : Int) = (k : Int) + 1 by omega] at b7
      have c2 : (0 ≤ N k) = False := eq_false (by omega)
      rw [← b7, e415_45]
      simp (disch := omega) only [e415_47, e415_49, e415_50, e415_52, e415_53, e415_56, e415_59, e415_60, e415_63, e415_64, e415_65, e415_67, e415_69, e415_70, e415_71, e415_74, e415_77, e415_78, e415_79, e415_81, e415_83, e415_84, e415_85, e415_88, e415_89, e415_90, e415_92, e415_94, e415_95, e415_96, e415_99, e415_102, e415_105, ↓reduceIte, Bool.false_eq_true, not_false_eq_true, not_true_eq_false, Nat.reduceLeDiff, Nat.reduceAdd, Nat.reduceEqDiff, Int.reduceToNat, Int.toNat_natCast, iB0, iB1, ru_klI, ru_klR, ru_klF, ru_klJ, ru_kl0, ru_cs0, ru_csI, ru_csR, ru_csF, ru_csJ, wI_add, wI_sub, wI_mul, wI_lt, wI_le, wI_inj, ru_fdE, ru_fdN, ru_iaN, ru_baN, ru_laN, ru_qaN, ru_pfN, ru_isN, ru_bsN, ru_jsN, ru_qsN, ru_set2, Nat.add_right_cancel_iff, if_true, if_false, ite_self, Int.reduceEq, and_self, Int.add_neg_cancel_right, Int.add_zero, Int.zero_add, l1, l2, m264, hmI, d1, i2, yl_o hp, yl_f12 hp, yl_q21 hp, i3, c2]
    · rw [if_neg c] at ec
      obtain ⟨e1, he1⟩ := Int.eq_ofNat_of_zero_le t2.1
      have g := d413 (z := z) hp (ylU_R hA r1) (f := f) (k := e1) (nm := N k) hf (by omega) (by omega)
      rw [ylU_s] at g
      obtain ⟨X1, g1, g2, g3⟩ := g
      rw [ylU_up] at g2
      have g2' : ylP X1 B (ylU A f (lgv q' e1 (N k))) := g2
      have q1 := lgv_R (k := e1) r1 (nm := N k) (by omega)
      have q2 := lgv_N (k := e1) r1 r2 (nm := N k) (by omega)
      have q3 := lgv_q (k := e1) (nm := N k) r3 r1 r2 (by omega)
      have x1 : X1.2 = X.2 := g3.2
      obtain ⟨X', q'', b1, b2, b3, b4, b5, b6, b7⟩ := ih (k + 1) (by omega) X1 _ g2' (by rw [x1]; exact k1) (by rw [x1]; exact k2) (by rw [g3.1 _ (Or.inr ka)]; exact a1) (by rw [g3.1 _ (Or.inr kb)]; exact a2) q1 q2 (by rw [ec, t1, he1, Int.toNat_natCast]; exact q3)
      refine ⟨X', q'', b1, b2, b3, psE_tr b4 lgv_E, b5, agA_t (agA_e g3) b6, ?_⟩
      rw [ec, show (((k + 1 : Nat)) : Int) = (k : Int) + 1 by omega] at b7
      have c2 : (0 ≤ N k) = True := eq_true (by omega)
      rw [← b7, e415_45]
      rw [he1] at i1
      simp (disch := omega) only [e415_47, e415_49, e415_50, e415_52, e415_53, e415_56, e415_59, e415_60, e415_63, e415_64, e415_65, e415_67, e415_69, e415_70, e415_71, e415_74, e415_77, e415_78, e415_79, e415_81, e415_83, e415_84, e415_85, e415_88, e415_89, e415_90, e415_92, e415_94, e415_95, e415_96, e415_99, e415_102, e415_105, ↓reduceIte, Bool.false_eq_true, not_false_eq_true, not_true_eq_false, Nat.reduceLeDiff, Nat.reduceAdd, Nat.reduceEqDiff, Int.reduceToNat, Int.toNat_natCast, iB0, iB1, ru_klI, ru_klR, ru_klF, ru_klJ, ru_kl0, ru_cs0, ru_csI, ru_csR, ru_csF, ru_csJ, wI_add, wI_sub, wI_mul, wI_lt, wI_le, wI_inj, ru_fdE, ru_fdN, ru_iaN, ru_baN, ru_laN, ru_qaN, ru_pfN, ru_isN, ru_bsN, ru_jsN, ru_qsN, ru_set2, Nat.add_right_cancel_iff, if_true, if_false, ite_self, Int.reduceEq, and_self, Int.add_neg_cancel_right, Int.add_zero, Int.zero_add, l1, l2, m264, hmI, d1, i1, i2, yl_o hp, yl_f12 hp, yl_q21 hp, i3, c2, g1]
      rw [show ((n0 + ((cpF D N k s0).2 + 1) : Nat) : Int) = ((n0 + (cpF D N k s0).2 : Nat) : Int) + 1 by omega]
end CPY
