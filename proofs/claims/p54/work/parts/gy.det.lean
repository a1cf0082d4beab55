/-! ===== draws told; a builder's growth told ===== -/
def drw (n : Nat) (g : Nat → Int32) (t : Nat) (lo hi : Int) : Int := lo + (if t < n then (g t &&& wI 2147483647).toInt else 0) % (hi - lo + 1)
theorem drw_b {n : Nat} {g : Nat → Int32} {t : Nat} {lo hi : Int} (h : lo ≤ hi) : lo ≤ drw n g t lo hi ∧ drw n g t lo hi ≤ hi := by
  unfold drw
  generalize (if t < n then (g t &&& wI 2147483647).toInt else 0) = k
  have a := Int.emod_nonneg k (show hi - lo + 1 ≠ 0 by omega)
  have b := Int.emod_lt_of_pos k (show 0 < hi - lo + 1 by omega)
  omega
section DET
variable {z : Bool} {X : am_H} {B n t : Nat} {g : Nat → Int32}
theorem d390u (h : dwP X B n g t) (hn : n ≤ 1000) (ht : t ≤ 1000000) {lo hi : Int} (g1 : -1000 ≤ lo) (g2 : lo ≤ hi) (g3 : hi ≤ 100000) : ru_ev z 390 [.ref B, .int (wI lo), .int (wI hi)] X = some (.inl (some (.int (wI (drw n g t lo hi)))), am_set X B (dwC (t + 1))) := by
  have f0 : am_fd X B 12 0 = some (.ref 1) := ru_fd h.2 rfl
  have f1 : am_fd X B 12 1 = some (.int (wI t)) := ru_fd h.2 rfl
  have al : am_al X 1 = some (wI n) := ru_al h.1 (by decide)
  have pf : am_pf X B 12 1 0 (.int (wI ((t : Int) + 1))) = some (am_set X B (dwC (t + 1))) := by
    rw [ru_pf0 h.2 ⟨by decide, by show 1 < 2; decide⟩]
    rw [show (t : Int) + 1 = ((t + 1 : Nat) : Int) by omega]
    rfl
  have eo : ∃ fs, X.1 B = some (.inr (12, fs)) := ⟨_, h.2⟩
  have dp : 0 < hi - lo + 1 := by omega
  obtain ⟨fs, eo⟩ := eo
  unfold drw
  by_cases c : t < n
  · have c2 : ((n : Int) ≤ (t : Int)) = False := eq_false (by omega)
    obtain ⟨k, e, k1, k2⟩ := wI_31 (g t)
    have ek : (g t &&& wI 2147483647).toInt = k := by rw [e]; exact wI_toInt (by omega) (by omega)
    rw [if_pos c, ek]
    have ia : am_ia X 1 (wI t) = some (g t) := (ru_ia10 (z := (t : Int)) h.1 (by omega) (by omega) (by omega)).trans (by rw [Int.toNat_natCast])
    have r := wI_rem (a := k) (b := hi - lo + 1) k1 k2 dp (by omega)
    have n0 := wI_ne0 (a := hi - lo + 1) dp (by omega)
    simp (disch := omega) only [en390, e390_0, e390_1, e390_4, e390_5, e390_8, e390_9, e390_12, e390_13, e390_16, e390_17, e390_20, e390_21, e390_23, e390_24, e390_27, e390_28, e390_29, e390_30, e390_31, e390_34, e390_35, e390_36, e390_39, e390_40, e390_41, e390_42, e390_43, e390_44, e390_45, e390_46, e390_47, e390_48, ↓reduceIte, Bool.false_eq_true, not_false_eq_true, not_true_eq_false, Nat.reduceLeDiff, Nat.reduceAdd, Nat.reduceEqDiff, Int.reduceToNat, Int.toNat_natCast, iB0, iB1, ru_klI, ru_klR, ru_klF, ru_klJ, ru_kl0, ru_cs0, ru_csI, ru_csR, ru_csF, ru_csJ, wI_add, wI_sub, wI_mul, wI_lt, wI_le, wI_inj, ru_fdE, ru_fdN, ru_iaN, ru_baN, ru_laN, ru_qaN, ru_pfN, ru_isN, ru_bsN, ru_jsN, ru_qsN, ru_set2, Nat.add_right_cancel_iff, if_true, if_false, ite_self, Int.reduceEq, and_self, Int.add_neg_cancel_right, Int.add_zero, Int.zero_add, eo, f0, f1, al, c2, ia, e, ru_ctR, pf, n0, r]
  · have c2 : ((n : Int) ≤ (t : Int)) = True := eq_true (by omega)
    rw [if_neg c]
    have r := wI_rem (a := 0) (b := hi - lo + 1) (by omega) (by omega) dp (by omega)
    have n0 := wI_ne0 (a := hi - lo + 1) dp (by omega)
    simp (disch := omega) only [en390, e390_0, e390_1, e390_4, e390_5, e390_8, e390_9, e390_12, e390_13, e390_16, e390_17, e390_20, e390_21, e390_23, e390_24, e390_27, e390_28, e390_29, e390_30, e390_31, e390_34, e390_35, e390_36, e390_39, e390_40, e390_41, e390_42, e390_43, e390_44, e390_45, e390_46, e390_47, e390_48, ↓reduceIte, Bool.false_eq_true, not_false_eq_true, not_true_eq_false, Nat.reduceLeDiff, Nat.reduceAdd, Nat.reduceEqDiff, Int.reduceToNat, Int.toNat_natCast, iB0, iB1, ru_klI, ru_klR, ru_klF, ru_klJ, ru_kl0, ru_cs0, ru_csI, ru_csR, ru_csF, ru_csJ, wI_add, wI_sub, wI_mul, wI_lt, wI_le, wI_inj, ru_fdE, ru_fdN, ru_iaN, ru_baN, ru_laN, ru_qaN, ru_pfN, ru_isN, ru_bsN, ru_jsN, ru_qsN, ru_set2, Nat.add_right_cancel_iff, if_true, if_false, ite_self, Int.reduceEq, and_self, Int.add_neg_cancel_right, Int.add_zero, Int.zero_add, eo, f0, f1, al, c2, ru_ctR, pf, n0, r]
end DET
/-- a builder whose row lies at r, of room cap, has room for n -/
def grC (cap n : Nat) : Nat := if n ≤ cap then cap else nwC cap n
def grN (cap n : Nat) : Nat := if n ≤ cap then 0 else 1
def grR (cap n r e : Nat) : Nat := if n ≤ cap then r else e
def gbG (X X' : am_H) (S r r' cap cap' n : Nat) : Prop := cap' = grC cap n ∧ X'.2.1 = X.2.1 + grN cap n ∧ r' = grR cap n r X.2.1
section GBU
variable {z : Bool} {X : am_H} {S r : Nat} {m : Int} {f : Nat → Int} {l : List Nat} {cap : Nat}
theorem h303 (h : gbS X S r m f l cap) {n : Nat} (hm : n ≤ 500) : ∃ X' r' f' cap', ru_ev z 303 [.ref S, .int (wI n)] X = some (.inl none, X') ∧ gbS X' S r' m f' l cap' ∧ n ≤ cap' ∧ gbOn X X' S r r' cap cap' ∧ gbG X X' S r r' cap cap' n := by
  have al := gb_al h
  have g0 := gb_f0 h
  have g1 := gb_f1 h
  obtain ⟨a1, a2, a3, a4, a5, a6, a7, a8⟩ := id h
  have s := wI_sh0 (a := cap) (by omega)
  by_cases c : n ≤ cap
  · have d1 : ((n : Int) - (cap : Int) ≤ 0) = True := eq_true (by omega)
    refine ⟨X, r, f, cap, ?_, h, c, gbOn_refl _ _ _ _, by unfold grC; rw [if_pos c], by unfold grN; rw [if_pos c]; rfl, by unfold grR; rw [if_pos c]⟩
    simp (disch := omega) only [en303, e303_0, e303_1, e303_4, e303_5, e303_6, e303_9, e303_10, e303_11, e303_12, e303_13, e303_14, e303_17, e303_18, e303_19, e303_22, e303_23, e303_24, e303_27, e303_28, e303_31, e303_32, e303_35, e303_38, ↓reduceIte, Bool.false_eq_true, not_false_eq_true, not_true_eq_false, Nat.reduceLeDiff, Nat.reduceAdd, Nat.reduceEqDiff, Int.reduceToNat, Int.toNat_natCast, iB0, iB1, ru_klI, ru_klR, ru_klF, ru_klJ, ru_kl0, ru_cs0, ru_csI, ru_csR, ru_csF, ru_csJ, wI_add, wI_sub, wI_mul, wI_lt, wI_le, wI_inj, ru_fdE, ru_fdN, ru_iaN, ru_baN, ru_laN, ru_qaN, ru_pfN, ru_isN, ru_bsN, ru_jsN, ru_qsN, ru_set2, Nat.add_right_cancel_iff, if_true, if_false, ite_self, Int.reduceEq, and_self, Int.add_neg_cancel_right, Int.add_zero, Int.zero_add, a1, g0, g1, al, s.1, d1]
  · have d1 : ((n : Int) - (cap : Int) ≤ 0) = False := eq_false (by omega)
    have k4 := g304 (z := z) h hm (by omega)
    have hn : nwC cap n ≤ 1002 ∧ cap < nwC cap n ∧ n ≤ nwC cap n ∧ cap + 1 ≤ nwC cap n ∧ nwC cap n + 2 * cap ≤ 2 * nwC cap n := by unfold nwC; split <;> omega
    obtain ⟨X', f', k6, u1, u2, u3, u4, u5⟩ := g306 (z := z) h (n := nwC cap n) hn.1 hn.2.1
    have s2 := wI_sh0 (a := nwC cap n) (by omega)
    have a1' : X'.1 S = some (.inr (11, gsL r m (l.length : Nat))) := by rw [u3 S (by omega)]; exact a1
    have w : am_pf X' S 11 0 2 (.ref X.2.1) = some (am_set X' S (.inr (11, gsL X.2.1 m (l.length : Nat)))) := ru_pf2 a1' ⟨by decide, by show 0 < 4; decide⟩
    refine ⟨am_set X' S (.inr (11, gsL X.2.1 m (l.length : Nat))), X.2.1, f', nwC cap n, ?_, ⟨ru_setE _ _ _, by rw [ru_setN (by omega)]; exact u1, u2, by omega, hn.1, by show S < X'.2.1; omega, by show X.2.1 < X'.2.1; omega, by omega⟩, hn.2.2.1, ⟨fun q h1 h2 h3 => by rw [ru_setN h2]; exact u3 q (by omega), by show X.2.1 ≤ X'.2.1; omega, by show X'.2.1 + cap ≤ _; omega, by show X'.2.2 + 2 * cap ≤ _; omega, Or.inr (Nat.le_refl _)⟩, by unfold grC; rw [if_neg c], by unfold grN; rw [if_neg c]; exact u4, by unfold grR; rw [if_neg c]⟩
    simp (disch := omega) only [en303, e303_0, e303_1, e303_4, e303_5, e303_6, e303_9, e303_10, e303_11, e303_12, e303_13, e303_14, e303_17, e303_18, e303_19, e303_22, e303_23, e303_24, e303_27, e303_28, e303_31, e303_32, e303_35, e303_38, ↓reduceIte, Bool.false_eq_true, not_false_eq_true, not_true_eq_false, Nat.reduceLeDiff, Nat.reduceAdd, Nat.reduceEqDiff, Int.reduceToNat, Int.toNat_natCast, iB0, iB1, ru_klI, ru_klR, ru_klF, ru_klJ, ru_kl0, ru_cs0, ru_csI, ru_csR, ru_csF, ru_csJ, wI_add, wI_sub, wI_mul, wI_lt, wI_le, wI_inj, ru_fdE, ru_fdN, ru_iaN, ru_baN, ru_laN, ru_qaN, ru_pfN, ru_isN, ru_bsN, ru_jsN, ru_qsN, ru_set2, Nat.add_right_cancel_iff, if_true, if_false, ite_self, Int.reduceEq, and_self, Int.add_neg_cancel_right, Int.add_zero, Int.zero_add, a1, g0, g1, al, s.1, d1, k4, s2.1, s2.2.1, k6, w]
theorem h307 (h : gbS X S r m f l cap) {Q V : Nat} {t : List Nat} (hs : gT X Q V t) (hq : Q < X.2.1 ∧ Q ≠ S ∧ Q ≠ r) (hv : V < X.2.1 ∧ V ≠ S ∧ V ≠ r) (hc : l.length + t.length ≤ 500) (ht : t.length ≤ 100) : ∃ X' r' f' cap', ru_ev z 307 [.ref S, .ref Q] X = some (.inl (some (.ref S)), X') ∧ gbS X' S r' m f' (l ++ t) cap' ∧ gbOn X X' S r r' cap cap' ∧ gbG X X' S r r' cap cap' (l.length + t.length) := by
  obtain ⟨a1, a2, a3, a4, a5, a6, a7, a8⟩ := id h
  have kl := g29 (z := z) hs (by omega)
  obtain ⟨X1, r1, f1, cap1, k3, b1, b2, b3, b9⟩ := h303 (z := z) h (n := l.length + t.length) hc
  have hs1 := gT_on hs hq hv b3
  have hV1 : V ≠ r1 := by have := b3.2.2.2.2; omega
  obtain ⟨f', u1, u2⟩ := g311 (z := z) b1 hs1 hV1 b2 ht
  have hlen : (l ++ t).length = l.length + t.length := List.length_append
  obtain ⟨v1, v2⟩ := gb_put (f' := f') b1 (l' := l ++ t) (by omega) (fun i hi => u1 i (by omega))
  have g3 := gb_f3 h
  have c1 := b1.1
  have g3' := gb_f3 b1
  have g0' := gb_f0 b1
  have g1' := gb_f1 b1
  have c2 := gb_row b1 f'
  have g3'' : am_fd (am_set X1 r1 (.inl (1, cap1, .inl (fun i => wI (f' i))))) S 11 3 = some (.int (wI (l.length : Nat))) := ru_fd c2 rfl
  have w := gb_cnt c2 ((l ++ t).length : Nat)
  rw [show ((l.length + t.length : Nat) : Int) = (l.length : Int) + (t.length : Int) by omega] at k3
  have k30' := k30 (z := z) hs1.1
  have e310 : ru_ev z 310 [.ref S, .ref Q] X1 = some (.inl none, X1) := by
    simp (disch := omega) only [en310, e310_0, e310_3, e310_6, e310_7, e310_10, e310_11, e310_14, e310_21, ↓reduceIte, Bool.false_eq_true, not_false_eq_true, not_true_eq_false, Nat.reduceLeDiff, Nat.reduceAdd, Nat.reduceEqDiff, Int.reduceToNat, Int.toNat_natCast, iB0, iB1, ru_klI, ru_klR, ru_klF, ru_klJ, ru_kl0, ru_cs0, ru_csI, ru_csR, ru_csF, ru_csJ, wI_add, wI_sub, wI_mul, wI_lt, wI_le, wI_inj, ru_fdE, ru_fdN, ru_iaN, ru_baN, ru_laN, ru_qaN, ru_pfN, ru_isN, ru_bsN, ru_jsN, ru_qsN, ru_set2, Nat.add_right_cancel_iff, if_true, if_false, ite_self, Int.reduceEq, and_self, Int.add_neg_cancel_right, Int.add_zero, Int.zero_add, c1, g1', k30', Int.reduceEq]
  have e309 : ru_ev z 309 [.ref S, .int (wI (l.length : Nat)), .ref Q] X1 = some (.inl none, am_set X1 r1 (.inl (1, cap1, .inl (fun i => wI (f' i))))) := by
    simp (disch := omega) only [en309, e309_0, e309_1, e309_2, e309_5, e309_6, e309_7, e309_10, e309_11, e309_12, e309_15, e309_18, ↓reduceIte, Bool.false_eq_true, not_false_eq_true, not_true_eq_false, Nat.reduceLeDiff, Nat.reduceAdd, Nat.reduceEqDiff, Int.reduceToNat, Int.toNat_natCast, iB0, iB1, ru_klI, ru_klR, ru_klF, ru_klJ, ru_kl0, ru_cs0, ru_csI, ru_csR, ru_csF, ru_csJ, wI_add, wI_sub, wI_mul, wI_lt, wI_le, wI_inj, ru_fdE, ru_fdN, ru_iaN, ru_baN, ru_laN, ru_qaN, ru_pfN, ru_isN, ru_bsN, ru_jsN, ru_qsN, ru_set2, Nat.add_right_cancel_iff, if_true, if_false, ite_self, Int.reduceEq, and_self, Int.add_neg_cancel_right, Int.add_zero, Int.zero_add, c1, g0', g1', e310, u2]
  have e308 : ru_ev z 308 [.ref S, .ref Q] X = some (.inl (some (.ref S)), am_set (am_set X1 r1 (.inl (1, cap1, .inl (fun i => wI (f' i))))) S (.inr (11, gsL r1 m ((l ++ t).length : Nat)))) := by
    rw [show (((l ++ t).length : Nat) : Int) = (l.length : Int) + (t.length : Int) by omega] at w ⊢
    simp (disch := omega) only [en308, e308_0, e308_1, e308_9, e308_10, e308_13, e308_14, e308_15, e308_16, e308_19, e308_20, e308_21, e308_24, e308_25, e308_26, e308_29, e308_30, e308_33, e308_34, e308_35, e308_38, e308_39, e308_40, e308_43, e308_44, ↓reduceIte, Bool.false_eq_true, not_false_eq_true, not_true_eq_false, Nat.reduceLeDiff, Nat.reduceAdd, Nat.reduceEqDiff, Int.reduceToNat, Int.toNat_natCast, iB0, iB1, ru_klI, ru_klR, ru_klF, ru_klJ, ru_kl0, ru_cs0, ru_csI, ru_csR, ru_csF, ru_csJ, wI_add, wI_sub, wI_mul, wI_lt, wI_le, wI_inj, ru_fdE, ru_fdN, ru_iaN, ru_baN, ru_laN, ru_qaN, ru_pfN, ru_isN, ru_bsN, ru_jsN, ru_qsN, ru_set2, Nat.add_right_cancel_iff, if_true, if_false, ite_self, Int.reduceEq, and_self, Int.add_neg_cancel_right, Int.add_zero, Int.zero_add, a1, kl, g3, k3, g3', e309, g3'', w, ru_ctR]
  refine ⟨_, r1, f', cap1, ?_, v1, gbOn_tr b3 v2, b9⟩
  simp (disch := omega) only [en307, e307_0, e307_1, e307_2, e307_5, e307_6, e307_7, ↓reduceIte, Bool.false_eq_true, not_false_eq_true, not_true_eq_false, Nat.reduceLeDiff, Nat.reduceAdd, Nat.reduceEqDiff, Int.reduceToNat, Int.toNat_natCast, iB0, iB1, ru_klI, ru_klR, ru_klF, ru_klJ, ru_kl0, ru_cs0, ru_csI, ru_csR, ru_csF, ru_csJ, wI_add, wI_sub, wI_mul, wI_lt, wI_le, wI_inj, ru_fdE, ru_fdN, ru_iaN, ru_baN, ru_laN, ru_qaN, ru_pfN, ru_isN, ru_bsN, ru_jsN, ru_qsN, ru_set2, Nat.add_right_cancel_iff, if_true, if_false, ite_self, Int.reduceEq, and_self, Int.add_neg_cancel_right, Int.add_zero, Int.zero_add, a1, e308, ru_ctR]
theorem h319 (h : gbS X S r m f l cap) {c : Nat} (hc : c ≤ 127) (hl : l.length + 1 ≤ 500) : ∃ X' r' f' cap', ru_ev z 319 [.ref S, .int (wI c)] X = some (.inl (some (.ref S)), X') ∧ gbS X' S r' m f' (l ++ [c]) cap' ∧ gbOn X X' S r r' cap cap' ∧ gbG X X' S r r' cap cap' (l.length + 1) := by
  obtain ⟨a1, a2, a3, a4, a5, a6, a7, a8⟩ := id h
  obtain ⟨X1, r1, f1, cap1, k3, b1, b2, b3, b9⟩ := h303 (z := z) h (n := l.length + 1) hl
  obtain ⟨e1, e2, e3, e4, e5, e6, e7, e8⟩ := id b1
  have hlen : (l ++ [c]).length = l.length + 1 := by rw [List.length_append]; rfl
  have hf9 : ∀ i, i < (l ++ [c]).length → up1 f1 l.length (c : Int) i = (((l ++ [c]).getD i 0 : Nat) : Int) := fun i hi => by
    rw [getD_app]
    unfold up1
    by_cases ei : i = l.length
    · rw [if_pos ei, if_neg (by omega), ei, Nat.sub_self]; rfl
    · rw [if_neg ei, if_pos (by omega), e3 i (by omega)]
  have g3 := gb_f3 h
  have c1 := b1.1
  have g0' := gb_f0 b1
  have g3' := gb_f3 b1
  have w := gb_cnt b1.1 ((l.length : Int) + 1)
  rw [show ((l.length + 1 : Nat) : Int) = (l.length : Int) + 1 by omega] at k3
  have hlat := g315 (z := z) b1
  have en : ru_ev z 321 [.int (wI c)] X1 = some (.inl (some (.int (wI 1))), X1) := by
    have a1 : wI 1 &&& 1 = wI 1 := by decide +kernel
    have d1 : ((255 : Int) < (c : Int)) = False := eq_false (by omega)
    simp (disch := omega) only [en321, e321_0, e321_1, e321_4, e321_7, e321_8, e321_12, ↓reduceIte, Bool.false_eq_true, not_false_eq_true, not_true_eq_false, Nat.reduceLeDiff, Nat.reduceAdd, Nat.reduceEqDiff, Int.reduceToNat, Int.toNat_natCast, iB0, iB1, ru_klI, ru_klR, ru_klF, ru_klJ, ru_kl0, ru_cs0, ru_csI, ru_csR, ru_csF, ru_csJ, wI_add, wI_sub, wI_mul, wI_lt, wI_le, wI_inj, ru_fdE, ru_fdN, ru_iaN, ru_baN, ru_laN, ru_qaN, ru_pfN, ru_isN, ru_bsN, ru_jsN, ru_qsN, ru_set2, Nat.add_right_cancel_iff, if_true, if_false, ite_self, Int.reduceEq, and_self, Int.add_neg_cancel_right, Int.add_zero, Int.zero_add, d1, a1]
  have n1 := am_nb_s (v := (c : Int)) (by omega) (by omega)
  have ew : am_bs (am_set X1 S (.inr (11, gsL r1 m ((l.length : Int) + 1)))) r1 (wI (l.length : Nat)) (wI (c : Nat)) = some (am_set (am_set X1 S (.inr (11, gsL r1 m ((l.length : Int) + 1)))) r1 (.inl (1, cap1, .inl (fun i => wI (up1 f1 l.length (c : Int) i))))) := by
    have e8' : (am_set X1 S (.inr (11, gsL r1 m ((l.length : Int) + 1)))).1 r1 = some (.inl (1, cap1, .inl (fun i => wI (f1 i)))) := by rw [ru_setN (Ne.symm e8)]; exact e2
    rw [ru_bs e8' (by omega) (by omega) (by omega), n1, Int.toNat_natCast]
    have e0 : am_up (fun i => wI (f1 i)) l.length (wI (c : Nat)) = fun i => wI (up1 f1 l.length (c : Int) i) := by
      funext j; unfold am_up up1; split <;> rfl
    rw [e0]
  have d0 : ((1 : Int) = 0) = False := eq_false (by decide)
  have e320 : ru_ev z 320 [.ref S, .int (wI c)] X = some (.inl (some (.ref S)), am_set (am_set X1 S (.inr (11, gsL r1 m ((l.length : Int) + 1)))) r1 (.inl (1, cap1, .inl (fun i => wI (up1 f1 l.length (c : Int) i))))) := by
    simp (disch := omega) only [en320, e320_0, e320_1, e320_2, e320_5, e320_6, e320_7, e320_10, e320_11, e320_14, e320_17, e320_18, e320_21, e320_24, e320_25, e320_28, e320_29, e320_30, e320_33, e320_34, e320_35, e320_36, e320_39, e320_40, e320_41, e320_42, e320_75, e320_76, ↓reduceIte, Bool.false_eq_true, not_false_eq_true, not_true_eq_false, Nat.reduceLeDiff, Nat.reduceAdd, Nat.reduceEqDiff, Int.reduceToNat, Int.toNat_natCast, iB0, iB1, ru_klI, ru_klR, ru_klF, ru_klJ, ru_kl0, ru_cs0, ru_csI, ru_csR, ru_csF, ru_csJ, wI_add, wI_sub, wI_mul, wI_lt, wI_le, wI_inj, ru_fdE, ru_fdN, ru_iaN, ru_baN, ru_laN, ru_qaN, ru_pfN, ru_isN, ru_bsN, ru_jsN, ru_qsN, ru_set2, Nat.add_right_cancel_iff, if_true, if_false, ite_self, Int.reduceEq, and_self, Int.add_neg_cancel_right, Int.add_zero, Int.zero_add, a1, c1, g3, k3, hlat, en, d0, g0', g3', ru_ctR, ru_ctI, w, n1, ew, and_self]
  refine ⟨am_set (am_set X1 S (.inr (11, gsL r1 m ((l.length : Int) + 1)))) r1 (.inl (1, cap1, .inl (fun i => wI (up1 f1 l.length (c : Int) i)))), r1, up1 f1 l.length (c : Int), cap1, ?_, ⟨?_, ru_setE _ _ _, hf9, by omega, e5, e6, e7, e8⟩, gbOn_tr b3 ⟨fun q h1 h2 h3 => by rw [ru_setN h3, ru_setN h2], Nat.le_refl _, Nat.le_refl _, Nat.le_refl _, Or.inl rfl⟩, b9⟩
  · simp (disch := omega) only [en319, e319_0, e319_1, e319_2, e319_5, e319_6, e319_7, ↓reduceIte, Bool.false_eq_true, not_false_eq_true, not_true_eq_false, Nat.reduceLeDiff, Nat.reduceAdd, Nat.reduceEqDiff, Int.reduceToNat, Int.toNat_natCast, iB0, iB1, ru_klI, ru_klR, ru_klF, ru_klJ, ru_kl0, ru_cs0, ru_csI, ru_csR, ru_csF, ru_csJ, wI_add, wI_sub, wI_mul, wI_lt, wI_le, wI_inj, ru_fdE, ru_fdN, ru_iaN, ru_baN, ru_laN, ru_qaN, ru_pfN, ru_isN, ru_bsN, ru_jsN, ru_qsN, ru_set2, Nat.add_right_cancel_iff, if_true, if_false, ite_self, Int.reduceEq, and_self, Int.add_neg_cancel_right, Int.add_zero, Int.zero_add, a1, e320, ru_ctR]
  · rw [ru_setN e8, show (((l ++ [c]).length : Nat) : Int) = (l.length : Int) + 1 by omega]
    exact ru_setE _ _ _
theorem h312 (h : gbS X S r m f l cap) (hd : dgI X) (hS : 100 < S) (hr : 100 < r) {v : Nat} (hv : v ≤ 99) (hc : l.length + (numT v).length ≤ 500) : ∃ X' r' f' cap', ru_ev z 312 [.ref S, .int (wI v)] X = some (.inl (some (.ref S)), X') ∧ gbS X' S r' m f' (l ++ numT v) cap' ∧ gbOn X X' S r r' cap cap' ∧ gbG X X' S r r' cap cap' (l.length + (numT v).length) := by
  obtain ⟨a1, a2, a3, a4, a5, a6, a7, a8⟩ := id h
  obtain ⟨X1, r1, f1, cap1, k3, b1, b2, b3, b9⟩ := h303 (z := z) h (n := l.length + (numT v).length) hc
  have hd1 : dgI X1 := by
    obtain ⟨⟨fo, o1, o2⟩, ft, t1, t2⟩ := hd
    exact ⟨⟨fo, by rw [b3.1 10 (by omega) (by omega) (by omega)]; exact o1, o2⟩, ft, by rw [b3.1 11 (by omega) (by omega) (by omega)]; exact t1, t2⟩
  have hr1 : 100 < r1 := by have := b3.2.2.2.2; omega
  obtain ⟨f', u1, q, u2⟩ := g316 (z := z) b1 hd1 hr1 hv b2
  have hlen : (l ++ numT v).length = l.length + (numT v).length := List.length_append
  obtain ⟨v1, v2⟩ := gb_put (f' := f') b1 (l' := l ++ numT v) (by omega) (fun i hi => u1 i (by omega))
  have g3 := gb_f3 h
  have c1 := b1.1
  have g0' := gb_f0 b1
  have w := gb_cnt (gb_row b1 f') ((l ++ numT v).length : Nat)
  have c2 := gb_row b1 f'
  have ks := k314 (z := z) (X := X) (v := (v : Int)) (by omega) (by omega)
  have hlat := g315 (z := z) b1
  have d0 : ((1 : Int) = 0) = False := eq_false (by decide)
  have es : (l.length : Int) + (if (v : Int) < 10 then 1 else 2) = ((l ++ numT v).length : Int) := by
    rw [hlen, numT_len]
    by_cases c : v < 10
    · rw [if_pos c, if_pos (by omega)]; omega
    · rw [if_neg c, if_neg (by omega)]; omega
  rw [show ((l.length + (numT v).length : Nat) : Int) = ((l ++ numT v).length : Int) by omega] at k3 u2
  have e313 : ru_ev z 313 [.ref S, .int (wI v)] X = some (.inl (some (.ref S)), am_set (am_set X1 r1 (.inl (1, cap1, .inl (fun i => wI (f' i))))) S (.inr (11, gsL r1 m ((l ++ numT v).length : Nat)))) := by
    simp (disch := omega) only [en313, e313_0, e313_1, e313_4, e313_5, e313_6, e313_7, e313_10, e313_11, e313_12, e313_13, e313_14, e313_17, e313_18, e313_21, e313_24, e313_25, e313_26, e313_27, e313_30, e313_33, e313_34, e313_48, e313_49, e313_50, e313_53, e313_54, ↓reduceIte, Bool.false_eq_true, not_false_eq_true, not_true_eq_false, Nat.reduceLeDiff, Nat.reduceAdd, Nat.reduceEqDiff, Int.reduceToNat, Int.toNat_natCast, iB0, iB1, ru_klI, ru_klR, ru_klF, ru_klJ, ru_kl0, ru_cs0, ru_csI, ru_csR, ru_csF, ru_csJ, wI_add, wI_sub, wI_mul, wI_lt, wI_le, wI_inj, ru_fdE, ru_fdN, ru_iaN, ru_baN, ru_laN, ru_qaN, ru_pfN, ru_isN, ru_bsN, ru_jsN, ru_qsN, ru_set2, Nat.add_right_cancel_iff, if_true, if_false, ite_self, Int.reduceEq, and_self, Int.add_neg_cancel_right, Int.add_zero, Int.zero_add, a1, c1, g3, ks, es, k3, hlat, d0, g0', u2, c2, w, ru_ctI]
  refine ⟨_, r1, f', cap1, ?_, v1, gbOn_tr b3 v2, b9⟩
  simp (disch := omega) only [en312, e312_0, e312_1, e312_2, e312_5, e312_6, e312_7, ↓reduceIte, Bool.false_eq_true, not_false_eq_true, not_true_eq_false, Nat.reduceLeDiff, Nat.reduceAdd, Nat.reduceEqDiff, Int.reduceToNat, Int.toNat_natCast, iB0, iB1, ru_klI, ru_klR, ru_klF, ru_klJ, ru_kl0, ru_cs0, ru_csI, ru_csR, ru_csF, ru_csJ, wI_add, wI_sub, wI_mul, wI_lt, wI_le, wI_inj, ru_fdE, ru_fdN, ru_iaN, ru_baN, ru_laN, ru_qaN, ru_pfN, ru_isN, ru_bsN, ru_jsN, ru_qsN, ru_set2, Nat.add_right_cancel_iff, if_true, if_false, ite_self, Int.reduceEq, and_self, Int.add_neg_cancel_right, Int.add_zero, Int.zero_add, a1, e313, ru_ctR]
end GBU
theorem am_is_o {X X' : am_H} {a : Nat} {i v : Int32} (h : am_is X a i v = some X') : (∀ q, q ≠ a → X'.1 q = X.1 q) ∧ X'.2 = X.2 := by
  unfold am_is at h
  split at h
  · split at h
    · rw [← Option.some.inj h]
      exact ⟨fun q hq => ru_setN hq, rfl⟩
    · cases h
  · cases h
theorem am_bs_o {X X' : am_H} {a : Nat} {i v : Int32} (h : am_bs X a i v = some X') : (∀ q, q ≠ a → X'.1 q = X.1 q) ∧ X'.2 = X.2 := by
  unfold am_bs at h
  split at h
  · split at h
    · split at h
      · rw [← Option.some.inj h]
        exact ⟨fun q hq => ru_setN hq, rfl⟩
      · split at h
        · rw [← Option.some.inj h]
          exact ⟨fun q hq => ru_setN hq, rfl⟩
        · cases h
    · cases h
  · cases h
