/-! ===== a StringBuilder anywhere in the heap ===== -/
def gsL (r : Nat) (m n : Int) : List Value := [.ref r, .int (wI 0), .int (wI m), .int (wI n)]
/-- at S a builder that holds the text l; its row r has room for cap -/
def gbS (X : am_H) (S r : Nat) (m : Int) (f : Nat → Int) (l : List Nat) (cap : Nat) : Prop := X.1 S = some (.inr (11, gsL r m (l.length : Nat))) ∧ X.1 r = some (.inl (1, cap, .inl (fun i => wI (f i)))) ∧ (∀ i, i < l.length → f i = ((l.getD i 0 : Nat) : Int)) ∧ l.length ≤ cap ∧ cap ≤ 1002 ∧ S < X.2.1 ∧ r < X.2.1 ∧ S ≠ r
/-- what stays -/
def gbOn (X X' : am_H) (S r r' cap cap' : Nat) : Prop := (∀ q, q < X.2.1 → q ≠ S → q ≠ r → X'.1 q = X.1 q) ∧ X.2.1 ≤ X'.2.1 ∧ X'.2.1 + cap ≤ X.2.1 + cap' ∧ X'.2.2 + 2 * cap ≤ X.2.2 + 2 * cap' ∧ (r' = r ∨ X.2.1 ≤ r')
theorem gbOn_refl (X : am_H) (S r cap : Nat) : gbOn X X S r r cap cap := ⟨fun _ _ _ _ => rfl, Nat.le_refl _, Nat.le_refl _, Nat.le_refl _, Or.inl rfl⟩
theorem gbOn_tr {X Y Z : am_H} {S r r1 r2 c c1 c2 : Nat} (h : gbOn X Y S r r1 c c1) (k : gbOn Y Z S r1 r2 c1 c2) : gbOn X Z S r r2 c c2 := by
  obtain ⟨a1, a2, a3, a4, a5⟩ := h
  obtain ⟨b1, b2, b3, b4, b5⟩ := k
  refine ⟨fun q h1 h2 h3 => ?_, by omega, by omega, by omega, by omega⟩
  rw [b1 q (by omega) h2 (by omega)]
  exact a1 q h1 h2 h3
/-- a text: object and bytes -/
def gT (X : am_H) (S V : Nat) (t : List Nat) : Prop := X.1 S = some (.inr (50, [.ref V, .int (wI 0)])) ∧ ∃ (k : Nat) (f : Nat → Int32), (k = 1 ∨ k = 11) ∧ X.1 V = some (.inl (k, t.length, .inl f)) ∧ ∀ j, j < t.length → f j = wI ((t.getD j 0 : Nat) : Int)
section GB
variable {z : Bool} {X : am_H} {S r : Nat} {m : Int} {f : Nat → Int} {l : List Nat} {cap : Nat}
theorem gb_f0 (h : gbS X S r m f l cap) : am_fd X S 11 0 = some (.ref r) := ru_fd h.1 rfl
theorem gb_f1 (h : gbS X S r m f l cap) : am_fd X S 11 1 = some (.int (wI 0)) := ru_fd h.1 rfl
theorem gb_f3 (h : gbS X S r m f l cap) : am_fd X S 11 3 = some (.int (wI (l.length : Nat))) := ru_fd h.1 rfl
theorem gb_al (h : gbS X S r m f l cap) : am_al X r = some (wI cap) := ru_al h.2.1 (by decide)
theorem g29 {V : Nat} {t : List Nat} (h : gT X S V t) (ht : t.length ≤ 1000) : ru_ev z 29 [.ref S] X = some (.inl (some (.int (wI (t.length : Nat)))), X) := by
  obtain ⟨h1, k, g, hk, h2, h3⟩ := h
  have f0 : am_fd X S 50 0 = some (.ref V) := ru_fd h1 rfl
  have al : am_al X V = some (wI (t.length : Nat)) := ru_al h2 (by omega)
  have s := wI_sh0 (a := t.length) (by omega)
  simp (disch := omega) only [en29, e29_0, e29_1, e29_4, e29_5, e29_6, e29_9, e29_10, ↓reduceIte, Bool.false_eq_true, not_false_eq_true, not_true_eq_false, Nat.reduceLeDiff, Nat.reduceAdd, Nat.reduceEqDiff, Int.reduceToNat, Int.toNat_natCast, iB0, iB1, ru_klI, ru_klR, ru_klF, ru_klJ, ru_kl0, ru_cs0, ru_csI, ru_csR, ru_csF, ru_csJ, wI_add, wI_sub, wI_mul, wI_lt, wI_le, wI_inj, ru_fdE, ru_fdN, ru_iaN, ru_baN, ru_laN, ru_qaN, ru_pfN, ru_isN, ru_bsN, ru_jsN, ru_qsN, ru_set2, Nat.add_right_cancel_iff, if_true, if_false, ite_self, Int.reduceEq, and_self, Int.add_neg_cancel_right, Int.add_zero, Int.zero_add, h1, f0, al, k30 h1, s.1]
theorem g304 (h : gbS X S r m f l cap) {n : Nat} (hm : n ≤ 500) (hc : cap < n) : ru_ev z 304 [.ref S, .int (wI n)] X = some (.inl (some (.int (wI (nwC cap n : Nat)))), X) := by
  have al := gb_al h
  have g0 := gb_f0 h
  have g1 := gb_f1 h
  obtain ⟨a1, a2, a3, a4, a5, a6, a7, a8⟩ := h
  have s := wI_sh0 (a := n) (by omega)
  have k := k305 (z := z) (a := cap) (b := n - cap) (c := cap + 2) (by omega) (by omega) (by omega) (by omega) (h := X)
  have e2 : nwC cap n = cap + (if cap + 2 ≤ n - cap then n - cap else cap + 2) := rfl
  rw [← e2, show (((n - cap : Nat)) : Int) = (n : Int) - (cap : Int) by omega, show ((cap + 2 : Nat) : Int) = (cap : Int) + 2 by omega] at k
  have hn : nwC cap n ≤ 1002 := by unfold nwC; split <;> omega
  have s2 := wI_sh0 (a := nwC cap n) (by omega)
  have d1 : (((nwC cap n : Nat) : Int) = 2147483647) = False := eq_false (by omega)
  simp (disch := omega) only [en304, e304_0, e304_1, e304_4, e304_5, e304_6, e304_7, e304_8, e304_11, e304_12, e304_13, e304_14, e304_15, e304_16, e304_18, e304_19, e304_21, e304_22, e304_23, e304_24, e304_27, e304_28, e304_29, e304_32, e304_34, e304_36, e304_38, e304_51, e304_53, e304_54, e304_57, e304_58, ↓reduceIte, Bool.false_eq_true, not_false_eq_true, not_true_eq_false, Nat.reduceLeDiff, Nat.reduceAdd, Nat.reduceEqDiff, Int.reduceToNat, Int.toNat_natCast, iB0, iB1, ru_klI, ru_klR, ru_klF, ru_klJ, ru_kl0, ru_cs0, ru_csI, ru_csR, ru_csF, ru_csJ, wI_add, wI_sub, wI_mul, wI_lt, wI_le, wI_inj, ru_fdE, ru_fdN, ru_iaN, ru_baN, ru_laN, ru_qaN, ru_pfN, ru_isN, ru_bsN, ru_jsN, ru_qsN, ru_set2, Nat.add_right_cancel_iff, if_true, if_false, ite_self, Int.reduceEq, and_self, Int.add_neg_cancel_right, Int.add_zero, Int.zero_add, a1, g0, g1, al, s.1, s.2.1, s.2.2, s2.1, k, d1, not_false_iff]
theorem g306 (h : gbS X S r m f l cap) {n : Nat} (hm : n ≤ 1002) (hc : cap < n) : ∃ (X' : am_H) (f' : Nat → Int), ru_ev z 306 [.ref r, .int (wI n)] X = some (.inl (some (.ref X.2.1)), X') ∧ X'.1 X.2.1 = some (.inl (1, n, .inl (fun i => wI (f' i)))) ∧ (∀ i, i < l.length → f' i = ((l.getD i 0 : Nat) : Int)) ∧ (∀ q, q ≠ X.2.1 → X'.1 q = X.1 q) ∧ X'.2.1 = X.2.1 + 1 ∧ X'.2.2 = X.2.2 + n := by
  have al := gb_al h
  obtain ⟨a1, a2, a3, a4, a5, a6, a7, a8⟩ := h
  have e0 : am_na X 1 (wI n) = some (am_new X (.inl (1, n, .inl (fun _ => 0))) n) := by
    unfold am_na
    have e1 : (wI n).toNatClampNeg = n := by rw [wI_clamp (by omega) (by omega)]; exact Int.toNat_natCast n
    rw [e1, if_pos ⟨by rw [wI_0, wI_lt (by omega) (by omega) (by omega) (by omega)]; omega, by omega⟩, if_pos (by decide)]
  have e2 : (am_new X (.inl (1, n, .inl (fun _ => 0))) n).1 r = some (.inl (1, cap, .inl (fun i => wI (f i)))) := by
    show (if r = X.2.1 then _ else X.1 r) = _
    rw [if_neg (by omega), a2]
  have e3 : (am_new X (.inl (1, n, .inl (fun _ => 0))) n).1 X.2.1 = some (.inl (1, n, .inl (fun _ => 0))) := by
    show (if X.2.1 = X.2.1 then _ else _) = _
    rw [if_pos rfl]
  have al2 : am_al (am_new X (.inl (1, n, .inl (fun _ => 0))) n) r = some (wI cap) := ru_al e2 (by decide)
  have e4 : am_ac (am_new X (.inl (1, n, .inl (fun _ => 0))) n) r (wI 0) X.2.1 (wI 0) (wI cap) = some (am_set (am_new X (.inl (1, n, .inl (fun _ => 0))) n) X.2.1 (.inl (1, n, .inl (va_cpy (fun i => wI (f i)) (fun _ => 0) 0 0 cap)))) := by
    unfold am_ac
    rw [e2, e3]
    dsimp only
    have t0 : (wI 0).toNatClampNeg = 0 := by decide +kernel
    have t1 : (wI cap).toNatClampNeg = cap := by rw [wI_clamp (by omega) (by omega)]; exact Int.toNat_natCast cap
    have l0 : ¬ wI 0 < 0 := by decide +kernel
    have l1 : ¬ wI cap < 0 := by rw [wI_0, wI_lt (by omega) (by omega) (by omega) (by omega)]; omega
    rw [t0, t1, if_pos ⟨Or.inl rfl, rfl, l0, l0, l1, by omega, by omega, by omega⟩]
  have mn := m264 (z := z) (h := am_new X (.inl (1, n, .inl (fun _ => 0))) n) (a := (cap : Int)) (b := (n : Int)) (by omega) (by omega)
  rw [if_pos (by omega)] at mn
  have d1 : ((n : Int) = (cap : Int)) = False := eq_false (by omega)
  refine ⟨am_set (am_new X (.inl (1, n, .inl (fun _ => 0))) n) X.2.1 (.inl (1, n, .inl (va_cpy (fun i => wI (f i)) (fun _ => 0) 0 0 cap))), fun i => if i < cap then f i else 0, ?_, ?_, fun i hi => by dsimp only; rw [if_pos (by omega), a3 i hi], fun q hq => ?_, rfl, rfl⟩
  · simp (disch := omega) only [en306, e306_0, e306_1, e306_2, e306_3, e306_14, e306_15, e306_17, e306_18, e306_19, e306_20, e306_21, e306_22, e306_23, e306_24, e306_25, e306_28, e306_31, e306_32, ↓reduceIte, Bool.false_eq_true, not_false_eq_true, not_true_eq_false, Nat.reduceLeDiff, Nat.reduceAdd, Nat.reduceEqDiff, Int.reduceToNat, Int.toNat_natCast, iB0, iB1, ru_klI, ru_klR, ru_klF, ru_klJ, ru_kl0, ru_cs0, ru_csI, ru_csR, ru_csF, ru_csJ, wI_add, wI_sub, wI_mul, wI_lt, wI_le, wI_inj, ru_fdE, ru_fdN, ru_iaN, ru_baN, ru_laN, ru_qaN, ru_pfN, ru_isN, ru_bsN, ru_jsN, ru_qsN, ru_set2, Nat.add_right_cancel_iff, if_true, if_false, ite_self, Int.reduceEq, and_self, Int.add_neg_cancel_right, Int.add_zero, Int.zero_add, al, e0, al2, mn, e4, d1, not_false_iff]
  · rw [ru_setE]
    have e6 : va_cpy (fun i => wI (f i)) (fun _ => 0) 0 0 cap = fun i => wI (if i < cap then f i else 0) := by
      funext i
      unfold va_cpy
      by_cases c : i < cap
      · rw [if_pos c]; simp [c]
      · rw [if_neg c]; simp [c, wI_0]
    rw [e6]
  · rw [ru_setN hq]
    show (if q = X.2.1 then _ else X.1 q) = _
    rw [if_neg hq]
theorem g303 (h : gbS X S r m f l cap) {n : Nat} (hm : n ≤ 500) : ∃ X' r' f' cap', ru_ev z 303 [.ref S, .int (wI n)] X = some (.inl none, X') ∧ gbS X' S r' m f' l cap' ∧ n ≤ cap' ∧ gbOn X X' S r r' cap cap' := by
  have al := gb_al h
  have g0 := gb_f0 h
  have g1 := gb_f1 h
  obtain ⟨a1, a2, a3, a4, a5, a6, a7, a8⟩ := id h
  have s := wI_sh0 (a := cap) (by omega)
  by_cases c : n ≤ cap
  · have d1 : ((n : Int) - (cap : Int) ≤ 0) = True := eq_true (by omega)
    refine ⟨X, r, f, cap, ?_, h, c, gbOn_refl _ _ _ _⟩
    simp (disch := omega) only [en303, e303_0, e303_1, e303_4, e303_5, e303_6, e303_9, e303_10, e303_11, e303_12, e303_13, e303_14, e303_17, e303_18, e303_19, e303_22, e303_23, e303_24, e303_27, e303_28, e303_31, e303_32, e303_35, e303_38, ↓reduceIte, Bool.false_eq_true, not_false_eq_true, not_true_eq_false, Nat.reduceLeDiff, Nat.reduceAdd, Nat.reduceEqDiff, Int.reduceToNat, Int.toNat_natCast, iB0, iB1, ru_klI, ru_klR, ru_klF, ru_klJ, ru_kl0, ru_cs0, ru_csI, ru_csR, ru_csF, ru_csJ, wI_add, wI_sub, wI_mul, wI_lt, wI_le, wI_inj, ru_fdE, ru_fdN, ru_iaN, ru_baN, ru_laN, ru_qaN, ru_pfN, ru_isN, ru_bsN, ru_jsN, ru_qsN, ru_set2, Nat.add_right_cancel_iff, if_true, if_false, ite_self, Int.reduceEq, and_self, Int.add_neg_cancel_right, Int.add_zero, Int.zero_add, a1, g0, g1, al, s.1, d1]
  · have d1 : ((n : Int) - (cap : Int) ≤ 0) = False := eq_false (by omega)
    have k4 := g304 (z := z) h hm (by omega)
    have hn : nwC cap n ≤ 1002 ∧ cap < nwC cap n ∧ n ≤ nwC cap n ∧ cap + 1 ≤ nwC cap n ∧ nwC cap n + 2 * cap ≤ 2 * nwC cap n := by unfold nwC; split <;> omega
    obtain ⟨X', f', k6, u1, u2, u3, u4, u5⟩ := g306 (z := z) h (n := nwC cap n) hn.1 hn.2.1
    have s2 := wI_sh0 (a := nwC cap n) (by omega)
    have a1' : X'.1 S = some (.inr (11, gsL r m (l.length : Nat))) := by rw [u3 S (by omega)]; exact a1
    have w : am_pf X' S 11 0 2 (.ref X.2.1) = some (am_set X' S (.inr (11, gsL X.2.1 m (l.length : Nat)))) := ru_pf2 a1' ⟨by decide, by show 0 < 4; decide⟩
    refine ⟨am_set X' S (.inr (11, gsL X.2.1 m (l.length : Nat))), X.2.1, f', nwC cap n, ?_, ⟨ru_setE _ _ _, by rw [ru_setN (by omega)]; exact u1, u2, by omega, hn.1, by show S < X'.2.1; omega, by show X.2.1 < X'.2.1; omega, by omega⟩, hn.2.2.1, ⟨fun q h1 h2 h3 => by rw [ru_setN h2]; exact u3 q (by omega), by show X.2.1 ≤ X'.2.1; omega, by show X'.2.1 + cap ≤ _; omega, by show X'.2.2 + 2 * cap ≤ _; omega, Or.inr (Nat.le_refl _)⟩⟩
    simp (disch := omega) only [en303, e303_0, e303_1, e303_4, e303_5, e303_6, e303_9, e303_10, e303_11, e303_12, e303_13, e303_14, e303_17, e303_18, e303_19, e303_22, e303_23, e303_24, e303_27, e303_28, e303_31, e303_32, e303_35, e303_38, ↓reduceIte, Bool.false_eq_true, not_false_eq_true, not_true_eq_false, Nat.reduceLeDiff, Nat.reduceAdd, Nat.reduceEqDiff, Int.reduceToNat, Int.toNat_natCast, iB0, iB1, ru_klI, ru_klR, ru_klF, ru_klJ, ru_kl0, ru_cs0, ru_csI, ru_csR, ru_csF, ru_csJ, wI_add, wI_sub, wI_mul, wI_lt, wI_le, wI_inj, ru_fdE, ru_fdN, ru_iaN, ru_baN, ru_laN, ru_qaN, ru_pfN, ru_isN, ru_bsN, ru_jsN, ru_qsN, ru_set2, Nat.add_right_cancel_iff, if_true, if_false, ite_self, Int.reduceEq, and_self, Int.add_neg_cancel_right, Int.add_zero, Int.zero_add, a1, g0, g1, al, s.1, d1, k4, s2.1, s2.2.1, k6, w]
theorem gT_on {X' : am_H} {r' cap' Q V : Nat} {t : List Nat} (h : gT X Q V t) (hq : Q < X.2.1 ∧ Q ≠ S ∧ Q ≠ r) (hv : V < X.2.1 ∧ V ≠ S ∧ V ≠ r) (k : gbOn X X' S r r' cap cap') : gT X' Q V t := by
  obtain ⟨a1, kk, g, a2, a3, a4⟩ := h
  exact ⟨by rw [k.1 Q hq.1 hq.2.1 hq.2.2]; exact a1, kk, g, a2, by rw [k.1 V hv.1 hv.2.1 hv.2.2]; exact a3, a4⟩
theorem g311 (h : gbS X S r m f l cap) {Q V : Nat} {t : List Nat} (hs : gT X Q V t) (hV : V ≠ r) (hc : l.length + t.length ≤ cap) (ht : t.length ≤ 100) : ∃ f' : Nat → Int, (∀ i, i < l.length + t.length → f' i = (((l ++ t).getD i 0 : Nat) : Int)) ∧ ru_ev z 311 [.ref Q, .ref r, .int (wI (l.length : Nat)), .int (wI 0)] X = some (.inl none, am_set X r (.inl (1, cap, .inl (fun i => wI (f' i))))) := by
  obtain ⟨a1, a2, a3, a4, a5, a6, a7, a8⟩ := id h
  obtain ⟨s1, kk, sf, hkk, s2, s3⟩ := id hs
  have f0 : am_fd X Q 50 0 = some (.ref V) := ru_fd s1 rfl
  have al : am_al X V = some (wI (t.length : Nat)) := ru_al s2 (by omega)
  have sh := wI_sh0 (a := l.length) (by omega)
  have e4 : am_ac X V (wI 0) r (wI (l.length : Nat)) (wI (t.length : Nat)) = some (am_set X r (.inl (1, cap, .inl (va_cpy sf (fun i => wI (f i)) 0 l.length t.length)))) := by
    unfold am_ac
    rw [s2, a2]
    dsimp only
    have t0 : (wI 0).toNatClampNeg = 0 := by decide +kernel
    have t1 : (wI (l.length : Nat)).toNatClampNeg = l.length := by rw [wI_clamp (by omega) (by omega)]; exact Int.toNat_natCast _
    have t2 : (wI (t.length : Nat)).toNatClampNeg = t.length := by rw [wI_clamp (by omega) (by omega)]; exact Int.toNat_natCast _
    have l0 : ¬ wI 0 < 0 := by decide +kernel
    have l1 : ¬ wI (l.length : Nat) < 0 := by rw [wI_0, wI_lt (by omega) (by omega) (by omega) (by omega)]; omega
    have l2 : ¬ wI (t.length : Nat) < 0 := by rw [wI_0, wI_lt (by omega) (by omega) (by omega) (by omega)]; omega
    rw [t0, t1, t2, if_pos ⟨hkk, rfl, l0, l1, l2, by omega, by omega, hV⟩]
  have e6 : va_cpy sf (fun i => wI (f i)) 0 l.length t.length = fun i => wI (if l.length ≤ i ∧ i < l.length + t.length then ((t.getD (i - l.length) 0 : Nat) : Int) else f i) := by
    funext i
    unfold va_cpy
    by_cases c : l.length ≤ i ∧ i < l.length + t.length
    · rw [if_pos c, if_pos c, Nat.zero_add, s3 _ (by omega)]
    · rw [if_neg c, if_neg c]
  rw [e6] at e4
  refine ⟨fun i => if l.length ≤ i ∧ i < l.length + t.length then ((t.getD (i - l.length) 0 : Nat) : Int) else f i, fun i hi => ?_, ?_⟩
  · dsimp only
    rw [getD_app]
    by_cases c : i < l.length
    · rw [if_neg (by omega), if_pos c, a3 i c]
    · rw [if_pos (by omega), if_neg c]
  · simp (disch := omega) only [en311, e311_0, e311_1, e311_4, e311_5, e311_8, e311_9, e311_12, e311_13, e311_14, e311_15, e311_16, e311_17, e311_18, e311_21, e311_22, e311_25, e311_43, ↓reduceIte, Bool.false_eq_true, not_false_eq_true, not_true_eq_false, Nat.reduceLeDiff, Nat.reduceAdd, Nat.reduceEqDiff, Int.reduceToNat, Int.toNat_natCast, iB0, iB1, ru_klI, ru_klR, ru_klF, ru_klJ, ru_kl0, ru_cs0, ru_csI, ru_csR, ru_csF, ru_csJ, wI_add, wI_sub, wI_mul, wI_lt, wI_le, wI_inj, ru_fdE, ru_fdN, ru_iaN, ru_baN, ru_laN, ru_qaN, ru_pfN, ru_isN, ru_bsN, ru_jsN, ru_qsN, ru_set2, Nat.add_right_cancel_iff, if_true, if_false, ite_self, Int.reduceEq, and_self, Int.add_neg_cancel_right, Int.add_zero, Int.zero_add, s1, f0, al, k30 s1, sh.2.1, e4, not_true]
/-- a builder's row and its count are written -/
theorem gb_put (h : gbS X S r m f l cap) {l' : List Nat} {f' : Nat → Int} (hl : l'.length ≤ cap) (hf : ∀ i, i < l'.length → f' i = ((l'.getD i 0 : Nat) : Int)) : gbS (am_set (am_set X r (.inl (1, cap, .inl (fun i => wI (f' i))))) S (.inr (11, gsL r m (l'.length : Nat)))) S r m f' l' cap ∧ gbOn X (am_set (am_set X r (.inl (1, cap, .inl (fun i => wI (f' i))))) S (.inr (11, gsL r m (l'.length : Nat)))) S r r cap cap := by
  obtain ⟨a1, a2, a3, a4, a5, a6, a7, a8⟩ := h
  exact ⟨⟨ru_setE _ _ _, by rw [ru_setN (Ne.symm a8)]; exact ru_setE _ _ _, hf, hl, a5, a6, a7, a8⟩, fun q h1 h2 h3 => by rw [ru_setN h2, ru_setN h3], Nat.le_refl _, Nat.le_refl _, Nat.le_refl _, Or.inl rfl⟩
theorem gb_row (h : gbS X S r m f l cap) (f' : Nat → Int) : (am_set X r (.inl (1, cap, .inl (fun i => wI (f' i))))).1 S = some (.inr (11, gsL r m (l.length : Nat))) := by
  rw [ru_setN h.2.2.2.2.2.2.2]; exact h.1
theorem gb_cnt {Y : am_H} {n : Int} (h : Y.1 S = some (.inr (11, gsL r m n))) (v : Int) : am_pf Y S 11 3 0 (.int (wI v)) = some (am_set Y S (.inr (11, gsL r m v))) := ru_pf0 h ⟨by decide, by show 3 < 4; decide⟩
theorem g307 (h : gbS X S r m f l cap) {Q V : Nat} {t : List Nat} (hs : gT X Q V t) (hq : Q < X.2.1 ∧ Q ≠ S ∧ Q ≠ r) (hv : V < X.2.1 ∧ V ≠ S ∧ V ≠ r) (hc : l.length + t.length ≤ 500) (ht : t.length ≤ 100) : ∃ X' r' f' cap', ru_ev z 307 [.ref S, .ref Q] X = some (.inl (some (.ref S)), X') ∧ gbS X' S r' m f' (l ++ t) cap' ∧ gbOn X X' S r r' cap cap' := by
  obtain ⟨a1, a2, a3, a4, a5, a6, a7, a8⟩ := id h
  have kl := g29 (z := z) hs (by omega)
  obtain ⟨X1, r1, f1, cap1, k3, b1, b2, b3⟩ := g303 (z := z) h (n := l.length + t.length) hc
  have hs1 := gT_on hs hq hv b3
  have hV1 : V ≠ r1 := by have := b3.2.2.2.2; omega
  obtain ⟨f', u1, u2⟩ := g311 (z := z) b1 hs1 hV1 b2 ht
  have hlen : (l ++ t).length = l.length + t.length := List.length_append
  obtain ⟨v1, v2⟩ := gb_put (f' := f') b1 (l' := l ++ t) (by omega) (fun i hi => u1 i (by omega))
  have g3 := gb_f3 h
  have c1 := b1.1
  have g3' := gb_f3 b1
  have g0' := gb_f0 b1
  have g1' := gb_f1 b1
  have c2 := gb_row b1 f'
  have g3'' : am_fd (am_set X1 r1 (.inl (1, cap1, .inl (fun i => wI (f' i))))) S 11 3 = some (.int (wI (l.length : Nat))) := ru_fd c2 rfl
  have w := gb_cnt c2 ((l ++ t).length : Nat)
  rw [show ((l.length + t.length : Nat) : Int) = (l.length : Int) + (t.length : Int) by omega] at k3
  have k30' := k30 (z := z) hs1.1
  have e310 : ru_ev z 310 [.ref S, .ref Q] X1 = some (.inl none, X1) := by
    simp (disch := omega) only [en310, e310_0, e310_3, e310_6, e310_7, e310_10, e310_11, e310_14, e310_21, ↓reduceIte, Bool.false_eq_true, not_false_eq_true, not_true_eq_false, Nat.reduceLeDiff, Nat.reduceAdd, Nat.reduceEqDiff, Int.reduceToNat, Int.toNat_natCast, iB0, iB1, ru_klI, ru_klR, ru_klF, ru_klJ, ru_kl0, ru_cs0, ru_csI, ru_csR, ru_csF, ru_csJ, wI_add, wI_sub, wI_mul, wI_lt, wI_le, wI_inj, ru_fdE, ru_fdN, ru_iaN, ru_baN, ru_laN, ru_qaN, ru_pfN, ru_isN, ru_bsN, ru_jsN, ru_qsN, ru_set2, Nat.add_right_cancel_iff, if_true, if_false, ite_self, Int.reduceEq, and_self, Int.add_neg_cancel_right, Int.add_zero, Int.zero_add, c1, g1', k30', Int.reduceEq]
  have e309 : ru_ev z 309 [.ref S, .int (wI (l.length : Nat)), .ref Q] X1 = some (.inl none, am_set X1 r1 (.inl (1, cap1, .inl (fun i => wI (f' i))))) := by
    simp (disch := omega) only [en309, e309_0, e309_1, e309_2, e309_5, e309_6, e309_7, e309_10, e309_11, e309_12, e309_15, e309_18, ↓reduceIte, Bool.false_eq_true, not_false_eq_true, not_true_eq_false, Nat.reduceLeDiff, Nat.reduceAdd, Nat.reduceEqDiff, Int.reduceToNat, Int.toNat_natCast, iB0, iB1, ru_klI, ru_klR, ru_klF, ru_klJ, ru_kl0, ru_cs0, ru_csI, ru_csR, ru_csF, ru_csJ, wI_add, wI_sub, wI_mul, wI_lt, wI_le, wI_inj, ru_fdE, ru_fdN, ru_iaN, ru_baN, ru_laN, ru_qaN, ru_pfN, ru_isN, ru_bsN, ru_jsN, ru_qsN, ru_set2, Nat.add_right_cancel_iff, if_true, if_false, ite_self, Int.reduceEq, and_self, Int.add_neg_cancel_right, Int.add_zero, Int.zero_add, c1, g0', g1', e310, u2]
  have e308 : ru_ev z 308 [.ref S, .ref Q] X = some (.inl (some (.ref S)), am_set (am_set X1 r1 (.inl (1, cap1, .inl (fun i => wI (f' i))))) S (.inr (11, gsL r1 m ((l ++ t).length : Nat)))) := by
    rw [show (((l ++ t).length : Nat) : Int) = (l.length : Int) + (t.length : Int) by omega] at w ⊢
    simp (disch := omega) only [en308, e308_0, e308_1, e308_9, e308_10, e308_13, e308_14, e308_15, e308_16, e308_19, e308_20, e308_21, e308_24, e308_25, e308_26, e308_29, e308_30, e308_33, e308_34, e308_35, e308_38, e308_39, e308_40, e308_43, e308_44, ↓reduceIte, Bool.false_eq_true, not_false_eq_true, not_true_eq_false, Nat.reduceLeDiff, Nat.reduceAdd, Nat.reduceEqDiff, Int.reduceToNat, Int.toNat_natCast, iB0, iB1, ru_klI, ru_klR, ru_klF, ru_klJ, ru_kl0, ru_cs0, ru_csI, ru_csR, ru_csF, ru_csJ, wI_add, wI_sub, wI_mul, wI_lt, wI_le, wI_inj, ru_fdE, ru_fdN, ru_iaN, ru_baN, ru_laN, ru_qaN, ru_pfN, ru_isN, ru_bsN, ru_jsN, ru_qsN, ru_set2, Nat.add_right_cancel_iff, if_true, if_false, ite_self, Int.reduceEq, and_self, Int.add_neg_cancel_right, Int.add_zero, Int.zero_add, a1, kl, g3, k3, g3', e309, g3'', w, ru_ctR]
  refine ⟨_, r1, f', cap1, ?_, v1, gbOn_tr b3 v2⟩
  simp (disch := omega) only [en307, e307_0, e307_1, e307_2, e307_5, e307_6, e307_7, ↓reduceIte, Bool.false_eq_true, not_false_eq_true, not_true_eq_false, Nat.reduceLeDiff, Nat.reduceAdd, Nat.reduceEqDiff, Int.reduceToNat, Int.toNat_natCast, iB0, iB1, ru_klI, ru_klR, ru_klF, ru_klJ, ru_kl0, ru_cs0, ru_csI, ru_csR, ru_csF, ru_csJ, wI_add, wI_sub, wI_mul, wI_lt, wI_le, wI_inj, ru_fdE, ru_fdN, ru_iaN, ru_baN, ru_laN, ru_qaN, ru_pfN, ru_isN, ru_bsN, ru_jsN, ru_qsN, ru_set2, Nat.add_right_cancel_iff, if_true, if_false, ite_self, Int.reduceEq, and_self, Int.add_neg_cancel_right, Int.add_zero, Int.zero_add, a1, e308, ru_ctR]
theorem g315 (h : gbS X S r m f l cap) : ru_ev z 315 [.ref S] X = some (.inl (some (.int (wI 1))), X) := by
  have c1 := h.1
  have g1 := gb_f1 h
  have a1 : wI 1 &&& 1 = wI 1 := by decide +kernel
  have d1 : ((1 : Int) = 0) = False := eq_false (by decide)
  simp (disch := omega) only [en315, e315_0, e315_3, e315_6, e315_7, e315_10, e315_13, e315_14, e315_18, ↓reduceIte, Bool.false_eq_true, not_false_eq_true, not_true_eq_false, Nat.reduceLeDiff, Nat.reduceAdd, Nat.reduceEqDiff, Int.reduceToNat, Int.toNat_natCast, iB0, iB1, ru_klI, ru_klR, ru_klF, ru_klJ, ru_kl0, ru_cs0, ru_csI, ru_csR, ru_csF, ru_csJ, wI_add, wI_sub, wI_mul, wI_lt, wI_le, wI_inj, ru_fdE, ru_fdN, ru_iaN, ru_baN, ru_laN, ru_qaN, ru_pfN, ru_isN, ru_bsN, ru_jsN, ru_qsN, ru_set2, Nat.add_right_cancel_iff, if_true, if_false, ite_self, Int.reduceEq, and_self, Int.add_neg_cancel_right, Int.add_zero, Int.zero_add, c1, g1, a1, d1]
theorem g319 (h : gbS X S r m f l cap) {c : Nat} (hc : c ≤ 127) (hl : l.length + 1 ≤ 500) : ∃ X' r' f' cap', ru_ev z 319 [.ref S, .int (wI c)] X = some (.inl (some (.ref S)), X') ∧ gbS X' S r' m f' (l ++ [c]) cap' ∧ gbOn X X' S r r' cap cap' := by
  obtain ⟨a1, a2, a3, a4, a5, a6, a7, a8⟩ := id h
  obtain ⟨X1, r1, f1, cap1, k3, b1, b2, b3⟩ := g303 (z := z) h (n := l.length + 1) hl
  obtain ⟨e1, e2, e3, e4, e5, e6, e7, e8⟩ := id b1
  have hlen : (l ++ [c]).length = l.length + 1 := by rw [List.length_append]; rfl
  have hf9 : ∀ i, i < (l ++ [c]).length → up1 f1 l.length (c : Int) i = (((l ++ [c]).getD i 0 : Nat) : Int) := fun i hi => by
    rw [getD_app]
    unfold up1
    by_cases ei : i = l.length
    · rw [if_pos ei, if_neg (by omega), ei, Nat.sub_self]; rfl
    · rw [if_neg ei, if_pos (by omega), e3 i (by omega)]
  have g3 := gb_f3 h
  have c1 := b1.1
  have g0' := gb_f0 b1
  have g3' := gb_f3 b1
  have w := gb_cnt b1.1 ((l.length : Int) + 1)
  rw [show ((l.length + 1 : Nat) : Int) = (l.length : Int) + 1 by omega] at k3
  have hlat := g315 (z := z) b1
  have en : ru_ev z 321 [.int (wI c)] X1 = some (.inl (some (.int (wI 1))), X1) := by
    have a1 : wI 1 &&& 1 = wI 1 := by decide +kernel
    have d1 : ((255 : Int) < (c : Int)) = False := eq_false (by omega)
    simp (disch := omega) only [en321, e321_0, e321_1, e321_4, e321_7, e321_8, e321_12, ↓reduceIte, Bool.false_eq_true, not_false_eq_true, not_true_eq_false, Nat.reduceLeDiff, Nat.reduceAdd, Nat.reduceEqDiff, Int.reduceToNat, Int.toNat_natCast, iB0, iB1, ru_klI, ru_klR, ru_klF, ru_klJ, ru_kl0, ru_cs0, ru_csI, ru_csR, ru_csF, ru_csJ, wI_add, wI_sub, wI_mul, wI_lt, wI_le, wI_inj, ru_fdE, ru_fdN, ru_iaN, ru_baN, ru_laN, ru_qaN, ru_pfN, ru_isN, ru_bsN, ru_jsN, ru_qsN, ru_set2, Nat.add_right_cancel_iff, if_true, if_false, ite_self, Int.reduceEq, and_self, Int.add_neg_cancel_right, Int.add_zero, Int.zero_add, d1, a1]
  have n1 := am_nb_s (v := (c : Int)) (by omega) (by omega)
  have ew : am_bs (am_set X1 S (.inr (11, gsL r1 m ((l.length : Int) + 1)))) r1 (wI (l.length : Nat)) (wI (c : Nat)) = some (am_set (am_set X1 S (.inr (11, gsL r1 m ((l.length : Int) + 1)))) r1 (.inl (1, cap1, .inl (fun i => wI (up1 f1 l.length (c : Int) i))))) := by
    have e8' : (am_set X1 S (.inr (11, gsL r1 m ((l.length : Int) + 1)))).1 r1 = some (.inl (1, cap1, .inl (fun i => wI (f1 i)))) := by rw [ru_setN (Ne.symm e8)]; exact e2
    rw [ru_bs e8' (by omega) (by omega) (by omega), n1, Int.toNat_natCast]
    have e0 : am_up (fun i => wI (f1 i)) l.length (wI (c : Nat)) = fun i => wI (up1 f1 l.length (c : Int) i) := by
      funext j; unfold am_up up1; split <;> rfl
    rw [e0]
  have d0 : ((1 : Int) = 0) = False := eq_false (by decide)
  have e320 : ru_ev z 320 [.ref S, .int (wI c)] X = some (.inl (some (.ref S)), am_set (am_set X1 S (.inr (11, gsL r1 m ((l.length : Int) + 1)))) r1 (.inl (1, cap1, .inl (fun i => wI (up1 f1 l.length (c : Int) i))))) := by
    simp (disch := omega) only [en320, e320_0, e320_1, e320_2, e320_5, e320_6, e320_7, e320_10, e320_11, e320_14, e320_17, e320_18, e320_21, e320_24, e320_25, e320_28, e320_29, e320_30, e320_33, e320_34, e320_35, e320_36, e320_39, e320_40, e320_41, e320_42, e320_75, e320_76, ↓reduceIte, Bool.false_eq_true, not_false_eq_true, not_true_eq_false, Nat.reduceLeDiff, Nat.reduceAdd, Nat.reduceEqDiff, Int.reduceToNat, Int.toNat_natCast, iB0, iB1, ru_klI, ru_klR, ru_klF, ru_klJ, ru_kl0, ru_cs0, ru_csI, ru_csR, ru_csF, ru_csJ, wI_add, wI_sub, wI_mul, wI_lt, wI_le, wI_inj, ru_fdE, ru_fdN, ru_iaN, ru_baN, ru_laN, ru_qaN, ru_pfN, ru_isN, ru_bsN, ru_jsN, ru_qsN, ru_set2, Nat.add_right_cancel_iff, if_true, if_false, ite_self, Int.reduceEq, and_self, Int.add_neg_cancel_right, Int.add_zero, Int.zero_add, a1, c1, g3, k3, hlat, en, d0, g0', g3', ru_ctR, ru_ctI, w, n1, ew, and_self]
  refine ⟨am_set (am_set X1 S (.inr (11, gsL r1 m ((l.length : Int) + 1)))) r1 (.inl (1, cap1, .inl (fun i => wI (up1 f1 l.length (c : Int) i)))), r1, up1 f1 l.length (c : Int), cap1, ?_, ⟨?_, ru_setE _ _ _, hf9, by omega, e5, e6, e7, e8⟩, gbOn_tr b3 ⟨fun q h1 h2 h3 => by rw [ru_setN h3, ru_setN h2], Nat.le_refl _, Nat.le_refl _, Nat.le_refl _, Or.inl rfl⟩⟩
  · simp (disch := omega) only [en319, e319_0, e319_1, e319_2, e319_5, e319_6, e319_7, ↓reduceIte, Bool.false_eq_true, not_false_eq_true, not_true_eq_false, Nat.reduceLeDiff, Nat.reduceAdd, Nat.reduceEqDiff, Int.reduceToNat, Int.toNat_natCast, iB0, iB1, ru_klI, ru_klR, ru_klF, ru_klJ, ru_kl0, ru_cs0, ru_csI, ru_csR, ru_csF, ru_csJ, wI_add, wI_sub, wI_mul, wI_lt, wI_le, wI_inj, ru_fdE, ru_fdN, ru_iaN, ru_baN, ru_laN, ru_qaN, ru_pfN, ru_isN, ru_bsN, ru_jsN, ru_qsN, ru_set2, Nat.add_right_cancel_iff, if_true, if_false, ite_self, Int.reduceEq, and_self, Int.add_neg_cancel_right, Int.add_zero, Int.zero_add, a1, e320, ru_ctR]
  · rw [ru_setN e8, show (((l ++ [c]).length : Nat) : Int) = (l.length : Int) + 1 by omega]
    exact ru_setE _ _ _
theorem g324 (h : gbS X S r m f l cap) : ru_ev z 324 [.ref S] X = some (.inl (some (.int (wI (l.length : Nat)))), X) := by
  have c1 := h.1
  have g3 := gb_f3 h
  have e325 : ru_ev z 325 [.ref S] X = some (.inl (some (.int (wI (l.length : Nat)))), X) := by
    simp (disch := omega) only [en325, e325_0, e325_1, e325_4, ↓reduceIte, Bool.false_eq_true, not_false_eq_true, not_true_eq_false, Nat.reduceLeDiff, Nat.reduceAdd, Nat.reduceEqDiff, Int.reduceToNat, Int.toNat_natCast, iB0, iB1, ru_klI, ru_klR, ru_klF, ru_klJ, ru_kl0, ru_cs0, ru_csI, ru_csR, ru_csF, ru_csJ, wI_add, wI_sub, wI_mul, wI_lt, wI_le, wI_inj, ru_fdE, ru_fdN, ru_iaN, ru_baN, ru_laN, ru_qaN, ru_pfN, ru_isN, ru_bsN, ru_jsN, ru_qsN, ru_set2, Nat.add_right_cancel_iff, if_true, if_false, ite_self, Int.reduceEq, and_self, Int.add_neg_cancel_right, Int.add_zero, Int.zero_add, c1, g3]
  simp (disch := omega) only [en324, e324_0, e324_1, e324_4, ↓reduceIte, Bool.false_eq_true, not_false_eq_true, not_true_eq_false, Nat.reduceLeDiff, Nat.reduceAdd, Nat.reduceEqDiff, Int.reduceToNat, Int.toNat_natCast, iB0, iB1, ru_klI, ru_klR, ru_klF, ru_klJ, ru_kl0, ru_cs0, ru_csI, ru_csR, ru_csF, ru_csJ, wI_add, wI_sub, wI_mul, wI_lt, wI_le, wI_inj, ru_fdE, ru_fdN, ru_iaN, ru_baN, ru_laN, ru_qaN, ru_pfN, ru_isN, ru_bsN, ru_jsN, ru_qsN, ru_set2, Nat.add_right_cancel_iff, if_true, if_false, ite_self, Int.reduceEq, and_self, Int.add_neg_cancel_right, Int.add_zero, Int.zero_add, c1, e325]
theorem g316 (h : gbS X S r m f l cap) (hd : dgI X) (hr : 100 < r) {v : Nat} (hv : v ≤ 99) (hc : l.length + (numT v).length ≤ cap) : ∃ f' : Nat → Int, (∀ i, i < l.length + (numT v).length → f' i = (((l ++ numT v).getD i 0 : Nat) : Int)) ∧ ∃ q, ru_ev z 316 [.int (wI v), .int (wI ((l.length + (numT v).length : Nat) : Int)), .ref r] X = some (.inl (some (.int q)), am_set X r (.inl (1, cap, .inl (fun i => wI (f' i))))) := by
  obtain ⟨a1, a8, a9, a4, a5, a6, a7, a10⟩ := id h
  obtain ⟨⟨fo, o1, o2⟩, ft, t1, t2⟩ := hd
  have hA : (10 : Nat) ≠ r ∧ (11 : Nat) ≠ r := by omega
  have rd : ∀ j : Int, 0 ≤ j → j ≤ 99 → am_ba X 10 (wI j) = some (wI (48 + j % 10)) := fun j h1 h2 => by
    rw [ru_ba o1 (Or.inr (Or.inr rfl)) h1 (by omega) (by omega), o2 _ (by omega), show ((48 + j.toNat % 10 : Nat) : Int) = 48 + j % 10 by omega]
  have hnl := numT_len v
  have d0 : ((v : Int) < 0) = False := eq_false (by omega)
  have d0' : ((0 : Int) ≤ (v : Int)) = True := eq_true (by omega)
  have d1 : (-100 < -(v : Int)) = True := eq_true (by omega)
  have nb : ∀ j : Int, 0 ≤ j → j ≤ 127 → am_nb (wI j) = wI j := fun j h1 h2 => am_nb_s h1 h2
  by_cases c : v < 10
  · rw [if_pos c] at hnl
    rw [hnl] at hc ⊢
    have hw : am_bs X r (wI (l.length : Nat)) (wI (48 + (v : Int) % 10)) = some (am_set X r (.inl (1, cap, .inl (fun i => wI (up1 f l.length (48 + (v : Int) % 10) i))))) := by
      rw [ru_bs a8 (by omega) (by omega) (by omega), nb _ (by omega) (by omega), Int.toNat_natCast]
      have e0 : am_up (fun i => wI (f i)) l.length (wI (48 + (v : Int) % 10)) = fun i => wI (up1 f l.length (48 + (v : Int) % 10) i) := by
        funext j; unfold am_up up1; split <;> rfl
      rw [e0]
    refine ⟨up1 f l.length (48 + (v : Int) % 10), fun i hi => ?_, wI (l.length : Nat), ?_⟩
    · rw [getD_app]
      unfold up1 numT
      rw [if_pos c]
      by_cases ei : i = l.length
      · rw [if_pos ei, if_neg (by omega), ei, Nat.sub_self]
        show (48 : Int) + (v : Int) % 10 = ((48 + v : Nat) : Int)
        omega
      · rw [if_neg ei, if_pos (by omega), a9 i (by omega)]
    · have d2 : (-9 ≤ -(v : Int)) = True := eq_true (by omega)
      rw [show ((l.length + 1 : Nat) : Int) = (l.length : Int) + 1 by omega]
      have rd1 := rd (v : Int) (by omega) (by omega)
      simp (disch := omega) only [en316, e316_0, e316_1, e316_3, e316_4, e316_7, e316_8, e316_11, e316_12, e316_14, e316_16, e316_19, e316_20, e316_21, e316_22, e316_23, e316_25, e316_28, e316_29, e316_31, e316_32, e316_33, e316_34, e316_36, e316_37, e316_38, e316_39, e316_41, e316_42, e316_43, e316_44, e316_47, e316_49, e316_52, e316_54, e316_55, e316_56, e316_57, e316_60, e316_62, e316_65, e316_67, e316_68, e316_69, e316_72, e316_73, e316_76, e316_78, e316_81, e316_82, e316_83, e316_84, e316_85, e316_86, e316_88, e316_91, e316_92, e316_95, e316_97, e316_100, e316_101, e316_102, e316_103, e316_104, e316_106, e316_109, e316_110, e316_113, e316_115, e316_117, e316_118, e316_120, ↓reduceIte, Bool.false_eq_true, not_false_eq_true, not_true_eq_false, Nat.reduceLeDiff, Nat.reduceAdd, Nat.reduceEqDiff, Int.reduceToNat, Int.toNat_natCast, iB0, iB1, ru_klI, ru_klR, ru_klF, ru_klJ, ru_kl0, ru_cs0, ru_csI, ru_csR, ru_csF, ru_csJ, wI_add, wI_sub, wI_mul, wI_lt, wI_le, wI_inj, ru_fdE, ru_fdN, ru_iaN, ru_baN, ru_laN, ru_qaN, ru_pfN, ru_isN, ru_bsN, ru_jsN, ru_qsN, ru_set2, Nat.add_right_cancel_iff, if_true, if_false, ite_self, Int.reduceEq, and_self, Int.add_neg_cancel_right, Int.add_zero, Int.zero_add, d0, d0', d1, d2, wI_neg, Int.reduceNeg, Int.neg_neg, Int.add_neg_cancel_right, rd1, hw]
  · rw [if_neg c] at hnl
    rw [hnl] at hc ⊢
    have hw : am_bs X r (wI ((l.length : Int) + 1)) (wI (48 + (v : Int) % 10)) = some (am_set X r (.inl (1, cap, .inl (fun i => wI (up1 f (l.length + 1) (48 + (v : Int) % 10) i))))) := by
      rw [ru_bs a8 (by omega) (by omega) (by omega), nb _ (by omega) (by omega), show ((l.length : Int) + 1).toNat = l.length + 1 by omega]
      have e0 : am_up (fun i => wI (f i)) (l.length + 1) (wI (48 + (v : Int) % 10)) = fun i => wI (up1 f (l.length + 1) (48 + (v : Int) % 10) i) := by
        funext j; unfold am_up up1; split <;> rfl
      rw [e0]
    have e9 : (am_set X r (.inl (1, cap, .inl (fun i => wI (up1 f (l.length + 1) (48 + (v : Int) % 10) i))))).1 r = some (.inl (1, cap, .inl (fun i => wI (up1 f (l.length + 1) (48 + (v : Int) % 10) i)))) := ru_setE _ _ _
    have rt : am_ba (am_set X r (.inl (1, cap, .inl (fun i => wI (up1 f (l.length + 1) (48 + (v : Int) % 10) i))))) 11 (wI (v : Int)) = some (wI (48 + (v : Int) / 10)) := by
      rw [ru_ba (show (am_set X r (.inl (1, cap, .inl (fun i => wI (up1 f (l.length + 1) (48 + (v : Int) % 10) i))))).1 11 = some (.inl (11, 100, .inl ft)) by rw [ru_setN hA.2]; exact t1) (Or.inr (Or.inr rfl)) (by omega) (by omega) (by omega), t2 _ (by omega), show ((48 + (v : Int).toNat / 10 : Nat) : Int) = 48 + (v : Int) / 10 by omega]
    have hw2 : am_bs (am_set X r (.inl (1, cap, .inl (fun i => wI (up1 f (l.length + 1) (48 + (v : Int) % 10) i))))) r (wI (l.length : Nat)) (wI (48 + (v : Int) / 10)) = some (am_set X r (.inl (1, cap, .inl (fun i => wI (up1 (up1 f (l.length + 1) (48 + (v : Int) % 10)) l.length (48 + (v : Int) / 10) i))))) := by
      rw [ru_bs e9 (by omega) (by omega) (by omega), nb _ (by omega) (by omega), Int.toNat_natCast, ru_setset]
      have e0 : am_up (fun i => wI (up1 f (l.length + 1) (48 + (v : Int) % 10) i)) l.length (wI (48 + (v : Int) / 10)) = fun i => wI (up1 (up1 f (l.length + 1) (48 + (v : Int) % 10)) l.length (48 + (v : Int) / 10) i) := by
        funext j; unfold am_up up1; split <;> rfl
      rw [e0]
    refine ⟨up1 (up1 f (l.length + 1) (48 + (v : Int) % 10)) l.length (48 + (v : Int) / 10), fun i hi => ?_, wI (l.length : Nat), ?_⟩
    · rw [getD_app]
      unfold up1 numT
      rw [if_neg c]
      by_cases ei : i = l.length
      · rw [if_pos ei, if_neg (by omega), ei, Nat.sub_self]
        show (48 : Int) + (v : Int) / 10 = ((48 + v / 10 : Nat) : Int)
        omega
      · rw [if_neg ei]
        by_cases ei2 : i = l.length + 1
        · rw [if_pos ei2, if_neg (by omega), ei2, show l.length + 1 - l.length = 1 by omega]
          show (48 : Int) + (v : Int) % 10 = ((48 + v % 10 : Nat) : Int)
          omega
        · rw [if_neg ei2, if_pos (by omega), a9 i (by omega)]
    · have d2 : (-9 ≤ -(v : Int)) = False := eq_false (by omega)
      rw [show ((l.length + 2 : Nat) : Int) = (l.length : Int) + 1 + 1 by omega]
      have rd1 := rd (v : Int) (by omega) (by omega)
      simp (disch := omega) only [en316, e316_0, e316_1, e316_3, e316_4, e316_7, e316_8, e316_11, e316_12, e316_14, e316_16, e316_19, e316_20, e316_21, e316_22, e316_23, e316_25, e316_28, e316_29, e316_31, e316_32, e316_33, e316_34, e316_36, e316_37, e316_38, e316_39, e316_41, e316_42, e316_43, e316_44, e316_47, e316_49, e316_52, e316_54, e316_55, e316_56, e316_57, e316_60, e316_62, e316_65, e316_67, e316_68, e316_69, e316_72, e316_73, e316_76, e316_78, e316_81, e316_82, e316_83, e316_84, e316_85, e316_86, e316_88, e316_91, e316_92, e316_95, e316_97, e316_100, e316_101, e316_102, e316_103, e316_104, e316_106, e316_109, e316_110, e316_113, e316_115, e316_117, e316_118, e316_120, ↓reduceIte, Bool.false_eq_true, not_false_eq_true, not_true_eq_false, Nat.reduceLeDiff, Nat.reduceAdd, Nat.reduceEqDiff, Int.reduceToNat, Int.toNat_natCast, iB0, iB1, ru_klI, ru_klR, ru_klF, ru_klJ, ru_kl0, ru_cs0, ru_csI, ru_csR, ru_csF, ru_csJ, wI_add, wI_sub, wI_mul, wI_lt, wI_le, wI_inj, ru_fdE, ru_fdN, ru_iaN, ru_baN, ru_laN, ru_qaN, ru_pfN, ru_isN, ru_bsN, ru_jsN, ru_qsN, ru_set2, Nat.add_right_cancel_iff, if_true, if_false, ite_self, Int.reduceEq, and_self, Int.add_neg_cancel_right, Int.add_zero, Int.zero_add, d0, d0', d1, d2, wI_neg, Int.reduceNeg, Int.neg_neg, Int.add_neg_cancel_right, rd1, rt, hw, hw2]
theorem g312 (h : gbS X S r m f l cap) (hd : dgI X) (hS : 100 < S) (hr : 100 < r) {v : Nat} (hv : v ≤ 99) (hc : l.length + (numT v).length ≤ 500) : ∃ X' r' f' cap', ru_ev z 312 [.ref S, .int (wI v)] X = some (.inl (some (.ref S)), X') ∧ gbS X' S r' m f' (l ++ numT v) cap' ∧ gbOn X X' S r r' cap cap' := by
  obtain ⟨a1, a2, a3, a4, a5, a6, a7, a8⟩ := id h
  obtain ⟨X1, r1, f1, cap1, k3, b1, b2, b3⟩ := g303 (z := z) h (n := l.length + (numT v).length) hc
  have hd1 : dgI X1 := by
    obtain ⟨⟨fo, o1, o2⟩, ft, t1, t2⟩ := hd
    exact ⟨⟨fo, by rw [b3.1 10 (by omega) (by omega) (by omega)]; exact o1, o2⟩, ft, by rw [b3.1 11 (by omega) (by omega) (by omega)]; exact t1, t2⟩
  have hr1 : 100 < r1 := by have := b3.2.2.2.2; omega
  obtain ⟨f', u1, q, u2⟩ := g316 (z := z) b1 hd1 hr1 hv b2
  have hlen : (l ++ numT v).length = l.length + (numT v).length := List.length_append
  obtain ⟨v1, v2⟩ := gb_put (f' := f') b1 (l' := l ++ numT v) (by omega) (fun i hi => u1 i (by omega))
  have g3 := gb_f3 h
  have c1 := b1.1
  have g0' := gb_f0 b1
  have w := gb_cnt (gb_row b1 f') ((l ++ numT v).length : Nat)
  have c2 := gb_row b1 f'
  have ks := k314 (z := z) (X := X) (v := (v : Int)) (by omega) (by omega)
  have hlat := g315 (z := z) b1
  have d0 : ((1 : Int) = 0) = False := eq_false (by decide)
  have es : (l.length : Int) + (if (v : Int) < 10 then 1 else 2) = ((l ++ numT v).length : Int) := by
    rw [hlen, numT_len]
    by_cases c : v < 10
    · rw [if_pos c, if_pos (by omega)]; omega
    · rw [if_neg c, if_neg (by omega)]; omega
  rw [show ((l.length + (numT v).length : Nat) : Int) = ((l ++ numT v).length : Int) by omega] at k3 u2
  have e313 : ru_ev z 313 [.ref S, .int (wI v)] X = some (.inl (some (.ref S)), am_set (am_set X1 r1 (.inl (1, cap1, .inl (fun i => wI (f' i))))) S (.inr (11, gsL r1 m ((l ++ numT v).length : Nat)))) := by
    simp (disch := omega) only [en313, e313_0, e313_1, e313_4, e313_5, e313_6, e313_7, e313_10, e313_11, e313_12, e313_13, e313_14, e313_17, e313_18, e313_21, e313_24, e313_25, e313_26, e313_27, e313_30, e313_33, e313_34, e313_48, e313_49, e313_50, e313_53, e313_54, ↓reduceIte, Bool.false_eq_true, not_false_eq_true, not_true_eq_false, Nat.reduceLeDiff, Nat.reduceAdd, Nat.reduceEqDiff, Int.reduceToNat, Int.toNat_natCast, iB0, iB1, ru_klI, ru_klR, ru_klF, ru_klJ, ru_kl0, ru_cs0, ru_csI, ru_csR, ru_csF, ru_csJ, wI_add, wI_sub, wI_mul, wI_lt, wI_le, wI_inj, ru_fdE, ru_fdN, ru_iaN, ru_baN, ru_laN, ru_qaN, ru_pfN, ru_isN, ru_bsN, ru_jsN, ru_qsN, ru_set2, Nat.add_right_cancel_iff, if_true, if_false, ite_self, Int.reduceEq, and_self, Int.add_neg_cancel_right, Int.add_zero, Int.zero_add, a1, c1, g3, ks, es, k3, hlat, d0, g0', u2, c2, w, ru_ctI]
  refine ⟨_, r1, f', cap1, ?_, v1, gbOn_tr b3 v2⟩
  simp (disch := omega) only [en312, e312_0, e312_1, e312_2, e312_5, e312_6, e312_7, ↓reduceIte, Bool.false_eq_true, not_false_eq_true, not_true_eq_false, Nat.reduceLeDiff, Nat.reduceAdd, Nat.reduceEqDiff, Int.reduceToNat, Int.toNat_natCast, iB0, iB1, ru_klI, ru_klR, ru_klF, ru_klJ, ru_kl0, ru_cs0, ru_csI, ru_csR, ru_csF, ru_csJ, wI_add, wI_sub, wI_mul, wI_lt, wI_le, wI_inj, ru_fdE, ru_fdN, ru_iaN, ru_baN, ru_laN, ru_qaN, ru_pfN, ru_isN, ru_bsN, ru_jsN, ru_qsN, ru_set2, Nat.add_right_cancel_iff, if_true, if_false, ite_self, Int.reduceEq, and_self, Int.add_neg_cancel_right, Int.add_zero, Int.zero_add, a1, e313, ru_ctR]
end GB
