/-! ===== the law's album: the people of a row ===== -/
def agX (X Y : am_H) (c s : Nat) : Prop := (∀ q, q < X.2.1 → Y.1 q = X.1 q) ∧ X.2.1 ≤ Y.2.1 ∧ Y.2.1 ≤ X.2.1 + c ∧ Y.2.2 ≤ X.2.2 + s
theorem agX_r {X : am_H} : agX X X 0 0 := ⟨fun _ _ => rfl, Nat.le_refl _, Nat.le_refl _, Nat.le_refl _⟩
theorem agX_t {X Y W : am_H} {c s c' s' : Nat} (h : agX X Y c s) (k : agX Y W c' s') : agX X W (c + c') (s + s') := ⟨fun q hq => (k.1 q (by have := h.2.1; omega)).trans (h.1 q hq), by have := h.2.1; have := k.2.1; omega, by have := h.2.2.1; have := k.2.2.1; omega, by have := h.2.2.2; have := k.2.2.2; omega⟩
theorem agX_m {X Y : am_H} {c s c' s' : Nat} (h : agX X Y c s) (h1 : c ≤ c') (h2 : s ≤ s') : agX X Y c' s' := ⟨h.1, h.2.1, by have := h.2.2.1; omega, by have := h.2.2.2; omega⟩
theorem agX_new {X : am_H} {e : am_C} {n : Nat} : agX X (am_new X e n) 1 n := ⟨fun q hq => if_neg (by omega), by show X.2.1 ≤ X.2.1 + 1; omega, Nat.le_refl _, Nat.le_refl _⟩
theorem agX_nw2 {X : am_H} {r g : Nat → Int} {N : Nat} (hN : N ≤ 12) : agX X (nw2 X r N g) 2 24 := agX_m (agX_t agX_new agX_new) (Nat.le_refl _) (by omega)
theorem agX_P {X Y : am_H} {c s B : Nat} {A : tLw} (k : agX X Y c s) (h : ylP X B A) (hB : B + 30 ≤ X.2.1) : ylP Y B A := ylP_ag h (fun q _ h2 => k.1 q (by omega))
section ROWS
variable {z : Bool} {X : am_H} {B : Nat} {A : tLw}
theorem d416c {f N n2 : Nat} {a : Nat} {r : Nat → Int} {rr : Int} (hrr : 0 ≤ rr ∧ rr ≤ 100) (hx : X.1 a = some (ylI 0 12 r)) (hr2 : ∀ k, k < 12 → -1 ≤ r k ∧ r k ≤ 12) {l4 : Value} (hc : l4 = .ref N) : ∀ d k, k + d = 12 → ru_n z 416 20 [some (.ref (B + 1)), some (.int (wI f)), some (.int (wI rr)), some (.ref a), some l4, some (.int (wI (cnB (fun o => decide (r o = rr)) k : Nat))), some (.int (wI k)), none, none] [] X = ru_n z 416 51 [some (.ref (B + 1)), some (.int (wI f)), some (.int (wI rr)), some (.ref a), some l4, some (.int (wI (cnB (fun o => decide (r o = rr)) 12 : Nat))), some (.int (wI 12)), none, none] [] X := by
  subst hc
  intro d
  induction d with
  | zero =>
    intro k hk
    obtain rfl : k = 12 := by omega
    simp (disch := omega) only [e416_20, e416_22, e416_24, ↓reduceIte, Bool.false_eq_true, not_false_eq_true, not_true_eq_false, Nat.reduceLeDiff, Nat.reduceAdd, Nat.reduceEqDiff, Int.reduceToNat, Int.toNat_natCast, iB0, iB1, ru_klI, ru_klR, ru_klF, ru_klJ, ru_kl0, ru_cs0, ru_csI, ru_csR, ru_csF, ru_csJ, wI_add, wI_sub, wI_mul, wI_lt, wI_le, wI_inj, ru_fdE, ru_fdN, ru_iaN, ru_baN, ru_laN, ru_qaN, ru_pfN, ru_isN, ru_bsN, ru_jsN, ru_qsN, ru_set2, Nat.add_right_cancel_iff, if_true, if_false, ite_self, Int.reduceEq, and_self, Int.add_neg_cancel_right, Int.add_zero, Int.zero_add, Int.le_refl, Int.reduceLE, Int.cast_ofNat_Int]
  | succ d ih =>
    intro k hk
    have d1 : (12 ≤ (k : Int)) = False := eq_false (by omega)
    have h1 := hr2 k (by omega)
    have i1 := yl_ia hx (k := (k : Int)) (by omega) (by omega) (by decide)
    rw [Int.toNat_natCast] at i1
    have cl := cnB_le (fun o => decide (r o = rr)) k
    rw [← ih (k + 1) (by omega), e416_20, show (((k + 1 : Nat)) : Int) = (k : Int) + 1 by omega]
    by_cases c : r k = rr
    · have e : cnB (fun o => decide (r o = rr)) (k + 1) = cnB (fun o => decide (r o = rr)) k + 1 := by show _ + (if decide (r k = rr) = true then 1 else 0) = _; rw [if_pos (decide_eq_true c)]
      rw [e, show ((cnB (fun o => decide (r o = rr)) k + 1 : Nat) : Int) = (cnB (fun o => decide (r o = rr)) k : Int) + 1 by omega]
      simp (disch := omega) only [e416_22, e416_24, e416_27, e416_29, e416_30, e416_32, e416_33, e416_34, e416_37, e416_38, e416_41, e416_42, e416_43, e416_45, e416_48, ↓reduceIte, Bool.false_eq_true, not_false_eq_true, not_true_eq_false, Nat.reduceLeDiff, Nat.reduceAdd, Nat.reduceEqDiff, Int.reduceToNat, Int.toNat_natCast, iB0, iB1, ru_klI, ru_klR, ru_klF, ru_klJ, ru_kl0, ru_cs0, ru_csI, ru_csR, ru_csF, ru_csJ, wI_add, wI_sub, wI_mul, wI_lt, wI_le, wI_inj, ru_fdE, ru_fdN, ru_iaN, ru_baN, ru_laN, ru_qaN, ru_pfN, ru_isN, ru_bsN, ru_jsN, ru_qsN, ru_set2, Nat.add_right_cancel_iff, if_true, if_false, ite_self, Int.reduceEq, and_self, Int.add_neg_cancel_right, Int.add_zero, Int.zero_add, d1, i1, c]
    · have e : cnB (fun o => decide (r o = rr)) (k + 1) = cnB (fun o => decide (r o = rr)) k := by show _ + (if decide (r k = rr) = true then 1 else 0) = _; rw [if_neg (by simpa using c)]; rfl
      rw [e]
      simp (disch := omega) only [e416_22, e416_24, e416_27, e416_29, e416_30, e416_32, e416_33, e416_34, e416_37, e416_38, e416_41, e416_42, e416_43, e416_45, e416_48, ↓reduceIte, Bool.false_eq_true, not_false_eq_true, not_true_eq_false, Nat.reduceLeDiff, Nat.reduceAdd, Nat.reduceEqDiff, Int.reduceToNat, Int.toNat_natCast, iB0, iB1, ru_klI, ru_klR, ru_klF, ru_klJ, ru_kl0, ru_cs0, ru_csI, ru_csR, ru_csF, ru_csJ, wI_add, wI_sub, wI_mul, wI_lt, wI_le, wI_inj, ru_fdE, ru_fdN, ru_iaN, ru_baN, ru_laN, ru_qaN, ru_pfN, ru_isN, ru_bsN, ru_jsN, ru_qsN, ru_set2, Nat.add_right_cancel_iff, if_true, if_false, ite_self, Int.reduceEq, and_self, Int.add_neg_cancel_right, Int.add_zero, Int.zero_add, d1, i1, c]
def kyX (x : Nat → Int) (k : Nat) : Int := x k * 12 + k
theorem nw_lo {Y : am_H} {e : am_C} {n a : Nat} (h : a < Y.2.1) : (am_new Y e n).1 a = Y.1 a := if_neg (by omega)
/-- the inner loop -/
theorem d416i (h : ylP X B A) (hr : ylR A) (hB : B + 30 ≤ X.2.1) {f k p n m N b : Nat} {rr l3 : Value} {g2 : Nat → Int} (hrr : ∃ q, rr = .int q) (hl3 : ∃ q, l3 = .ref q) (hf : f < 3) (hb : b < X.2.1) (ho : X.1 b = some (ylI 0 N g2)) (hN : N ≤ 12) (hk : k < N) (gk : g2 k = (p : Int)) (hp : p < 12) (hm : m < n) (hn : n ≤ 12) {e : Nat → Nat} (hE : ∀ i, i < m → e i < 12 ∧ shX (A.2.1 f) (e i) ≤ shX (A.2.1 f) p) : ∀ t, t ≤ m → ∀ w : Nat → Int, (∀ j, j < t → w j = (e j : Int)) → (∀ j, t < j → j ≤ m → w j = (e (j - 1) : Int)) → (∀ j, t ≤ j → j < m → kyX (shX (A.2.1 f)) p < kyX (shX (A.2.1 f)) (e j)) →
    ∃ (t' : Nat) (w' : Nat → Int), t' ≤ m ∧ (∀ j, j < t' → w' j = (e j : Int)) ∧ (∀ j, t' < j → j ≤ m → w' j = (e (j - 1) : Int)) ∧ (∀ j, t' ≤ j → j < m → kyX (shX (A.2.1 f)) p < kyX (shX (A.2.1 f)) (e j)) ∧ (t' = 0 ∨ ¬ kyX (shX (A.2.1 f)) p < kyX (shX (A.2.1 f)) (e (t' - 1))) ∧
      ru_n z 416 89 [some (.ref (B + 1)), some (.int (wI f)), some rr, some l3, some (.ref b), some (.int (wI m)), some (.ref X.2.1), some (.int (wI k)), some (.int (wI t))] [] (am_new X (ylI 0 n w) n) =
      ru_n z 416 152 [some (.ref (B + 1)), some (.int (wI f)), some rr, some l3, some (.ref b), some (.int (wI m)), some (.ref X.2.1), some (.int (wI k)), some (.int (wI t'))] [] (am_new X (ylI 0 n w') n) := by
  obtain ⟨qr, rfl⟩ := hrr
  obtain ⟨q3, rfl⟩ := hl3
  intro t
  induction t with
  | zero =>
    intro ht w h1 h2 h3
    refine ⟨0, w, ht, h1, h2, h3, Or.inl rfl, ?_⟩
    simp (disch := omega) only [e416_89, e416_91, ↓reduceIte, Bool.false_eq_true, not_false_eq_true, not_true_eq_false, Nat.reduceLeDiff, Nat.reduceAdd, Nat.reduceEqDiff, Int.reduceToNat, Int.toNat_natCast, iB0, iB1, ru_klI, ru_klR, ru_klF, ru_klJ, ru_kl0, ru_cs0, ru_csI, ru_csR, ru_csF, ru_csJ, wI_add, wI_sub, wI_mul, wI_lt, wI_le, wI_inj, ru_fdE, ru_fdN, ru_iaN, ru_baN, ru_laN, ru_qaN, ru_pfN, ru_isN, ru_bsN, ru_jsN, ru_qsN, ru_set2, Nat.add_right_cancel_iff, if_true, if_false, ite_self, Int.reduceEq, and_self, Int.add_neg_cancel_right, Int.add_zero, Int.zero_add, Int.natCast_zero, Int.le_refl, Int.ofNat_zero]
  | succ t ih =>
    intro ht w h1 h2 h3
    have hy := ylP_new (n := n) (e := ylI 0 n w) h hB
    have et := hE t (by omega)
    have gt : w t = (e t : Int) := h1 t (by omega)
    have xa := d411 (z := z) hy hr hf et.1
    have xb := d411 (z := z) hy hr hf hp
    have d1 : (((t + 1 : Nat)) : Int) = (t : Int) + 1 := by omega
    have d2 : ((t : Int) + 1 ≤ 0) = False := eq_false (by omega)
    have i1 := nw_ia (X := X) (N := n) (n := n) (g := w) (i := (t : Int)) (by omega) (by omega) (by omega)
    rw [Int.toNat_natCast, gt] at i1
    have i3 := yl_ia (X := am_new X (ylI 0 n w) n) (a := b) (n := N) (g := g2) (by rw [nw_lo hb]; exact ho) (k := (k : Int)) (by omega) (by omega) (by omega)
    rw [Int.toNat_natCast, gk] at i3
    have i2 := nw_is (X := X) (N := n) (n := n) (g := w) (i := (t : Int) + 1) (v := (e t : Int)) (by omega) (by omega) (by omega)
    rw [show ((t : Int) + 1).toNat = t + 1 by omega] at i2
    have s1 := shXY_rng (hr f) p
    have s2 := shXY_rng (hr f) (e t)
    have stop : ¬ kyX (shX (A.2.1 f)) p < kyX (shX (A.2.1 f)) (e t) → ru_n z 416 89 [some (.ref (B + 1)), some (.int (wI f)), some (.int qr), some (.ref q3), some (.ref b), some (.int (wI m)), some (.ref X.2.1), some (.int (wI k)), some (.int (wI ((t : Int) + 1)))] [] (am_new X (ylI 0 n w) n) =
      ru_n z 416 152 [some (.ref (B + 1)), some (.int (wI f)), some (.int qr), some (.ref q3), some (.ref b), some (.int (wI m)), some (.ref X.2.1), some (.int (wI k)), some (.int (wI ((t : Int) + 1)))] [] (am_new X (ylI 0 n w) n) := fun c => by
      unfold kyX at c
      by_cases c1 : shX (A.2.1 f) (e t) = shX (A.2.1 f) p
      · have c2 : ((e t : Int) ≤ (p : Int)) = True := eq_true (by omega)
        simp (disch := omega) only [e416_89, e416_91, e416_94, e416_95, e416_96, e416_98, e416_100, e416_101, e416_102, e416_103, e416_106, e416_107, e416_108, e416_110, e416_112, e416_113, e416_116, e416_119, e416_121, e416_123, e416_124, e416_125, e416_126, e416_128, e416_130, e416_131, ↓reduceIte, Bool.false_eq_true, not_false_eq_true, not_true_eq_false, Nat.reduceLeDiff, Nat.reduceAdd, Nat.reduceEqDiff, Int.reduceToNat, Int.toNat_natCast, iB0, iB1, ru_klI, ru_klR, ru_klF, ru_klJ, ru_kl0, ru_cs0, ru_csI, ru_csR, ru_csF, ru_csJ, wI_add, wI_sub, wI_mul, wI_lt, wI_le, wI_inj, ru_fdE, ru_fdN, ru_iaN, ru_baN, ru_laN, ru_qaN, ru_pfN, ru_isN, ru_bsN, ru_jsN, ru_qsN, ru_set2, Nat.add_right_cancel_iff, if_true, if_false, ite_self, Int.reduceEq, and_self, Int.add_neg_cancel_right, Int.add_zero, Int.zero_add, d2, i1, i3, xa, xb, c1, c2, Int.add_sub_cancel, not_true]
      · simp (disch := omega) only [e416_89, e416_91, e416_94, e416_95, e416_96, e416_98, e416_100, e416_101, e416_102, e416_103, e416_106, e416_107, e416_108, e416_110, e416_112, e416_113, e416_116, e416_119, e416_121, e416_123, e416_124, e416_125, e416_126, e416_128, e416_130, e416_131, ↓reduceIte, Bool.false_eq_true, not_false_eq_true, not_true_eq_false, Nat.reduceLeDiff, Nat.reduceAdd, Nat.reduceEqDiff, Int.reduceToNat, Int.toNat_natCast, iB0, iB1, ru_klI, ru_klR, ru_klF, ru_klJ, ru_kl0, ru_cs0, ru_csI, ru_csR, ru_csF, ru_csJ, wI_add, wI_sub, wI_mul, wI_lt, wI_le, wI_inj, ru_fdE, ru_fdN, ru_iaN, ru_baN, ru_laN, ru_qaN, ru_pfN, ru_isN, ru_bsN, ru_jsN, ru_qsN, ru_set2, Nat.add_right_cancel_iff, if_true, if_false, ite_self, Int.reduceEq, and_self, Int.add_neg_cancel_right, Int.add_zero, Int.zero_add, d2, i1, i3, xa, xb, c1, Int.add_sub_cancel, not_false_iff]
    by_cases c : kyX (shX (A.2.1 f)) p < kyX (shX (A.2.1 f)) (e t)
    · obtain ⟨t', w', k1, k2, k3, k4, k5, k6⟩ := ih (by omega) (up1 w (t + 1) (e t : Int)) (fun j hj => by unfold up1; rw [if_neg (by omega)]; exact h1 j (by omega)) (fun j hj hj2 => by
        unfold up1
        by_cases c2 : j = t + 1
        · rw [if_pos c2, c2]; rfl
        · rw [if_neg c2]; exact h2 j (by omega) hj2) (fun j hj hj2 => by
        by_cases c2 : j = t
        · rw [c2]; exact c
        · exact h3 j (by omega) hj2)
      refine ⟨t', w', k1, k2, k3, k4, k5, ?_⟩
      unfold kyX at c
      have c1 : shX (A.2.1 f) (e t) = shX (A.2.1 f) p := by omega
      have c2 : ((e t : Int) ≤ (p : Int)) = False := eq_false (by omega)
      rw [← k6, d1, e416_89]
      simp (disch := omega) only [e416_91, e416_94, e416_95, e416_96, e416_98, e416_100, e416_101, e416_102, e416_103, e416_106, e416_107, e416_108, e416_110, e416_112, e416_113, e416_116, e416_119, e416_121, e416_123, e416_124, e416_125, e416_126, e416_128, e416_130, e416_131, e416_134, e416_136, e416_138, e416_140, e416_142, e416_143, e416_144, e416_145, e416_146, e416_149, ↓reduceIte, Bool.false_eq_true, not_false_eq_true, not_true_eq_false, Nat.reduceLeDiff, Nat.reduceAdd, Nat.reduceEqDiff, Int.reduceToNat, Int.toNat_natCast, iB0, iB1, ru_klI, ru_klR, ru_klF, ru_klJ, ru_kl0, ru_cs0, ru_csI, ru_csR, ru_csF, ru_csJ, wI_add, wI_sub, wI_mul, wI_lt, wI_le, wI_inj, ru_fdE, ru_fdN, ru_iaN, ru_baN, ru_laN, ru_qaN, ru_pfN, ru_isN, ru_bsN, ru_jsN, ru_qsN, ru_set2, Nat.add_right_cancel_iff, if_true, if_false, ite_self, Int.reduceEq, and_self, Int.add_neg_cancel_right, Int.add_zero, Int.zero_add, d2, i1, i3, xa, xb, c1, c2, i2, Int.add_sub_cancel, not_true]
    · refine ⟨t + 1, w, ht, h1, h2, h3, Or.inr (by rw [Nat.add_sub_cancel]; exact c), ?_⟩
      rw [d1]
      exact stop c
/-- the outer loop -/
theorem d416l (h : ylP X B A) (hr : ylR A) (hB : B + 30 ≤ X.2.1) {f n N a b : Nat} {rr : Int} {g2 r : Nat → Int} {e0 : Nat → Nat} (hf : f < 3) (ha : a < X.2.1) (hb : b < X.2.1) (hx : X.1 a = some (ylI 0 12 r)) (ho : X.1 b = some (ylI 0 N g2)) (hr2 : ∀ k, k < 12 → -1 ≤ r k ∧ r k ≤ 12) (hrr : 0 ≤ rr ∧ rr ≤ 100) (hE : enO (shS (A.2.1 f)) (kyO (shX (A.2.1 f)) (shY (A.2.1 f))) N e0) (hg : ∀ i, i < N → g2 i = (e0 i : Int)) (hn : n = cnB (fun o => decide (r o = rr)) 12) : ∀ d k, k + d = N → ∀ (m : Nat) (e : Nat → Nat) (w : Nat → Int) (l8 : Option Value), enO (fun o => befB e0 k o && decide (r o = rr)) (kyX (shX (A.2.1 f))) m e → (∀ i, i < m → w i = (e i : Int)) →
    ∃ (m' : Nat) (e' : Nat → Nat) (w' : Nat → Int), enO (fun o => befB e0 N o && decide (r o = rr)) (kyX (shX (A.2.1 f))) m' e' ∧ (∀ i, i < m' → w' i = (e' i : Int)) ∧
      ru_n z 416 63 [some (.ref (B + 1)), some (.int (wI f)), some (.int (wI rr)), some (.ref a), some (.ref b), some (.int (wI m)), some (.ref X.2.1), some (.int (wI k)), l8] [] (am_new X (ylI 0 n w) n) = some (.inl (some (.ref X.2.1)), am_new X (ylI 0 n w') n) := by
  have hN := enO_12 hE
  have hn12 : n ≤ 12 := by rw [hn]; exact cnB_le _ _
  intro d
  induction d with
  | zero =>
    intro k hk m e w l8 h1 h2
    obtain rfl : k = N := by omega
    refine ⟨m, e, w, h1, h2, ?_⟩
    have al : am_al (am_new X (ylI 0 n w) n) b = some (wI k) := ru_al (by rw [nw_lo hb]; exact ho) (by decide)
    simp (disch := omega) only [e416_63, e416_65, e416_67, e416_68, e416_171, e416_173, ↓reduceIte, Bool.false_eq_true, not_false_eq_true, not_true_eq_false, Nat.reduceLeDiff, Nat.reduceAdd, Nat.reduceEqDiff, Int.reduceToNat, Int.toNat_natCast, iB0, iB1, ru_klI, ru_klR, ru_klF, ru_klJ, ru_kl0, ru_cs0, ru_csI, ru_csR, ru_csF, ru_csJ, wI_add, wI_sub, wI_mul, wI_lt, wI_le, wI_inj, ru_fdE, ru_fdN, ru_iaN, ru_baN, ru_laN, ru_qaN, ru_pfN, ru_isN, ru_bsN, ru_jsN, ru_qsN, ru_set2, Nat.add_right_cancel_iff, if_true, if_false, ite_self, Int.reduceEq, and_self, Int.add_neg_cancel_right, Int.add_zero, Int.zero_add, al, Int.le_refl]
  | succ d ih =>
    intro k hk m e w l8 h1 h2
    have d1 : ((N : Int) ≤ (k : Int)) = False := eq_false (by omega)
    have al : am_al (am_new X (ylI 0 n w) n) b = some (wI N) := ru_al (by rw [nw_lo hb]; exact ho) (by decide)
    have i3 := yl_ia (X := am_new X (ylI 0 n w) n) (a := b) (n := N) (g := g2) (by rw [nw_lo hb]; exact ho) (k := (k : Int)) (by omega) (by omega) (by omega)
    rw [Int.toNat_natCast, hg k (by omega)] at i3
    have ek := hE.1 k (by omega)
    have i4 := yl_ia (X := am_new X (ylI 0 n w) n) (a := a) (n := 12) (g := r) (by rw [nw_lo ha]; exact hx) (k := (e0 k : Int)) (by omega) (by omega) (by omega)
    rw [Int.toNat_natCast] at i4
    have hrk := hr2 _ ek.1
    have ebk : ∀ o, befB e0 (k + 1) o = (befB e0 k o || decide (e0 k = o)) := fun o => rfl
    have nb : ¬ befB e0 k (e0 k) = true := fun hb => by
      obtain ⟨j, j1, j2⟩ := (befB_iff e0 (e0 k) k).mp hb
      have := enO_inj hE (by omega) (by omega) j2
      omega
    by_cases c : r (e0 k) = rr
    · have hEi : ∀ i, i < m → e i < 12 ∧ shX (A.2.1 f) (e i) ≤ shX (A.2.1 f) (e0 k) := fun i hi => by
        have h3 := h1.1 i hi
        simp only [Bool.and_eq_true, decide_eq_true_eq] at h3
        obtain ⟨j, j1, j2⟩ := (befB_iff e0 (e i) k).mp h3.2.1
        refine ⟨h3.1, ?_⟩
        rw [← j2]
        have k1 := hE.2.1 j k j1 (by omega)
        have s1 := shS_rng (hr f) (hE.1 j (by omega)).2
        have s2 := shS_rng (hr f) ek.2
        unfold kyO at k1
        omega
      have hT : ∀ o, o < 12 → ((fun o => befB e0 (k + 1) o && decide (r o = rr)) o = true ↔ (fun o => befB e0 k o && decide (r o = rr)) o = true ∨ o = e0 k) := fun o ho => by
        simp only [ebk, Bool.and_eq_true, Bool.or_eq_true, decide_eq_true_eq]
        constructor
        · rintro ⟨o1 | o1, o2⟩
          · exact Or.inl ⟨o1, o2⟩
          · exact Or.inr o1.symm
        · rintro (⟨o1, o2⟩ | rfl)
          · exact ⟨Or.inl o1, o2⟩
          · exact ⟨Or.inr rfl, c⟩
      have hmn : m < n := by
        have e1 := enO_n h1
        have e2 : cnB (fun o => befB e0 (k + 1) o && decide (r o = rr)) 12 = cnB (fun o => befB e0 k o && decide (r o = rr)) 12 + 1 := cnB_one (k := e0 k) 12 ek.1 ((hT _ ek.1).mpr (Or.inr rfl)) (by simp [nb]) (fun o ho hne => by
          have := hT o ho
          apply Bool.eq_iff_iff.mpr
          constructor
          · intro h; rcases this.mp h with h | h
            · exact h
            · exact absurd h hne
          · intro h; exact this.mpr (Or.inl h))
        have e3 : cnB (fun o => befB e0 (k + 1) o && decide (r o = rr)) 12 ≤ cnB (fun o => decide (r o = rr)) 12 := cnB_mono 12 (fun o _ ho => by simp only [Bool.and_eq_true] at ho; exact ho.2)
        omega
      obtain ⟨t', w', k1, k2, k3, k4, k5, k6⟩ := d416i (z := z) h hr hB (rr := .int (wI rr)) (l3 := .ref a) ⟨_, rfl⟩ ⟨_, rfl⟩ hf hb ho hN (show k < N by omega) (hg k (by omega)) ek.1 hmn hn12 hEi m (Nat.le_refl _) w h2 (fun j hj hj2 => by omega) (fun j hj hj2 => by omega)
      have hlow : ∀ j, j < t' → kyX (shX (A.2.1 f)) (e j) < kyX (shX (A.2.1 f)) (e0 k) := by
        intro j hj
        have hlast : kyX (shX (A.2.1 f)) (e (t' - 1)) < kyX (shX (A.2.1 f)) (e0 k) := by
          refine shl_1 h1 (fun a b ha hb sa sb he => by unfold kyX at he; omega) ek.1 (by simp [nb]) (by omega) (by rcases k5 with k5 | k5; omega; exact k5)
        by_cases c2 : j = t' - 1
        · rw [c2]; exact hlast
        · have := h1.2.1 j (t' - 1) (by omega) (by omega)
          omega
      have hE2 := enO_ins h1 ek.1 hT k1 hlow k4
      obtain ⟨m'', e'', w'', q1, q2, q3⟩ := ih (k + 1) (by omega) (m + 1) _ (up1 w' t' (e0 k : Int)) (some (.int (wI t'))) hE2 (fun i hi => by
        unfold up1
        by_cases c4 : i = t'
        · rw [if_pos c4, if_neg (by omega), if_pos c4]
        · rw [if_neg c4]
          by_cases c5 : i < t'
          · rw [if_pos c5]; exact k2 i c5
          · rw [if_neg c5, if_neg c4]; exact k3 i (by omega) (by omega))
      refine ⟨m'', e'', w'', q1, q2, ?_⟩
      have i2 := nw_is (X := X) (N := n) (n := n) (g := w') (i := (t' : Int)) (v := (e0 k : Int)) (by omega) (by omega) (by omega)
      rw [Int.toNat_natCast] at i2
      have i3' := yl_ia (X := am_new X (ylI 0 n w') n) (a := b) (n := N) (g := g2) (by rw [nw_lo hb]; exact ho) (k := (k : Int)) (by omega) (by omega) (by omega)
      rw [Int.toNat_natCast, hg k (by omega)] at i3'
      rw [← q3, show (((m + 1 : Nat)) : Int) = (m : Int) + 1 by omega, show (((k + 1 : Nat)) : Int) = (k : Int) + 1 by omega, e416_63]
      simp (disch := omega) only [e416_65, e416_67, e416_68, e416_71, e416_72, e416_74, e416_76, e416_77, e416_78, e416_79, e416_82, e416_85, e416_87, e416_152, e416_154, e416_156, e416_158, e416_160, e416_161, e416_162, e416_165, e416_168, ↓reduceIte, Bool.false_eq_true, not_false_eq_true, not_true_eq_false, Nat.reduceLeDiff, Nat.reduceAdd, Nat.reduceEqDiff, Int.reduceToNat, Int.toNat_natCast, iB0, iB1, ru_klI, ru_klR, ru_klF, ru_klJ, ru_kl0, ru_cs0, ru_csI, ru_csR, ru_csF, ru_csJ, wI_add, wI_sub, wI_mul, wI_lt, wI_le, wI_inj, ru_fdE, ru_fdN, ru_iaN, ru_baN, ru_laN, ru_qaN, ru_pfN, ru_isN, ru_bsN, ru_jsN, ru_qsN, ru_set2, Nat.add_right_cancel_iff, if_true, if_false, ite_self, Int.reduceEq, and_self, Int.add_neg_cancel_right, Int.add_zero, Int.zero_add, al, d1, i3, i4, c, k6, i3', i2]
    · obtain ⟨m'', e'', w'', q1, q2, q3⟩ := ih (k + 1) (by omega) m e w l8 (enO_S h1 (fun o ho => by
        rw [ebk]
        by_cases c2 : e0 k = o
        · subst c2
          simp [c]
        · simp [c2])) h2
      refine ⟨m'', e'', w'', q1, q2, ?_⟩
      rw [← q3, show (((k + 1 : Nat)) : Int) = (k : Int) + 1 by omega, e416_63]
      simp (disch := omega) only [e416_65, e416_67, e416_68, e416_71, e416_72, e416_74, e416_76, e416_77, e416_78, e416_79, e416_82, e416_165, e416_168, ↓reduceIte, Bool.false_eq_true, not_false_eq_true, not_true_eq_false, Nat.reduceLeDiff, Nat.reduceAdd, Nat.reduceEqDiff, Int.reduceToNat, Int.toNat_natCast, iB0, iB1, ru_klI, ru_klR, ru_klF, ru_klJ, ru_kl0, ru_cs0, ru_csI, ru_csR, ru_csF, ru_csJ, wI_add, wI_sub, wI_mul, wI_lt, wI_le, wI_inj, ru_fdE, ru_fdN, ru_iaN, ru_baN, ru_laN, ru_qaN, ru_pfN, ru_isN, ru_bsN, ru_jsN, ru_qsN, ru_set2, Nat.add_right_cancel_iff, if_true, if_false, ite_self, Int.reduceEq, and_self, Int.add_neg_cancel_right, Int.add_zero, Int.zero_add, al, d1, i3, i4, c]
theorem d416 (h : ylP X B A) (hr : ylR A) (hB : B + 30 ≤ X.2.1) {f : Nat} {rr : Int} (hf : f < 3) (hgap : 0 ≤ A.1 0 ∧ A.1 0 ≤ 99) (hrr : 0 ≤ rr ∧ rr ≤ 100) : ∃ (Y : am_H) (n : Nat) (e : Nat → Nat) (w r : Nat → Int) (rc : Int), rwOK (shS (A.2.1 f)) (shY (A.2.1 f)) (A.1 0) r rc ∧ enO (fun o => shS (A.2.1 f) o && decide (r o = rr)) (kyX (shX (A.2.1 f))) n e ∧ (∀ i, i < n → w i = (e i : Int)) ∧ agX X Y 4 60 ∧ Y.1 (X.2.1 + 3) = some (ylI 0 n w) ∧ Y.2.1 = X.2.1 + 4 ∧ ru_ev z 416 [.ref (B + 1), .int (wI f), .int (wI rr)] X = some (.inl (some (.ref (X.2.1 + 3))), Y) := by
  obtain ⟨N, g, r, rc, q1, q2, q3⟩ := d405 (z := z) h hr hB hf hgap
  have hy := nw2_P (r := r) (N := N) (g := g) h hB
  obtain ⟨N2, e0, g2, p1, p2, p3⟩ := d406 (z := z) (all := 1) hy hr (show B + 30 ≤ X.2.1 + 1 + 1 by omega) hf (by decide)
  have hN2 := enO_12 p1
  have hy2 := ylP_new (n := N2) (e := ylI 0 N2 g2) hy (show B + 30 ≤ X.2.1 + 1 + 1 by omega)
  have p1' : enO (shS (A.2.1 f)) (kyO (shX (A.2.1 f)) (shY (A.2.1 f))) N2 e0 := p1
  have rb := rw_b q1
  obtain ⟨W, hW⟩ : ∃ W, W = am_new (nw2 X r N g) (ylI 0 N2 g2) N2 := ⟨_, rfl⟩
  have W1 : W.2.1 = X.2.1 + 3 := by rw [hW]; rfl
  have Wa : W.1 X.2.1 = some (ylI 0 12 r) := by rw [hW, nw_lo (show X.2.1 < X.2.1 + 1 + 1 by omega)]; exact nw2_e1
  have Wb : W.1 (X.2.1 + 2) = some (ylI 0 N2 g2) := by rw [hW]; exact if_pos rfl
  have hyW : ylP W B A := by rw [hW]; exact hy2
  obtain ⟨n, hn⟩ : ∃ n, n = cnB (fun o => decide (r o = rr)) 12 := ⟨_, rfl⟩
  have hn12 : n ≤ 12 := by rw [hn]; exact cnB_le _ _
  have c1 := d416c (z := z) (X := W) (B := B) (f := f) (N := X.2.1 + 2) (n2 := 0) (a := X.2.1) (r := r) hrr Wa (fun k hk => by have := rb k hk; omega) rfl 12 0 rfl
  have na := yl_na (X := W) (N := n) (by omega)
  rw [← hn] at c1
  obtain ⟨m, e, w, t1, t2, t3⟩ := d416l (z := z) (X := W) (n := n) (a := X.2.1) (b := X.2.1 + 2) (rr := rr) hyW hr (by omega) hf (by omega) (by omega) Wa Wb (fun k hk => by have := rb k hk; omega) hrr p1' p2 hn N2 0 (Nat.zero_add _) 0 (fun _ => 0) (fun _ => 0) none ⟨fun i hi => by omega, fun i j hij hj => by omega, fun k hk hs => by simp [befB] at hs⟩ (fun i hi => by omega)
  have eS : ∀ o, o < 12 → (befB e0 N2 o && decide (r o = rr)) = (shS (A.2.1 f) o && decide (r o = rr)) := fun o ho => by
    by_cases so : shS (A.2.1 f) o = true
    · obtain ⟨j, j1, j2⟩ := p1.2.2 o ho so
      rw [so, (befB_iff e0 o N2).mpr ⟨j, j1, j2⟩]
    · have := (rb o ho).2.2.2.mpr so
      have c : decide (r o = rr) = false := decide_eq_false (by omega)
      rw [c, Bool.and_false, Bool.and_false]
  have t1' := enO_S t1 eS
  obtain rfl : m = n := by
    rw [hn, ← enO_n t1']
    refine cnB_congr (fun o ho => ?_)
    by_cases so : shS (A.2.1 f) o = true
    · rw [so, Bool.true_and]
    · have := (rb o ho).2.2.2.mpr so
      have c : decide (r o = rr) = false := decide_eq_false (by omega)
      rw [c, Bool.and_false]
  have aW : agX X W 3 36 := by rw [hW]; exact agX_m (agX_t (agX_nw2 q2) agX_new) (Nat.le_refl _) (by omega)
  refine ⟨am_new W (ylI 0 m w) m, m, e, w, r, rc, q1, t1', t2, agX_m (agX_t aW agX_new) (Nat.le_refl _) (by omega), by rw [← W1]; exact nw_e, by show W.2.1 + 1 = _; omega, ?_⟩
  have e1 : am_new (nw2 X r N g) (ylI 0 N2 g2) N2 = W := hW.symm
  have e2 : (nw2 X r N g).2.1 = X.2.1 + 2 := rfl
  rw [e1, e2] at p3
  rw [W1] at t3
  simp only [Int.natCast_zero, Int.ofNat_zero, show cnB (fun o => decide (r o = rr)) 0 = 0 from rfl] at c1 t3
  simp (disch := omega) only [en416, e416_0, e416_1, e416_2, e416_5, e416_6, e416_7, e416_8, e416_9, e416_12, e416_14, e416_15, e416_17, e416_18, e416_51, e416_53, e416_55, e416_57, e416_58, e416_60, e416_61, ↓reduceIte, Bool.false_eq_true, not_false_eq_true, not_true_eq_false, Nat.reduceLeDiff, Nat.reduceAdd, Nat.reduceEqDiff, Int.reduceToNat, Int.toNat_natCast, iB0, iB1, ru_klI, ru_klR, ru_klF, ru_klJ, ru_kl0, ru_cs0, ru_csI, ru_csR, ru_csF, ru_csJ, wI_add, wI_sub, wI_mul, wI_lt, wI_le, wI_inj, ru_fdE, ru_fdN, ru_iaN, ru_baN, ru_laN, ru_qaN, ru_pfN, ru_isN, ru_bsN, ru_jsN, ru_qsN, ru_set2, Nat.add_right_cancel_iff, if_true, if_false, ite_self, Int.reduceEq, and_self, Int.add_neg_cancel_right, Int.add_zero, Int.zero_add, yl_o h, yl_o hy, q3, p3, c1, na, W1, t3]
end ROWS
