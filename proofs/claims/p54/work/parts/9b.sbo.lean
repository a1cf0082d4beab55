/-! ===== the StringBuilder's operations ===== -/
/-- the builder's own cell anew -/
theorem upR_o {C : tCl} {a k v q : Nat} (h : q ≠ a) : (upR C a k v).2.2.2 q = C.2.2.2 q := by
  funext j
  show (if q = a then _ else C.2.2.2 q j) = _
  rw [if_neg h]
theorem upI_o {C : tCl} {a k : Nat} {v : Int} {q : Nat} (h : q ≠ a) : (upI C a k v).1 q = C.1 q := by
  funext j
  show (if q = a then _ else C.1 q j) = _
  rw [if_neg h]
theorem upI_e (C : tCl) (a k : Nat) (v : Int) (j : Nat) : (upI C a k v).1 a j = if j = k then v else C.1 a j := by
  show (if a = a then (if j = k then v else C.1 a j) else C.1 a j) = _
  rw [if_pos rfl]
/-- the count anew, the row's contents anew -/
theorem sbS_put {H : am_H} {C : tCl} {l l' : List Nat} {cap : Nat} (h : sbS H C l cap) {f' : Nat → Int} {m : Int} (hl : l'.length ≤ cap) (hf : ∀ i, i < l'.length → f' i = ((l'.getD i 0 : Nat) : Int)) : sbS (am_set H (C.2.2.2 1258 0) (.inl (1, cap, .inl (fun i => wI (f' i))))) (upI (upI C 1258 2 m) 1258 3 (l'.length : Int)) l' cap ∧ sbOn H (am_set H (C.2.2.2 1258 0) (.inl (1, cap, .inl (fun i => wI (f' i))))) C (upI (upI C 1258 2 m) 1258 3 (l'.length : Int)) cap cap := by
  obtain ⟨a1, a2, a3, a4, a5, a6, a7, f, a8, a9⟩ := h
  refine ⟨⟨?_, ?_, hl, a4, a5, a6, a7, f', ru_setE _ _ _, hf⟩, fun q h1 h2 => ru_setN h2, Nat.le_refl _, Nat.le_refl _, Nat.le_refl _, Or.inl rfl, fun q hq => ?_, rfl, rfl, fun _ _ => rfl⟩
  · rw [upI_e, if_neg (by decide), upI_e, if_neg (by decide)]; exact a1
  · rw [upI_e, if_pos rfl]
  · rw [upI_o hq, upI_o hq]
section SBO
variable {z : Bool} {H : am_H} {C : tCl} {l : List Nat} {cap : Nat}
theorem k303 (h : sbS H C l cap) {m : Nat} (hm : m ≤ 500) : ∃ H' C' cap', ru_ev z 303 [.ref 1258, .int (wI m)] (clPut H C) = some (.inl none, clPut H' C') ∧ sbS H' C' l cap' ∧ m ≤ cap' ∧ sbOn H H' C C' cap cap' ∧ C'.1 = C.1 := by
  have al := sb_al h
  obtain ⟨a1, a2, a3, a4, a5, a6, a7, f, a8, a9⟩ := id h
  have g1 := cl_g11_1 (h := H) (C := C)
  rw [a1] at g1
  have s := wI_sh0 (a := cap) (by omega)
  by_cases c : m ≤ cap
  · have d1 : ((m : Int) - (cap : Int) ≤ 0) = True := eq_true (by omega)
    refine ⟨H, C, cap, ?_, h, c, sbOn_refl _ _ _, rfl⟩
    simp (disch := omega) only [en303, e303_0, e303_1, e303_4, e303_5, e303_6, e303_9, e303_10, e303_11, e303_12, e303_13, e303_14, e303_17, e303_18, e303_19, e303_22, e303_23, e303_24, e303_27, e303_28, e303_31, e303_32, e303_35, e303_38, ↓reduceIte, Bool.false_eq_true, not_false_eq_true, not_true_eq_false, Nat.reduceLeDiff, Nat.reduceAdd, Nat.reduceEqDiff, Int.reduceToNat, Int.toNat_natCast, iB0, iB1, ru_klI, ru_klR, ru_klF, ru_klJ, ru_kl0, ru_cs0, ru_csI, ru_csR, ru_csF, ru_csJ, wI_add, wI_sub, wI_mul, wI_lt, wI_le, wI_inj, ru_fdE, ru_fdN, ru_iaN, ru_baN, ru_laN, ru_qaN, ru_pfN, ru_isN, ru_bsN, ru_jsN, ru_qsN, ru_set2, Nat.add_right_cancel_iff, if_true, if_false, ite_self, Int.reduceEq, and_self, Int.add_neg_cancel_right, Int.add_zero, Int.zero_add, sb_e, cl_g11_0, g1, al, s.1, d1]
  · have d1 : ((m : Int) - (cap : Int) ≤ 0) = False := eq_false (by omega)
    have k4 := k304 (z := z) h hm (by omega)
    have hn : nwC cap m ≤ 1002 ∧ cap < nwC cap m ∧ m ≤ nwC cap m ∧ cap + 1 ≤ nwC cap m ∧ nwC cap m + 2 * cap ≤ 2 * nwC cap m := by unfold nwC; split <;> omega
    obtain ⟨H', f', k6, u1, u2, u3, u4, u5⟩ := k306 (z := z) h (m := nwC cap m) hn.1 hn.2.1
    have s2 := wI_sh0 (a := nwC cap m) (by omega)
    have g1' := cl_g11_1 (h := H) (C := C)
    have w := cl_q11_0 (h := H') (C := C) (v := H.2.1)
    refine ⟨H', upR C 1258 0 H.2.1, nwC cap m, ?_, ⟨a1, a2, by omega, hn.1, Or.inr ?_, ?_, by omega, f', ?_, u2⟩, hn.2.2.1, ⟨fun q h1 h2 => u3 q h1, by omega, by omega, by omega, Or.inr ?_, fun _ _ => rfl, rfl, rfl, fun q hq => upR_o hq⟩, rfl⟩
    · simp (disch := omega) only [en303, e303_0, e303_1, e303_4, e303_5, e303_6, e303_9, e303_10, e303_11, e303_12, e303_13, e303_14, e303_17, e303_18, e303_19, e303_22, e303_23, e303_24, e303_27, e303_28, e303_31, e303_32, e303_35, e303_38, ↓reduceIte, Bool.false_eq_true, not_false_eq_true, not_true_eq_false, Nat.reduceLeDiff, Nat.reduceAdd, Nat.reduceEqDiff, Int.reduceToNat, Int.toNat_natCast, iB0, iB1, ru_klI, ru_klR, ru_klF, ru_klJ, ru_kl0, ru_cs0, ru_csI, ru_csR, ru_csF, ru_csJ, wI_add, wI_sub, wI_mul, wI_lt, wI_le, wI_inj, ru_fdE, ru_fdN, ru_iaN, ru_baN, ru_laN, ru_qaN, ru_pfN, ru_isN, ru_bsN, ru_jsN, ru_qsN, ru_set2, Nat.add_right_cancel_iff, if_true, if_false, ite_self, Int.reduceEq, and_self, Int.add_neg_cancel_right, Int.add_zero, Int.zero_add, sb_e, cl_g11_0, g1, al, s.1, d1, k4, s2.1, s2.2.1, k6, w]
    · show 1334 ≤ H.2.1; exact a7
    · show H.2.1 < H'.2.1; omega
    · show H'.1 H.2.1 = _; exact u1
    · exact Nat.le_refl _
/-- a string that lies: object and bytes -/
def stAt (H : am_H) (S V : Nat) (t : List Nat) : Prop := H.1 S = some (.inr (50, [.ref V, .int (wI 0)])) ∧ (∃ f, H.1 V = some (.inl (11, t.length, .inl f)) ∧ ∀ j, j < t.length → f j = wI ((t.getD j 0 : Nat) : Int)) ∧ S < 900 ∧ V < 900
theorem stAt_cl {S V : Nat} {t : List Nat} (h : stAt H S V t) : (clPut H C).1 S = some (.inr (50, [.ref V, .int (wI 0)])) ∧ ∃ f, (clPut H C).1 V = some (.inl (11, t.length, .inl f)) ∧ ∀ j, j < t.length → f j = wI ((t.getD j 0 : Nat) : Int) := by
  obtain ⟨a1, ⟨f, a2, a3⟩, a4, a5⟩ := h
  exact ⟨by rw [clPut_o (by omega)]; exact a1, f, by rw [clPut_o (by omega)]; exact a2, a3⟩
theorem stAt_on {H' : am_H} {C' : tCl} {cap' S V : Nat} {t : List Nat} (h : stAt H S V t) (hb : sbS H C l cap) (k : sbOn H H' C C' cap cap') : stAt H' S V t := by
  obtain ⟨a1, ⟨f, a2, a3⟩, a4, a5⟩ := h
  have hA := hb.2.2.2.2.1
  have hH := hb.2.2.2.2.2.2.1
  exact ⟨by rw [k.1 S (by omega) (by omega)]; exact a1, ⟨f, by rw [k.1 V (by omega) (by omega)]; exact a2, a3⟩, a4, a5⟩
theorem k30 {X : am_H} {S V : Nat} (h : X.1 S = some (.inr (50, [.ref V, .int (wI 0)]))) : ru_ev z 30 [.ref S] X = some (.inl (some (.int (wI 0))), X) := by
  have f1 : am_fd X S 50 1 = some (.int (wI 0)) := ru_fd h rfl
  have n0 : am_nb (wI 0) = wI 0 := by decide +kernel
  have d1 : (wI 1 = wI 0) = False := eq_false (by decide +kernel)
  simp (disch := omega) only [en30, e30_0, e30_3, e30_6, e30_7, e30_10, e30_14, ↓reduceIte, Bool.false_eq_true, not_false_eq_true, not_true_eq_false, Nat.reduceLeDiff, Nat.reduceAdd, Nat.reduceEqDiff, Int.reduceToNat, Int.toNat_natCast, iB0, iB1, ru_klI, ru_klR, ru_klF, ru_klJ, ru_kl0, ru_cs0, ru_csI, ru_csR, ru_csF, ru_csJ, wI_add, wI_sub, wI_mul, wI_lt, wI_le, wI_inj, ru_fdE, ru_fdN, ru_iaN, ru_baN, ru_laN, ru_qaN, ru_pfN, ru_isN, ru_bsN, ru_jsN, ru_qsN, ru_set2, Nat.add_right_cancel_iff, if_true, if_false, ite_self, Int.reduceEq, and_self, Int.add_neg_cancel_right, Int.add_zero, Int.zero_add, h, f1, d1, n0]
theorem k29 {X : am_H} {S V : Nat} {t : List Nat} (h : X.1 S = some (.inr (50, [.ref V, .int (wI 0)]))) {f : Nat → Int32} (h2 : X.1 V = some (.inl (11, t.length, .inl f))) (ht : t.length ≤ 100) : ru_ev z 29 [.ref S] X = some (.inl (some (.int (wI (t.length : Nat)))), X) := by
  have f0 : am_fd X S 50 0 = some (.ref V) := ru_fd h rfl
  have al : am_al X V = some (wI (t.length : Nat)) := ru_al h2 (by decide)
  have s := wI_sh0 (a := t.length) (by omega)
  simp (disch := omega) only [en29, e29_0, e29_1, e29_4, e29_5, e29_6, e29_9, e29_10, ↓reduceIte, Bool.false_eq_true, not_false_eq_true, not_true_eq_false, Nat.reduceLeDiff, Nat.reduceAdd, Nat.reduceEqDiff, Int.reduceToNat, Int.toNat_natCast, iB0, iB1, ru_klI, ru_klR, ru_klF, ru_klJ, ru_kl0, ru_cs0, ru_csI, ru_csR, ru_csF, ru_csJ, wI_add, wI_sub, wI_mul, wI_lt, wI_le, wI_inj, ru_fdE, ru_fdN, ru_iaN, ru_baN, ru_laN, ru_qaN, ru_pfN, ru_isN, ru_bsN, ru_jsN, ru_qsN, ru_set2, Nat.add_right_cancel_iff, if_true, if_false, ite_self, Int.reduceEq, and_self, Int.add_neg_cancel_right, Int.add_zero, Int.zero_add, h, f0, al, k30 h, s.1]
end SBO
