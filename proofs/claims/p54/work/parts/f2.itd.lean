/-! ===== the class reads side and items ===== -/
section ITD
variable {z : Bool} {C0 C C' : tCl} {n A N R : Nat} {F L : Nat → List Nat} {h : am_H} {q : tPh}
theorem f95 (hR : 1315 ≤ R) (hst : strs h) (hs : nmS C0 A N F L) {e : Nat → Nat} {ns : Nat → Int} {T0 most : Nat} {lf : Int} {sd T : List Nat} {gv cl : Int} {Q : Nat → Int} {fi : Nat → Int64} (hT0 : T0 ≤ 12) (hm : 1 ≤ most ∧ most ≤ T0) (hQ : ∀ k, k < T0 → Q k = (e k : Int) ∧ ((e k : Nat) : Int) < q.1 7) (hn : ∀ k, k < most → ns k < (N : Int)) (hT : enS T) (hsd : (lf = 1 ∧ sd = sbT 20) ∨ (lf = 0 ∧ sd = sbT 19)) (hq : fpI C0 C q) (ht : tkw C n sd (itT F L ns most ++ T)) :
    ∃ (C' : tCl) (Q' : Nat → Int) (fi' : Nat → Int64), ru_ev z 95 [.ref R] (clPut (rdH h R (A + 1) (gv, T0, cl, Q, fi)) C) = some (.inl none, clPut (rdH h R (A + 1) (gv + (gfN ns most : Nat), T0, most, Q', fi')) C') ∧ tkT C' n T ∧ fpI C0 C' (gfC (sdE e T0 lf) ns most q) := by
  have x1 := f96 (z := z) (h := h) (nn := A + 1) (S := (gv, (T0 : Int), cl, Q, fi)) hR hst hsd ht
  -- the queue, turned or not
  have tq : ∃ Q' : Nat → Int, (∀ j, j < T0 → Q' j = (sdE e T0 lf j : Int)) ∧ ru_ev z 95 [.ref R] (clPut (rdH h R (A + 1) (gv, T0, cl, Q, fi)) C) = ru_n z 95 11 [some (.ref R), none] [] (clPut (rdH h R (A + 1) (gv, T0, cl, Q', fi)) C) := by
    rcases hsd with ⟨rfl, -⟩ | ⟨rfl, -⟩
    · rw [if_pos rfl] at x1
      refine ⟨Q, fun j hj => (hQ j hj).1, ?_⟩
      have d1 : ((-1 : Int) ≤ 0) = True := eq_true (by decide)
      simp (disch := omega) only [en95, e95_0, e95_1, e95_4, e95_7, e95_8, ↓reduceIte, Bool.false_eq_true, not_false_eq_true, not_true_eq_false, Nat.reduceLeDiff, Nat.reduceAdd, Nat.reduceEqDiff, Int.reduceToNat, Int.toNat_natCast, iB0, iB1, ru_klI, ru_klR, ru_klF, ru_klJ, ru_kl0, ru_cs0, ru_csI, ru_csR, ru_csF, ru_csJ, wI_add, wI_sub, wI_mul, wI_lt, wI_le, wI_inj, ru_fdE, ru_fdN, ru_iaN, ru_baN, ru_laN, ru_qaN, ru_pfN, ru_isN, ru_bsN, ru_jsN, ru_qsN, ru_set2, Nat.add_right_cancel_iff, if_true, if_false, ite_self, Int.reduceEq, and_self, Int.add_neg_cancel_right, Int.add_zero, Int.zero_add, rd_e hR, x1, d1]
    · rw [if_neg (by decide)] at x1
      obtain ⟨Q', a1, a2⟩ := c97l (z := z) (C := C) (H := h) (nm := A + 1) hR (T := T0) hT0 (v := fun j => (e j : Int)) (g := gv) (c := cl) (F := fi) (T0 / 2) 0 (Nat.zero_add _) Q none (fun j hj => by rw [if_neg (by omega)]; exact (hQ j hj).1)
      refine ⟨Q', fun j hj => a1 j hj, ?_⟩
      have d1 : ((1 : Int) ≤ 0) = False := eq_false (by decide)
      have x2 : ru_ev z 97 [.ref R] (clPut (rdH h R (A + 1) (gv, (T0 : Int), cl, Q, fi)) C) = some (.inl none, clPut (rdH h R (A + 1) (gv, (T0 : Int), cl, Q', fi)) C) := by
        simp only [Int.natCast_zero, Int.ofNat_zero] at a2
        simp (disch := omega) only [en97, e97_0, e97_1, ↓reduceIte, Bool.false_eq_true, not_false_eq_true, not_true_eq_false, Nat.reduceLeDiff, Nat.reduceAdd, Nat.reduceEqDiff, Int.reduceToNat, Int.toNat_natCast, iB0, iB1, ru_klI, ru_klR, ru_klF, ru_klJ, ru_kl0, ru_cs0, ru_csI, ru_csR, ru_csF, ru_csJ, wI_add, wI_sub, wI_mul, wI_lt, wI_le, wI_inj, ru_fdE, ru_fdN, ru_iaN, ru_baN, ru_laN, ru_qaN, ru_pfN, ru_isN, ru_bsN, ru_jsN, ru_qsN, ru_set2, Nat.add_right_cancel_iff, if_true, if_false, ite_self, Int.reduceEq, and_self, Int.add_neg_cancel_right, Int.add_zero, Int.zero_add, rd_e hR, a2]
      simp (disch := omega) only [en95, e95_0, e95_1, e95_4, e95_7, e95_8, ↓reduceIte, Bool.false_eq_true, not_false_eq_true, not_true_eq_false, Nat.reduceLeDiff, Nat.reduceAdd, Nat.reduceEqDiff, Int.reduceToNat, Int.toNat_natCast, iB0, iB1, ru_klI, ru_klR, ru_klF, ru_klJ, ru_kl0, ru_cs0, ru_csI, ru_csR, ru_csF, ru_csJ, wI_add, wI_sub, wI_mul, wI_lt, wI_le, wI_inj, ru_fdE, ru_fdN, ru_iaN, ru_baN, ru_laN, ru_qaN, ru_pfN, ru_isN, ru_bsN, ru_jsN, ru_qsN, ru_set2, Nat.add_right_cancel_iff, if_true, if_false, ite_self, Int.reduceEq, and_self, Int.add_neg_cancel_right, Int.add_zero, Int.zero_add, rd_e hR, x1, d1, x2]
  obtain ⟨Q', q1, q2⟩ := tq
  have eI : itT F L ns most ++ T = lwT 12 ++ (itW F L ns 0 ++ (itR F L ns (most - 1) 1 ++ T)) := by
    have e0 := itR_T (F := F) (L := L) (ns := ns) most 0
    rw [Nat.zero_add] at e0
    rw [← e0]
    obtain ⟨m, rfl⟩ : ∃ m, most = m + 1 := ⟨most - 1, by omega⟩
    rw [itR, if_pos rfl]
    show ([] ++ (lwT 12 ++ itW F L ns 0 ++ itR F L ns m 1)) ++ T = _
    simp only [List.append_assoc, List.nil_append, Nat.add_sub_cancel]
  rw [eI] at ht
  obtain ⟨s, p1, -⟩ := id ht
  have hen := itR_en (F := F) (L := L) (ns := ns) (enS_T hT) (most - 1) 1 (by omega)
  have hsp : spK (lwT 12) := spK_1
  obtain ⟨C1, a1, a2, a3⟩ := av_K (z := z) hs (hn 0 (by omega)) hen hsp p1
  have hm' : ∀ k, k < T0 → Q' k = (sdE e T0 lf k : Int) ∧ ((sdE e T0 lf k : Nat) : Int) < q.1 7 := fun k hk => ⟨q1 k hk, by
    unfold sdE
    split
    · exact (hQ k hk).2
    · exact (hQ (T0 - 1 - k) (by omega)).2⟩
  have hq1 : fpI C0 C1 (gfC (sdE e T0 lf) ns 0 q) := fpI_S hq a3
  obtain ⟨C2, fi2, b1, b2, b3⟩ := f98k (z := z) (h := h) hR hst hs (e := sdE e T0 lf) (ns := ns) (k := 0) (T0 := T0) (gv := gv) (Q := Q') (fi := fi) hq1 hT0 (by omega) (hm' 0 (by omega)).1 (by rw [gfC_7]; exact (hm' 0 (by omega)).2) (hn 0 (by omega)) a2 hen
  obtain ⟨C3, fi3, c1, c2, c3⟩ := f95l (z := z) (h := h) (R := R) (q := q) hR hst hs (e := sdE e T0 lf) (ns := ns) (T0 := T0) (most := most) (T := T) (gv := gv) (Q := Q') hT0 hm.2 hm' hn hT (most - 1) 1 (by omega) (by decide) 0 C2 fi2 (by decide) b3 b2
  refine ⟨C3, Q', fi3, ?_, c2, c3⟩
  have y := a1 (rdH h R (A + 1) (gv, (T0 : Int), cl, Q', fi))
  have g0 : gv + ((gfN ns 0 : Nat) : Int) = gv := Int.add_zero _
  rw [g0] at b1
  have z0 : ((0 : Nat) : Int) = 0 := rfl
  have z1 : ((1 : Nat) : Int) = 1 := rfl
  rw [z0] at b1 c1
  rw [z1] at c1
  rw [q2]
  simp (disch := omega) only [e95_11, e95_12, e95_15, e95_18, e95_19, e95_20, e95_23, e95_24, e95_27, e95_28, ↓reduceIte, Bool.false_eq_true, not_false_eq_true, not_true_eq_false, Nat.reduceLeDiff, Nat.reduceAdd, Nat.reduceEqDiff, Int.reduceToNat, Int.toNat_natCast, iB0, iB1, ru_klI, ru_klR, ru_klF, ru_klJ, ru_kl0, ru_cs0, ru_csI, ru_csR, ru_csF, ru_csJ, wI_add, wI_sub, wI_mul, wI_lt, wI_le, wI_inj, ru_fdE, ru_fdN, ru_iaN, ru_baN, ru_laN, ru_qaN, ru_pfN, ru_isN, ru_bsN, ru_jsN, ru_qsN, ru_set2, Nat.add_right_cancel_iff, if_true, if_false, ite_self, Int.reduceEq, and_self, Int.add_neg_cancel_right, Int.add_zero, Int.zero_add, rd_e hR, rd_f0 hR, rd_s7 hR, y, b1, Int.reduceAdd, c1]
end ITD
