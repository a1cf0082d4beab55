/-! ===== the class's neighbours in a row ===== -/
theorem pheq_r (q : tPh) : pheq q q := ⟨fun _ _ => rfl, fun _ _ _ _ => rfl⟩
theorem pk_lf {p : tPi} {q : tPh} {gap : Int} (hq : phR q) (ok : piOK p q gap) {r : Nat → Int} {rc : Int} (w : rwOK (shS q) (shY q) gap r rc) {n : Nat} {e : Nat → Nat} {rr : Nat} (he : enO (fun o => shS q o && decide (r o = (rr : Int))) (kyX (shX q)) n e) {j : Nat} (hj : j < n) : e j < 12 ∧ shS q (e j) = true ∧ p.2 3 (e j) = (rr : Int) ∧ p.2 4 (e j) = (j : Int) := by
  obtain ⟨r1, r2⟩ := pk_row (pheq_r q) hq ok w
  obtain ⟨n0, eo, er, o1, o2, o3, o4, o5, o6, o7, o8, o9⟩ := ok
  have h1 := he.1 j hj
  simp only [Bool.and_eq_true, decide_eq_true_eq] at h1
  have sk : shS q (e j) = true := h1.2.1
  have rk : p.2 3 (e j) = (rr : Int) := by rw [r2 _ h1.1]; exact h1.2.2
  have l1 : lfN (shS q) (p.2 3) (shX q) (e j) = j := by
    refine Eq.trans (cnB_congr (fun o ho => ?_)) (enO_rk he hj)
    show (shS q o && (decide (p.2 3 o = p.2 3 (e j)) && lfB (shX q) o (e j))) = ((shS q o && decide (r o = (rr : Int))) && decide (kyX (shX q) o < kyX (shX q) (e j)))
    by_cases so : shS q o = true
    · rw [so, r2 o ho, r2 _ h1.1, h1.2.2, Bool.true_and, Bool.true_and]
      by_cases ro : r o = (rr : Int)
      · rw [decide_eq_true ro, Bool.true_and, Bool.true_and]
        unfold lfB kyX
        by_cases cx : shX q o = shX q (e j)
        · rw [if_pos cx]
          exact decide_eq_decide.mpr (by omega)
        · rw [if_neg cx]
          exact decide_eq_decide.mpr (by omega)
      · rw [decide_eq_false ro, Bool.false_and, Bool.false_and]
    · have so2 : shS q o = false := by simpa using so
      rw [so2, Bool.false_and, Bool.false_and, Bool.false_and]
  refine ⟨h1.1, sk, rk, ?_⟩
  rw [o6 _ h1.1]
  unfold plF
  rw [if_pos sk, l1]
section NBR
variable {z : Bool} {C : tCl} {h : am_H} {q : tPh}
theorem f109 {gap : Int} (hq : phR q) (ok : piOK (piGet C 1070) q gap) {r N : Nat} {e : Nat → Nat} (hrow : rowAt q gap r N e) {i j : Nat} (hi : i < N) (hj : j < N) {st : Int} (hst : (st = 1 ∧ j = i + 1) ∨ (st = -1 ∧ j + 1 = i)) : ru_ev z 109 [.ref 1070, .int (wI (e i)), .int (wI st)] (clPut h C) = some (.inl (some (.int (wI (e j)))), clPut h C) := by
  obtain ⟨R, rc, h1, h2, h3⟩ := hrow
  obtain ⟨p, hpp⟩ : ∃ p, p = piGet C 1070 := ⟨_, rfl⟩
  rw [← hpp] at ok
  have eC : piPut C 1070 p = C := by rw [hpp]; exact piPut_get C 1070
  have hP : isPi 1070 := Or.inl rfl
  obtain ⟨a1, a2, a3, a4⟩ := pk_lf hq ok h2 h3 hi
  obtain ⟨b1, b2⟩ := pk_at (pheq_r q) hq ok h2 h3 h1
  obtain ⟨t1, -⟩ := pk_row (pheq_r q) hq ok h2
  obtain ⟨c1, c2, c3, c4, c5⟩ := pi_at ok hq (r := r) (j := j) (by omega) (by unfold lenC at b1; omega)
  have b3 := b2 j hj
  have ej := (h3.1 j hj).1
  unfold plC at b3
  unfold lenC at b1
  have rcb := pi_rc ok
  have N12 := enO_12 h3
  have dr : ((r : Int) = -1) = False := eq_false (by omega)
  have dj : (i : Int) + st = (j : Int) := by omega
  have d0 : ((j : Int) < 0) = False := eq_false (by omega)
  have r7 : p.2 6 (r + 1) = p.2 6 r + (N : Int) := by omega
  have x3 : (((r : Nat) : Int) + 1).toNat = r + 1 := by omega
  have dN : ((N : Int) ≤ (j : Int)) = False := eq_false (by omega)
  have dN2 : ((j : Int) < (N : Int)) = True := eq_true (by omega)
  have eN : p.2 6 r + (N : Int) - p.2 6 r = (N : Int) := by omega
  rw [← eC]
  simp (disch := omega) only [en109, e109_0, e109_1, e109_4, e109_5, e109_6, e109_7, e109_8, e109_9, e109_12, e109_13, e109_14, e109_15, e109_18, e109_19, e109_20, e109_21, e109_22, e109_24, e109_26, e109_29, e109_31, e109_32, e109_33, e109_36, e109_39, e109_40, e109_43, e109_44, e109_45, e109_47, e109_50, en93, e93_0, e93_1, e93_4, e93_5, e93_6, e93_7, e93_8, e93_9, e93_12, e93_13, e93_14, e93_15, en94, e94_0, e94_1, e94_4, e94_5, e94_8, e94_9, e94_10, e94_11, e94_12, e94_13, ↓reduceIte, Bool.false_eq_true, not_false_eq_true, not_true_eq_false, Nat.reduceLeDiff, Nat.reduceAdd, Nat.reduceEqDiff, Int.reduceToNat, Int.toNat_natCast, iB0, iB1, ru_klI, ru_klR, ru_klF, ru_klJ, ru_kl0, ru_cs0, ru_csI, ru_csR, ru_csF, ru_csJ, wI_add, wI_sub, wI_mul, wI_lt, wI_le, wI_inj, ru_fdE, ru_fdN, ru_iaN, ru_baN, ru_laN, ru_qaN, ru_pfN, ru_isN, ru_bsN, ru_jsN, ru_qsN, ru_set2, Nat.add_right_cancel_iff, if_true, if_false, ite_self, Int.reduceEq, and_self, Int.add_neg_cancel_right, Int.add_zero, Int.zero_add, pi_e hP, pi_f5 hP, pi_f6 hP, pi_f7 hP, pi_f8 hP, pi_a3 hP, pi_a4 hP, pi_a5 hP, pi_a6 hP, Int.toNat_natCast, a3, a4, dr, dj, d0, x3, r7, eN, dN, dN2, b3, not_false_iff]
end NBR
