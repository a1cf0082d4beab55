/-! ===== the class reads all phrases ===== -/
/-- phrases from the front, each behind a semicolon -/
def prFr (gap : Int) (NN : Nat) (F L : Nat → List Nat) : Nat → tPh → List Nat → tPh → Nat → Prop
  | 0, p, w, p', c => w = [] ∧ p' = p ∧ c = 0
  | k + 1, p, w, p', c => ∃ w1 p1 c1 w2 c2, prPh p gap NN F L w1 p1 c1 ∧ prFr gap NN F L k p1 w2 p' c2 ∧ w = [59] ++ (w1 ++ w2) ∧ c = c1 + c2
theorem prFr_s {gap : Int} {NN : Nat} {F L : Nat → List Nat} : ∀ (k : Nat) (p : tPh) (w : List Nat) (p1 : tPh) (c : Nat) (w2 : List Nat) (p' : tPh) (c2 : Nat), prFr gap NN F L k p w p1 c → prPh p1 gap NN F L w2 p' c2 → prFr gap NN F L (k + 1) p (w ++ ([59] ++ w2)) p' (c + c2)
  | 0, p, w, p1, c, w2, p', c2, h, g => by
    obtain ⟨rfl, rfl, rfl⟩ := h
    exact ⟨w2, p', c2, [], 0, g, ⟨rfl, rfl, rfl⟩, by rw [List.append_nil, List.nil_append], by omega⟩
  | k + 1, p, w, p1, c, w2, p', c2, h, g => by
    obtain ⟨wa, pa, ca, wb, cb, a1, a2, rfl, rfl⟩ := h
    refine ⟨wa, pa, ca, wb ++ ([59] ++ w2), cb + c2, a1, prFr_s k pa wb p1 cb w2 p' c2 a2 g, ?_, by omega⟩
    simp only [List.append_assoc]
theorem prAll_F {gap : Int} {NN : Nat} {F L : Nat → List Nat} : ∀ (k : Nat) (p : tPh) (w : List Nat) (p' : tPh) (c : Nat), prAll gap NN F L (k + 1) p w p' c → ∃ w1 p1 c1 w2 c2, prPh p gap NN F L w1 p1 c1 ∧ prFr gap NN F L k p1 w2 p' c2 ∧ w = w1 ++ w2 ∧ c = c1 + c2
  | 0, p, w, p', c, h => by
    obtain ⟨w1, p1, c1, w2, c2, ⟨a1, a2, a3⟩, h2, e1, e2⟩ := h
    rw [a2] at h2
    exact ⟨w2, p', c2, [], 0, h2, ⟨rfl, rfl, rfl⟩, by rw [e1, a1]; simp only [if_true, List.append_nil, List.nil_append], by omega⟩
  | k + 1, p, w, p', c, h => by
    obtain ⟨w1, p1, c1, w2, c2, h1, h2, rfl, rfl⟩ := h
    obtain ⟨wa, pa, ca, wb, cb, a1, a2, rfl, rfl⟩ := prAll_F k p w1 p1 c1 h1
    refine ⟨wa, pa, ca, wb ++ ([59] ++ w2), cb + c2, a1, prFr_s k pa wb p1 cb w2 p' c2 a2 h2, ?_, by omega⟩
    rw [if_neg (by omega)]
    simp only [List.append_assoc]
theorem prFr_en {gap : Int} {NN : Nat} {F L : Nat → List Nat} {k : Nat} {p p' : tPh} {w : List Nat} {c : Nat} (h : prFr gap NN F L k p w p' c) : enS w := by
  cases k with
  | zero => exact Or.inl h.1
  | succ k =>
    obtain ⟨wa, pa, ca, wb, cb, a1, a2, e, -⟩ := h
    exact Or.inr ⟨_, e⟩
section PAL
variable {z : Bool} {C0 : tCl} {n A N R : Nat} {F L : Nat → List Nat} {h : am_H}
theorem f90l (hR : 1315 ≤ R) (hst : strs h) (hs : nmS C0 A N F L) {q0 : tPh} {gap : Int} (hpi : piOK (piGet C0 1070) q0 gap) (hN6 : N ≤ 6) : ∀ (d j : Nat) (C : tCl) (S : tRd) (q p : tPh) (T : List Nat) (p' : tPh) (ct : Nat), prFr gap N F L d p T p' ct → fpI C0 C q → psE q q0 → phR p → phN p (N : Int) → pheq q p → tkT C n T → j + d ≤ 1000 → ∃ (C2 : tCl) (S2 : tRd) (q' : tPh), ru_n z 90 6 [some (.ref R), some (.int (wI ((j : Nat) : Int)))] [] (clPut (rdH h R (A + 1) S) C) = some (.inl (some (.int (wI (S.1 + (ct : Nat))))), clPut (rdH h R (A + 1) S2) C2) ∧ fpI C0 C2 q' ∧ psE q' q0 ∧ pheq q' p' ∧ phN p' (N : Int) ∧ phR p' ∧ psE p' p := by
  intro d
  have d0 : ((0 : Int) = 0) = True := eq_true rfl
  have d1 : ((1 : Int) = 0) = False := eq_false (by decide)
  induction d with
  | zero =>
    intro j C S q p T p' ct hpr hq hE hp hN hpq ht hj
    obtain ⟨rfl, rfl, rfl⟩ := hpr
    have he : tke C n := by
      rcases ht with ⟨-, h1⟩ | ⟨T', h1, -⟩ | ⟨T', h1, -⟩
      · exact h1
      · exact absurd h1 (by simp)
      · exact absurd h1 (by simp)
    have e2 : ((1200 : Int) ≤ (j : Int)) = False := eq_false (by omega)
    have x := fw39 (z := z) (h := rdH h R (A + 1) S) (K := 202) (by decide) he.2.2.2.2 (by decide)
    rw [if_neg (by decide)] at x
    have x5 := fw39 (z := z) (h := rdH h R (A + 1) S) (K := 205) (by decide) he.2.2.2.2 (by decide)
    rw [if_pos rfl] at x5
    have f4 := rd_f4 (h := h) (C := C) (R := R) (nm := A + 1) (S := S) hR
    refine ⟨C, S, q, ?_, hq, hE, hpq, hN, hp, psE_refl _⟩
    rw [show S.1 + ((0 : Nat) : Int) = S.1 by omega]
    simp (disch := omega) only [e90_6, e90_7, e90_10, e90_13, e90_14, e90_17, e90_20, e90_23, e90_43, e90_44, e90_47, e90_48, e90_51, e90_54, e90_57, e90_58, e90_61, e90_62, e90_65, ↓reduceIte, Bool.false_eq_true, not_false_eq_true, not_true_eq_false, Nat.reduceLeDiff, Nat.reduceAdd, Nat.reduceEqDiff, Int.reduceToNat, Int.toNat_natCast, iB0, iB1, ru_klI, ru_klR, ru_klF, ru_klJ, ru_kl0, ru_cs0, ru_csI, ru_csR, ru_csF, ru_csJ, wI_add, wI_sub, wI_mul, wI_lt, wI_le, wI_inj, ru_fdE, ru_fdN, ru_iaN, ru_baN, ru_laN, ru_qaN, ru_pfN, ru_isN, ru_bsN, ru_jsN, ru_qsN, ru_set2, Nat.add_right_cancel_iff, if_true, if_false, ite_self, Int.reduceEq, and_self, Int.add_neg_cancel_right, Int.add_zero, Int.zero_add, rd_e hR, rd_f0 hR, f4, cl_e1, e2, x, x5, fw36, d0, d1, not_true, not_false_iff]
  | succ d ih =>
    intro j C S q p T p' ct hpr hq hE hp hN hpq ht hj
    obtain ⟨w1, p1, c1, w2, c2, h1, h2, rfl, rfl⟩ := hpr
    have hs2 : tks C n 202 (w1 ++ w2) := by
      rcases ht with ⟨e, -⟩ | ⟨T', e, k⟩ | ⟨T', e, -⟩
      · exact absurd e (by simp)
      · have e9 : T' = w1 ++ w2 := by
          have := (List.cons.inj e).2
          exact this.symm
        rw [← e9]; exact k
      · exact absurd (List.cons.inj e).1 (by decide)
    obtain ⟨s, e, hse, hpo, -, -, hk⟩ := hs2
    obtain ⟨C1, C2, S2, q', a1, a2, a3, a4, a5, a6, a7, a8, a9, a10⟩ := f91ph (z := z) (h := h) (R := R) hR hst hs hq hpi hE hp hN hN6 hpq h1 hpo (prFr_en h2) S
    obtain ⟨C3, S3, q3, b1, b2, b3, b4, b5, b6, b7⟩ := ih (j + 1) C2 S2 q' p1 w2 p' c2 h2 a5 (psE_tr a10 hE) a8 a7 a6 a4 (by omega)
    have e2 : ((1200 : Int) ≤ (j : Int)) = False := eq_false (by omega)
    have x := fw39 (z := z) (h := rdH h R (A + 1) S) (K := 202) (by decide) hk (by decide)
    rw [if_pos rfl] at x
    refine ⟨C3, S3, q3, ?_, b2, b3, b4, b5, b6, psE_tr b7 a9⟩
    rw [show S.1 + ((c1 + c2 : Nat) : Int) = S2.1 + ((c2 : Nat) : Int) by rw [a3]; omega, ← b1, e90_6]
    simp only [Int.natCast_add, Int.natCast_one]
    simp (disch := omega) only [e90_7, e90_10, e90_13, e90_14, e90_17, e90_20, e90_23, e90_26, e90_27, e90_30, e90_33, e90_34, e90_37, e90_40, ↓reduceIte, Bool.false_eq_true, not_false_eq_true, not_true_eq_false, Nat.reduceLeDiff, Nat.reduceAdd, Nat.reduceEqDiff, Int.reduceToNat, Int.toNat_natCast, iB0, iB1, ru_klI, ru_klR, ru_klF, ru_klJ, ru_kl0, ru_cs0, ru_csI, ru_csR, ru_csF, ru_csJ, wI_add, wI_sub, wI_mul, wI_lt, wI_le, wI_inj, ru_fdE, ru_fdN, ru_iaN, ru_baN, ru_laN, ru_qaN, ru_pfN, ru_isN, ru_bsN, ru_jsN, ru_qsN, ru_set2, Nat.add_right_cancel_iff, if_true, if_false, ite_self, Int.reduceEq, and_self, Int.add_neg_cancel_right, Int.add_zero, Int.zero_add, rd_e hR, rd_f0 hR, cl_e1, e2, x, d1, a1, a2, not_true, not_false_iff]
theorem f90 (hR : 1315 ≤ R) (hst : strs h) (hs : nmS C0 A N F L) {q0 : tPh} {gap : Int} (hpi : piOK (piGet C0 1070) q0 gap) (hN6 : N ≤ 6) {m e : Nat} {C D : tCl} {S : tRd} {q p : tPh} {w : List Nat} {p' : tPh} {ct : Nat} (hm : m ≤ 900) (hpr : prAll gap N F L (m + 1) p w p' ct) (hq : fpI C0 C q) (hE : psE q q0) (hp : phR p) (hN : phN p (N : Int)) (hpq : pheq q p) (hpo : poR C n e w) (hD : ∀ h, ru_ev z 20 [.ref 1001] (clPut h C) = some (.inl none, clPut h D)) : ∃ (C2 : tCl) (S2 : tRd) (q' : tPh), ru_ev z 90 [.ref R] (clPut (rdH h R (A + 1) S) D) = some (.inl (some (.int (wI (S.1 + (ct : Nat))))), clPut (rdH h R (A + 1) S2) C2) ∧ fpI C0 C2 q' ∧ psE q' q0 ∧ pheq q' p' ∧ phN p' (N : Int) ∧ phR p' ∧ psE p' p := by
  obtain ⟨w1, p1, c1, w2, c2, h1, h2, rfl, rfl⟩ := prAll_F m p w p' ct hpr
  obtain ⟨C1, C2, S2, q', a1, a2, a3, a4, a5, a6, a7, a8, a9, a10⟩ := f91ph (z := z) (h := h) (R := R) hR hst hs hq hpi hE hp hN hN6 hpq h1 hpo (prFr_en h2) S
  obtain ⟨C3, S3, q3, b1, b2, b3, b4, b5, b6, b7⟩ := f90l (z := z) hR hst hs hpi hN6 m 0 C2 S2 q' p1 w2 p' c2 h2 a5 (psE_tr a10 hE) a8 a7 a6 a4 (by omega)
  have eD : clPut (rdH h R (A + 1) S) C1 = clPut (rdH h R (A + 1) S) D := by
    have k := (a1 (rdH h R (A + 1) S)).symm.trans (hD _)
    exact (Prod.mk.inj (Option.some.inj k)).2
  rw [eD] at a2
  refine ⟨C3, S3, q3, ?_, b2, b3, b4, b5, b6, psE_tr b7 a9⟩
  rw [show S.1 + ((c1 + c2 : Nat) : Int) = S2.1 + ((c2 : Nat) : Int) by rw [a3]; omega, ← b1]
  simp (disch := omega) only [en90, e90_0, e90_1, e90_4, e90_5, ↓reduceIte, Bool.false_eq_true, not_false_eq_true, not_true_eq_false, Nat.reduceLeDiff, Nat.reduceAdd, Nat.reduceEqDiff, Int.reduceToNat, Int.toNat_natCast, iB0, iB1, ru_klI, ru_klR, ru_klF, ru_klJ, ru_kl0, ru_cs0, ru_csI, ru_csR, ru_csF, ru_csJ, wI_add, wI_sub, wI_mul, wI_lt, wI_le, wI_inj, ru_fdE, ru_fdN, ru_iaN, ru_baN, ru_laN, ru_qaN, ru_pfN, ru_isN, ru_bsN, ru_jsN, ru_qsN, ru_set2, Nat.add_right_cancel_iff, if_true, if_false, ite_self, Int.reduceEq, and_self, Int.add_neg_cancel_right, Int.add_zero, Int.zero_add, rd_e hR, a2]
  rfl
end PAL
