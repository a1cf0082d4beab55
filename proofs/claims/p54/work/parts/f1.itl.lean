/-! ===== the class reads all items of a row ===== -/
section ITL
variable {z : Bool} {C0 C C' : tCl} {n A N R : Nat} {F L : Nat → List Nat} {h : am_H} {q : tPh}
theorem gfC_7 {e : Nat → Nat} {ns : Nat → Int} : ∀ k, (gfC e ns k q).1 = q.1
  | 0 => rfl
  | k + 1 => by
    rw [gfC]
    split
    · exact gfC_7 k
    · exact gfC_7 k
/-- no comma -/
def enS (T : List Nat) : Prop := T = [] ∨ ∃ T', T = [59] ++ T'
theorem enS_T {T : List Nat} (h : enS T) : enT T := by
  rcases h with h | h
  · exact Or.inl h
  · exact Or.inr (Or.inl h)
theorem f95l (hR : 1315 ≤ R) (hst : strs h) (hs : nmS C0 A N F L) {e : Nat → Nat} {ns : Nat → Int} {T0 most : Nat} {T : List Nat} {gv : Int} {Q : Nat → Int} (hT0 : T0 ≤ 12) (hm : most ≤ T0) (hQ : ∀ k, k < T0 → Q k = (e k : Int) ∧ ((e k : Nat) : Int) < q.1 7) (hn : ∀ k, k < most → ns k < (N : Int)) (hT : enS T) : ∀ d k, k + d = most → 0 < k → ∀ (j : Nat) (C : tCl) (fi : Nat → Int64), j ≤ k → fpI C0 C (gfC e ns k q) → tkT C n (itR F L ns d k ++ T) →
    ∃ (C' : tCl) (fi' : Nat → Int64), ru_n z 95 29 [some (.ref R), some (.int (wI j))] [] (clPut (rdH h R (A + 1) (gv + (gfN ns k : Nat), T0, k, Q, fi)) C) = some (.inl none, clPut (rdH h R (A + 1) (gv + (gfN ns most : Nat), T0, most, Q, fi')) C') ∧ tkT C' n T ∧ fpI C0 C' (gfC e ns most q) := by
  intro d
  induction d with
  | zero =>
    intro k hk h0 j C fi hj hq ht
    obtain rfl : k = most := by omega
    have ht' : tkT C n T := ht
    have d1 : (1200 ≤ (j : Int)) = False := eq_false (by omega)
    have kd : ∃ kk : Nat, C.2.2.2 1001 7 = kk ∧ (kk = 205 ∨ kk = 202) := by
      rcases ht' with ⟨-, t⟩ | ⟨T', -, t⟩ | ⟨T', e0, t⟩
      · exact ⟨205, t.2.2.2.2, Or.inl rfl⟩
      · obtain ⟨s, e1, -, -, -, -, t7⟩ := t
        exact ⟨202, t7, Or.inr rfl⟩
      · rcases hT with e1 | ⟨T'', e1⟩
        · rw [e1] at e0; exact absurd e0 (by simp)
        · rw [e1] at e0; exact absurd e0 (by simp)
    obtain ⟨kk, k1, k2⟩ := kd
    have x := fw39 (z := z) (h := rdH h R (A + 1) (gv + (gfN ns k : Nat), (T0 : Int), (k : Int), Q, fi)) (C := C) (K := 203) (k := kk) (by omega) k1 (by omega)
    rw [if_neg (by omega)] at x
    refine ⟨C, fi, ?_, ht', hq⟩
    simp (disch := omega) only [e95_29, e95_30, e95_33, e95_36, e95_37, e95_40, e95_43, e95_46, e95_66, ↓reduceIte, Bool.false_eq_true, not_false_eq_true, not_true_eq_false, Nat.reduceLeDiff, Nat.reduceAdd, Nat.reduceEqDiff, Int.reduceToNat, Int.toNat_natCast, iB0, iB1, ru_klI, ru_klR, ru_klF, ru_klJ, ru_kl0, ru_cs0, ru_csI, ru_csR, ru_csF, ru_csJ, wI_add, wI_sub, wI_mul, wI_lt, wI_le, wI_inj, ru_fdE, ru_fdN, ru_iaN, ru_baN, ru_laN, ru_qaN, ru_pfN, ru_isN, ru_bsN, ru_jsN, ru_qsN, ru_set2, Nat.add_right_cancel_iff, if_true, if_false, ite_self, Int.reduceEq, and_self, Int.add_neg_cancel_right, Int.add_zero, Int.zero_add, d1, rd_e hR, rd_f0 hR, x]
  | succ d ih =>
    intro k hk h0 j C fi hj hq ht
    have d1 : (1200 ≤ (j : Int)) = False := eq_false (by omega)
    have eL : itR F L ns (d + 1) k ++ T = [44] ++ ([32] ++ (itW F L ns k ++ (itR F L ns d (k + 1) ++ T))) := by
      rw [itR, if_neg (by omega)]
      show ([44, 32] ++ itW F L ns k) ++ itR F L ns d (k + 1) ++ T = _
      simp only [List.append_assoc, List.cons_append, List.nil_append]
    rw [eL] at ht
    have tc : tks C n 203 ([32] ++ (itW F L ns k ++ (itR F L ns d (k + 1) ++ T))) := by
      rcases ht with ⟨e0, t⟩ | ⟨T', e0, t⟩ | ⟨T', e0, t⟩
      · exact absurd e0 (by simp)
      · exact absurd e0 (by simp)
      · rw [List.append_cancel_left e0]; exact t
    obtain ⟨s, e1, -, p1, -, -, t7⟩ := tc
    have hen := itR_en (F := F) (L := L) (ns := ns) (enS_T hT) d (k + 1) (by omega)
    obtain ⟨C1, a1, a2, a3⟩ := av_K (z := z) hs (hn k (by omega)) hen spK_1 p1
    obtain ⟨C2, fi2, b1, b2, b3⟩ := f98k (z := z) (h := h) hR hst hs (e := e) (ns := ns) (k := k) (T0 := T0) (gv := gv) (Q := Q) (fi := fi) (fpI_S hq a3) hT0 (by omega) (hQ k (by omega)).1 (by rw [gfC_7]; exact (hQ k (by omega)).2) (hn k (by omega)) a2 hen
    obtain ⟨C3, fi3, c1, c2, c3⟩ := ih (k + 1) (by omega) (by omega) (j + 1) C2 fi2 (by omega) b3 b2
    refine ⟨C3, fi3, ?_, c2, c3⟩
    have x := fw39 (z := z) (h := rdH h R (A + 1) (gv + (gfN ns k : Nat), (T0 : Int), (k : Int), Q, fi)) (C := C) (K := 203) (k := 203) (by omega) t7 (by omega)
    rw [if_pos rfl] at x
    have y := a1 (rdH h R (A + 1) (gv + (gfN ns k : Nat), (T0 : Int), (k : Int), Q, fi))
    have d2 : ((1 : Int) = 0) = False := eq_false (by decide)
    rw [show (((k + 1 : Nat)) : Int) = (k : Int) + 1 by omega, show (((j + 1 : Nat)) : Int) = (j : Int) + 1 by omega] at c1
    rw [← c1, e95_29]
    simp (disch := omega) only [e95_30, e95_33, e95_36, e95_37, e95_40, e95_43, e95_46, e95_49, e95_50, e95_53, e95_56, e95_57, e95_60, e95_63, ↓reduceIte, Bool.false_eq_true, not_false_eq_true, not_true_eq_false, Nat.reduceLeDiff, Nat.reduceAdd, Nat.reduceEqDiff, Int.reduceToNat, Int.toNat_natCast, iB0, iB1, ru_klI, ru_klR, ru_klF, ru_klJ, ru_kl0, ru_cs0, ru_csI, ru_csR, ru_csF, ru_csJ, wI_add, wI_sub, wI_mul, wI_lt, wI_le, wI_inj, ru_fdE, ru_fdN, ru_iaN, ru_baN, ru_laN, ru_qaN, ru_pfN, ru_isN, ru_bsN, ru_jsN, ru_qsN, ru_set2, Nat.add_right_cancel_iff, if_true, if_false, ite_self, Int.reduceEq, and_self, Int.add_neg_cancel_right, Int.add_zero, Int.zero_add, d1, d2, rd_e hR, rd_f0 hR, x, y, b1]
end ITL
