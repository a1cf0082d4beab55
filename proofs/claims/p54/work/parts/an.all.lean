/-! ===== the whole text read ===== -/
def lfC (B : Nat) (C C' : tCl) : Prop := (∀ q, q ≠ 1001 → (q < B ∨ B + 30 < q) → C'.1 q = C.1 q) ∧ (∀ q, (q < B ∨ B + 30 < q) → C'.2.1 q = C.2.1 q) ∧ (∀ q j, ¬ (q = 1001 ∧ j = 8) → q ≠ B + 2 → q ≠ B + 3 → C'.2.2.1 q j = C.2.2.1 q j) ∧ ∀ q j, ¬ (q = 1001 ∧ j = 7) → C'.2.2.2 q j = C.2.2.2 q j
def lfM (M M' : tMd) : Prop := (∀ k, (k < 10 ∨ 18 < k) → k ≠ 22 → k ≠ 28 → k ≠ 29 → M'.1 k = M.1 k) ∧ ∀ c, c ≠ 4 → c ≠ 6 → c ≠ 7 → c ≠ 10 → M'.2 c = M.2 c
def okR (B : Nat) (C0 : tCl) (M0 : tMd) (C : tCl) (M : tMd) : Prop := lfC B C0 C ∧ (∀ i, i < 4 → C.1 1001 i = C0.1 1001 i) ∧ lfM M0 M ∧ M.1 17 = 0 ∧ spR B C ∧ rdN B C M ∧ rdP B C M ∧ C.1 B 0 = M.1 28 ∧ (0 ≤ M.1 28 ∧ M.1 28 ≤ 99) ∧ 1 ≤ M.1 29
def erR (B : Nat) (C0 : tCl) (M0 : tMd) (C : tCl) (M : tMd) : Prop := lfC B C0 C ∧ C.1 1001 1 = C0.1 1001 1 ∧ C.1 1001 2 = M.1 17 ∧ C.1 1001 3 = M.1 18 ∧ (1 ≤ M.1 17 ∧ M.1 17 ≤ 9) ∧ (0 ≤ M.1 18 ∧ M.1 18 ≤ 1200) ∧ lfM M0 M ∧ spR B C
theorem ld_lfC {B : Nat} {C C' : tCl} (h : ldC B C C') : lfC B C C' := ⟨fun q h1 h2 => h.1 q h1 (by omega), h.2⟩
theorem ld_lfM {M M' : tMd} (h : ldM M M') : lfM M M' := ⟨fun k h1 h2 _ h4 => h.1 k h1 h2 h4, h.2⟩
theorem lfC_trans {B : Nat} {C D E : tCl} (h : lfC B C D) (k : lfC B D E) : lfC B C E :=
  ⟨fun q h1 h2 => (k.1 q h1 h2).trans (h.1 q h1 h2), fun q h1 => (k.2.1 q h1).trans (h.2.1 q h1), fun q j h1 h2 h3 => (k.2.2.1 q j h1 h2 h3).trans (h.2.2.1 q j h1 h2 h3), fun q j h1 => (k.2.2.2 q j h1).trans (h.2.2.2 q j h1)⟩
theorem lfM_trans {M N O : tMd} (h : lfM M N) (k : lfM N O) : lfM M O := ⟨fun q h1 h2 h3 h4 => (k.1 q h1 h2 h3 h4).trans (h.1 q h1 h2 h3 h4), fun c h1 h2 h3 h4 => (k.2 c h1 h2 h3 h4).trans (h.2 c h1 h2 h3 h4)⟩
theorem erI_R {B : Nat} {C0 C1 C : tCl} {M0 M1 M : tMd} (h : erI B C1 M1 C M) (k1 : lfC B C0 C1) (k2 : lfM M0 M1) (k3 : C1.1 1001 1 = C0.1 1001 1) : erR B C0 M0 C M := by
  obtain ⟨a1, a2, a3, a4, a5, a6, a7, a8⟩ := h
  exact ⟨lfC_trans k1 (ld_lfC a1), a2.trans k3, a3, a4, a5, a6, lfM_trans k2 (ld_lfM a7), a8⟩
/-- the reference's fault, its gap told for nothing -/
theorem erR_28 {B : Nat} {C0 C : tCl} {M0 M : tMd} {v : Int} (h : erR B C0 M0 C M) : erR B C0 M0 C (up1 M.1 28 v, M.2) := by
  obtain ⟨a1, a2, a3, a4, a5, a6, a7, a8⟩ := h
  refine ⟨a1, a2, ?_, ?_, ?_, ?_, lfM_trans a7 ⟨fun k _ _ h _ => up1_n h, fun _ _ _ _ _ => rfl⟩, a8⟩
  · show _ = up1 M.1 28 v 17
    rw [up1_n (by decide)]; exact a3
  · show _ = up1 M.1 28 v 18
    rw [up1_n (by decide)]; exact a4
  · show 1 ≤ up1 M.1 28 v 17 ∧ up1 M.1 28 v 17 ≤ 9
    rw [up1_n (by decide)]; exact a5
  · show 0 ≤ up1 M.1 28 v 18 ∧ up1 M.1 28 v 18 ≤ 1200
    rw [up1_n (by decide)]; exact a6
theorem mut_28 {M : tMd} {v : Int} (h : mutM M) : mutM (up1 M.1 28 v, M.2) := h
/-- the reference's start: nothing read -/
def stM0 (M : tMd) : tMd := (up1 (up1 M.1 22 0) 29 0, upC M.2 10 (fun q => if q < 270 then 0 else M.2 10 q))
def stC0 (B : Nat) (C : tCl) : tCl := upI (upI C (B + 1) 0 0) (B + 4) 0 0
section ALL
variable {z : Bool} {M M0 : tMd} {C C0 : tCl} {n s B : Nat}
theorem p55l {h : am_H} {l1 : Int32} : ∀ d i : Nat, i + d = 270 → ru_n z 55 7 [some (.ref 1315), some (.int l1), some (.int (wI i))] [] (mdPut h (M.1, upC M.2 10 (fun q => if q < i then 0 else M.2 10 q))) = ru_n z 55 27 [some (.ref 1315), some (.int l1), some (.int (wI 270))] [] (mdPut h (M.1, upC M.2 10 (fun q => if q < 270 then 0 else M.2 10 q))) := by
  intro d
  induction d with
  | zero =>
    intro i hi
    obtain rfl : i = 270 := by omega
    simp (disch := omega) only [e55_7, e55_8, e55_11, ↓reduceIte, Bool.false_eq_true, not_false_eq_true, not_true_eq_false, Nat.reduceLeDiff, Nat.reduceAdd, Nat.reduceEqDiff, Int.reduceToNat, Int.toNat_natCast, iB0, iB1, ru_klI, ru_klR, ru_klF, ru_klJ, ru_kl0, ru_cs0, ru_csI, ru_csR, ru_csF, ru_csJ, wI_add, wI_sub, wI_mul, wI_lt, wI_le, wI_inj, ru_fdE, ru_fdN, ru_iaN, ru_baN, ru_laN, ru_qaN, ru_pfN, ru_isN, ru_bsN, ru_jsN, ru_qsN, ru_set2, Nat.add_right_cancel_iff, if_true, if_false, ite_self, Int.reduceEq, and_self, Int.add_neg_cancel_right, Int.add_zero, Int.zero_add, Int.le_refl, show ((270 : Nat) : Int) = 270 from rfl]
  | succ d ih =>
    intro i hi
    have ih1 := ih (i + 1) (by omega)
    simp only [Int.natCast_add, Int.natCast_one] at ih1
    have c : ((270 : Int) ≤ (i : Int)) = False := eq_false (by omega)
    have x := md_w10 (h := h) (M := (M.1, upC M.2 10 (fun q => if q < i then 0 else M.2 10 q))) (i := (i : Int)) (v := 0) (by omega) (by omega)
    rw [Int.toNat_natCast, up2_C] at x
    dsimp only at x
    rw [upC_e, upC_up] at x
    have es : up1 (fun q => if q < i then 0 else M.2 10 q) i 0 = fun q => if q < i + 1 then 0 else M.2 10 q := by
      funext q
      unfold up1
      by_cases e : q = i
      · rw [if_pos e, if_pos (by omega)]
      · rw [if_neg e]
        dsimp only
        by_cases e2 : q < i
        · rw [if_pos e2, if_pos (by omega)]
        · rw [if_neg e2, if_neg (by omega)]
    rw [es] at x
    rw [e55_7]
    simp (disch := omega) only [e55_8, e55_11, e55_14, e55_15, e55_18, e55_19, e55_20, e55_21, e55_24, ↓reduceIte, Bool.false_eq_true, not_false_eq_true, not_true_eq_false, Nat.reduceLeDiff, Nat.reduceAdd, Nat.reduceEqDiff, Int.reduceToNat, Int.toNat_natCast, iB0, iB1, ru_klI, ru_klR, ru_klF, ru_klJ, ru_kl0, ru_cs0, ru_csI, ru_csR, ru_csF, ru_csJ, wI_add, wI_sub, wI_mul, wI_lt, wI_le, wI_inj, ru_fdE, ru_fdN, ru_iaN, ru_baN, ru_laN, ru_qaN, ru_pfN, ru_isN, ru_bsN, ru_jsN, ru_qsN, ru_set2, Nat.add_right_cancel_iff, if_true, if_false, ite_self, Int.reduceEq, and_self, Int.add_neg_cancel_right, Int.add_zero, Int.zero_add, md_e, md_f30, c, x]
    exact ih1
theorem p55s {h : am_H} {l1 : Int32} {l2 : Option Value} : ∃ l2', ru_n z 55 5 [some (.ref 1315), some (.int l1), l2] [] (mdPut h M) = ru_n z 55 37 [some (.ref 1315), some (.int l1), l2'] [] (mdPut h (stM0 M)) := by
  have k := p55l (z := z) (h := h) (M := M) (l1 := l1) 270 0 (by omega)
  have e : (M.1, upC M.2 10 (fun q => if q < 0 then 0 else M.2 10 q)) = M := by
    rw [show (fun q => if q < 0 then 0 else M.2 10 q) = M.2 10 from funext fun q => if_neg (by omega), upC_self]
  rw [e, show ((0 : Nat) : Int) = 0 from rfl] at k
  refine ⟨some (.int (wI 270)), ?_⟩
  have x1 : am_pf (mdPut h (M.1, upC M.2 10 (fun q => if q < 270 then 0 else M.2 10 q))) 1315 10 22 0 (.int (wI 0)) = some (mdPut h (up1 M.1 22 0, upC M.2 10 (fun q => if q < 270 then 0 else M.2 10 q))) := md_s22
  have x2 : am_pf (mdPut h (up1 M.1 22 0, upC M.2 10 (fun q => if q < 270 then 0 else M.2 10 q))) 1315 10 29 0 (.int (wI 0)) = some (mdPut h (stM0 M)) := md_s29
  simp (disch := omega) only [e55_5, e55_6, k, e55_27, e55_28, e55_29, e55_32, e55_33, e55_34, ↓reduceIte, Bool.false_eq_true, not_false_eq_true, not_true_eq_false, Nat.reduceLeDiff, Nat.reduceAdd, Nat.reduceEqDiff, Int.reduceToNat, Int.toNat_natCast, iB0, iB1, ru_klI, ru_klR, ru_klF, ru_klJ, ru_kl0, ru_cs0, ru_csI, ru_csR, ru_csF, ru_csJ, wI_add, wI_sub, wI_mul, wI_lt, wI_le, wI_inj, ru_fdE, ru_fdN, ru_iaN, ru_baN, ru_laN, ru_qaN, ru_pfN, ru_isN, ru_bsN, ru_jsN, ru_qsN, ru_set2, Nat.add_right_cancel_iff, if_true, if_false, ite_self, Int.reduceEq, and_self, Int.add_neg_cancel_right, Int.add_zero, Int.zero_add, md_e, x1, x2]
theorem rd_st (hB : B = 1003 ∨ B = 1034) (h17 : M.1 17 = 0) (hs : spR B C) : rdI B C M (stC0 B C) (stM0 M) := by
  have o1 : ∀ q, q ≠ B + 1 → q ≠ B + 4 → (stC0 B C).1 q = C.1 q := fun q h1 h4 => by
    funext j
    show (if q = B + 4 then _ else (if q = B + 1 then _ else C.1 q j)) = _
    rw [if_neg h4, if_neg h1]
  have m1 : ∀ k, k ≠ 22 → k ≠ 29 → (stM0 M).1 k = M.1 k := fun k h1 h2 => by
    show up1 (up1 M.1 22 0) 29 0 k = _
    rw [up1_n h2, up1_n h1]
  have m10 : ∀ j, (stM0 M).2 10 j = if j < 270 then 0 else M.2 10 j := fun j => rfl
  have e22 : (stM0 M).1 22 = 0 := rfl
  have e29 : (stM0 M).1 29 = 0 := rfl
  refine ⟨⟨fun q h1 h2 => o1 q (by omega) (by omega), fun _ _ => rfl, fun _ _ _ _ _ => rfl, fun _ _ _ => rfl⟩, fun i hi => by rw [o1 _ (by omega) (by omega)], ⟨fun k _ h2 h3 => m1 k h2 h3, fun c _ _ _ h => upC_n h⟩, by rw [m1 17 (by decide) (by decide)]; exact h17, fun i hi => by rw [cph_eq (o1 _ (by omega) (by omega)) (fun c hc => rfl)]; exact hs i hi, ⟨?_, by rw [e22]; omega, fun n hn => by rw [e22] at hn; omega⟩, ?_, by rw [e29]; omega, ⟨fun j hj => by rw [m10, if_pos hj]; omega, fun f hf => ?_⟩, fun f hf => by rw [e29] at hf; omega⟩
  · rw [e22]
    show (if B + 1 = B + 4 then _ else (if B + 1 = B + 1 then (if 0 = 0 then (0 : Int) else _) else _)) = (0 : Int)
    rw [if_neg (by omega), if_pos rfl, if_pos rfl]
  · rw [e29]
    show (if B + 4 = B + 4 then (if 0 = 0 then (0 : Int) else _) else _) = (0 : Int)
    rw [if_pos rfl, if_pos rfl]
  · simp only [m10]
    refine ⟨if_pos (by omega), if_pos (by omega), if_pos (by omega), by rw [if_pos (by omega)]; omega, fun _ => if_pos (by omega), fun i hi => ⟨if_pos (by omega), if_pos (by omega)⟩⟩
end ALL
