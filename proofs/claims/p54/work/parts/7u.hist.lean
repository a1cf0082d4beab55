/-! ===== the class's history ===== -/
def hiC (C : tCl) : Prop := (∀ i, i < 6 → isSt (C.2.2.2 1093 i) ∧ 1094 ≤ C.2.2.2 1093 i ∧ C.2.2.2 1093 i ≤ 1229) ∧ (∀ i j, i < 6 → j < 6 → C.2.2.2 1093 i = C.2.2.2 1093 j → i = j) ∧ 0 ≤ C.1 1092 0 ∧ C.1 1092 0 ≤ 6
/-- the six in a round -/
def rotR (C : tCl) : tCl := (C.1, C.2.1, C.2.2.1, fun q j => if q = 1093 then (if j < 5 then C.2.2.2 1093 (j + 1) else if j = 5 then C.2.2.2 1093 0 else C.2.2.2 1093 j) else C.2.2.2 q j)
theorem clk_1093 : clk 1093 = 106 ∧ cln 1093 = 6 ∧ clk 1092 = 5 := by decide +kernel
theorem cl_qs6 {h : am_H} {C : tCl} {i : Int} {x : Nat} (h1 : 0 ≤ i) (h2 : i < 6) (hx : clk x = 9) (hx2 : 1000 ≤ x) : am_qs (clPut h C) 1093 (wI i) x = some (clPut h (upR C 1093 i.toNat x)) := by
  obtain ⟨k1, k2, -⟩ := clk_1093
  have e1 := clP106 (h := h) (C := C) k1 (by decide)
  have e2 := clP9 (h := h) (C := C) hx hx2
  unfold am_qs
  rw [e1, e2]
  dsimp only
  rw [if_pos ⟨Or.inr (Or.inl rfl), rfl, wI_am_in h1 (by rw [k2]; omega) (by omega)⟩, wI_clamp (by omega) (by omega)]
  refine congrArg some (cl_set ⟨by decide, by decide, by decide⟩ ?_ (fun q hq => ?_))
  · have e3 := clP106 (h := h) (C := upR C 1093 i.toNat x) k1 (by decide)
    rw [clPut_i ⟨by decide, by decide, by decide⟩] at e3
    have ef : (fun j => if j < cln 1093 then some ((upR C 1093 i.toNat x).2.2.2 1093 j) else none) = am_up (fun j => if j < cln 1093 then some (C.2.2.2 1093 j) else none) i.toNat (some x) := by
      funext j
      unfold am_up
      simp only [upR, if_true]
      by_cases e : j = i.toNat
      · rw [if_pos e, if_pos e, if_pos (by rw [k2]; omega)]
      · rw [if_neg e, if_neg e]
    rw [e3, ef]
  · unfold clCell clL0 clL1 clL2 clL3 clL4 clL5 clL6 clL7 clL9 clL11
    simp only [upR, hq, if_false]
section HIST
variable {z : Bool} {h : am_H} {C : tCl}
theorem hi_qa {i : Int} (h1 : 0 ≤ i) (h2 : i < 6) : am_qa (clPut h C) 1093 (wI i) = some (C.2.2.2 1093 i.toNat) := by
  obtain ⟨k1, k2, -⟩ := clk_1093
  exact cl_q6 k1 (by decide) h1 (by rw [k2]; omega) (by omega)
theorem upR_e {C : tCl} {a k v : Nat} : (upR C a k v).2.2.2 a k = v := by simp only [upR, if_true]
theorem upR_n {C : tCl} {a k v j : Nat} (h : j ≠ k) : (upR C a k v).2.2.2 a j = C.2.2.2 a j := by simp only [upR, if_true, h, if_false]
theorem c114 (hH : hiC C) : ru_ev z 114 [.ref 1092] (clPut h C) = some (.inl none, clPut h (upI (rotR C) 1092 0 5)) := by
  have hk : ∀ i, i < 6 → clk (C.2.2.2 1093 i) = 9 ∧ 1000 ≤ C.2.2.2 1093 i := fun i hi => by
    have a := hH.1 i hi
    have b := isSt_k a.1
    exact ⟨b.1, by omega⟩
  have k0 := hk 0 (by decide)
  have k1 := hk 1 (by decide)
  have k2 := hk 2 (by decide)
  have k3 := hk 3 (by decide)
  have k4 := hk 4 (by decide)
  have k5 := hk 5 (by decide)
  have q0 : ∀ D : tCl, am_qa (clPut h D) 1093 (wI 0) = some (D.2.2.2 1093 0) := fun D => hi_qa (by decide) (by decide)
  have q1 : ∀ D : tCl, am_qa (clPut h D) 1093 (wI 1) = some (D.2.2.2 1093 1) := fun D => hi_qa (by decide) (by decide)
  have q2 : ∀ D : tCl, am_qa (clPut h D) 1093 (wI 2) = some (D.2.2.2 1093 2) := fun D => hi_qa (by decide) (by decide)
  have q3 : ∀ D : tCl, am_qa (clPut h D) 1093 (wI 3) = some (D.2.2.2 1093 3) := fun D => hi_qa (by decide) (by decide)
  have q4 : ∀ D : tCl, am_qa (clPut h D) 1093 (wI 4) = some (D.2.2.2 1093 4) := fun D => hi_qa (by decide) (by decide)
  have q5 : ∀ D : tCl, am_qa (clPut h D) 1093 (wI 5) = some (D.2.2.2 1093 5) := fun D => hi_qa (by decide) (by decide)
  have w0 : ∀ (D : tCl) (x : Nat), clk x = 9 → 1000 ≤ x → am_qs (clPut h D) 1093 (wI 0) x = some (clPut h (upR D 1093 0 x)) := fun D x a b => cl_qs6 (by decide) (by decide) a b
  have w1 : ∀ (D : tCl) (x : Nat), clk x = 9 → 1000 ≤ x → am_qs (clPut h D) 1093 (wI 1) x = some (clPut h (upR D 1093 1 x)) := fun D x a b => cl_qs6 (by decide) (by decide) a b
  have w2 : ∀ (D : tCl) (x : Nat), clk x = 9 → 1000 ≤ x → am_qs (clPut h D) 1093 (wI 2) x = some (clPut h (upR D 1093 2 x)) := fun D x a b => cl_qs6 (by decide) (by decide) a b
  have w3 : ∀ (D : tCl) (x : Nat), clk x = 9 → 1000 ≤ x → am_qs (clPut h D) 1093 (wI 3) x = some (clPut h (upR D 1093 3 x)) := fun D x a b => cl_qs6 (by decide) (by decide) a b
  have w4 : ∀ (D : tCl) (x : Nat), clk x = 9 → 1000 ≤ x → am_qs (clPut h D) 1093 (wI 4) x = some (clPut h (upR D 1093 4 x)) := fun D x a b => cl_qs6 (by decide) (by decide) a b
  have w5 : ∀ (D : tCl) (x : Nat), clk x = 9 → 1000 ≤ x → am_qs (clPut h D) 1093 (wI 5) x = some (clPut h (upR D 1093 5 x)) := fun D x a b => cl_qs6 (by decide) (by decide) a b
  have eR : upR (upR (upR (upR (upR (upR C 1093 0 (C.2.2.2 1093 1)) 1093 1 (C.2.2.2 1093 2)) 1093 2 (C.2.2.2 1093 3)) 1093 3 (C.2.2.2 1093 4)) 1093 4 (C.2.2.2 1093 5)) 1093 5 (C.2.2.2 1093 0) = rotR C := by
    unfold rotR
    refine Prod.ext rfl (Prod.ext rfl (Prod.ext rfl (funext fun q => funext fun j => ?_)))
    simp only [upR]
    by_cases e : q = 1093
    · subst e
      simp only [if_true]
      by_cases j0 : j = 0
      · subst j0; rfl
      · by_cases j1 : j = 1
        · subst j1; rfl
        · by_cases j2 : j = 2
          · subst j2; rfl
          · by_cases j3 : j = 3
            · subst j3; rfl
            · by_cases j4 : j = 4
              · subst j4; rfl
              · by_cases j5 : j = 5
                · subst j5; rfl
                · rw [if_neg j5, if_neg j4, if_neg j3, if_neg j2, if_neg j1, if_neg j0, if_neg (by omega), if_neg j5]
    · simp only [e, if_false]
  simp (disch := first | omega | (simp only [k0.1, k1.1, k2.1, k3.1, k4.1, k5.1]; done)) only [en114, e114_0, e114_1, e114_4, e114_5, e114_6, e114_7, e114_8, e114_9, e114_10, e114_12, e114_15, e114_16, e114_19, e114_20, e114_21, e114_22, e114_23, e114_26, e114_27, e114_28, e114_29, e114_32, e114_35, e114_36, e114_39, e114_40, e114_41, e114_42, e114_43, e114_44, e114_47, ↓reduceIte, Bool.false_eq_true, not_false_eq_true, not_true_eq_false, Nat.reduceLeDiff, Nat.reduceAdd, Nat.reduceEqDiff, Int.reduceToNat, Int.toNat_natCast, iB0, iB1, ru_klI, ru_klR, ru_klF, ru_klJ, ru_kl0, ru_cs0, ru_csI, ru_csR, ru_csF, ru_csJ, wI_add, wI_sub, wI_mul, wI_lt, wI_le, wI_inj, ru_fdE, ru_fdN, ru_iaN, ru_baN, ru_laN, ru_qaN, ru_pfN, ru_isN, ru_bsN, ru_jsN, ru_qsN, ru_set2, Nat.add_right_cancel_iff, if_true, if_false, ite_self, Int.reduceEq, and_self, Int.add_neg_cancel_right, Int.add_zero, Int.zero_add, cl_e5, cl_g5_0, cl_q5_0, cl_g5_1, q0, q1, q2, q3, q4, q5, w0, w1, w2, w3, w4, w5, upR_e, upR_n, Int.reduceLE, Int.reduceAdd, Int.reduceSub, eR]
end HIST
