/-! ===== the law's album: how many rows; the people of a row ===== -/
/-- the greatest of the first k -/
def mxF (r : Nat → Int) : Nat → Int
  | 0 => -1
  | k + 1 => if r k ≤ mxF r k then mxF r k else r k
theorem mxF_rc {S : Nat → Bool} {y : Nat → Int} {gap : Int} {r : Nat → Int} {rc : Int} (h : rwOK S y gap r rc) : mxF r 12 + 1 = rc ∧ ∀ k, k ≤ 12 → -1 ≤ mxF r k ∧ mxF r k ≤ 12 := by
  have hb : ∀ k, k < 12 → -1 ≤ r k ∧ r k ≤ rc - 1 := fun k hk => by
    have c0 := rwOK_rc h
    by_cases sk : S k = true
    · have := rwOK_rng h hk sk; omega
    · obtain ⟨n, e, -, -, h3, -⟩ := h
      have := h3 k hk sk
      omega
  have c0 := rwOK_rc h
  have up : ∀ k, k ≤ 12 → (-1 ≤ mxF r k ∧ mxF r k ≤ rc - 1) ∧ ∀ j, j < k → r j ≤ mxF r k := by
    intro k
    induction k with
    | zero => intro _; exact ⟨by show -1 ≤ (-1 : Int) ∧ (-1 : Int) ≤ rc - 1; omega, fun j hj => by omega⟩
    | succ k ih =>
      intro hk
      obtain ⟨i1, i2⟩ := ih (by omega)
      have hb1 := hb k (by omega)
      have e : mxF r (k + 1) = if r k ≤ mxF r k then mxF r k else r k := rfl
      rw [e]
      refine ⟨by split <;> omega, fun j hj => ?_⟩
      by_cases c : j = k
      · rw [c]; split <;> omega
      · have := i2 j (by omega)
        split <;> omega
  refine ⟨?_, fun k hk => by have := (up k hk).1; omega⟩
  obtain ⟨u1, u2⟩ := up 12 (Nat.le_refl _)
  by_cases c : rc = 0
  · omega
  · obtain ⟨k, k1, k2, k3⟩ := rwOK_surj h (r := (rc - 1).toNat) (by omega)
    have := u2 k k1
    omega
section RM
variable {z : Bool} {X : am_H} {B : Nat} {A : tLw}
theorem d404l {f N : Nat} {g r : Nat → Int} (hr : ∀ k, k ≤ 12 → -1 ≤ mxF r k ∧ mxF r k ≤ 12) (hr2 : ∀ k, k < 12 → -1 ≤ r k ∧ r k ≤ 12) : ∀ d k, k + d = 12 → ∀ l6, ru_n z 404 15 [some (.ref (B + 1)), some (.int (wI f)), some (.int (wI (mxF r k))), some (.ref X.2.1), some (.int (wI 12)), some (.int (wI k)), l6] [] (nw2 X r N g) = some (.inl (some (.int (wI (mxF r 12 + 1)))), nw2 X r N g) := by
  intro d
  induction d with
  | zero =>
    intro k hk l6
    obtain rfl : k = 12 := by omega
    have := hr 12 (Nat.le_refl _)
    simp (disch := omega) only [e404_15, e404_17, e404_19, e404_41, e404_42, e404_43, e404_44, ↓reduceIte, Bool.false_eq_true, not_false_eq_true, not_true_eq_false, Nat.reduceLeDiff, Nat.reduceAdd, Nat.reduceEqDiff, Int.reduceToNat, Int.toNat_natCast, iB0, iB1, ru_klI, ru_klR, ru_klF, ru_klJ, ru_kl0, ru_cs0, ru_csI, ru_csR, ru_csF, ru_csJ, wI_add, wI_sub, wI_mul, wI_lt, wI_le, wI_inj, ru_fdE, ru_fdN, ru_iaN, ru_baN, ru_laN, ru_qaN, ru_pfN, ru_isN, ru_bsN, ru_jsN, ru_qsN, ru_set2, Nat.add_right_cancel_iff, if_true, if_false, ite_self, Int.reduceEq, and_self, Int.add_neg_cancel_right, Int.add_zero, Int.zero_add, Int.le_refl, Int.reduceLE, Int.cast_ofNat_Int]
  | succ d ih =>
    intro k hk l6
    have d1 : (12 ≤ (k : Int)) = False := eq_false (by omega)
    have i1 := ih (k + 1) (by omega) (some (.int (wI (r k))))
    have h0 := hr k (by omega)
    have h1 := hr2 k (by omega)
    have e : mxF r (k + 1) = if r k ≤ mxF r k then mxF r k else r k := rfl
    rw [e, show (((k + 1 : Nat)) : Int) = (k : Int) + 1 by omega] at i1
    rw [← i1, e404_15]
    simp (disch := omega) only [e404_17, e404_19, e404_22, e404_23, e404_25, e404_26, e404_28, e404_29, e404_31, e404_34, e404_35, e404_38, ↓reduceIte, Bool.false_eq_true, not_false_eq_true, not_true_eq_false, Nat.reduceLeDiff, Nat.reduceAdd, Nat.reduceEqDiff, Int.reduceToNat, Int.toNat_natCast, iB0, iB1, ru_klI, ru_klR, ru_klF, ru_klJ, ru_kl0, ru_cs0, ru_csI, ru_csR, ru_csF, ru_csJ, wI_add, wI_sub, wI_mul, wI_lt, wI_le, wI_inj, ru_fdE, ru_fdN, ru_iaN, ru_baN, ru_laN, ru_qaN, ru_pfN, ru_isN, ru_bsN, ru_jsN, ru_qsN, ru_set2, Nat.add_right_cancel_iff, if_true, if_false, ite_self, Int.reduceEq, and_self, Int.add_neg_cancel_right, Int.add_zero, Int.zero_add, d1, nw2_a1, Int.toNat_natCast, m271]
theorem rw_b {S : Nat → Bool} {y : Nat → Int} {gap : Int} {r : Nat → Int} {rc : Int} (h : rwOK S y gap r rc) : ∀ k, k < 12 → -1 ≤ r k ∧ r k < rc ∧ rc ≤ 12 ∧ (r k = -1 ↔ ¬ S k = true) := fun k hk => by
  have c0 := rwOK_rc h
  by_cases sk : S k = true
  · have := rwOK_rng h hk sk
    refine ⟨by omega, by omega, by omega, ⟨fun _ => by omega, fun h => absurd sk h⟩⟩
  · obtain ⟨n, e, -, -, h3, -⟩ := h
    have := h3 k hk sk
    exact ⟨by omega, by omega, by omega, ⟨fun _ => sk, fun _ => this⟩⟩
theorem d404 (h : ylP X B A) (hr : ylR A) (hB : B + 30 ≤ X.2.1) {f : Nat} (hf : f < 3) (hgap : 0 ≤ A.1 0 ∧ A.1 0 ≤ 99) : ∃ (N : Nat) (g r : Nat → Int) (rc : Int), rwOK (shS (A.2.1 f)) (shY (A.2.1 f)) (A.1 0) r rc ∧ N ≤ 12 ∧ ru_ev z 404 [.ref (B + 1), .int (wI f)] X = some (.inl (some (.int (wI rc))), nw2 X r N g) := by
  obtain ⟨N, g, r, rc, q1, q2, q3⟩ := d405 (z := z) h hr hB hf hgap
  obtain ⟨m1, m2⟩ := mxF_rc q1
  have l := d404l (z := z) (X := X) (B := B) (f := f) (N := N) (g := g) m2 (fun k hk => by have := rw_b q1 k hk; omega) 12 0 rfl none
  rw [m1] at l
  refine ⟨N, g, r, rc, q1, q2, ?_⟩
  simp only [Int.natCast_zero, Int.ofNat_zero, show mxF r 0 = -1 from rfl] at l
  simp (disch := omega) only [en404, e404_0, e404_1, e404_2, e404_3, e404_4, e404_7, e404_8, e404_9, e404_10, e404_12, e404_13, ↓reduceIte, Bool.false_eq_true, not_false_eq_true, not_true_eq_false, Nat.reduceLeDiff, Nat.reduceAdd, Nat.reduceEqDiff, Int.reduceToNat, Int.toNat_natCast, iB0, iB1, ru_klI, ru_klR, ru_klF, ru_klJ, ru_kl0, ru_cs0, ru_csI, ru_csR, ru_csF, ru_csJ, wI_add, wI_sub, wI_mul, wI_lt, wI_le, wI_inj, ru_fdE, ru_fdN, ru_iaN, ru_baN, ru_laN, ru_qaN, ru_pfN, ru_isN, ru_bsN, ru_jsN, ru_qsN, ru_set2, Nat.add_right_cancel_iff, if_true, if_false, ite_self, Int.reduceEq, and_self, Int.add_neg_cancel_right, Int.add_zero, Int.zero_add, yl_o h, q3, nw2_l1, l]
end RM
