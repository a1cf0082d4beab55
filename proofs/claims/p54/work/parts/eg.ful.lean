/-! ===== the law's texts: new builders, whole names ===== -/
def lwL : List (List Nat) := [[97, 108, 98, 117, 109, 32, 103, 97, 112, 32], [], [102, 111, 120], [102, 111], [59, 110, 97, 109, 101, 32], [59, 112, 104, 111, 116, 111, 32], [59, 112, 101, 114, 115, 111, 110, 32], [97, 108, 108], [114, 111, 119, 32], [32, 108, 101, 102, 116], [32, 114, 105, 103, 104, 116], [44, 32], [32], [115, 111, 109, 101, 111, 110, 101], [32], [98, 101, 116, 119, 101, 101, 110, 32], [98, 101, 115, 105, 100, 101, 32], [32, 108, 101, 102, 116, 32], [32, 114, 105, 103, 104, 116, 32], [97, 116, 32]]
def lwT (i : Nat) : List Nat := lwL.getD i []
def lwS (X : am_H) : Prop := ∀ i, i < 20 → gT X (500 + i) (520 + i) (lwT i)
theorem lwT_12 : ∀ i, (lwT i).length ≤ 12 := fun i => by
  by_cases h : i < 20
  · have key : ∀ i : Fin 20, (lwT i.val).length ≤ 12 := by decide +kernel
    exact key ⟨i, h⟩
  · have : lwT i = [] := by unfold lwT; rw [List.getD, List.getElem?_eq_none (by show 20 ≤ i; omega)]; rfl
    rw [this]; exact Nat.zero_le _
theorem gT_ag {X X' : am_H} {Q V n : Nat} {t : List Nat} (h : gT X Q V t) (k : ∀ q, q < n → X'.1 q = X.1 q) (hq : Q < n) (hv : V < n) : gT X' Q V t := by
  obtain ⟨a1, kk, g, a2, a3, a4⟩ := h
  exact ⟨by rw [k Q hq]; exact a1, kk, g, a2, by rw [k V hv]; exact a3, a4⟩
theorem lwS_ag {X X' : am_H} (h : lwS X) (k : ∀ q, q < 540 → X'.1 q = X.1 q) : lwS X' := fun i hi => gT_ag (h i hi) k (by omega) (by omega)
section FULL
variable {z : Bool} {X : am_H}
theorem g10 : ∃ (X' : am_H) (f : Nat → Int), ru_ev z 10 [.ref X.2.1] (am_new X (.inr (11, [.null, .int (wI 0), .int (wI 0), .int (wI 0)])) 4) = some (.inl none, X') ∧ gbS X' X.2.1 (X.2.1 + 1) 0 f [] 16 ∧ (∀ q, q < X.2.1 → X'.1 q = X.1 q) ∧ X'.2.1 = X.2.1 + 2 ∧ X'.2.2 = X.2.2 + 20 := by
  obtain ⟨X1, hX1⟩ : ∃ X1, X1 = am_new X (.inr (11, [.null, .int (wI 0), .int (wI 0), .int (wI 0)])) 4 := ⟨_, rfl⟩
  have p0 : X1.1 X.2.1 = some (.inr (11, [.null, .int (wI 0), .int (wI 0), .int (wI 0)])) := by rw [hX1]; exact nw_e
  have p1 : ∀ q, q < X.2.1 → X1.1 q = X.1 q := fun q hq => by rw [hX1]; exact nw_lo hq
  have p2 : X1.2.1 = X.2.1 + 1 := by rw [hX1]; rfl
  have p3 : X1.2.2 = X.2.2 + 4 := by rw [hX1]; rfl
  have na : am_na X1 1 (wI 16) = some (am_new X1 (.inl (1, 16, .inl (fun _ => wI 0))) 16) := by
    unfold am_na
    have e1 : (wI 16).toNatClampNeg = 16 := by decide +kernel
    rw [e1, if_pos (by decide +kernel), if_pos (by decide), ← wI_0]
  have q0 : (am_new X1 (.inl (1, 16, .inl (fun _ => wI 0))) 16).1 X.2.1 = some (.inr (11, [.null, .int (wI 0), .int (wI 0), .int (wI 0)])) := by rw [nw_lo (by omega)]; exact p0
  have w1 : am_pf (am_new X1 (.inl (1, 16, .inl (fun _ => wI 0))) 16) X.2.1 11 0 2 (.ref X1.2.1) = some (am_set (am_new X1 (.inl (1, 16, .inl (fun _ => wI 0))) 16) X.2.1 (.inr (11, [.ref X1.2.1, .int (wI 0), .int (wI 0), .int (wI 0)]))) := ru_pf2 q0 ⟨by decide, by show 0 < 4; decide⟩
  have d0 : ((1 : Int) = 0) = False := eq_false (by decide)
  have w2 : am_pf (am_set (am_new X1 (.inl (1, 16, .inl (fun _ => wI 0))) 16) X.2.1 (.inr (11, [.ref X1.2.1, .int (wI 0), .int (wI 0), .int (wI 0)]))) X.2.1 11 1 4 (.int (wI 0)) = some (am_set (am_new X1 (.inl (1, 16, .inl (fun _ => wI 0))) 16) X.2.1 (.inr (11, [.ref X1.2.1, .int (wI 0), .int (wI 0), .int (wI 0)]))) := by
    rw [ru_pf4 (ru_setE _ _ _) ⟨by decide, by show 1 < 4; decide⟩ (by decide +kernel)]
    exact congrArg some (ru_setself (by rw [ru_setE]; rfl))
  refine ⟨am_set (am_new X1 (.inl (1, 16, .inl (fun _ => wI 0))) 16) X.2.1 (.inr (11, [.ref X1.2.1, .int (wI 0), .int (wI 0), .int (wI 0)])), fun _ => 0, ?_, ⟨?_, ?_, fun i hi => absurd hi (by show ¬ i < 0; omega), by decide, by decide, ?_, ?_, by omega⟩, fun q hq => ?_, ?_, ?_⟩
  · rw [← hX1]
    simp (disch := omega) only [en10, e10_0, e10_1, e10_3, e10_6, en11, e11_0, e11_1, e11_4, e11_7, e11_10, e11_11, e11_12, e11_14, e11_17, e11_18, e11_19, e11_22, e11_38, ↓reduceIte, Bool.false_eq_true, not_false_eq_true, not_true_eq_false, Nat.reduceLeDiff, Nat.reduceAdd, Nat.reduceEqDiff, Int.reduceToNat, Int.toNat_natCast, iB0, iB1, ru_klI, ru_klR, ru_klF, ru_klJ, ru_kl0, ru_cs0, ru_csI, ru_csR, ru_csF, ru_csJ, wI_add, wI_sub, wI_mul, wI_lt, wI_le, wI_inj, ru_fdE, ru_fdN, ru_iaN, ru_baN, ru_laN, ru_qaN, ru_pfN, ru_isN, ru_bsN, ru_jsN, ru_qsN, ru_set2, Nat.add_right_cancel_iff, if_true, if_false, ite_self, Int.reduceEq, and_self, Int.add_neg_cancel_right, Int.add_zero, Int.zero_add, p0, na, w1, w2, d0, List.length_nil, Nat.zero_le]
  · rw [ru_setE, p2]; rfl
  · rw [ru_setN (by omega), ← p2]; exact nw_e
  · show X.2.1 < X1.2.1 + 1; omega
  · show X.2.1 + 1 < X1.2.1 + 1; omega
  · rw [ru_setN (by omega), nw_lo (by omega)]; exact p1 q hq
  · show X1.2.1 + 1 = _; omega
  · show X1.2.2 + 16 = _; omega
/-- the names' texts -/
def lnS (X : am_H) (B : Nat) (A : tLw) (F L : Nat → List Nat) : Prop := ∀ i, ((i : Nat) : Int) < A.1 1 → ∃ V1 V2, gT X (A.2.2.1 i) V1 (F i) ∧ gT X (A.2.2.2 i) V2 (L i) ∧ (A.2.2.1 i < 1000 ∧ V1 < 1000 ∧ A.2.2.2 i < 1000 ∧ V2 < 1000) ∧ ((A.2.2.1 i < B ∨ B + 30 ≤ A.2.2.1 i) ∧ (V1 < B ∨ B + 30 ≤ V1) ∧ (A.2.2.2 i < B ∨ B + 30 ≤ A.2.2.2 i) ∧ (V2 < B ∨ B + 30 ≤ V2)) ∧ (F i).length ≤ 2 ∧ (L i).length ≤ 3
variable {B : Nat} {A : tLw} {F L : Nat → List Nat}
theorem lnS_ag {X' : am_H} (h : lnS X B A F L) (k : ∀ q, q < 1000 → (q < B ∨ B + 30 ≤ q) → X'.1 q = X.1 q) : lnS X' B A F L := fun i hi => by
  obtain ⟨V1, V2, ⟨a1, k1, g1, a2, a3, a4⟩, ⟨b1, k2, g2, b2, b3, b4⟩, ⟨c1, c2, c3, c4⟩, ⟨e1, e2, e3, e4⟩, c5⟩ := h i hi
  exact ⟨V1, V2, ⟨by rw [k _ c1 e1]; exact a1, k1, g1, a2, by rw [k _ c2 e2]; exact a3, a4⟩, ⟨by rw [k _ c3 e3]; exact b1, k2, g2, b2, by rw [k _ c4 e4]; exact b3, b4⟩, ⟨c1, c2, c3, c4⟩, ⟨e1, e2, e3, e4⟩, c5⟩
theorem yl_q4 (h : ylP X B A) {n : Nat} (hn : (n : Int) < A.1 1) (h8 : n < 8) : am_qa X (B + 4) (wI n) = some (A.2.2.1 n) := (ru_qa2 (z := (n : Int)) h.1.2.1 (by decide) (by omega) (by omega) (by omega)).trans (by rw [Int.toNat_natCast]; exact if_pos hn)
theorem yl_q5 (h : ylP X B A) {n : Nat} (hn : (n : Int) < A.1 1) (h8 : n < 8) : am_qa X (B + 5) (wI n) = some (A.2.2.2 n) := (ru_qa2 (z := (n : Int)) h.1.2.2.1 (by decide) (by omega) (by omega) (by omega)).trans (by rw [Int.toNat_natCast]; exact if_pos hn)
theorem gbOn_x {X1 X2 : am_H} {S r r' cap cap' : Nat} (k : gbOn X1 X2 S r r' cap cap') (h : X.2.1 ≤ X1.2.1) (hS : X.2.1 ≤ S) (hr : X.2.1 ≤ r) : (∀ q, q < X.2.1 → X2.1 q = X1.1 q) ∧ X.2.1 ≤ r' := ⟨fun q hq => k.1 q (by omega) (by omega) (by omega), by rcases k.2.2.2.2 with e | e <;> omega⟩
theorem d419 (h : ylP X B A) (hl : lnS X B A F L) (hs : lwS X) (hB : B + 30 ≤ 1000) (hX : 1000 ≤ X.2.1) {n : Nat} (hn : (n : Int) < A.1 1) (h8 : n < 8) : ∃ (X' : am_H) (Q V : Nat), ru_ev z 419 [.ref (B + 1), .int (wI n)] X = some (.inl (some (.ref Q)), X') ∧ gT X' Q V (F n ++ [32] ++ L n) ∧ (X.2.1 ≤ Q ∧ Q < X'.2.1) ∧ (X.2.1 ≤ V ∧ V < X'.2.1) ∧ agX X X' 1010 3100 := by
  obtain ⟨V1, V2, n1, n2, n3, n3b, n4, n5⟩ := hl n hn
  obtain ⟨X1, f1, a1, a2, a3, a4, a5⟩ := g10 (z := z) (X := X)
  have m1 : ∀ q, q < X.2.1 → X1.1 q = X.1 q := a3
  have t1 : gT X1 (A.2.2.1 n) V1 (F n) := gT_ag n1 m1 (by omega) (by omega)
  have hy1 := ylP_ag h (fun q _ h2 => m1 q (by omega))
  obtain ⟨X2, r2, f2, c2, b1, b2, b3⟩ := g307 (z := z) a2 t1 (by omega) (by omega) (by show 0 + _ ≤ 500; omega) (by omega)
  obtain ⟨o2, r2b⟩ := gbOn_x (X := X) b3 (by omega) (Nat.le_refl _) (by omega)
  have m2 : ∀ q, q < X.2.1 → X2.1 q = X.1 q := fun q hq => (o2 q hq).trans (m1 q hq)
  have g2 : X1.2.1 ≤ X2.2.1 := b3.2.1
  have t2 : gT X2 514 534 (lwT 14) := gT_ag (hs 14 (by decide)) m2 (by omega) (by omega)
  have e14 : lwT 14 = [32] := rfl
  rw [e14] at t2
  have hy2 := ylP_ag h (fun q _ h2 => m2 q (by omega))
  obtain ⟨X3, r3, f3, c3, d1, d2, d3⟩ := g307 (z := z) b2 t2 (by omega) (by omega) (by rw [List.length_append]; show 0 + _ + 1 ≤ 500; omega) (by decide)
  obtain ⟨o3, r3b⟩ := gbOn_x (X := X) d3 (by omega) (Nat.le_refl _) r2b
  have m3 : ∀ q, q < X.2.1 → X3.1 q = X.1 q := fun q hq => (o3 q hq).trans (m2 q hq)
  have g3 : X2.2.1 ≤ X3.2.1 := d3.2.1
  have t3 : gT X3 (A.2.2.2 n) V2 (L n) := gT_ag n2 m3 (by omega) (by omega)
  have hy3 := ylP_ag h (fun q _ h2 => m3 q (by omega))
  obtain ⟨X4, r4, f4, c4, e1, e2, e3⟩ := g307 (z := z) d2 t3 (by omega) (by omega) (by rw [List.length_append, List.length_append]; show 0 + _ + 1 + _ ≤ 500; omega) (by omega)
  obtain ⟨o4, r4b⟩ := gbOn_x (X := X) e3 (by omega) (Nat.le_refl _) r3b
  have m4 : ∀ q, q < X.2.1 → X4.1 q = X.1 q := fun q hq => (o4 q hq).trans (m3 q hq)
  have g4 : X3.2.1 ≤ X4.2.1 := e3.2.1
  obtain ⟨X5, k1, k2, k3, k4, k5⟩ := g391 (z := z) e2
  have cc := e2.2.2.2.2.1
  have s1 := b3.2.2.1; have s2 := d3.2.2.1; have s3 := e3.2.2.1
  have u1 := b3.2.2.2.1; have u2 := d3.2.2.2.1; have u3 := e3.2.2.2.1
  have lc := e2.2.2.2.1
  refine ⟨X5, X4.2.1, X4.2.1 + 1, ?_, ?_, ⟨by omega, by omega⟩, ⟨by omega, by omega⟩, ⟨fun q hq => by rw [k3 q (by omega)]; exact m4 q hq, by omega, by omega, by omega⟩⟩
  · simp (disch := omega) only [en419, e419_0, e419_3, e419_4, e419_7, e419_8, e419_11, e419_12, e419_13, e419_16, e419_18, e419_21, e419_22, e419_25, e419_26, e419_27, e419_30, e419_33, ↓reduceIte, Bool.false_eq_true, not_false_eq_true, not_true_eq_false, Nat.reduceLeDiff, Nat.reduceAdd, Nat.reduceEqDiff, Int.reduceToNat, Int.toNat_natCast, iB0, iB1, ru_klI, ru_klR, ru_klF, ru_klJ, ru_kl0, ru_cs0, ru_csI, ru_csR, ru_csF, ru_csJ, wI_add, wI_sub, wI_mul, wI_lt, wI_le, wI_inj, ru_fdE, ru_fdN, ru_iaN, ru_baN, ru_laN, ru_qaN, ru_pfN, ru_isN, ru_bsN, ru_jsN, ru_qsN, ru_set2, Nat.add_right_cancel_iff, if_true, if_false, ite_self, Int.reduceEq, and_self, Int.add_neg_cancel_right, Int.add_zero, Int.zero_add, yl_o h, ru_ctR, a1, yl_f4 hy1, yl_q4 hy1, b1, d1, yl_f5 hy3, yl_q5 hy3, e1, k1]
  · have e0 : ([] ++ F n ++ [32] ++ L n : List Nat) = F n ++ [32] ++ L n := rfl
    rw [e0] at k2
    exact k2
end FULL
