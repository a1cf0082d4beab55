/-! ===== the law writes a phrase of one ===== -/
def pfT (F L : Nat → List Nat) (k : Nat) : List Nat := F k ++ [32] ++ L k
def rowAt (p : tPh) (gap : Int) (r N : Nat) (e : Nat → Nat) : Prop := ∃ (R : Nat → Int) (rc : Int), (r : Int) < rc ∧ rwOK (shS p) (shY p) gap R rc ∧ enO (fun o => shS p o && decide (R o = (r : Int))) (kyX (shX p)) N e
def prBtw (p : tPh) (gap : Int) (F L : Nat → List Nat) (a b c km : Nat) (w : List Nat) : Prop := ∃ (r N : Nat) (e : Nat → Nat) (i j : Nat), rowAt p gap r N e ∧ i < N ∧ j < N ∧ shH p a = (e i : Int) ∧ shH p b = (e j : Int) ∧ (i + 2 = j ∨ j + 2 = i) ∧ km = e ((i + j) / 2) ∧ w = lwT 15 ++ pfT F L a ++ [32] ++ pfT F L b ++ [32] ++ pfT F L c
def prBes (p : tPh) (gap : Int) (F L : Nat → List Nat) (a c km : Nat) (w : List Nat) : Prop := ∃ (r N : Nat) (e : Nat → Nat) (i j : Nat) (lf : Int), rowAt p gap r N e ∧ i < N ∧ j < N ∧ shH p a = (e i : Int) ∧ ((lf = 1 ∧ j + 1 = i) ∨ (lf = 0 ∧ j = i + 1)) ∧ km = e j ∧ w = lwT 16 ++ pfT F L a ++ (if lf = 1 then lwT 17 else lwT 18) ++ pfT F L c
def prAt (p : tPh) (F L : Nat → List Nat) (c km : Nat) (w : List Nat) : Prop := ∃ (px py : Nat) (fr : Int), px ≤ 99 ∧ py ≤ 99 ∧ neS p px py (p.1 7).toNat (km : Int) fr ∧ w = lwT 19 ++ numT px ++ [32] ++ numT py ++ [32] ++ pfT F L c
def prOne (p : tPh) (gap : Int) (NN : Nat) (F L : Nat → List Nat) (c km : Nat) (w : List Nat) : Prop := km < 12 ∧ shS p km = true ∧ c < NN ∧ ((∃ a b, a < NN ∧ b < NN ∧ prBtw p gap F L a b c km w) ∨ (∃ a, a < NN ∧ prBes p gap F L a c km w) ∨ prAt p F L c km w)
theorem pfT_len {X : am_H} {B : Nat} {A : tLw} {F L : Nat → List Nat} (h : lnS X B A F L) {k : Nat} (hk : (k : Int) < A.1 1) : (pfT F L k).length ≤ 6 := by
  obtain ⟨-, -, -, -, -, -, len⟩ := h k hk
  unfold pfT
  rw [List.length_append, List.length_append]
  show (F k).length + 1 + (L k).length ≤ 6
  omega
theorem numT_2 (r : Nat) : (numT r).length ≤ 2 := by rw [numT_len]; split <;> omega
section ONP
variable {z : Bool} {B : Nat} {A : tLw} {n : Nat} {g : Nat → Int32} {F L : Nat → List Nat} {S : Nat}
theorem tx_sp (hk : txK B n) {X : am_H} {t r cap : Nat} {l : List Nat} (h : txS X B A n g t F L S r l cap) (hl : l.length + 1 ≤ 500) : ∃ X' r' cap', ru_ev z 319 [.ref S, .int (wI 32)] X = some (.inl (some (.ref S)), X') ∧ txS X' B A n g t F L S r' (l ++ [32]) cap' ∧ agT B S r cap r' cap' X X' 0 0 := tx_chr (z := z) hk h (c := 32) (by decide) hl
theorem d420c (hk : txK B n) (hA : ylR A) {X : am_H} {f NN t r cap c : Nat} {l : List Nat} (hf : f < 3) (hNN : A.1 1 = (NN : Int)) (hNN6 : NN ≤ 6) (hc : c < NN) (hl : l.length ≤ 440) (hne : ¬ cnB (shS (A.2.1 f)) 12 = 0) (ht : t ≤ 900000) (h : txS X B A n g t F L S r l cap) {a5 a6 a7 a8 a9 : Int32} {l10 l11 l12 l13 l14 : Option Value} : ∃ (X' : am_H) (r' cap' km : Nat) (w : List Nat), km < 12 ∧ shS (A.2.1 f) km = true ∧ prAt (A.2.1 f) F L c km w ∧ w.length ≤ 40 ∧ txS X' B (ylU A f (lgv (A.2.1 f) km c)) n g (t + 2) F L S r' (l ++ w) cap' ∧ agT B S r cap r' cap' X X' 1010 3100 ∧
    ru_n z 420 340 [some (.ref (B + 1)), some (.ref B), some (.int (wI f)), some (.ref S), some (.int (wI c)), some (.int a5), some (.int a6), some (.int a7), some (.int a8), some (.int a9), l10, l11, l12, l13, l14] [] X = some (.inl (some (.int (wI 1))), X') := by
  obtain ⟨v1, X1, a1, a2, a3, a4, a5', -, -⟩ := tx_drw (z := z) hk h (by omega) (lo := 0) (hi := 99) (by omega) (by omega) (by omega)
  obtain ⟨v2, X2, b1, b2, b3, b4, b5, -, -⟩ := tx_drw (z := z) hk a4 (by omega) (lo := 0) (hi := 99) (by omega) (by omega) (by omega)
  obtain ⟨px, hpx⟩ := Int.eq_ofNat_of_zero_le a1
  obtain ⟨py, hpy⟩ := Int.eq_ofNat_of_zero_le b1
  have n1 := numT_2 px
  have n2 := numT_2 py
  have hcA : (c : Int) < A.1 1 := by omega
  have n3 := pfT_len h.2.2.1 hcA
  obtain ⟨X3, r3, cap3, c1, c2, c3⟩ := tx_con (z := z) hk b4 (i := 19) (by decide) (by omega)
  have l3 : (l ++ lwT 19).length ≤ 443 := by rw [List.length_append]; show _ + 3 ≤ _; omega
  obtain ⟨X4, r4, cap4, d1, d2, d3⟩ := tx_num (z := z) hk c2 (v := px) (by omega) (by omega)
  have l4 : (l ++ lwT 19 ++ numT px).length ≤ 445 := by rw [List.length_append]; omega
  obtain ⟨X5, r5, cap5, e1, e2, e3⟩ := tx_sp (z := z) hk d2 (by omega)
  have l5 : (l ++ lwT 19 ++ numT px ++ [32]).length ≤ 446 := by rw [List.length_append]; show _ + 1 ≤ _; omega
  obtain ⟨X6, r6, cap6, f1, f2, f3⟩ := tx_num (z := z) hk e2 (v := py) (by omega) (by omega)
  have l6 : (l ++ lwT 19 ++ numT px ++ [32] ++ numT py).length ≤ 448 := by rw [List.length_append]; omega
  obtain ⟨X7, r7, cap7, g1, g2, g3⟩ := tx_sp (z := z) hk f2 (by omega)
  have l7 : (l ++ lwT 19 ++ numT px ++ [32] ++ numT py ++ [32]).length ≤ 449 := by rw [List.length_append]; show _ + 1 ≤ _; omega
  obtain ⟨X8, Q, X9, r9, cap9, h1, h2, h3, h4⟩ := tx_full (z := z) (k := c) hk g2 hcA (by omega) (by omega)
  obtain ⟨km, fr, i1, i2⟩ := d422 (z := z) h3.1 hA hf (px := v1) (py := v2) (by omega) (by omega)
  have kms : ∃ k : Nat, km = (k : Int) ∧ k < 12 ∧ shS (A.2.1 f) k = true := by
    have s := (phR_s (hA f)).2.2.2.2.2.2.2
    rcases i1 with ⟨-, hno⟩ | ⟨k, k1, k2, k3, -⟩
    · exact absurd (cnB_none 12 (fun o ho hs => hno o (by have := shS_lt hs; omega) (shS_rng (hA f) hs).2.2.2.2)) hne
    · exact ⟨k, k1, by omega, by rw [shS_of (by omega)]; exact k3⟩
  obtain ⟨k, rfl, k12, ks⟩ := kms
  obtain ⟨X10, j1, j2, j3, -, -⟩ := tx_giv (z := z) hk h3 hA (f := f) (k := k) (nm := (c : Int)) hf k12 (by omega)
  have e0 : l ++ lwT 19 ++ numT px ++ [32] ++ numT py ++ [32] ++ (F c ++ [32] ++ L c) = l ++ (lwT 19 ++ numT px ++ [32] ++ numT py ++ [32] ++ pfT F L c) := by unfold pfT; simp only [List.append_assoc]
  rw [e0] at j2
  refine ⟨X10, r9, cap9, k, _, k12, ks, ⟨px, py, fr, by omega, by omega, by rw [← hpx, ← hpy]; exact i1, rfl⟩, ?_, j2, agT_m (agT_t a5' (agT_t b5 (agT_t c3 (agT_t d3 (agT_t e3 (agT_t f3 (agT_t g3 (agT_t h4 j3)))))))) (by omega) (by omega), ?_⟩
  · simp only [List.length_append]
    show 3 + _ + 1 + _ + 1 + _ ≤ 40
    omega
  · rw [← hpx] at d1
    rw [← hpy] at f1
    simp (disch := omega) only [e420_340, e420_341, e420_342, e420_344, e420_347, e420_349, e420_350, e420_351, e420_353, e420_356, e420_358, e420_359, e420_362, e420_365, e420_367, e420_370, e420_372, e420_375, e420_377, e420_380, e420_382, e420_385, e420_386, e420_388, e420_391, e420_394, e420_395, e420_396, e420_397, e420_398, e420_399, e420_401, e420_403, e420_406, e420_408, e420_411, e420_412, ↓reduceIte, Bool.false_eq_true, not_false_eq_true, not_true_eq_false, Nat.reduceLeDiff, Nat.reduceAdd, Nat.reduceEqDiff, Int.reduceToNat, Int.toNat_natCast, iB0, iB1, ru_klI, ru_klR, ru_klF, ru_klJ, ru_kl0, ru_cs0, ru_csI, ru_csR, ru_csF, ru_csJ, wI_add, wI_sub, wI_mul, wI_lt, wI_le, wI_inj, ru_fdE, ru_fdN, ru_iaN, ru_baN, ru_laN, ru_qaN, ru_pfN, ru_isN, ru_bsN, ru_jsN, ru_qsN, ru_set2, Nat.add_right_cancel_iff, if_true, if_false, ite_self, Int.reduceEq, and_self, Int.add_neg_cancel_right, Int.add_zero, Int.zero_add, ru_ctR, a3, b3, c1, d1, e1, f1, g1, h1, h2, i2, j1]
end ONP
