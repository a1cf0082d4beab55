/-! ===== the class asks of a known token ===== -/
section FWD
variable {z : Bool} {C C' : tCl} {n : Nat} {W R : List Nat} {h : am_H}
theorem sbT_a {i : Nat} (hi : i < 85) : ∀ j, j < (sbT i).length → (sbT i).getD j 0 ≤ 127 := (sbT_ok i hi).2
theorem fw28 (hst : strs h) {i : Nat} (hi : i < 85) (hl : (sbT i).length ≤ 8) (ht : tkw C n W R) : ru_ev z 28 [.ref 1001, .ref (300 + i)] (clPut h C) = some (.inl (some (.int (wI (if W = sbT i then 1 else 0)))), clPut h C) := by
  obtain ⟨s, t1, t2⟩ := tkw_R ht
  have k := c28 (z := z) (hst i hi) hl (sbT_a hi) t1 t2
  rw [isW_mk] at k
  rw [k]
  by_cases c : W = sbT i
  · rw [if_pos (decide_eq_true c), if_pos c]
  · rw [if_neg (by rw [decide_eq_true_eq]; exact c), if_neg c]
theorem fw28n (hst : strs h) {i : Nat} (hi : i < 85) (hl : (sbT i).length ≤ 8) {v : Int} (ht : tkn C n v R) : ru_ev z 28 [.ref 1001, .ref (300 + i)] (clPut h C) = some (.inl (some (.int (wI 0))), clPut h C) := by
  obtain ⟨s, e, t1, t2⟩ := tkn_R ht
  have k := c28 (z := z) (hst i hi) hl (sbT_a hi) t1 t2
  rw [isW_mkN (by decide)] at k
  exact k
theorem fw28s (hst : strs h) {i k : Nat} (hi : i < 85) (hl : (sbT i).length ≤ 8) (ht : tks C n k R) : ru_ev z 28 [.ref 1001, .ref (300 + i)] (clPut h C) = some (.inl (some (.int (wI 0))), clPut h C) := by
  obtain ⟨s, e, kd, hk, t1, t2⟩ := tks_R ht
  have k := c28 (z := z) (hst i hi) hl (sbT_a hi) t1 t2
  rw [isW_mkN (by omega)] at k
  exact k
theorem fw28e (hst : strs h) {i : Nat} (hi : i < 85) (hl : (sbT i).length ≤ 8) (ht : tke C n) : ru_ev z 28 [.ref 1001, .ref (300 + i)] (clPut h C) = some (.inl (some (.int (wI 0))), clPut h C) := by
  obtain ⟨s, t1, t2⟩ := tke_R ht
  have k := c28 (z := z) (hst i hi) hl (sbT_a hi) t1 t2
  rw [isW_mkN (by decide)] at k
  exact k
theorem fw36 {c : Int} : ru_ev z 36 [.ref 1001, .int (wI 1), .int (wI c)] (clPut h C) = some (.inl none, clPut h C) := by
  rw [c36 (Or.inr rfl), if_pos rfl]
theorem fw38 {v lo hi : Int} (ht : tkn C n v R) (h1 : lo ≤ v) (h2 : v ≤ hi) (g1 : -2147483648 ≤ lo) (g2 : hi < 2147483648) : ru_ev z 38 [.ref 1001, .int (wI lo), .int (wI hi)] (clPut h C) = some (.inl (some (.int (wI v))), clPut h C) := by
  obtain ⟨s, e, t1, t2⟩ := tkn_R ht
  have k := c38 (z := z) (h := h) t1 (lo := lo) (hi := hi) (by omega) (by omega)
  have e0 : nbT (mkN C n s e 2 v) lo hi = 0 := by
    unfold nbT
    show (if (2 : Int) = 2 then (if lo ≤ v ∧ v ≤ hi then 0 else 2) else 1) = 0
    rw [if_pos rfl, if_pos ⟨h1, h2⟩]
  rw [if_pos e0] at k
  exact k
theorem fw37 {v lo hi : Int} (ht : tkn C n v R) (h1 : lo ≤ v) (h2 : v ≤ hi) (g1 : -2147483648 ≤ lo) (g2 : hi < 2147483648) (k : ∀ h, ru_ev z 20 [.ref 1001] (clPut h C) = some (.inl none, clPut h C')) : ru_ev z 37 [.ref 1001, .int (wI lo), .int (wI hi)] (clPut h C) = some (.inl (some (.int (wI v))), clPut h C') := by
  have a := fw38 (z := z) (h := h) ht h1 h2 g1 g2
  simp (disch := omega) only [en37, e37_0, e37_1, e37_2, e37_3, e37_6, e37_7, e37_8, e37_11, e37_12, ↓reduceIte, Bool.false_eq_true, not_false_eq_true, not_true_eq_false, Nat.reduceLeDiff, Nat.reduceAdd, Nat.reduceEqDiff, Int.reduceToNat, Int.toNat_natCast, iB0, iB1, ru_klI, ru_klR, ru_klF, ru_klJ, ru_kl0, ru_cs0, ru_csI, ru_csR, ru_csF, ru_csJ, wI_add, wI_sub, wI_mul, wI_lt, wI_le, wI_inj, ru_fdE, ru_fdN, ru_iaN, ru_baN, ru_laN, ru_qaN, ru_pfN, ru_isN, ru_bsN, ru_jsN, ru_qsN, ru_set2, Nat.add_right_cancel_iff, if_true, if_false, ite_self, Int.reduceEq, and_self, Int.add_neg_cancel_right, Int.add_zero, Int.zero_add, cl_e1, a, k]
theorem fw27 (hst : strs h) {i : Nat} (hi : i < 85) (hl : (sbT i).length ≤ 8) (ht : tkw C n (sbT i) R) (k : ∀ h, ru_ev z 20 [.ref 1001] (clPut h C) = some (.inl none, clPut h C')) : ru_ev z 27 [.ref 1001, .ref (300 + i)] (clPut h C) = some (.inl none, clPut h C') := by
  have a := fw28 (z := z) hst hi hl ht
  rw [if_pos rfl] at a
  simp (disch := omega) only [en27, e27_0, e27_1, e27_2, e27_3, e27_6, e27_7, e27_10, e27_11, e27_14, ↓reduceIte, Bool.false_eq_true, not_false_eq_true, not_true_eq_false, Nat.reduceLeDiff, Nat.reduceAdd, Nat.reduceEqDiff, Int.reduceToNat, Int.toNat_natCast, iB0, iB1, ru_klI, ru_klR, ru_klF, ru_klJ, ru_kl0, ru_cs0, ru_csI, ru_csR, ru_csF, ru_csJ, wI_add, wI_sub, wI_mul, wI_lt, wI_le, wI_inj, ru_fdE, ru_fdN, ru_iaN, ru_baN, ru_laN, ru_qaN, ru_pfN, ru_isN, ru_bsN, ru_jsN, ru_qsN, ru_set2, Nat.add_right_cancel_iff, if_true, if_false, ite_self, Int.reduceEq, and_self, Int.add_neg_cancel_right, Int.add_zero, Int.zero_add, cl_e1, a, fw36, k]
theorem fw39 {K k : Nat} (hK : 200 ≤ K ∧ K < 206) (hk : C.2.2.2 1001 7 = k) (hk2 : 200 ≤ k ∧ k < 206) : ru_ev z 39 [.ref 1001, .ref K] (clPut h C) = some (.inl (some (.int (wI (if k = K then 1 else 0)))), clPut h C) := by
  have a := c39 (z := z) (h := h) (C := C) (K := K) (by omega) hK
  rw [hk] at a
  exact a
theorem rsw_no {M : tMd} : ∀ d i, (∀ j, i ≤ j → j < i + d → isW M (sbT j) = false) → rswN M d i = false
  | 0, _, _ => rfl
  | d + 1, i, h => by
    show (isW M (sbT i) || rswN M d (i + 1)) = false
    rw [h i (Nat.le_refl _) (by omega), rsw_no d (i + 1) (fun j h1 h2 => h j (by omega) (by omega))]
    rfl
theorem fw42 (hst : strs h) (ht : tkw C n W R) (hW : ∀ j, 5 ≤ j → j < 14 → ¬ W = sbT j) : ru_ev z 42 [.ref 1001] (clPut h C) = some (.inl (some (.long (wdL (lsF W)))), clPut h C) := by
  obtain ⟨s, t1, t2⟩ := tkw_R ht
  have k := c42 (z := z) hst t1 t2
  have e0 : nmTk (mkW C n s W) = true := by
    unfold nmTk rsvW
    rw [rsw_no 9 5 (fun j h1 h2 => by rw [isW_mk]; exact decide_eq_false (hW j h1 (by omega)))]
    rfl
  rw [if_pos e0] at k
  obtain ⟨-, -, -, -, -, -, h5⟩ := ht
  rw [h5] at k
  exact k
end FWD
