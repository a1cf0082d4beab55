/-! ===== the class reads a whole name ===== -/
theorem lsF_lt {W : List Nat} (h : wdK W) : ltR (lsF W) := fun k hk => by
  unfold lsF
  by_cases c : k < W.length
  · have := of_decide_eq_true (h.2.2 k c)
    right; omega
  · left; rw [List.getD, List.getElem?_eq_none (by omega)]; rfl
theorem lsF_eq {W V : List Nat} (h : wdK W) (h2 : wdK V) (e : ∀ i, i < 8 → lsF W i = lsF V i) : W = V := by
  have out : ∀ {U : List Nat} {i : Nat}, U.length ≤ i → U.getD i 0 = 0 := fun hU => by rw [List.getD, List.getElem?_eq_none hU]; rfl
  have e' : ∀ i, i < 8 → W.getD i 0 = V.getD i 0 := fun i hi => by have := e i hi; unfold lsF at this; omega
  have nz : ∀ {U : List Nat}, wdK U → ∀ i, i < U.length → 97 ≤ U.getD i 0 := fun hU i hi => (of_decide_eq_true (hU.2.2 i hi)).1
  have ln : W.length = V.length := by
    rcases Nat.lt_trichotomy W.length V.length with c | c | c
    · have a := nz h2 W.length c
      have b := e' W.length (by have := h2.2.1; omega)
      rw [out (Nat.le_refl _)] at b
      omega
    · exact c
    · have a := nz h V.length c
      have b := e' V.length (by have := h.2.1; omega)
      rw [out (U := V) (Nat.le_refl _)] at b
      omega
  refine List.ext_getElem ln (fun i hi hi2 => ?_)
  have := e' i (by have := h.2.1; omega)
  rw [List.getD, List.getD, List.getElem?_eq_getElem hi, List.getElem?_eq_getElem hi2] at this
  exact this
/-- the class's names are these words -/
def nmS (C : tCl) (A N : Nat) (F L : Nat → List Nat) : Prop := (A = 1003 ∨ A = 1034) ∧ C.1 (A + 1) 0 = (N : Int) ∧ N ≤ 20 ∧ ∀ i, i < N → (wdK (F i) ∧ wdK (L i)) ∧ (C.2.2.1 (A + 2) i = wdL (lsF (F i)) ∧ C.2.2.1 (A + 3) i = wdL (lsF (L i))) ∧ (∀ j, 5 ≤ j → j < 14 → ¬ F i = sbT j ∧ ¬ L i = sbT j) ∧ ∀ m, m < i → ¬ (F m = F i ∧ L m = L i)
theorem nmS_c {C C' : tCl} {A N : Nat} {F L : Nat → List Nat} (h : nmS C A N F L) (h1 : C'.1 (A + 1) = C.1 (A + 1)) (h2 : ∀ j, C'.2.2.1 (A + 2) j = C.2.2.1 (A + 2) j) (h3 : ∀ j, C'.2.2.1 (A + 3) j = C.2.2.1 (A + 3) j) : nmS C' A N F L := by
  unfold nmS at h ⊢
  rw [h1]
  refine ⟨h.1, h.2.1, h.2.2.1, fun i hi => ?_⟩
  rw [h2, h3]
  exact h.2.2.2 i hi
theorem nmS_S {C C' : tCl} {A N : Nat} {F L : Nat → List Nat} (h : nmS C A N F L) (k : inS C C') : nmS C' A N F L := by
  have hA : A = 1003 ∨ A = 1034 := h.1
  exact nmS_c h (k.1 _ (by omega)) (fun j => k.2.2.2.1 _ j (by omega)) (fun j => k.2.2.2.1 _ j (by omega))
theorem fdN_at {F1 F2 : Nat → Nat → Int} {f1 f2 : Nat → Int} {k : Nat} : ∀ d i, i ≤ k → k < i + d → (agN (F1 k) f1 8 0 = 0 ∧ agN (F2 k) f2 8 0 = 0) → (∀ m, i ≤ m → m < k → ¬ (agN (F1 m) f1 8 0 = 0 ∧ agN (F2 m) f2 8 0 = 0)) → fdN F1 F2 f1 f2 d i = (k : Int)
  | 0, i, h1, h2, _, _ => by omega
  | d + 1, i, h1, h2, h3, h4 => by
    rw [fdN]
    by_cases c : i = k
    · rw [c, if_pos h3]
    · rw [if_neg (h4 i (Nat.le_refl _) (by omega))]
      exact fdN_at d (i + 1) (by omega) (by omega) h3 (fun m a b => h4 m (by omega) b)
section NML
variable {z : Bool} {C C' : tCl} {n A N R : Nat} {F L : Nat → List Nat} {h : am_H} {S : tRd}
theorem fw43 (hs : nmS C A N F L) {k : Nat} (hk : k < N) : ru_ev z 43 [.ref (A + 1), .long (wdL (lsF (F k))), .long (wdL (lsF (L k)))] (clPut h C) = some (.inl (some (.int (wI k))), clPut h C) := by
  obtain ⟨hA, hN, hN2, hw⟩ := hs
  obtain ⟨⟨k1, k2⟩, -, -, k3⟩ := hw k hk
  have c := c43 (z := z) (h := h) (C := C) (F1 := fun i => lsF (F i)) (F2 := fun i => lsF (L i)) hA hN hN2 (lsF_lt k1) (lsF_lt k2) (fun i hi => ⟨lsF_lt (hw i hi).1.1, lsF_lt (hw i hi).1.2, (hw i hi).2.1.1, (hw i hi).2.1.2⟩)
  have e : fdN (fun i => lsF (F i)) (fun i => lsF (L i)) (lsF (F k)) (lsF (L k)) N 0 = (k : Int) := by
    refine fdN_at N 0 (Nat.zero_le _) (by omega) ⟨by rw [ag_eq (lsF_lt k1) (lsF_lt k1)]; exact fun _ _ => rfl, by rw [ag_eq (lsF_lt k2) (lsF_lt k2)]; exact fun _ _ => rfl⟩ (fun m _ hm hh => ?_)
    obtain ⟨⟨m1, m2⟩, -, -, -⟩ := hw m (by omega)
    obtain ⟨q1, q2⟩ := hh
    rw [ag_eq (lsF_lt m1) (lsF_lt k1)] at q1
    rw [ag_eq (lsF_lt m2) (lsF_lt k2)] at q2
    exact k3 m hm ⟨lsF_eq m1 k1 q1, lsF_eq m2 k2 q2⟩
  rw [e] at c
  exact c
theorem fw99 (hR : 1315 ≤ R) (hs : nmS C A N F L) {k : Nat} (hk : k < N) : ru_ev z 99 [.ref R, .long (wdL (lsF (F k))), .long (wdL (lsF (L k)))] (clPut (rdH h R (A + 1) S) C) = some (.inl (some (.int (wI k))), clPut (rdH h R (A + 1) S) C) := by
  have a := fw43 (z := z) (h := rdH h R (A + 1) S) hs hk
  have hN2 := hs.2.2.1
  have d1 : ((k : Int) = -1) = False := eq_false (by omega)
  simp (disch := omega) only [en99, e99_0, e99_1, e99_4, e99_5, e99_6, e99_9, e99_11, e99_12, e99_15, e99_17, e99_18, e99_21, e99_22, e99_25, e99_26, e99_28, e99_31, e99_33, ↓reduceIte, Bool.false_eq_true, not_false_eq_true, not_true_eq_false, Nat.reduceLeDiff, Nat.reduceAdd, Nat.reduceEqDiff, Int.reduceToNat, Int.toNat_natCast, iB0, iB1, ru_klI, ru_klR, ru_klF, ru_klJ, ru_kl0, ru_cs0, ru_csI, ru_csR, ru_csF, ru_csJ, wI_add, wI_sub, wI_mul, wI_lt, wI_le, wI_inj, ru_fdE, ru_fdN, ru_iaN, ru_baN, ru_laN, ru_qaN, ru_pfN, ru_isN, ru_bsN, ru_jsN, ru_qsN, ru_set2, Nat.add_right_cancel_iff, if_true, if_false, ite_self, Int.reduceEq, and_self, Int.add_neg_cancel_right, Int.add_zero, Int.zero_add, rd_e hR, rd_f0 hR, rd_f1 hR, a, d1, fw36, not_false_iff]
theorem fw105 (hR : 1315 ≤ R) (hst : strs h) (hs : nmS C A N F L) {k : Nat} (hk : k < N) {T : List Nat} (ht : tkw C n (F k) ([32] ++ (L k ++ T))) (hT : T = [] ∨ isL (T.getD 0 0) = false) : ∃ C', tkw C' n (L k) T ∧ inS C C' ∧ ∀ S, ru_ev z 105 [.ref R] (clPut (rdH h R (A + 1) S) C) = some (.inl (some (.int (wI k))), clPut (rdH h R (A + 1) S) C') := by
  obtain ⟨⟨k1, k2⟩, -, k4, -⟩ := hs.2.2.2 k hk
  obtain ⟨s, p1, p2⟩ := id ht
  obtain ⟨C', c1, c2, c3⟩ := av_w (z := z) p1 spK_1 k2 hT
  refine ⟨C', c2, c3, fun S => ?_⟩
  have a1 := fw42 (z := z) (strs_rd (nm := A + 1) (S := S) hR hst) ht (fun j h1 h2 => (k4 j h1 h2).1)
  have a2 := c1 (rdH h R (A + 1) S)
  have a3 := fw42 (z := z) (strs_rd (nm := A + 1) (S := S) hR hst) c2 (fun j h1 h2 => (k4 j h1 h2).2)
  have a4 := fw99 (z := z) (h := h) (S := S) hR (nmS_S hs c3) hk
  simp (disch := omega) only [en105, e105_0, e105_1, e105_4, e105_7, e105_8, e105_9, e105_12, e105_15, e105_16, e105_17, e105_18, e105_21, e105_24, e105_27, ↓reduceIte, Bool.false_eq_true, not_false_eq_true, not_true_eq_false, Nat.reduceLeDiff, Nat.reduceAdd, Nat.reduceEqDiff, Int.reduceToNat, Int.toNat_natCast, iB0, iB1, ru_klI, ru_klR, ru_klF, ru_klJ, ru_kl0, ru_cs0, ru_csI, ru_csR, ru_csF, ru_csJ, wI_add, wI_sub, wI_mul, wI_lt, wI_le, wI_inj, ru_fdE, ru_fdN, ru_iaN, ru_baN, ru_laN, ru_qaN, ru_pfN, ru_isN, ru_bsN, ru_jsN, ru_qsN, ru_set2, Nat.add_right_cancel_iff, if_true, if_false, ite_self, Int.reduceEq, and_self, Int.add_neg_cancel_right, Int.add_zero, Int.zero_add, rd_e hR, rd_f0 hR, a1, a2, a3, a4]
end NML
