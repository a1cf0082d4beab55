/-! ===== the class reads a name and gives it ===== -/
/-- as C0 but for the token, keys, the draft's names; the draft is q -/
def fpI (C0 C : tCl) (q : tPh) : Prop := prC C0 C ∧ (∀ i, i < 4 → C.1 1001 i = C0.1 1001 i) ∧ cph C 1065 = q ∧ phR q
def tkT (C : tCl) (n : Nat) (T : List Nat) : Prop := (T = [] ∧ tke C n) ∨ (∃ T', T = [59] ++ T' ∧ tks C n 202 T') ∨ ∃ T', T = [44] ++ T' ∧ tks C n 203 T'
def enT (T : List Nat) : Prop := T = [] ∨ (∃ T', T = [59] ++ T') ∨ ∃ T', T = [44] ++ T'
theorem enT_l {T : List Nat} (h : enT T) : T = [] ∨ isL (T.getD 0 0) = false := by
  rcases h with h | ⟨T', rfl⟩ | ⟨T', rfl⟩
  · exact Or.inl h
  · right; show isL 59 = false; decide
  · right; show isL 44 = false; decide
theorem enT_d {T : List Nat} (h : enT T) : T = [] ∨ isD (T.getD 0 0) = false := by
  rcases h with h | ⟨T', rfl⟩ | ⟨T', rfl⟩
  · exact Or.inl h
  · right; show isD 59 = false; decide
  · right; show isD 44 = false; decide
theorem poR_c {C C' : tCl} {n e : Nat} {T : List Nat} (h : poR C n e T) (h1 : C'.1 1001 = C.1 1001) (h2 : C'.2.1 1002 = C.2.1 1002) : poR C' n e T := by
  unfold poR at h ⊢
  rw [h1, h2]; exact h
theorem fpI_S {C0 C C' : tCl} {q : tPh} (h : fpI C0 C q) (k : inS C C') : fpI C0 C' q := ⟨prC_S h.1 k, fun i hi => (k.2.1 i (by omega)).trans (h.2.1 i hi), by rw [cph_eq (k.1 _ (by decide)) (fun c hc => by rw [k.2.2.1])]; exact h.2.2.1, h.2.2.2⟩
section GVW
variable {z : Bool} {C0 C C' : tCl} {n A N R : Nat} {F L : Nat → List Nat} {h : am_H} {q : tPh}
theorem av_T {e : Nat} {T : List Nat} (hT : enT T) (h : poR C n e T) : ∃ C', (∀ h, ru_ev z 20 [.ref 1001] (clPut h C) = some (.inl none, clPut h C')) ∧ tkT C' n T ∧ inS C C' := by
  rcases hT with rfl | ⟨T', rfl⟩ | ⟨T', rfl⟩
  · obtain ⟨C', a, b, c⟩ := av_e (z := z) h spK_0
    exact ⟨C', a, Or.inl ⟨rfl, b⟩, c⟩
  · obtain ⟨C', a, b, c⟩ := av_g (z := z) (sp := []) (c := 59) (Or.inl rfl) h spK_0
    exact ⟨C', a, Or.inr (Or.inl ⟨T', rfl, b⟩), c⟩
  · obtain ⟨C', a, b, c⟩ := av_g (z := z) (sp := []) (c := 44) (Or.inr rfl) h spK_0
    exact ⟨C', a, Or.inr (Or.inr ⟨T', rfl, b⟩), c⟩
theorem fpI_gv (h : fpI C0 C q) {k : Nat} {nm : Int} (hnm : -1 ≤ nm ∧ nm ≤ 19) : fpI C0 (gvC C k nm) (gvQ q k nm) := by
  obtain ⟨a1, a2, a3, a4⟩ := h
  have eg : gvC C k nm = phP C 1065 (gvQ q k nm) := by unfold gvC gvQ; rw [a3]
  rw [eg]
  refine ⟨⟨fun b hb => ?_, fun b h1 h2 => ?_, a1.2.2.1, a1.2.2.2⟩, fun i hi => by rw [phP_1 (by decide)]; exact a2 i hi, phP_eq (gvQ_z (fun c hc => by rw [← a3]; exact cph_hi _ _ c hc)), gvQ_R a4 hnm⟩
  · by_cases c : b = 1065
    · rw [c]
      have e1 : (phP C 1065 (gvQ q k nm)).1 1065 = (cph (phP C 1065 (gvQ q k nm)) 1065).1 := rfl
      rw [e1, phP_eq (gvQ_z (fun c hc => by rw [← a3]; exact cph_hi _ _ c hc))]
      show q.1 = _
      rw [← a3]
      exact a1.1 1065 (by decide)
    · rw [phP_1 c]; exact a1.1 b hb
  · by_cases c : b < 1066 ∨ 1069 < b
    · rw [phP_2 (by omega)]; exact a1.2.1 b h1 h2
    · obtain ⟨j, rfl⟩ : ∃ j, b = 1065 + 1 + j := ⟨b - 1066, by omega⟩
      have hj : j < 4 := by omega
      have hj3 : j ≠ 3 := by omega
      have e1 : (cph (phP C 1065 (gvQ q k nm)) 1065).2 j = (phP C 1065 (gvQ q k nm)).2.1 (1065 + 1 + j) := if_pos hj
      rw [← e1, phP_eq (gvQ_z (fun c hc => by rw [← a3]; exact cph_hi _ _ c hc))]
      have e2 : (gvQ q k nm).2 j = q.2 j := upC_n hj3
      have e3 : (cph C 1065).2 j = C.2.1 (1065 + 1 + j) := if_pos hj
      rw [e2, ← a3, e3]
      exact a1.2.1 _ h1 h2
theorem nmS_pr (hs : nmS C0 A N F L) (h : prC C0 C) : nmS C A N F L := by
  have hA := hs.1
  exact nmS_c hs (h.1 _ (by omega)) (fun j => h.2.2.1 _ j (by omega)) (fun j => h.2.2.1 _ j (by omega))
theorem gvC_run (hR : 1315 ≤ R) (hq : fpI C0 C q) {k : Nat} (hk : (k : Int) < q.1 7) {nm : Int} (hnm : -1 ≤ nm ∧ nm ≤ 19) {nn : Nat} {S : tRd} : ru_ev z 100 [.ref R, .int (wI k), .int (wI nm)] (clPut (rdH h R nn S) C) = some (.inl none, clPut (rdH h R nn (S.1 + 1, S.2)) (gvC C k nm)) := by
  have a9 : phR (cph C 1065) := by rw [hq.2.2.1]; exact hq.2.2.2
  have x := k101 (z := z) (h := rdH h R nn S) (C := C) (a := 1065) (q := cph C 1065) isPh_draft (fun c hc => cph_hi _ _ c hc) a9 (k := k) (by rw [hq.2.2.1]; exact hk) (nm := nm) (by omega)
  rw [phP_get] at x
  have pe : ∀ D : tCl, (clPut (rdH h R nn S) D).1 1065 = some (.inr (6, clL6 D 1065)) := fun D => clP6 (by decide +kernel) (by decide)
  have s4 := rd_s4 (h := h) (C := gvC C k nm) (R := R) (nm := nn) (S := S) hR (v := S.1 + 1)
  have x' : ru_ev z 101 [.ref 1065, .int (wI k), .int (wI nm)] (clPut (rdH h R nn S) C) = some (.inl none, clPut (rdH h R nn S) (gvC C k nm)) := x
  simp (disch := omega) only [en100, e100_0, e100_1, e100_4, e100_5, e100_6, e100_9, e100_10, e100_11, e100_14, e100_15, e100_16, e100_19, ↓reduceIte, Bool.false_eq_true, not_false_eq_true, not_true_eq_false, Nat.reduceLeDiff, Nat.reduceAdd, Nat.reduceEqDiff, Int.reduceToNat, Int.toNat_natCast, iB0, iB1, ru_klI, ru_klR, ru_klF, ru_klJ, ru_kl0, ru_cs0, ru_csI, ru_csR, ru_csF, ru_csJ, wI_add, wI_sub, wI_mul, wI_lt, wI_le, wI_inj, ru_fdE, ru_fdN, ru_iaN, ru_baN, ru_laN, ru_qaN, ru_pfN, ru_isN, ru_bsN, ru_jsN, ru_qsN, ru_set2, Nat.add_right_cancel_iff, if_true, if_false, ite_self, Int.reduceEq, and_self, Int.add_neg_cancel_right, Int.add_zero, Int.zero_add, rd_e hR, rd_f2 hR, rd_f4 hR, pe, x', ru_ctR, s4]
/-- a name read, given, passed -/
theorem gvw (hR : 1315 ≤ R) (hst : strs h) (hs : nmS C0 A N F L) (hq : fpI C0 C q) {c k : Nat} (hc : c < N) (hk : (k : Int) < q.1 7) {T : List Nat} (ht : tkw C n (F c) ([32] ++ (L c ++ T))) (hT : enT T) : ∃ C1 C3, (∀ S, ru_ev z 105 [.ref R] (clPut (rdH h R (A + 1) S) C) = some (.inl (some (.int (wI c))), clPut (rdH h R (A + 1) S) C1)) ∧ (∀ S, ru_ev z 100 [.ref R, .int (wI k), .int (wI c)] (clPut (rdH h R (A + 1) S) C1) = some (.inl none, clPut (rdH h R (A + 1) (S.1 + 1, S.2)) (gvC C1 k c))) ∧ (∀ h, ru_ev z 20 [.ref 1001] (clPut h (gvC C1 k c)) = some (.inl none, clPut h C3)) ∧ tkT C3 n T ∧ fpI C0 C3 (gvQ q k c) ∧ fpI C0 (gvC C1 k c) (gvQ q k c) := by
  have hN := hs.2.2.1
  obtain ⟨C1, a1, a2, a3⟩ := fw105 (z := z) (h := h) (R := R) hR hst (nmS_pr hs hq.1) hc ht (enT_l hT)
  have q1 := fpI_S hq a2
  have q2 := fpI_gv (k := k) q1 (nm := (c : Int)) (by omega)
  obtain ⟨s, p1, p2⟩ := a1
  have p3 : poR (gvC C1 k c) n (s + (L c).length) T := poR_c p1 (phP_1 (by decide)) (phP_2 (by decide))
  obtain ⟨C3, b1, b2, b3⟩ := av_T (z := z) hT p3
  exact ⟨C1, C3, a3, fun S => gvC_run hR q1 hk (by omega), b1, b2, fpI_S q2 b3, q2⟩
end GVW
