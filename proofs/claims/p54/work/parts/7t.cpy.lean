/-! ===== the class copies photos and states ===== -/
/-- q' is r in what a photo tells, and small wherever q and r are -/
def cpQ (q r q' : tPh) : Prop := (∀ k, k < 8 → q'.1 k = r.1 k) ∧ (∀ k, 8 ≤ k → q'.1 k = q.1 k) ∧ (∀ c i, c < 4 → i < 12 → q'.2 c i = r.2 c i) ∧ ∀ c i, c < 4 → 12 ≤ i → q'.2 c i = q.2 c i
theorem cpQ_R {C : tCl} {a : Nat} {q r q' : tPh} (h : cpQ q r q') (hq : phR q) (hr : phR r) : phR (cph (phP C a q') a) := by
  obtain ⟨h1, h2, h3, h4⟩ := h
  obtain ⟨s1, s2⟩ := phP_self (C := C) (a := a) (q := q')
  have e1 : ∀ k, q'.1 k = r.1 k ∨ q'.1 k = q.1 k := fun k => by
    by_cases e : k < 8
    · exact Or.inl (h1 k e)
    · exact Or.inr (h2 k (by omega))
  have e2 : ∀ c i, c < 4 → q'.2 c i = r.2 c i ∨ q'.2 c i = q.2 c i := fun c i hc => by
    by_cases e : i < 12
    · exact Or.inl (h3 c i hc e)
    · exact Or.inr (h4 c i hc (by omega))
  refine ⟨fun k => ?_, ?_, ?_, fun c i => ?_, fun i => ?_, fun i => ?_⟩
  · rw [s1 k]
    have a1 := hq.1 k
    have a2 := hr.1 k
    rcases e1 k with e | e <;> omega
  · rw [s1 6]; rw [h1 6 (by decide)]; exact hr.2.1
  · rw [s1 7]; rw [h1 7 (by decide)]; exact hr.2.2.1
  · by_cases hc : c < 4
    · rw [s2 c hc]
      have a1 := hq.2.2.2.1 c i
      have a2 := hr.2.2.2.1 c i
      rcases e2 c i hc with e | e <;> omega
    · have : (cph (phP C a q') a).2 c = fun _ => 0 := by unfold cph; exact if_neg hc
      rw [this]; show -1 ≤ (0 : Int) ∧ (0 : Int) ≤ 999; decide
  · rw [s2 2 (by decide)]
    have a1 := hq.2.2.2.2.1 i
    have a2 := hr.2.2.2.2.1 i
    rcases e2 2 i (by decide) with e | e <;> omega
  · rw [s2 3 (by decide)]
    have a1 := hq.2.2.2.2.2 i
    have a2 := hr.2.2.2.2.2 i
    rcases e2 3 i (by decide) with e | e <;> omega
/-- what a photo tells is the same -/
def phS (q p : tPh) : Prop := (∀ k, k < 8 → q.1 k = p.1 k) ∧ ∀ c i, c < 4 → i < 12 → q.2 c i = p.2 c i
theorem phS_eq {q p : tPh} (h : phS q p) (hr : phR q) : pheq q p := ⟨h.1, fun c i hc hi => h.2 c i hc (by have := (phR_s hr).2.2.2.2.2.2.2; omega)⟩
theorem phS_tr {q p r : tPh} (h : phS q p) (h2 : pheq p r) (hr : phR q) : pheq q r := by
  have h3 := phS_eq h hr
  refine ⟨fun k hk => by rw [h3.1 k hk, h2.1 k hk], fun c i hc hi => ?_⟩
  rw [h3.2 c i hc hi, h2.2 c i hc (by rw [← h3.1 7 (by decide)]; exact hi)]
theorem upI_n {C : tCl} {a b k : Nat} {v : Int} (h : b ≠ a) : (upI C a k v).1 b = C.1 b := by
  funext j; simp only [upI, h, if_false]
theorem upI_ph {C : tCl} {a b k : Nat} {v : Int} (h : b ≠ a) : cph (upI C a k v) b = cph C b := by
  unfold cph; rw [upI_n h]; rfl
section CPY
variable {z : Bool} {h : am_H} {C : tCl} {a b : Nat}
theorem k80l (ha : isPh a) (hb : isPh b) (hfar : b + 4 < a ∨ a + 4 < b) {r q : tPh} (hr : phR r) (hrb : ∀ q, phAt (clPut h (phP C a q)) b r) : ∀ d i, i + d = 12 → ∀ q1 : tPh, (∀ c j, c < 4 → j < i → q1.2 c j = r.2 c j) → (∀ c j, c < 4 → i ≤ j → q1.2 c j = q.2 c j) → ∃ q' : tPh, q'.1 = q1.1 ∧ (∀ c j, c < 4 → j < 12 → q'.2 c j = r.2 c j) ∧ (∀ c j, c < 4 → 12 ≤ j → q'.2 c j = q.2 c j) ∧
    ru_n z 80 66 [some (.ref a), some (.ref b), some (.int (wI i))] [] (clPut h (phP C a q1)) = some (.inl none, clPut h (phP C a q')) := by
  intro d
  induction d with
  | zero =>
    intro i hi q1 h1 h2
    obtain rfl : i = 12 := by omega
    refine ⟨q1, rfl, h1, h2, ?_⟩
    have e12 : (((12 : Nat) : Int)) = 12 := rfl
    simp (disch := omega) only [e80_66, e80_67, e80_69, e80_126, ↓reduceIte, Bool.false_eq_true, not_false_eq_true, not_true_eq_false, Nat.reduceLeDiff, Nat.reduceAdd, Nat.reduceEqDiff, Int.reduceToNat, Int.toNat_natCast, iB0, iB1, ru_klI, ru_klR, ru_klF, ru_klJ, ru_kl0, ru_cs0, ru_csI, ru_csR, ru_csF, ru_csJ, wI_add, wI_sub, wI_mul, wI_lt, wI_le, wI_inj, ru_fdE, ru_fdN, ru_iaN, ru_baN, ru_laN, ru_qaN, ru_pfN, ru_isN, ru_bsN, ru_jsN, ru_qsN, ru_set2, Nat.add_right_cancel_iff, if_true, if_false, ite_self, Int.reduceEq, and_self, Int.add_neg_cancel_right, Int.add_zero, Int.zero_add, e12, Int.le_refl]
  | succ d ih =>
    intro i hi q1 h1 h2
    have hri := phR_i hr i
    obtain ⟨q', t1, t2, t3, t4⟩ := ih (i + 1) (by omega) (q1.1, upC (upC (upC (upC q1.2 0 (up1 (q1.2 0) i (r.2 0 i))) 1 (up1 (q1.2 1) i (r.2 1 i))) 2 (up1 (q1.2 2) i (r.2 2 i))) 3 (up1 (q1.2 3) i (r.2 3 i))) (fun c j hc hj => by
        have hcc : c = 0 ∨ c = 1 ∨ c = 2 ∨ c = 3 := by omega
        by_cases e : j = i
        · rcases hcc with rfl | rfl | rfl | rfl <;> simp only [upC, Nat.reduceEqDiff, if_true, if_false, up1, e]
        · have := h1 c j hc (by omega)
          rcases hcc with rfl | rfl | rfl | rfl <;> simp only [upC, Nat.reduceEqDiff, if_true, if_false, up1, e] <;> exact this) (fun c j hc hj => by
        have hcc : c = 0 ∨ c = 1 ∨ c = 2 ∨ c = 3 := by omega
        have e : ¬ j = i := by omega
        have := h2 c j hc (by omega)
        rcases hcc with rfl | rfl | rfl | rfl <;> simp only [upC, Nat.reduceEqDiff, if_true, if_false, up1, e] <;> exact this)
    refine ⟨q', t1, t2, t3, ?_⟩
    have c : ((12 : Int) ≤ (i : Int)) = False := eq_false (by omega)
    rw [← t4, e80_66]
    simp (disch := omega) only [e80_67, e80_69, e80_72, e80_73, e80_76, e80_77, e80_78, e80_81, e80_82, e80_83, e80_84, e80_85, e80_88, e80_89, e80_90, e80_93, e80_94, e80_95, e80_96, e80_97, e80_100, e80_101, e80_102, e80_105, e80_106, e80_107, e80_108, e80_109, e80_112, e80_113, e80_114, e80_117, e80_118, e80_119, e80_120, e80_123, ↓reduceIte, Bool.false_eq_true, not_false_eq_true, not_true_eq_false, Nat.reduceLeDiff, Nat.reduceAdd, Nat.reduceEqDiff, Int.reduceToNat, Int.toNat_natCast, iB0, iB1, ru_klI, ru_klR, ru_klF, ru_klJ, ru_kl0, ru_cs0, ru_csI, ru_csR, ru_csF, ru_csJ, wI_add, wI_sub, wI_mul, wI_lt, wI_le, wI_inj, ru_fdE, ru_fdN, ru_iaN, ru_baN, ru_laN, ru_qaN, ru_pfN, ru_isN, ru_bsN, ru_jsN, ru_qsN, ru_set2, Nat.add_right_cancel_iff, if_true, if_false, ite_self, Int.reduceEq, and_self, Int.add_neg_cancel_right, Int.add_zero, Int.zero_add, ph_e ha, ph_f0 ha, ph_s0 ha, ph_f1 ha, ph_s1 ha, ph_f2 ha, ph_s2 ha, ph_f3 ha, ph_s3 ha, ph_f4 ha, ph_s4 ha, ph_f5 ha, ph_s5 ha, ph_f6 ha, ph_s6 ha, ph_f7 ha, ph_s7 ha, ph_f8 ha, ph_a0 ha, ph_w0 ha, ph_f9 ha, ph_a1 ha, ph_w1 ha, ph_f10 ha, ph_a2 ha, ph_w2 ha, ph_f11 ha, ph_a3 ha, ph_w3 ha, Int.reduceEq, ru_ctR, ru_ctI, upC_e, upC_n, upC_up, up1_e, up1_n, phF (hrb _), phA0 (hrb _), phA1 (hrb _), phA2 (hrb _), phA3 (hrb _), c, Int.natCast_add, Int.natCast_one]
theorem k80 (ha : isPh a) (hb : isPh b) (hfar : b + 4 < a ∨ a + 4 < b) {q r : tPh} (hr : phR r) (hrb : cph C b = r) : ∃ q', cpQ q r q' ∧ ru_ev z 80 [.ref a, .ref b] (clPut h (phP C a q)) = some (.inl none, clPut h (phP C a q')) := by
  have hB : ∀ q, phAt (clPut h (phP C a q)) b r := fun q => by
    have := cl_ph (h := h) (C := phP C a q) hb
    rw [phP_ph hfar, hrb] at this
    exact this
  have s := phR_s hr
  obtain ⟨q', t1, t2, t3, t4⟩ := k80l (z := z) (h := h) (C := C) ha hb hfar (q := q) hr hB 12 0 (by omega) (up1 (up1 (up1 (up1 (up1 (up1 (up1 (up1 q.1 0 (r.1 0)) 1 (r.1 1)) 2 (r.1 2)) 3 (r.1 3)) 4 (r.1 4)) 5 (r.1 5)) 6 (r.1 6)) 7 (r.1 7), q.2) (fun c j _ hj => by omega) (fun c j _ _ => rfl)
  refine ⟨q', ⟨fun k hk => ?_, fun k hk => ?_, t2, t3⟩, ?_⟩
  · rw [t1]
    have hk8 : k = 0 ∨ k = 1 ∨ k = 2 ∨ k = 3 ∨ k = 4 ∨ k = 5 ∨ k = 6 ∨ k = 7 := by omega
    rcases hk8 with rfl | rfl | rfl | rfl | rfl | rfl | rfl | rfl <;> simp only [up1, Nat.reduceEqDiff, if_true, if_false]
  · rw [t1]
    simp only [up1]
    rw [if_neg (by omega), if_neg (by omega), if_neg (by omega), if_neg (by omega), if_neg (by omega), if_neg (by omega), if_neg (by omega), if_neg (by omega)]
  · rw [show ((0 : Nat) : Int) = 0 from rfl] at t4
    simp (disch := omega) only [en80, e80_0, e80_1, e80_2, e80_5, e80_8, e80_9, e80_10, e80_13, e80_16, e80_17, e80_18, e80_21, e80_24, e80_25, e80_26, e80_29, e80_32, e80_33, e80_34, e80_37, e80_40, e80_41, e80_42, e80_45, e80_48, e80_49, e80_50, e80_53, e80_56, e80_57, e80_58, e80_61, e80_64, e80_65, ↓reduceIte, Bool.false_eq_true, not_false_eq_true, not_true_eq_false, Nat.reduceLeDiff, Nat.reduceAdd, Nat.reduceEqDiff, Int.reduceToNat, Int.toNat_natCast, iB0, iB1, ru_klI, ru_klR, ru_klF, ru_klJ, ru_kl0, ru_cs0, ru_csI, ru_csR, ru_csF, ru_csJ, wI_add, wI_sub, wI_mul, wI_lt, wI_le, wI_inj, ru_fdE, ru_fdN, ru_iaN, ru_baN, ru_laN, ru_qaN, ru_pfN, ru_isN, ru_bsN, ru_jsN, ru_qsN, ru_set2, Nat.add_right_cancel_iff, if_true, if_false, ite_self, Int.reduceEq, and_self, Int.add_neg_cancel_right, Int.add_zero, Int.zero_add, ph_e ha, ph_f0 ha, ph_s0 ha, ph_f1 ha, ph_s1 ha, ph_f2 ha, ph_s2 ha, ph_f3 ha, ph_s3 ha, ph_f4 ha, ph_s4 ha, ph_f5 ha, ph_s5 ha, ph_f6 ha, ph_s6 ha, ph_f7 ha, ph_s7 ha, ph_f8 ha, ph_a0 ha, ph_w0 ha, ph_f9 ha, ph_a1 ha, ph_w1 ha, ph_f10 ha, ph_a2 ha, ph_w2 ha, ph_f11 ha, ph_a3 ha, ph_w3 ha, Int.reduceEq, ru_ctR, ru_ctI, upC_e, upC_n, upC_up, up1_e, up1_n, phF (hB _), t4]
/-- cells outside are as they were -/
def agO (C C' : tCl) (lo hi : Nat) : Prop := (∀ x, x < lo ∨ hi < x → C'.1 x = C.1 x ∧ C'.2.1 x = C.2.1 x) ∧ C'.2.2 = C.2.2
theorem agO_ph {C C' : tCl} {lo hi a : Nat} (h : agO C C' lo hi) (ha : a + 4 < lo ∨ hi < a) : cph C' a = cph C a := by
  unfold cph
  rw [(h.1 a (by omega)).1]
  refine Prod.ext rfl (funext fun c => ?_)
  dsimp only
  by_cases e : c < 4
  · rw [if_pos e, if_pos e, (h.1 (a + 1 + c) (by omega)).2]
  · rw [if_neg e, if_neg e]
theorem isSt_sep {s o : Nat} (hs : isSt s) (ho : isSt o) (hne : s ≠ o) : s + 26 < o ∨ o + 26 < s := by
  have key : ∀ s ∈ stS, ∀ o ∈ stS, s ≠ o → (s + 26 < o ∨ o + 26 < s) := by decide +kernel
  exact key s hs o ho hne
/-- state o is laid into state s -/
def cpS (C C' : tCl) (s o : Nat) : Prop := C'.1 s 0 = C.1 o 0 ∧ (∀ i, i < 5 → phS (cph C' (s + 2 + 5 * i)) (cph C (o + 2 + 5 * i)) ∧ phR (cph C' (s + 2 + 5 * i))) ∧ agO C C' s (s + 26)
theorem k115 {s o : Nat} (hs : isSt s) (ho : isSt o) (hne : s ≠ o) (hRs : ∀ i, i < 5 → phR (cph C (s + 2 + 5 * i))) (hRo : ∀ i, i < 5 → phR (cph C (o + 2 + 5 * i))) : ∃ C', cpS C C' s o ∧ ru_ev z 115 [.ref s, .ref o] (clPut h C) = some (.inl none, clPut h C') := by
  have hsep := isSt_sep hs ho hne
  obtain ⟨s1, s2, s3, s4⟩ := isSt_k hs
  obtain ⟨o1, o2, o3, o4⟩ := isSt_k ho
  have key : ∀ d i, i + d = 5 → ∀ C1 : tCl, C1.1 s 0 = C.1 o 0 → (∀ j, j < i → phS (cph C1 (s + 2 + 5 * j)) (cph C (o + 2 + 5 * j))) → (∀ j, j < 5 → phR (cph C1 (s + 2 + 5 * j))) → agO C C1 s (s + 26) → ∃ C', cpS C C' s o ∧ ru_n z 115 10 [some (.ref s), some (.ref o), some (.int (wI i))] [] (clPut h C1) = some (.inl none, clPut h C') := by
    intro d
    induction d with
    | zero =>
      intro i hi C1 h1 h2 h3 h4
      obtain rfl : i = 5 := by omega
      refine ⟨C1, ⟨h1, fun j hj => ⟨h2 j hj, h3 j hj⟩, h4⟩, ?_⟩
      have e5 : (((5 : Nat) : Int)) = 5 := rfl
      simp (disch := omega) only [e115_10, e115_11, e115_12, e115_36, ↓reduceIte, Bool.false_eq_true, not_false_eq_true, not_true_eq_false, Nat.reduceLeDiff, Nat.reduceAdd, Nat.reduceEqDiff, Int.reduceToNat, Int.toNat_natCast, iB0, iB1, ru_klI, ru_klR, ru_klF, ru_klJ, ru_kl0, ru_cs0, ru_csI, ru_csR, ru_csF, ru_csJ, wI_add, wI_sub, wI_mul, wI_lt, wI_le, wI_inj, ru_fdE, ru_fdN, ru_iaN, ru_baN, ru_laN, ru_qaN, ru_pfN, ru_isN, ru_bsN, ru_jsN, ru_qsN, ru_set2, Nat.add_right_cancel_iff, if_true, if_false, ite_self, Int.reduceEq, and_self, Int.add_neg_cancel_right, Int.add_zero, Int.zero_add, e5, Int.le_refl]
    | succ d ih =>
      intro i hi C1 h1 h2 h3 h4
      have hpa := isSt_ph hs (show i < 5 by omega)
      have hpb := isSt_ph ho (show i < 5 by omega)
      have hfar : o + 2 + 5 * i + 4 < s + 2 + 5 * i ∨ s + 2 + 5 * i + 4 < o + 2 + 5 * i := by omega
      have hcb : cph C1 (o + 2 + 5 * i) = cph C (o + 2 + 5 * i) := agO_ph h4 (by omega)
      obtain ⟨q', k1, k2⟩ := k80 (z := z) (h := h) (C := C1) (q := cph C1 (s + 2 + 5 * i)) hpa hpb hfar (hRo i (by omega)) hcb
      rw [phP_get] at k2
      have hself := phP_self (C := C1) (a := s + 2 + 5 * i) (q := q')
      have hoth : ∀ j, j < 5 → j ≠ i → cph (phP C1 (s + 2 + 5 * i) q') (s + 2 + 5 * j) = cph C1 (s + 2 + 5 * j) := fun j _ hji => phP_ph (by omega)
      have hRq := cpQ_R (C := C1) (a := s + 2 + 5 * i) k1 (h3 i (by omega)) (hRo i (by omega))
      obtain ⟨C', t1, t2⟩ := ih (i + 1) (by omega) (phP C1 (s + 2 + 5 * i) q') (by rw [phP_1 (by omega)]; exact h1) (fun j hj => by
          by_cases e : j = i
          · subst e
            exact ⟨fun k hk => by rw [hself.1 k]; exact k1.1 k hk, fun c x hc hx => by rw [hself.2 c hc]; exact k1.2.2.1 c x hc hx⟩
          · rw [hoth j (by omega) e]; exact h2 j (by omega)) (fun j hj => by
          by_cases e : j = i
          · subst e; exact hRq
          · rw [hoth j hj e]; exact h3 j hj) ⟨fun x hx => by rw [phP_1 (by omega), phP_2 (by omega)]; exact h4.1 x hx, h4.2⟩
      refine ⟨C', t1, ?_⟩
      have c : ((5 : Int) ≤ (i : Int)) = False := eq_false (by omega)
      have f1 : am_fd (clPut h C1) s 9 1 = some (.ref (s + 1)) := cl_f9_1 s1 (by omega)
      have f2 : am_fd (clPut h C1) o 9 1 = some (.ref (o + 1)) := cl_f9_1 o1 (by omega)
      have g1 : am_qa (clPut h C1) (s + 1) (wI (i : Nat)) = some (s + 2 + 5 * i) := by
        rw [cl_q5 s2 (by omega) (by omega) (by omega), Int.toNat_natCast, show s + 1 + 1 + 5 * i = s + 2 + 5 * i by omega]
      have g2 : am_qa (clPut h C1) (o + 1) (wI (i : Nat)) = some (o + 2 + 5 * i) := by
        rw [cl_q5 o2 (by omega) (by omega) (by omega), Int.toNat_natCast, show o + 1 + 1 + 5 * i = o + 2 + 5 * i by omega]
      rw [← t2, e115_10]
      simp (disch := omega) only [e115_11, e115_12, e115_15, e115_16, e115_19, e115_20, e115_21, e115_22, e115_25, e115_26, e115_27, e115_30, e115_33, ↓reduceIte, Bool.false_eq_true, not_false_eq_true, not_true_eq_false, Nat.reduceLeDiff, Nat.reduceAdd, Nat.reduceEqDiff, Int.reduceToNat, Int.toNat_natCast, iB0, iB1, ru_klI, ru_klR, ru_klF, ru_klJ, ru_kl0, ru_cs0, ru_csI, ru_csR, ru_csF, ru_csJ, wI_add, wI_sub, wI_mul, wI_lt, wI_le, wI_inj, ru_fdE, ru_fdN, ru_iaN, ru_baN, ru_laN, ru_qaN, ru_pfN, ru_isN, ru_bsN, ru_jsN, ru_qsN, ru_set2, Nat.add_right_cancel_iff, if_true, if_false, ite_self, Int.reduceEq, and_self, Int.add_neg_cancel_right, Int.add_zero, Int.zero_add, f1, f2, g1, g2, c, k2, Int.natCast_add, Int.natCast_one]
  have e0 : ∀ D : tCl, (clPut h D).1 s = some (.inr (9, clL9 D s)) := fun D => clP9 s1 (by omega)
  obtain ⟨C', t1, t2⟩ := key 5 0 (by omega) (upI C s 0 (C.1 o 0)) (by simp only [upI, if_true]) (fun j hj => by omega) (fun j hj => by
    rw [upI_ph (by omega)]; exact hRs j hj) ⟨fun x hx => ⟨upI_n (by omega), rfl⟩, rfl⟩
  refine ⟨C', t1, ?_⟩
  have f1 : am_fd (clPut h C) o 9 0 = some (.int (wI (C.1 o 0))) := cl_f9_0 o1 (by omega)
  have p1 : am_pf (clPut h C) s 9 0 0 (.int (wI (C.1 o 0))) = some (clPut h (upI C s 0 (C.1 o 0))) := cl_p9_0 s1 (by omega)
  rw [show ((0 : Nat) : Int) = 0 from rfl] at t2
  simp (disch := omega) only [en115, e115_0, e115_1, e115_2, e115_5, e115_8, e115_9, ↓reduceIte, Bool.false_eq_true, not_false_eq_true, not_true_eq_false, Nat.reduceLeDiff, Nat.reduceAdd, Nat.reduceEqDiff, Int.reduceToNat, Int.toNat_natCast, iB0, iB1, ru_klI, ru_klR, ru_klF, ru_klJ, ru_kl0, ru_cs0, ru_csI, ru_csR, ru_csF, ru_csJ, wI_add, wI_sub, wI_mul, wI_lt, wI_le, wI_inj, ru_fdE, ru_fdN, ru_iaN, ru_baN, ru_laN, ru_qaN, ru_pfN, ru_isN, ru_bsN, ru_jsN, ru_qsN, ru_set2, Nat.add_right_cancel_iff, if_true, if_false, ite_self, Int.reduceEq, and_self, Int.add_neg_cancel_right, Int.add_zero, Int.zero_add, e0, f1, p1, t2]
end CPY
