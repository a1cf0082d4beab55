/-! ===== the class's writer: words, items ===== -/
def strs (H : am_H) : Prop := ∀ i, i < 85 → stAt H (300 + i) (400 + i) (sbT i)
theorem strs_of {g : am_H} (h : gS g) : strs g := fun i hi => by
  obtain ⟨a1, a2⟩ := h.1 i hi
  exact ⟨a1, a2, by omega, by omega⟩
theorem strs_on {H H' : am_H} {C C' : tCl} {l : List Nat} {cap cap' : Nat} (h : strs H) (hb : sbS H C l cap) (k : sbOn H H' C C' cap cap') : strs H' := fun i hi => stAt_on (h i hi) hb k
theorem sbT_ok : ∀ i, i < 85 → (sbT i).length ≤ 40 ∧ ∀ j, j < (sbT i).length → (sbT i).getD j 0 ≤ 127 := by
  have key : ∀ i : Fin 85, (sbT i.val).length ≤ 40 ∧ (sbT i.val).all (fun c => decide (c ≤ 127)) = true := by decide +kernel
  intro i hi
  obtain ⟨a, b⟩ := key ⟨i, hi⟩
  refine ⟨a, fun j hj => ?_⟩
  rw [List.getD_eq_getElem?_getD, List.getElem?_eq_getElem hj]
  have := (List.all_eq_true.mp b) _ (List.getElem_mem hj)
  exact of_decide_eq_true this
theorem wln_iff {f : Nat → Int} (h : wdR f) {i : Nat} (hi : i < 8) : i < wln f ↔ ¬ f i = 0 := by
  constructor
  · intro h1 h2
    have key : ∀ n, n ≤ 8 → (∃ m, m ≤ n ∧ (∀ k, k < m → ¬ f k = 0) ∧ (m = n ∨ f m = 0)) := by
      intro n
      induction n with
      | zero => intro _; exact ⟨0, Nat.le_refl _, fun k hk => absurd hk (Nat.not_lt_zero _), Or.inl rfl⟩
      | succ n ih =>
        intro hn
        obtain ⟨m, m1, m2, m3⟩ := ih (by omega)
        rcases m3 with rfl | m3
        · by_cases e : f m = 0
          · exact ⟨m, by omega, m2, Or.inr e⟩
          · exact ⟨m + 1, Nat.le_refl _, fun k hk => by
              by_cases c : k = m
              · rw [c]; exact e
              · exact m2 k (by omega), Or.inl rfl⟩
        · exact ⟨m, by omega, m2, Or.inr m3⟩
    obtain ⟨m, m1, m2, m3⟩ := key 8 (Nat.le_refl _)
    have e := wln_is h m1 m2 m3
    rw [e] at h1
    exact m2 i h1 h2
  · intro h1
    by_cases c : i < wln f
    · exact c
    · exfalso
      have h8 := wln_8 f
      have hz : f (wln f) = 0 ∨ wln f = 8 := by
        by_cases e : f (wln f) = 0
        · exact Or.inl e
        · right
          by_cases e8 : wln f = 8
          · exact e8
          · exfalso
            -- all below the count are letters: then one more
            have key : ∀ n, n ≤ 8 → (∃ m, m ≤ n ∧ (∀ k, k < m → ¬ f k = 0) ∧ (m = n ∨ f m = 0)) := by
              intro n
              induction n with
              | zero => intro _; exact ⟨0, Nat.le_refl _, fun k hk => absurd hk (Nat.not_lt_zero _), Or.inl rfl⟩
              | succ n ih =>
                intro hn
                obtain ⟨m, m1, m2, m3⟩ := ih (by omega)
                rcases m3 with rfl | m3
                · by_cases e : f m = 0
                  · exact ⟨m, by omega, m2, Or.inr e⟩
                  · exact ⟨m + 1, Nat.le_refl _, fun k hk => by
                      by_cases c : k = m
                      · rw [c]; exact e
                      · exact m2 k (by omega), Or.inl rfl⟩
                · exact ⟨m, by omega, m2, Or.inr m3⟩
            obtain ⟨m, m1, m2, m3⟩ := key 8 (Nat.le_refl _)
            have e9 := wln_is h m1 m2 m3
            rcases m3 with m3 | m3
            · omega
            · rw [e9] at e; exact e m3
      rcases hz with hz | hz
      · have := wdR_0 h (show wln f < 8 by omega) hz (i - wln f) (by omega)
        rw [show wln f + (i - wln f) = i by omega] at this
        exact h1 this
      · omega
section WRI
variable {z : Bool} {H : am_H} {C : tCl} {l : List Nat} {cap : Nat} {M : tMd}
theorem am_ch2 {v : Int} (h1 : 0 ≤ v) (h2 : v ≤ 127) : ((wI v).toUInt32 % 65536).toInt32 = wI v := by
  have key : ∀ v : Fin 128, ((wI ((v.val : Nat) : Int)).toUInt32 % 65536).toInt32 = wI ((v.val : Nat) : Int) := by decide +kernel
  obtain ⟨n, rfl⟩ := Int.eq_ofNat_of_zero_le h1
  exact key ⟨n, by omega⟩
theorem cl_g7 : am_fd (clPut H C) 1257 7 0 = some (.ref 1258) ∧ (clPut H C).1 1257 = some (.inr (7, clL7 C 1257)) := ⟨cl_f7_0 (by decide +kernel) (by decide), clP7 (by decide +kernel) (by decide)⟩
theorem k318l {f : Nat → Int} (hf : wdR f) (hl : l.length + 8 ≤ 500) : ∀ d i : Nat, i + d = 8 → ∀ (H : am_H) (C : tCl) (cap : Nat) (l4 : Option Value), sbS H C (l ++ (wdT f).take i) cap → ∃ H' C' cap', ru_n z 318 2 [some (.ref 1257), some (.long (wdL f)), none, some (.int (wI i)), l4] [] (clPut H C) = some (.inl none, clPut H' C') ∧ sbS H' C' (l ++ wdT f) cap' ∧ sbOn H H' C C' cap cap' := by
  have hwl := wdT_len f
  have h8 := wln_8 f
  intro d
  induction d with
  | zero =>
    intro i hi H C cap l4 hs
    obtain rfl : i = 8 := by omega
    rw [List.take_of_length_le (by omega)] at hs
    refine ⟨H, C, cap, ?_, hs, sbOn_refl _ _ _⟩
    simp (disch := omega) only [e318_2, e318_3, e318_5, e318_42, ↓reduceIte, Bool.false_eq_true, not_false_eq_true, not_true_eq_false, Nat.reduceLeDiff, Nat.reduceAdd, Nat.reduceEqDiff, Int.reduceToNat, Int.toNat_natCast, iB0, iB1, ru_klI, ru_klR, ru_klF, ru_klJ, ru_kl0, ru_cs0, ru_csI, ru_csR, ru_csF, ru_csJ, wI_add, wI_sub, wI_mul, wI_lt, wI_le, wI_inj, ru_fdE, ru_fdN, ru_iaN, ru_baN, ru_laN, ru_qaN, ru_pfN, ru_isN, ru_bsN, ru_jsN, ru_qsN, ru_set2, Nat.add_right_cancel_iff, if_true, if_false, ite_self, Int.reduceEq, and_self, Int.add_neg_cancel_right, Int.add_zero, Int.zero_add, show (((8 : Nat) : Int)) = 8 from rfl, Int.le_refl]
  | succ d ih =>
    intro i hi H C cap l4 hs
    have c : ((8 : Int) ≤ (i : Int)) = False := eq_false (by omega)
    have e1 := m216 (z := z) (h := clPut H C) hf.1 (p := i) (by omega)
    have a := ltI_26 hf.1 (show i < 8 by omega)
    have hi2 := wln_iff hf (show i < 8 by omega)
    have hlt := hf.1 i (by omega)
    by_cases e : f i = 0
    · have hw : ¬ i < wln f := fun h9 => (hi2.mp h9) e
      have et : (wdT f).take i = (wdT f).take (i + 1) := by rw [List.take_of_length_le (by omega), List.take_of_length_le (by omega)]
      rw [et] at hs
      obtain ⟨H', C', cap', r, s1, s2⟩ := ih (i + 1) (by omega) H C cap (some (.int (wI (ltI (f i) : Nat)))) hs
      refine ⟨H', C', cap', ?_, s1, s2⟩
      have d1 : (((ltI (f i) : Nat) : Int) ≤ 0) = True := eq_true (by have := a.2.1.mpr e; omega)
      rw [← r, e318_2]
      simp (disch := omega) only [e318_3, e318_5, e318_8, e318_9, e318_10, e318_13, e318_15, e318_17, e318_20, e318_21, e318_24, e318_26, e318_28, e318_29, e318_30, e318_31, e318_32, e318_35, e318_36, e318_39, ↓reduceIte, Bool.false_eq_true, not_false_eq_true, not_true_eq_false, Nat.reduceLeDiff, Nat.reduceAdd, Nat.reduceEqDiff, Int.reduceToNat, Int.toNat_natCast, iB0, iB1, ru_klI, ru_klR, ru_klF, ru_klJ, ru_kl0, ru_cs0, ru_csI, ru_csR, ru_csF, ru_csJ, wI_add, wI_sub, wI_mul, wI_lt, wI_le, wI_inj, ru_fdE, ru_fdN, ru_iaN, ru_baN, ru_laN, ru_qaN, ru_pfN, ru_isN, ru_bsN, ru_jsN, ru_qsN, ru_set2, Nat.add_right_cancel_iff, if_true, if_false, ite_self, Int.reduceEq, and_self, Int.add_neg_cancel_right, Int.add_zero, Int.zero_add, c, e1, d1, Int.natCast_add, Int.natCast_one]
    · have hw : i < wln f := hi2.mpr e
      have egd : (wdT f).getD i 0 = (f i).toNat := by
        unfold wdT
        rw [List.getD_eq_getElem?_getD, List.getElem?_map, List.getElem?_range hw]; rfl
      have e9 : (l ++ (wdT f).take i) ++ [(f i).toNat] = l ++ (wdT f).take (i + 1) := by
        rw [List.append_assoc, List.take_add_one, ← egd, List.getD_eq_getElem?_getD]
        have : (wdT f)[i]? = some (wdT f)[i] := List.getElem?_eq_getElem (by omega)
        rw [this]; rfl
      have hlen : (l ++ (wdT f).take i).length = l.length + i := by rw [List.length_append, List.length_take, Nat.min_eq_left (by omega)]
      obtain ⟨H1, C1, cap1, r1, b1, b2⟩ := k319 (z := z) hs (c := (f i).toNat) (by omega) (by omega)
      rw [e9] at b1
      obtain ⟨H', C', cap', r, s1, s2⟩ := ih (i + 1) (by omega) H1 C1 cap1 (some (.int (wI (ltI (f i) : Nat)))) b1
      refine ⟨H', C', cap', ?_, s1, sbOn_tr b2 s2⟩
      have d1 : (((ltI (f i) : Nat) : Int) ≤ 0) = False := eq_false (by have := a.2.1; omega)
      have a3 := a.2.2
      rw [if_neg e] at a3
      have r1 : ru_ev z 319 [.ref 1258, .int (wI (97 + ((ltI (f i) : Nat) : Int) - 1))] (clPut H C) = some (.inl (some (.ref 1258)), clPut H1 C1) := by
        rw [show 97 + ((ltI (f i) : Nat) : Int) - 1 = ((f i).toNat : Int) by omega]; exact r1
      have cc := am_ch2 (v := 97 + ((ltI (f i) : Nat) : Int) - 1) (by omega) (by omega)
      rw [← r, e318_2]
      simp (disch := omega) only [e318_3, e318_5, e318_8, e318_9, e318_10, e318_13, e318_15, e318_17, e318_20, e318_21, e318_24, e318_26, e318_28, e318_29, e318_30, e318_31, e318_32, e318_35, e318_36, e318_39, ↓reduceIte, Bool.false_eq_true, not_false_eq_true, not_true_eq_false, Nat.reduceLeDiff, Nat.reduceAdd, Nat.reduceEqDiff, Int.reduceToNat, Int.toNat_natCast, iB0, iB1, ru_klI, ru_klR, ru_klF, ru_klJ, ru_kl0, ru_cs0, ru_csI, ru_csR, ru_csF, ru_csJ, wI_add, wI_sub, wI_mul, wI_lt, wI_le, wI_inj, ru_fdE, ru_fdN, ru_iaN, ru_baN, ru_laN, ru_qaN, ru_pfN, ru_isN, ru_bsN, ru_jsN, ru_qsN, ru_set2, Nat.add_right_cancel_iff, if_true, if_false, ite_self, Int.reduceEq, and_self, Int.add_neg_cancel_right, Int.add_zero, Int.zero_add, c, e1, d1, cl_g7, cc, r1, ru_ctR, Int.natCast_add, Int.natCast_one]
theorem k318 {f : Nat → Int} (hf : wdR f) (hl : l.length + 8 ≤ 500) (hs : sbS H C l cap) : ∃ H' C' cap', ru_ev z 318 [.ref 1257, .long (wdL f)] (clPut H C) = some (.inl none, clPut H' C') ∧ sbS H' C' (l ++ wdT f) cap' ∧ sbOn H H' C C' cap cap' := by
  obtain ⟨H', C', cap', r, s1, s2⟩ := k318l (z := z) hf hl 8 0 (by omega) H C cap none (by rw [List.take_zero, List.append_nil]; exact hs)
  refine ⟨H', C', cap', ?_, s1, s2⟩
  rw [show ((0 : Nat) : Int) = 0 from rfl] at r
  simp (disch := omega) only [e318_0, e318_1, en318, ↓reduceIte, Bool.false_eq_true, not_false_eq_true, not_true_eq_false, Nat.reduceLeDiff, Nat.reduceAdd, Nat.reduceEqDiff, Int.reduceToNat, Int.toNat_natCast, iB0, iB1, ru_klI, ru_klR, ru_klF, ru_klJ, ru_kl0, ru_cs0, ru_csI, ru_csR, ru_csF, ru_csJ, wI_add, wI_sub, wI_mul, wI_lt, wI_le, wI_inj, ru_fdE, ru_fdN, ru_iaN, ru_baN, ru_laN, ru_qaN, ru_pfN, ru_isN, ru_bsN, ru_jsN, ru_qsN, ru_set2, Nat.add_right_cancel_iff, if_true, if_false, ite_self, Int.reduceEq, and_self, Int.add_neg_cancel_right, Int.add_zero, Int.zero_add, cl_g7]
  exact r
/-- two names' persons form one item -/
def oneB (M : tMd) (n m : Int) : Bool := if n = -1 ∨ m = -1 then decide (n = m) else decide (agN (wl M n.toNat) (wl M m.toNat) 8 0 = 0)
/-- an item's end -/
def eTx (M : tMd) (n : Int) (k : Nat) : List Nat := if n = -1 then (if k = 1 then sbT 47 else numT k ++ sbT 48) else [32] ++ wdT (wl M n.toNat)
/-- a name that may be none -/
def nmOK (N : Nat) (n : Int) : Prop := n = -1 ∨ (0 ≤ n ∧ n < (N : Int))
/-- the class's words, where it writes -/
def wcN (C : tCl) (M : tMd) (N : Nat) : Prop := clA C ∧ N ≤ 20 ∧ nmC9 C M N ∧ nmW M N
theorem sbOn_alb {H H' : am_H} {C C' : tCl} {cap cap' : Nat} (k : sbOn H H' C C' cap cap') : alb C' = alb C := by
  unfold alb; rw [k.2.2.2.2.2.2.2.2 1000 (by decide)]
theorem wcN_on {H' : am_H} {C' : tCl} {cap' N : Nat} (h : wcN C M N) (k : sbOn H H' C C' cap cap') : wcN C' M N := by
  obtain ⟨a1, a2, a3, a4⟩ := h
  refine ⟨?_, a2, fun n hn => ?_, a4⟩
  · unfold clA at a1 ⊢; rw [k.2.2.2.2.2.2.2.2 1000 (by decide)]; exact a1
  · rw [sbOn_alb k, k.2.2.2.2.2.2.2.1]; exact a3 n hn
theorem k322 {N : Nat} (hw : wcN C M N) {n m : Int} (hn : nmOK N n) (hm : nmOK N m) : ru_ev z 322 [.int (wI n), .int (wI m), .ref (alb C + 1)] (clPut H C) = some (.inl (some (.int (wI (if oneB M n m = true then 1 else 0)))), clPut H C) := by
  obtain ⟨h1, h2, h3, h4⟩ := hw
  obtain ⟨-, k1, k2, k3, -, n2, n3, a1, a2⟩ := clA_k h1
  have hn2 : -1 ≤ n ∧ n < 20 := by rcases hn with h | h <;> omega
  have hm2 : -1 ≤ m ∧ m < 20 := by rcases hm with h | h <;> omega
  have e0 : (clPut H C).1 (alb C + 1) = some (.inr (3, clL3 C (alb C + 1))) := clP3 k1 (by omega)
  unfold oneB
  by_cases c1 : n = -1
  · have d1 : (n = -1) = True := eq_true c1
    rw [if_pos (Or.inl c1)]
    by_cases c2 : n = m
    · have d2 : (n = m) = True := eq_true c2
      simp (disch := omega) only [en322, e322_0, e322_1, e322_2, e322_5, e322_6, e322_7, e322_10, e322_11, e322_12, e322_15, e322_16, e322_19, e322_20, e322_21, e322_22, e322_25, e322_26, e322_27, e322_28, e322_31, e322_32, e322_33, e322_34, e322_37, e322_38, e322_41, e322_42, ↓reduceIte, Bool.false_eq_true, not_false_eq_true, not_true_eq_false, Nat.reduceLeDiff, Nat.reduceAdd, Nat.reduceEqDiff, Int.reduceToNat, Int.toNat_natCast, iB0, iB1, ru_klI, ru_klR, ru_klF, ru_klJ, ru_kl0, ru_cs0, ru_csI, ru_csR, ru_csF, ru_csJ, wI_add, wI_sub, wI_mul, wI_lt, wI_le, wI_inj, ru_fdE, ru_fdN, ru_iaN, ru_baN, ru_laN, ru_qaN, ru_pfN, ru_isN, ru_bsN, ru_jsN, ru_qsN, ru_set2, Nat.add_right_cancel_iff, if_true, if_false, ite_self, Int.reduceEq, and_self, Int.add_neg_cancel_right, Int.add_zero, Int.zero_add, d1, d2, wI_and1, not_true, decide_true]
    · have d2 : (n = m) = False := eq_false c2
      simp (disch := omega) only [en322, e322_0, e322_1, e322_2, e322_5, e322_6, e322_7, e322_10, e322_11, e322_12, e322_15, e322_16, e322_19, e322_20, e322_21, e322_22, e322_25, e322_26, e322_27, e322_28, e322_31, e322_32, e322_33, e322_34, e322_37, e322_38, e322_41, e322_42, ↓reduceIte, Bool.false_eq_true, not_false_eq_true, not_true_eq_false, Nat.reduceLeDiff, Nat.reduceAdd, Nat.reduceEqDiff, Int.reduceToNat, Int.toNat_natCast, iB0, iB1, ru_klI, ru_klR, ru_klF, ru_klJ, ru_kl0, ru_cs0, ru_csI, ru_csR, ru_csF, ru_csJ, wI_add, wI_sub, wI_mul, wI_lt, wI_le, wI_inj, ru_fdE, ru_fdN, ru_iaN, ru_baN, ru_laN, ru_qaN, ru_pfN, ru_isN, ru_bsN, ru_jsN, ru_qsN, ru_set2, Nat.add_right_cancel_iff, if_true, if_false, ite_self, Int.reduceEq, and_self, Int.add_neg_cancel_right, Int.add_zero, Int.zero_add, d1, d2, wI_and1, not_false_iff, decide_false]
  · have d1 : (n = -1) = False := eq_false c1
    by_cases c2 : m = -1
    · have d2 : (m = -1) = True := eq_true c2
      have d3 : (n = m) = False := eq_false (by omega)
      rw [if_pos (Or.inr c2)]
      simp (disch := omega) only [en322, e322_0, e322_1, e322_2, e322_5, e322_6, e322_7, e322_10, e322_11, e322_12, e322_15, e322_16, e322_19, e322_20, e322_21, e322_22, e322_25, e322_26, e322_27, e322_28, e322_31, e322_32, e322_33, e322_34, e322_37, e322_38, e322_41, e322_42, ↓reduceIte, Bool.false_eq_true, not_false_eq_true, not_true_eq_false, Nat.reduceLeDiff, Nat.reduceAdd, Nat.reduceEqDiff, Int.reduceToNat, Int.toNat_natCast, iB0, iB1, ru_klI, ru_klR, ru_klF, ru_klJ, ru_kl0, ru_cs0, ru_csI, ru_csR, ru_csF, ru_csJ, wI_add, wI_sub, wI_mul, wI_lt, wI_le, wI_inj, ru_fdE, ru_fdN, ru_iaN, ru_baN, ru_laN, ru_qaN, ru_pfN, ru_isN, ru_bsN, ru_jsN, ru_qsN, ru_set2, Nat.add_right_cancel_iff, if_true, if_false, ite_self, Int.reduceEq, and_self, Int.add_neg_cancel_right, Int.add_zero, Int.zero_add, d1, d2, d3, wI_and1, not_true, not_false_iff, decide_false]
    · have d2 : (m = -1) = False := eq_false c2
      rw [if_neg (show ¬ (n = -1 ∨ m = -1) by omega)]
      obtain ⟨a, rfl⟩ := Int.eq_ofNat_of_zero_le (show 0 ≤ n by omega)
      obtain ⟨b, rfl⟩ := Int.eq_ofNat_of_zero_le (show 0 ≤ m by omega)
      have ha : a < N := by rcases hn with h | h <;> omega
      have hb : b < N := by rcases hm with h | h <;> omega
      have y1 := cl_l (h := H) (C := C) k3 (by omega) n3 (i := (a : Int)) (by omega) (by omega) (by omega)
      have y2 := cl_l (h := H) (C := C) k3 (by omega) n3 (i := (b : Int)) (by omega) (by omega) (by omega)
      rw [Int.toNat_natCast, (h3 a ha).2, show alb C + 3 = alb C + 1 + 2 from rfl] at y1
      rw [Int.toNat_natCast, (h3 b hb).2, show alb C + 3 = alb C + 1 + 2 from rfl] at y2
      have c3 := wdL_0 (h4 a ha).2.1.1 (h4 b hb).2.1.1
      simp only [Int.toNat_natCast, decide_eq_true_eq]
      by_cases c4 : agN (wl M a) (wl M b) 8 0 = 0
      · have d4 : (agN (wl M a) (wl M b) 8 0 = 0) = True := eq_true c4
        simp (disch := omega) only [en322, e322_0, e322_1, e322_2, e322_5, e322_6, e322_7, e322_10, e322_11, e322_12, e322_15, e322_16, e322_19, e322_20, e322_21, e322_22, e322_25, e322_26, e322_27, e322_28, e322_31, e322_32, e322_33, e322_34, e322_37, e322_38, e322_41, e322_42, ↓reduceIte, Bool.false_eq_true, not_false_eq_true, not_true_eq_false, Nat.reduceLeDiff, Nat.reduceAdd, Nat.reduceEqDiff, Int.reduceToNat, Int.toNat_natCast, iB0, iB1, ru_klI, ru_klR, ru_klF, ru_klJ, ru_kl0, ru_cs0, ru_csI, ru_csR, ru_csF, ru_csJ, wI_add, wI_sub, wI_mul, wI_lt, wI_le, wI_inj, ru_fdE, ru_fdN, ru_iaN, ru_baN, ru_laN, ru_qaN, ru_pfN, ru_isN, ru_bsN, ru_jsN, ru_qsN, ru_set2, Nat.add_right_cancel_iff, if_true, if_false, ite_self, Int.reduceEq, and_self, Int.add_neg_cancel_right, Int.add_zero, Int.zero_add, e0, clF h1, y1, y2, d1, d2, lg_c0, c3, d4, wI_and1, not_false_iff, not_true]
      · have d4 : (agN (wl M a) (wl M b) 8 0 = 0) = False := eq_false c4
        simp (disch := omega) only [en322, e322_0, e322_1, e322_2, e322_5, e322_6, e322_7, e322_10, e322_11, e322_12, e322_15, e322_16, e322_19, e322_20, e322_21, e322_22, e322_25, e322_26, e322_27, e322_28, e322_31, e322_32, e322_33, e322_34, e322_37, e322_38, e322_41, e322_42, ↓reduceIte, Bool.false_eq_true, not_false_eq_true, not_true_eq_false, Nat.reduceLeDiff, Nat.reduceAdd, Nat.reduceEqDiff, Int.reduceToNat, Int.toNat_natCast, iB0, iB1, ru_klI, ru_klR, ru_klF, ru_klJ, ru_kl0, ru_cs0, ru_csI, ru_csR, ru_csF, ru_csJ, wI_add, wI_sub, wI_mul, wI_lt, wI_le, wI_inj, ru_fdE, ru_fdN, ru_iaN, ru_baN, ru_laN, ru_qaN, ru_pfN, ru_isN, ru_bsN, ru_jsN, ru_qsN, ru_set2, Nat.add_right_cancel_iff, if_true, if_false, ite_self, Int.reduceEq, and_self, Int.add_neg_cancel_right, Int.add_zero, Int.zero_add, e0, clF h1, y1, y2, d1, d2, lg_c0, c3, d4, wI_and1, not_false_iff, not_true]
theorem eTx_len {N : Nat} {n : Int} {k : Nat} (h4 : nmW M N) (hn : nmOK N n) (hk : k ≤ 12) : (eTx M n k).length ≤ 9 := by
  unfold eTx
  by_cases c : n = -1
  · rw [if_pos c]
    split
    · decide
    · rw [List.length_append, numT_len]
      have : (sbT 48).length = 7 := by decide
      split <;> omega
  · rw [if_neg c, List.length_append, wdT_len]
    have := wln_8 (wl M n.toNat)
    show 1 + wln (wl M n.toNat) ≤ 9
    omega
theorem k323 {N : Nat} (hw : wcN C M N) (hst : strs H) (hd : dgI H) {n : Int} (hn : nmOK N n) {k : Nat} (hk : 1 ≤ k ∧ k ≤ 12) (hl : l.length + 9 ≤ 500) (hs : sbS H C l cap) : ∃ H' C' cap', ru_ev z 323 [.ref 1257, .int (wI n), .int (wI k), .ref (alb C + 1)] (clPut H C) = some (.inl none, clPut H' C') ∧ sbS H' C' (l ++ eTx M n k) cap' ∧ sbOn H H' C C' cap cap' := by
  have hn2 : -1 ≤ n ∧ n < 20 := by rcases hn with h | h <;> have := hw.2.1 <;> omega
  unfold eTx
  by_cases c1 : n = -1
  · rw [if_pos c1]
    have d1 : (n = -1) = True := eq_true c1
    by_cases c2 : k = 1
    · rw [if_pos c2]
      obtain ⟨H', C', cap', r, s1, s2⟩ := k307 (z := z) hs (hst 47 (by decide)) (by have : (sbT 47).length = 7 := by decide
                                                                                    omega) (by decide)
      refine ⟨H', C', cap', ?_, s1, s2⟩
      have d2 : ((k : Int) = 1) = True := eq_true (by omega)
      have r : ru_ev z 307 [.ref 1258, .ref 347] (clPut H C) = some (.inl (some (.ref 1258)), clPut H' C') := r
      simp (disch := omega) only [en323, e323_0, e323_1, e323_2, e323_5, e323_6, e323_9, e323_11, e323_14, e323_15, e323_16, e323_17, e323_20, e323_21, e323_22, e323_25, e323_28, e323_29, e323_30, e323_33, e323_34, e323_37, e323_39, e323_42, e323_43, e323_46, e323_47, e323_50, e323_51, e323_54, e323_56, e323_59, e323_60, ↓reduceIte, Bool.false_eq_true, not_false_eq_true, not_true_eq_false, Nat.reduceLeDiff, Nat.reduceAdd, Nat.reduceEqDiff, Int.reduceToNat, Int.toNat_natCast, iB0, iB1, ru_klI, ru_klR, ru_klF, ru_klJ, ru_kl0, ru_cs0, ru_csI, ru_csR, ru_csF, ru_csJ, wI_add, wI_sub, wI_mul, wI_lt, wI_le, wI_inj, ru_fdE, ru_fdN, ru_iaN, ru_baN, ru_laN, ru_qaN, ru_pfN, ru_isN, ru_bsN, ru_jsN, ru_qsN, ru_set2, Nat.add_right_cancel_iff, if_true, if_false, ite_self, Int.reduceEq, and_self, Int.add_neg_cancel_right, Int.add_zero, Int.zero_add, cl_g7, d1, d2, r, ru_ctR, not_true]
    · rw [if_neg c2]
      have hnl := numT_len k
      obtain ⟨H1, C1, cap1, r1, s1, s2⟩ := k312 (z := z) hs hd (v := k) (by omega) (by split at hnl <;> omega)
      obtain ⟨H', C', cap', r, t1, t2⟩ := k307 (z := z) s1 (strs_on hst hs s2 48 (by decide)) (by
        have : (sbT 48).length = 7 := by decide
        rw [List.length_append]; split at hnl <;> omega) (by decide)
      rw [List.append_assoc] at t1
      refine ⟨H', C', cap', ?_, t1, sbOn_tr s2 t2⟩
      have d2 : ((k : Int) = 1) = False := eq_false (by omega)
      have r : ru_ev z 307 [.ref 1258, .ref 348] (clPut H1 C1) = some (.inl (some (.ref 1258)), clPut H' C') := r
      simp (disch := omega) only [en323, e323_0, e323_1, e323_2, e323_5, e323_6, e323_9, e323_11, e323_14, e323_15, e323_16, e323_17, e323_20, e323_21, e323_22, e323_25, e323_28, e323_29, e323_30, e323_33, e323_34, e323_37, e323_39, e323_42, e323_43, e323_46, e323_47, e323_50, e323_51, e323_54, e323_56, e323_59, e323_60, ↓reduceIte, Bool.false_eq_true, not_false_eq_true, not_true_eq_false, Nat.reduceLeDiff, Nat.reduceAdd, Nat.reduceEqDiff, Int.reduceToNat, Int.toNat_natCast, iB0, iB1, ru_klI, ru_klR, ru_klF, ru_klJ, ru_kl0, ru_cs0, ru_csI, ru_csR, ru_csF, ru_csJ, wI_add, wI_sub, wI_mul, wI_lt, wI_le, wI_inj, ru_fdE, ru_fdN, ru_iaN, ru_baN, ru_laN, ru_qaN, ru_pfN, ru_isN, ru_bsN, ru_jsN, ru_qsN, ru_set2, Nat.add_right_cancel_iff, if_true, if_false, ite_self, Int.reduceEq, and_self, Int.add_neg_cancel_right, Int.add_zero, Int.zero_add, cl_g7, d1, d2, r1, r, ru_ctR, not_false_iff]
  · rw [if_neg c1]
    have d1 : (n = -1) = False := eq_false c1
    obtain ⟨a, rfl⟩ := Int.eq_ofNat_of_zero_le (show 0 ≤ n by omega)
    have ha : a < N := by rcases hn with h | h <;> omega
    simp only [Int.toNat_natCast]
    obtain ⟨H1, C1, cap1, r1, s1, s2⟩ := k319 (z := z) hs (c := 32) (by omega) (by omega)
    have hw1 := wcN_on hw s2
    obtain ⟨h1, h2, h3, h4⟩ := id hw1
    obtain ⟨-, k1, k2, k3, -, n2, n3, a1, a2⟩ := clA_k h1
    have y1 := cl_l (h := H1) (C := C1) k3 (by omega) n3 (i := (a : Int)) (by omega) (by omega) (by omega)
    rw [Int.toNat_natCast, (h3 a ha).2, show alb C1 + 3 = alb C1 + 1 + 2 from rfl] at y1
    obtain ⟨H', C', cap', r, t1, t2⟩ := k318 (z := z) (h4 a ha).2.1 (by rw [List.length_append]; show l.length + 1 + 8 ≤ 500; omega) s1
    rw [List.append_assoc] at t1
    refine ⟨H', C', cap', ?_, t1, sbOn_tr s2 t2⟩
    have hF := clF h1 (h := H1)
    rw [sbOn_alb s2] at hF y1
    rw [show ((32 : Nat) : Int) = 32 from rfl] at r1
    simp (disch := omega) only [en323, e323_0, e323_1, e323_2, e323_5, e323_6, e323_9, e323_11, e323_14, e323_15, e323_16, e323_17, e323_20, e323_21, e323_22, e323_25, e323_28, e323_29, e323_30, e323_33, e323_34, e323_37, e323_39, e323_42, e323_43, e323_46, e323_47, e323_50, e323_51, e323_54, e323_56, e323_59, e323_60, ↓reduceIte, Bool.false_eq_true, not_false_eq_true, not_true_eq_false, Nat.reduceLeDiff, Nat.reduceAdd, Nat.reduceEqDiff, Int.reduceToNat, Int.toNat_natCast, iB0, iB1, ru_klI, ru_klR, ru_klF, ru_klJ, ru_kl0, ru_cs0, ru_csI, ru_csR, ru_csF, ru_csJ, wI_add, wI_sub, wI_mul, wI_lt, wI_le, wI_inj, ru_fdE, ru_fdN, ru_iaN, ru_baN, ru_laN, ru_qaN, ru_pfN, ru_isN, ru_bsN, ru_jsN, ru_qsN, ru_set2, Nat.add_right_cancel_iff, if_true, if_false, ite_self, Int.reduceEq, and_self, Int.add_neg_cancel_right, Int.add_zero, Int.zero_add, cl_g7, d1, r1, hF, y1, r, ru_ctR, not_false_iff]
end WRI
