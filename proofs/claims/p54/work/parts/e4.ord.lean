/-! ===== the law's album: people ordered ===== -/
theorem shl_1 {S : Nat → Bool} {key : Nat → Int} {n k : Nat} {e : Nat → Nat} (h : enO S key n e) (hinj : ∀ a b, a < 12 → b < 12 → S a = true → (S b = true ∨ b = k) → key a = key b → a = b) (hk : k < 12) (hS : ¬ S k = true) {j : Nat} (hj : j < n) (hle : ¬ key k < key (e j)) : key (e j) < key k := by
  have h1 := h.1 j hj
  have : key (e j) ≠ key k := fun he => by
    have := hinj _ _ h1.1 hk h1.2 (Or.inr rfl) he
    rw [this] at h1
    exact hS h1.2
  omega
theorem kyA_inj {q : tPh} (hr : phR q) (all : Int) {a b : Nat} (sa : shS q a = true) (sb : shS q b = true) (h : kyA all q a = kyA all q b) : a = b := by
  have r0 := shS_rng hr sa
  have t0 := shS_rng hr sb
  unfold kyA at h
  split at h
  · unfold kyL at h; omega
  · unfold kyO at h; omega
section ORD
variable {z : Bool} {X : am_H} {B : Nat} {A : tLw}
/-- the inner loop: those that come behind k move on -/
theorem d406i (h : ylP X B A) (hr : ylR A) (hB : B + 30 ≤ X.2.1) {f k n N : Nat} {all : Int} (hf : f < 3) (hk : k < 12) (sk : shS (A.2.1 f) k = true) (hall : 0 ≤ all ∧ all ≤ 1) (hn : n < N) (hN : N ≤ 12) {e : Nat → Nat} (hE : ∀ i, i < n → e i < 12 ∧ shS (A.2.1 f) (e i) = true) {c : Nat} : ∀ t, t ≤ n → ∀ g : Nat → Int, (∀ j, j < t → g j = (e j : Int)) → (∀ j, t < j → j ≤ n → g j = (e (j - 1) : Int)) → (∀ j, t ≤ j → j < n → kyA all (A.2.1 f) k < kyA all (A.2.1 f) (e j)) →
    ∃ (t' : Nat) (g' : Nat → Int), t' ≤ n ∧ (∀ j, j < t' → g' j = (e j : Int)) ∧ (∀ j, t' < j → j ≤ n → g' j = (e (j - 1) : Int)) ∧ (∀ j, t' ≤ j → j < n → kyA all (A.2.1 f) k < kyA all (A.2.1 f) (e j)) ∧ (t' = 0 ∨ ¬ kyA all (A.2.1 f) k < kyA all (A.2.1 f) (e (t' - 1))) ∧
      ru_n z 406 42 [some (.ref (B + 1)), some (.int (wI f)), some (.int (wI all)), some (.ref X.2.1), some (.int (wI n)), some (.int (wI k)), some (.int (wI t))] [] (am_new X (ylI 0 N g) N) =
      ru_n z 406 80 [some (.ref (B + 1)), some (.int (wI f)), some (.int (wI all)), some (.ref X.2.1), some (.int (wI n)), some (.int (wI k)), some (.int (wI t'))] [] (am_new X (ylI 0 N g') N) := by
  intro t
  induction t with
  | zero =>
    intro ht g h1 h2 h3
    refine ⟨0, g, ht, h1, h2, h3, Or.inl rfl, ?_⟩
    simp (disch := omega) only [e406_42, e406_44, ↓reduceIte, Bool.false_eq_true, not_false_eq_true, not_true_eq_false, Nat.reduceLeDiff, Nat.reduceAdd, Nat.reduceEqDiff, Int.reduceToNat, Int.toNat_natCast, iB0, iB1, ru_klI, ru_klR, ru_klF, ru_klJ, ru_kl0, ru_cs0, ru_csI, ru_csR, ru_csF, ru_csJ, wI_add, wI_sub, wI_mul, wI_lt, wI_le, wI_inj, ru_fdE, ru_fdN, ru_iaN, ru_baN, ru_laN, ru_qaN, ru_pfN, ru_isN, ru_bsN, ru_jsN, ru_qsN, ru_set2, Nat.add_right_cancel_iff, if_true, if_false, ite_self, Int.reduceEq, and_self, Int.add_neg_cancel_right, Int.add_zero, Int.zero_add, Int.natCast_zero, Int.le_refl, Int.ofNat_zero]
  | succ t ih =>
    intro ht g h1 h2 h3
    have hy := ylP_new (n := N) (e := ylI 0 N g) h hB
    have et := hE t (by omega)
    have gt : g t = (e t : Int) := h1 t (by omega)
    have ka := d409 (z := z) hy hr hf hk et.1 sk et.2 hall
    have d1 : (((t + 1 : Nat)) : Int) = (t : Int) + 1 := by omega
    have d2 : ((t : Int) + 1 ≤ 0) = False := eq_false (by omega)
    have i1 := nw_ia (X := X) (N := N) (n := N) (g := g) (i := (t : Int)) (by omega) (by omega) (by omega)
    rw [Int.toNat_natCast, gt] at i1
    have i2 := nw_is (X := X) (N := N) (n := N) (g := g) (i := (t : Int) + 1) (v := (e t : Int)) (by omega) (by omega) (by omega)
    rw [show ((t : Int) + 1).toNat = t + 1 by omega] at i2
    by_cases c : kyA all (A.2.1 f) k < kyA all (A.2.1 f) (e t)
    · rw [if_pos c] at ka
      obtain ⟨t', g', k1, k2, k3, k4, k5, k6⟩ := ih (by omega) (up1 g (t + 1) (e t : Int)) (fun j hj => by unfold up1; rw [if_neg (by omega)]; exact h1 j (by omega)) (fun j hj hj2 => by
        unfold up1
        by_cases c2 : j = t + 1
        · rw [if_pos c2, c2]; rfl
        · rw [if_neg c2]; exact h2 j (by omega) hj2) (fun j hj hj2 => by
        by_cases c2 : j = t
        · rw [c2]; exact c
        · exact h3 j (by omega) hj2)
      refine ⟨t', g', k1, k2, k3, k4, k5, ?_⟩
      rw [← k6, d1, e406_42]
      simp (disch := omega) only [e406_44, e406_47, e406_48, e406_49, e406_51, e406_52, e406_54, e406_55, e406_56, e406_57, e406_58, e406_61, e406_64, e406_65, e406_67, e406_68, e406_70, e406_71, e406_72, e406_73, e406_74, e406_77, ↓reduceIte, Bool.false_eq_true, not_false_eq_true, not_true_eq_false, Nat.reduceLeDiff, Nat.reduceAdd, Nat.reduceEqDiff, Int.reduceToNat, Int.toNat_natCast, iB0, iB1, ru_klI, ru_klR, ru_klF, ru_klJ, ru_kl0, ru_cs0, ru_csI, ru_csR, ru_csF, ru_csJ, wI_add, wI_sub, wI_mul, wI_lt, wI_le, wI_inj, ru_fdE, ru_fdN, ru_iaN, ru_baN, ru_laN, ru_qaN, ru_pfN, ru_isN, ru_bsN, ru_jsN, ru_qsN, ru_set2, Nat.add_right_cancel_iff, if_true, if_false, ite_self, Int.reduceEq, and_self, Int.add_neg_cancel_right, Int.add_zero, Int.zero_add, d2, i1, ka, i2, Int.add_sub_cancel]
    · rw [if_neg c] at ka
      refine ⟨t + 1, g, ht, h1, h2, h3, Or.inr (by rw [Nat.add_sub_cancel]; exact c), ?_⟩
      rw [d1]
      simp (disch := omega) only [e406_42, e406_44, e406_47, e406_48, e406_49, e406_51, e406_52, e406_54, e406_55, e406_56, e406_57, e406_58, e406_61, ↓reduceIte, Bool.false_eq_true, not_false_eq_true, not_true_eq_false, Nat.reduceLeDiff, Nat.reduceAdd, Nat.reduceEqDiff, Int.reduceToNat, Int.toNat_natCast, iB0, iB1, ru_klI, ru_klR, ru_klF, ru_klJ, ru_kl0, ru_cs0, ru_csI, ru_csR, ru_csF, ru_csJ, wI_add, wI_sub, wI_mul, wI_lt, wI_le, wI_inj, ru_fdE, ru_fdN, ru_iaN, ru_baN, ru_laN, ru_qaN, ru_pfN, ru_isN, ru_bsN, ru_jsN, ru_qsN, ru_set2, Nat.add_right_cancel_iff, if_true, if_false, ite_self, Int.reduceEq, and_self, Int.add_neg_cancel_right, Int.add_zero, Int.zero_add, d2, i1, ka, Int.add_sub_cancel]
/-- the outer loop -/
theorem d406l (h : ylP X B A) (hr : ylR A) (hB : B + 30 ≤ X.2.1) {f m N : Nat} {all : Int} (hf : f < 3) (hm : (A.2.1 f).1 7 = (m : Int)) (hm2 : m ≤ 12) (hN : N = cnB (shw (A.2.1 f)) m) (hall : 0 ≤ all ∧ all ≤ 1) : ∀ d k, k + d = m → ∀ (n : Nat) (e : Nat → Nat) (g : Nat → Int) (l6 : Option Value), n = cnB (shw (A.2.1 f)) k → enO (fun o => decide (o < k) && shS (A.2.1 f) o) (kyA all (A.2.1 f)) n e → (∀ i, i < n → g i = (e i : Int)) →
    ∃ (e' : Nat → Nat) (g' : Nat → Int), enO (shS (A.2.1 f)) (kyA all (A.2.1 f)) N e' ∧ (∀ i, i < N → g' i = (e' i : Int)) ∧
      ru_n z 406 14 [some (.ref (B + 1)), some (.int (wI f)), some (.int (wI all)), some (.ref X.2.1), some (.int (wI n)), some (.int (wI k)), l6] [] (am_new X (ylI 0 N g) N) = some (.inl (some (.ref X.2.1)), am_new X (ylI 0 N g') N) := by
  have hN12 : N ≤ 12 := by rw [hN]; exact Nat.le_trans (cnB_le _ _) hm2
  intro d
  induction d with
  | zero =>
    intro k hk n e g l6 hn hE hg
    obtain rfl : k = m := by omega
    have hnN : n = N := by omega
    subst hnN
    have hy := ylP_new (n := n) (e := ylI 0 n g) h hB
    refine ⟨e, g, enO_S hE (fun o ho => ?_), hg, ?_⟩
    · by_cases c : o < k
      · simp [c]
      · have : shS (A.2.1 f) o = false := shS_no (by omega)
        simp [c, this]
    · simp (disch := omega) only [e406_14, e406_16, e406_17, e406_20, e406_21, e406_22, e406_95, e406_96, ↓reduceIte, Bool.false_eq_true, not_false_eq_true, not_true_eq_false, Nat.reduceLeDiff, Nat.reduceAdd, Nat.reduceEqDiff, Int.reduceToNat, Int.toNat_natCast, iB0, iB1, ru_klI, ru_klR, ru_klF, ru_klJ, ru_kl0, ru_cs0, ru_csI, ru_csR, ru_csF, ru_csJ, wI_add, wI_sub, wI_mul, wI_lt, wI_le, wI_inj, ru_fdE, ru_fdN, ru_iaN, ru_baN, ru_laN, ru_qaN, ru_pfN, ru_isN, ru_bsN, ru_jsN, ru_qsN, ru_set2, Nat.add_right_cancel_iff, if_true, if_false, ite_self, Int.reduceEq, and_self, Int.add_neg_cancel_right, Int.add_zero, Int.zero_add, yl_o hy, yl_f8 hy, yl_8 hy, hm, Int.le_refl]
  | succ d ih =>
    intro k hk n e g l6 hn hE hg
    have hy := ylP_new (n := N) (e := ylI 0 N g) h hB
    have d1 : ((m : Int) ≤ (k : Int)) = False := eq_false (by omega)
    have k8 := d408 (z := z) hy hr hf (show k < 12 by omega)
    have hs : cnB (shw (A.2.1 f)) (k + 1) = cnB (shw (A.2.1 f)) k + (if shw (A.2.1 f) k = true then 1 else 0) := rfl
    have hmono : cnB (shw (A.2.1 f)) (k + 1) ≤ cnB (shw (A.2.1 f)) m := cnM _ (by omega)
    have hsk : shS (A.2.1 f) k = shw (A.2.1 f) k := shS_of (by omega)
    by_cases c : shw (A.2.1 f) k = true
    · rw [if_pos c] at k8 hs
      have hEi : ∀ i, i < n → e i < 12 ∧ shS (A.2.1 f) (e i) = true := fun i hi => by
        have := hE.1 i hi
        simp only [Bool.and_eq_true, decide_eq_true_eq] at this
        exact ⟨this.1, this.2.2⟩
      have hkk : shS (A.2.1 f) k = true := by rw [hsk]; exact c
      obtain ⟨t', g', k1, k2, k3, k4, k5, k6⟩ := d406i (z := z) h hr hB hf (show k < 12 by omega) hkk hall (n := n) (N := N) (by omega) hN12 hEi (c := 0) n (Nat.le_refl _) g hg (fun j hj hj2 => by omega) (fun j hj hj2 => by omega)
      have hlow : ∀ j, j < t' → kyA all (A.2.1 f) (e j) < kyA all (A.2.1 f) k := by
        intro j hj
        have hlast : kyA all (A.2.1 f) (e (t' - 1)) < kyA all (A.2.1 f) k := by
          refine shl_1 hE (fun a b ha hb sa sb he => ?_) (by omega) (by simp) (by omega) (by rcases k5 with k5 | k5; omega; exact k5)
          simp only [Bool.and_eq_true, decide_eq_true_eq] at sa sb
          refine kyA_inj (hr f) all sa.2 ?_ he
          rcases sb with sb | rfl
          · exact sb.2
          · exact hkk
        by_cases c2 : j = t' - 1
        · rw [c2]; exact hlast
        · have := hE.2.1 j (t' - 1) (by omega) (by omega)
          omega
      have hE2 : enO (fun o => decide (o < k + 1) && shS (A.2.1 f) o) (kyA all (A.2.1 f)) (n + 1) (fun j => if j < t' then e j else if j = t' then k else e (j - 1)) := enO_ins hE (by omega) (fun o ho => by
        simp only [Bool.and_eq_true, decide_eq_true_eq]
        constructor
        · rintro ⟨o1, o2⟩
          by_cases c3 : o = k
          · exact Or.inr c3
          · exact Or.inl ⟨by omega, o2⟩
        · rintro (⟨o1, o2⟩ | rfl)
          · exact ⟨by omega, o2⟩
          · exact ⟨by omega, hkk⟩) k1 hlow k4
      obtain ⟨e'', g'', q1, q2, q3⟩ := ih (k + 1) (by omega) (n + 1) _ (up1 g' t' (k : Int)) (some (.int (wI t'))) (by omega) hE2 (fun i hi => by
        unfold up1
        by_cases c4 : i = t'
        · rw [if_pos c4, if_neg (by omega), if_pos c4]
        · rw [if_neg c4]
          by_cases c5 : i < t'
          · rw [if_pos c5]; exact k2 i c5
          · rw [if_neg c5, if_neg c4]; exact k3 i (by omega) (by omega))
      refine ⟨e'', g'', q1, q2, ?_⟩
      have i2 := nw_is (X := X) (N := N) (n := N) (g := g') (i := (t' : Int)) (v := (k : Int)) (by omega) (by omega) (by omega)
      rw [Int.toNat_natCast] at i2
      rw [← q3, show (((n + 1 : Nat)) : Int) = (n : Int) + 1 by omega, show (((k + 1 : Nat)) : Int) = (k : Int) + 1 by omega, e406_14]
      simp (disch := omega) only [e406_16, e406_17, e406_20, e406_21, e406_22, e406_25, e406_26, e406_27, e406_29, e406_32, e406_35, e406_38, e406_40, e406_80, e406_81, e406_83, e406_85, e406_86, e406_89, e406_92, ↓reduceIte, Bool.false_eq_true, not_false_eq_true, not_true_eq_false, Nat.reduceLeDiff, Nat.reduceAdd, Nat.reduceEqDiff, Int.reduceToNat, Int.toNat_natCast, iB0, iB1, ru_klI, ru_klR, ru_klF, ru_klJ, ru_kl0, ru_cs0, ru_csI, ru_csR, ru_csF, ru_csJ, wI_add, wI_sub, wI_mul, wI_lt, wI_le, wI_inj, ru_fdE, ru_fdN, ru_iaN, ru_baN, ru_laN, ru_qaN, ru_pfN, ru_isN, ru_bsN, ru_jsN, ru_qsN, ru_set2, Nat.add_right_cancel_iff, if_true, if_false, ite_self, Int.reduceEq, and_self, Int.add_neg_cancel_right, Int.add_zero, Int.zero_add, yl_o hy, yl_f8 hy, yl_8 hy, hm, d1, k8, k6, i2]
    · rw [if_neg c] at k8 hs
      obtain ⟨e'', g'', q1, q2, q3⟩ := ih (k + 1) (by omega) n e g l6 (by omega) (enO_S hE (fun o ho => by
        by_cases c3 : o = k
        · subst c3
          have : shS (A.2.1 f) o = false := by rw [hsk]; simpa using c
          simp [this]
        · have : (o < k + 1) = (o < k) := propext ⟨fun _ => by omega, fun _ => by omega⟩
          simp [this])) hg
      refine ⟨e'', g'', q1, q2, ?_⟩
      rw [← q3, show (((k + 1 : Nat)) : Int) = (k : Int) + 1 by omega, e406_14]
      simp (disch := omega) only [e406_16, e406_17, e406_20, e406_21, e406_22, e406_25, e406_26, e406_27, e406_29, e406_32, e406_35, e406_89, e406_92, ↓reduceIte, Bool.false_eq_true, not_false_eq_true, not_true_eq_false, Nat.reduceLeDiff, Nat.reduceAdd, Nat.reduceEqDiff, Int.reduceToNat, Int.toNat_natCast, iB0, iB1, ru_klI, ru_klR, ru_klF, ru_klJ, ru_kl0, ru_cs0, ru_csI, ru_csR, ru_csF, ru_csJ, wI_add, wI_sub, wI_mul, wI_lt, wI_le, wI_inj, ru_fdE, ru_fdN, ru_iaN, ru_baN, ru_laN, ru_qaN, ru_pfN, ru_isN, ru_bsN, ru_jsN, ru_qsN, ru_set2, Nat.add_right_cancel_iff, if_true, if_false, ite_self, Int.reduceEq, and_self, Int.add_neg_cancel_right, Int.add_zero, Int.zero_add, yl_o hy, yl_f8 hy, yl_8 hy, hm, d1, k8]
theorem d406 (h : ylP X B A) (hr : ylR A) (hB : B + 30 ≤ X.2.1) {f : Nat} {all : Int} (hf : f < 3) (hall : 0 ≤ all ∧ all ≤ 1) : ∃ (N : Nat) (e : Nat → Nat) (g : Nat → Int), enO (shS (A.2.1 f)) (kyA all (A.2.1 f)) N e ∧ (∀ i, i < N → g i = (e i : Int)) ∧ ru_ev z 406 [.ref (B + 1), .int (wI f), .int (wI all)] X = some (.inl (some (.ref X.2.1)), am_new X (ylI 0 N g) N) := by
  have s := (phR_s (hr f)).2.2.2.2.2.2.2
  have k7 := d407 (z := z) h hr hf
  obtain ⟨N, hN⟩ : ∃ N, N = cnB (shw (A.2.1 f)) ((A.2.1 f).1 7).toNat := ⟨_, rfl⟩
  rw [← hN] at k7
  have hN12 : N ≤ 12 := by rw [hN]; exact Nat.le_trans (cnB_le _ _) (by omega)
  have na := yl_na (X := X) (N := N) (by omega)
  obtain ⟨e, g, q1, q2, q3⟩ := d406l (z := z) h hr hB hf (m := ((A.2.1 f).1 7).toNat) (by omega) (by omega) hN hall _ 0 (Nat.zero_add _) 0 (fun _ => 0) (fun _ => 0) none rfl ⟨fun i hi => by omega, fun i j h1 h2 => by omega, fun o ho hs => by simp at hs⟩ (fun i hi => by omega)
  refine ⟨N, e, g, q1, q2, ?_⟩
  rw [← q3]
  simp (disch := omega) only [en406, e406_0, e406_1, e406_2, e406_5, e406_7, e406_8, e406_9, e406_11, e406_12, ↓reduceIte, Bool.false_eq_true, not_false_eq_true, not_true_eq_false, Nat.reduceLeDiff, Nat.reduceAdd, Nat.reduceEqDiff, Int.reduceToNat, Int.toNat_natCast, iB0, iB1, ru_klI, ru_klR, ru_klF, ru_klJ, ru_kl0, ru_cs0, ru_csI, ru_csR, ru_csF, ru_csJ, wI_add, wI_sub, wI_mul, wI_lt, wI_le, wI_inj, ru_fdE, ru_fdN, ru_iaN, ru_baN, ru_laN, ru_qaN, ru_pfN, ru_isN, ru_bsN, ru_jsN, ru_qsN, ru_set2, Nat.add_right_cancel_iff, if_true, if_false, ite_self, Int.reduceEq, and_self, Int.add_neg_cancel_right, Int.add_zero, Int.zero_add, yl_o h, k7, na, Int.natCast_zero, Int.ofNat_zero]
end ORD
