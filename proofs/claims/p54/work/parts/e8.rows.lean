/-! ===== the law's album: rows ===== -/
/-- two that tell the same people by y tell the same y -/
theorem ysrt {S : Nat → Bool} {y key key' : Nat → Int} {n : Nat} {e e' : Nat → Nat} (h : enO S key n e) (h' : enO S key' n e') (m : ∀ i j, i < j → j < n → y (e j) ≤ y (e i)) (m' : ∀ i j, i < j → j < n → y (e' j) ≤ y (e' i)) {i : Nat} (hi : i < n) : ¬ y (e' i) < y (e i) := fun hlt => by
  have c1 : i + 1 ≤ cnB (fun o => S o && decide (y (e' i) < y o)) 12 := by
    rw [← enO_bef h (i + 1) (by omega)]
    refine cnB_mono 12 (fun o ho hb => ?_)
    simp only [Bool.and_eq_true] at hb
    obtain ⟨j, j1, j2⟩ := (befB_iff e o (i + 1)).mp hb.2
    simp only [Bool.and_eq_true, decide_eq_true_eq]
    refine ⟨hb.1, ?_⟩
    rw [← j2]
    by_cases c : j = i
    · rw [c]; exact hlt
    · have := m j i (by omega) hi
      omega
  have c2 : cnB (fun o => S o && decide (y (e' i) < y o)) 12 ≤ i := by
    rw [← enO_bef h' i (by omega)]
    refine cnB_mono 12 (fun o ho hb => ?_)
    rw [enO_bef h' i (by omega)] at *
    simp only [Bool.and_eq_true, decide_eq_true_eq] at hb ⊢
    refine ⟨hb.1, (befB_iff e' o i).mpr ?_⟩
    obtain ⟨j, j1, j2⟩ := h'.2.2 o ho hb.1
    refine ⟨j, ?_, j2⟩
    rw [← j2] at hb
    rcases Nat.lt_trichotomy j i with c | c | c
    · exact c
    · rw [c] at hb; omega
    · have := m' i j c j1
      omega
  omega
theorem rwA_flat {y : Nat → Int} {gap : Int} (hg : 0 ≤ gap) {e : Nat → Nat} {n : Nat} (m : ∀ i j, i < j → j < n → y (e j) ≤ y (e i)) {i : Nat} : ∀ d, i + d < n → y (e (i + d)) = y (e i) → rwA y gap e (i + d) = rwA y gap e i
  | 0, _, _ => rfl
  | d + 1, h1, h2 => by
    have a1 := m (i + d) (i + d + 1) (by omega) (by omega)
    have a2 : y (e (i + d)) ≤ y (e i) := by
      by_cases c : d = 0
      · rw [c]; exact Int.le_refl _
      · exact m i (i + d) (by omega) (by omega)
    rw [show i + (d + 1) = i + d + 1 from rfl] at h2 ⊢
    rw [rwA, if_neg (by omega)]
    exact rwA_flat hg m d (by omega) (by omega)
theorem rwOK_of {S : Nat → Bool} {y key : Nat → Int} {gap : Int} (hg : 0 ≤ gap) {n : Nat} {e e' : Nat → Nat} {r : Nat → Int} (h : enO S key n e) (h' : enO S (kyY y) n e') (hy : ∀ k, k < 12 → S k = true → 0 ≤ y k ∧ y k ≤ 999) (m : ∀ i j, i < j → j < n → y (e j) ≤ y (e i)) (h1 : ∀ i, i < n → r (e i) = (rwA y gap e i : Nat)) (h2 : ∀ k, k < 12 → ¬ S k = true → r k = -1) : rwOK S y gap r (rwC y gap e n : Nat) := by
  have m' : ∀ i j, i < j → j < n → y (e' j) ≤ y (e' i) := fun i j hij hj => by
    have k1 := h'.2.1 i j hij hj
    have a := h'.1 i (by omega)
    have b := h'.1 j hj
    unfold kyY at k1
    omega
  have ye : ∀ i, i < n → y (e' i) = y (e i) := fun i hi => by
    have := ysrt h h' m m' hi
    have := ysrt h' h m' m hi
    omega
  have ra : ∀ i, i < n → rwA y gap e' i = rwA y gap e i := fun i hi => rwA_congr i (fun j hj => ye j (by omega))
  refine ⟨n, e', h', fun i hi => ?_, h2, ?_⟩
  · obtain ⟨j, j1, j2⟩ := h.2.2 (e' i) (h'.1 i hi).1 (h'.1 i hi).2
    rw [ra i hi, ← j2, h1 j j1]
    have yj : y (e j) = y (e i) := by rw [j2]; exact ye i hi
    congr 1
    rcases Nat.le_total i j with c | c
    · obtain ⟨d, rfl⟩ := Nat.exists_eq_add_of_le c
      exact rwA_flat hg m d j1 yj
    · obtain ⟨d, rfl⟩ := Nat.exists_eq_add_of_le c
      exact (rwA_flat hg m d hi yj.symm).symm
  · cases n with
    | zero => rfl
    | succ n => show ((rwA y gap e n + 1 : Nat) : Int) = ((rwA y gap e' n + 1 : Nat) : Int); rw [ra n (by omega)]
/-- the people are told by rows in one way, whatever else decides -/
theorem enY_ex {q : tPh} (hr : phR q) {key : Nat → Int} {n : Nat} {e : Nat → Nat} (h : enO (shS q) key n e) : ∃ e', enO (shS q) (kyY (shY q)) n e' := by
  obtain ⟨n', e', h'⟩ := enO_ex (S := shS q) (key := kyY (shY q)) (fun a b ha hb sa sb he => by
    have r0 := shS_rng hr sa
    have t0 := shS_rng hr sb
    unfold kyY at he
    omega)
  obtain rfl : n' = n := by rw [← enO_n h, ← enO_n h']
  exact ⟨e', h'⟩
def nw2 (X : am_H) (r : Nat → Int) (N : Nat) (g : Nat → Int) : am_H := am_new (am_new X (ylI 0 12 r) 12) (ylI 0 N g) N
section RW
variable {z : Bool} {X : am_H} {B : Nat} {A : tLw}
theorem nw2_P {r : Nat → Int} {N : Nat} {g : Nat → Int} (h : ylP X B A) (hB : B + 30 ≤ X.2.1) : ylP (nw2 X r N g) B A := ylP_new (ylP_new h hB) (by show B + 30 ≤ X.2.1 + 1; omega)
theorem nw2_e1 {r : Nat → Int} {N : Nat} {g : Nat → Int} : (nw2 X r N g).1 X.2.1 = some (ylI 0 12 r) := by
  show (if X.2.1 = X.2.1 + 1 then _ else if X.2.1 = X.2.1 then _ else _) = _
  rw [if_neg (by omega), if_pos rfl]
theorem nw2_e2 {r : Nat → Int} {N : Nat} {g : Nat → Int} : (nw2 X r N g).1 (X.2.1 + 1) = some (ylI 0 N g) := if_pos rfl
theorem nw2_a1 {r : Nat → Int} {N : Nat} {g : Nat → Int} {i : Int} (h1 : 0 ≤ i) (h2 : i < 12) : am_ia (nw2 X r N g) X.2.1 (wI i) = some (wI (r i.toNat)) := yl_ia nw2_e1 h1 (by omega) (by decide)
theorem nw2_a2 {r : Nat → Int} {N : Nat} {g : Nat → Int} {i : Int} (hN : N ≤ 12) (h1 : 0 ≤ i) (h2 : i < N) : am_ia (nw2 X r N g) (X.2.1 + 1) (wI i) = some (wI (g i.toNat)) := yl_ia nw2_e2 h1 h2 (by omega)
theorem nw2_l2 {r : Nat → Int} {N : Nat} {g : Nat → Int} : am_al (nw2 X r N g) (X.2.1 + 1) = some (wI N) := ru_al nw2_e2 (by decide)
theorem nw2_l1 {r : Nat → Int} {N : Nat} {g : Nat → Int} : am_al (nw2 X r N g) X.2.1 = some (wI 12) := ru_al nw2_e1 (by decide)
theorem nw2_w {r : Nat → Int} {N : Nat} {g : Nat → Int} {i v : Int} (h1 : 0 ≤ i) (h2 : i < 12) : am_is (nw2 X r N g) X.2.1 (wI i) (wI v) = some (nw2 X (up1 r i.toNat v) N g) := by
  rw [yi_is nw2_e1 h1 (by omega) (by decide)]
  refine congrArg some (Prod.ext (funext fun q => ?_) rfl)
  show (if q = X.2.1 then _ else if q = X.2.1 + 1 then _ else if q = X.2.1 then _ else X.1 q) = if q = X.2.1 + 1 then _ else if q = X.2.1 then _ else X.1 q
  by_cases c : q = X.2.1
  · rw [if_pos c, if_neg (by omega), if_pos c]
  · rw [if_neg c, if_neg c, if_neg c]
theorem d405a {f N : Nat} {g : Nat → Int} : ∀ d k, k + d = 12 → ∀ r : Nat → Int, (∀ j, j < k → r j = -1) → ∃ r', (∀ j, j < 12 → r' j = -1) ∧ ru_n z 405 15 [some (.ref (B + 1)), some (.int (wI f)), some (.ref X.2.1), some (.ref (X.2.1 + 1)), some (.int (wI k)), none] [] (nw2 X r N g) = ru_n z 405 33 [some (.ref (B + 1)), some (.int (wI f)), some (.ref X.2.1), some (.ref (X.2.1 + 1)), some (.int (wI 12)), none] [] (nw2 X r' N g) := by
  intro d
  induction d with
  | zero =>
    intro k hk r h1
    obtain rfl : k = 12 := by omega
    refine ⟨r, h1, ?_⟩
    simp (disch := omega) only [e405_15, e405_17, e405_19, ↓reduceIte, Bool.false_eq_true, not_false_eq_true, not_true_eq_false, Nat.reduceLeDiff, Nat.reduceAdd, Nat.reduceEqDiff, Int.reduceToNat, Int.toNat_natCast, iB0, iB1, ru_klI, ru_klR, ru_klF, ru_klJ, ru_kl0, ru_cs0, ru_csI, ru_csR, ru_csF, ru_csJ, wI_add, wI_sub, wI_mul, wI_lt, wI_le, wI_inj, ru_fdE, ru_fdN, ru_iaN, ru_baN, ru_laN, ru_qaN, ru_pfN, ru_isN, ru_bsN, ru_jsN, ru_qsN, ru_set2, Nat.add_right_cancel_iff, if_true, if_false, ite_self, Int.reduceEq, and_self, Int.add_neg_cancel_right, Int.add_zero, Int.zero_add, Int.le_refl, Int.reduceLE, Int.cast_ofNat_Int]
  | succ d ih =>
    intro k hk r h1
    have d1 : (12 ≤ (k : Int)) = False := eq_false (by omega)
    obtain ⟨r', q1, q2⟩ := ih (k + 1) (by omega) (up1 r k (-1)) (fun j hj => by
      unfold up1
      by_cases c : j = k
      · rw [if_pos c]
      · rw [if_neg c]; exact h1 j (by omega))
    refine ⟨r', q1, ?_⟩
    have i2 := nw2_w (X := X) (r := r) (N := N) (g := g) (i := (k : Int)) (v := -1) (by omega) (by omega)
    rw [Int.toNat_natCast] at i2
    rw [← q2, show (((k + 1 : Nat)) : Int) = (k : Int) + 1 by omega, e405_15]
    simp (disch := omega) only [e405_17, e405_19, e405_22, e405_23, e405_25, e405_26, e405_27, e405_30, ↓reduceIte, Bool.false_eq_true, not_false_eq_true, not_true_eq_false, Nat.reduceLeDiff, Nat.reduceAdd, Nat.reduceEqDiff, Int.reduceToNat, Int.toNat_natCast, iB0, iB1, ru_klI, ru_klR, ru_klF, ru_klJ, ru_kl0, ru_cs0, ru_csI, ru_csR, ru_csF, ru_csJ, wI_add, wI_sub, wI_mul, wI_lt, wI_le, wI_inj, ru_fdE, ru_fdN, ru_iaN, ru_baN, ru_laN, ru_qaN, ru_pfN, ru_isN, ru_bsN, ru_jsN, ru_qsN, ru_set2, Nat.add_right_cancel_iff, if_true, if_false, ite_self, Int.reduceEq, and_self, Int.add_neg_cancel_right, Int.add_zero, Int.zero_add, d1, i2]
def rwV (y : Nat → Int) (gap : Int) (e : Nat → Nat) : Nat → Int
  | 0 => -1
  | n + 1 => (rwA y gap e n : Nat)
theorem rwV_s {y : Nat → Int} {gap : Int} {e : Nat → Nat} {n : Nat} : rwV y gap e (n + 1 + 1) = if y (e n) - y (e (n + 1)) > gap then rwV y gap e (n + 1) + 1 else rwV y gap e (n + 1) := by
  show ((rwA y gap e (n + 1) : Nat) : Int) = if _ then ((rwA y gap e n : Nat) : Int) + 1 else ((rwA y gap e n : Nat) : Int)
  rw [rwA]
  split <;> rfl
theorem d405b (h : ylP X B A) (hr : ylR A) (hB : B + 30 ≤ X.2.1) {f N : Nat} (hf : f < 3) (hN : N ≤ 12) {e : Nat → Nat} {key : Nat → Int} (hE : enO (shS (A.2.1 f)) key N e) {g : Nat → Int} (hg : ∀ i, i < N → g i = (e i : Int)) (hgap : 0 ≤ A.1 0 ∧ A.1 0 ≤ 99) : ∀ d k, k + d = N → ∀ r : Nat → Int, (∀ i, i < k → r (e i) = (rwA (shY (A.2.1 f)) (A.1 0) e i : Nat)) → (∀ o, (∀ i, i < k → e i ≠ o) → o < 12 → r o = -1) →
    ∃ r' : Nat → Int, (∀ i, i < N → r' (e i) = (rwA (shY (A.2.1 f)) (A.1 0) e i : Nat)) ∧ (∀ o, (∀ i, i < N → e i ≠ o) → o < 12 → r' o = -1) ∧ ru_n z 405 39 [some (.ref (B + 1)), some (.int (wI f)), some (.ref X.2.1), some (.ref (X.2.1 + 1)), some (.int (wI (rwV (shY (A.2.1 f)) (A.1 0) e k))), some (.int (wI k))] [] (nw2 X r N g) = some (.inl (some (.ref X.2.1)), nw2 X r' N g) := by
  have rb : ∀ k, k ≤ 12 → -1 ≤ rwV (shY (A.2.1 f)) (A.1 0) e k ∧ rwV (shY (A.2.1 f)) (A.1 0) e k ≤ 12 := fun k hk => by
    cases k with
    | zero => show -1 ≤ (-1 : Int) ∧ (-1 : Int) ≤ 12; omega
    | succ k =>
      have := rwA_lt (shY (A.2.1 f)) (A.1 0) e k
      show -1 ≤ ((rwA (shY (A.2.1 f)) (A.1 0) e k : Nat) : Int) ∧ ((rwA (shY (A.2.1 f)) (A.1 0) e k : Nat) : Int) ≤ 12
      omega
  intro d
  induction d with
  | zero =>
    intro k hk r h1 h2
    obtain rfl : k = N := by omega
    refine ⟨r, h1, h2, ?_⟩
    simp (disch := omega) only [e405_39, e405_41, e405_42, e405_43, e405_96, e405_97, ↓reduceIte, Bool.false_eq_true, not_false_eq_true, not_true_eq_false, Nat.reduceLeDiff, Nat.reduceAdd, Nat.reduceEqDiff, Int.reduceToNat, Int.toNat_natCast, iB0, iB1, ru_klI, ru_klR, ru_klF, ru_klJ, ru_kl0, ru_cs0, ru_csI, ru_csR, ru_csF, ru_csJ, wI_add, wI_sub, wI_mul, wI_lt, wI_le, wI_inj, ru_fdE, ru_fdN, ru_iaN, ru_baN, ru_laN, ru_qaN, ru_pfN, ru_isN, ru_bsN, ru_jsN, ru_qsN, ru_set2, Nat.add_right_cancel_iff, if_true, if_false, ite_self, Int.reduceEq, and_self, Int.add_neg_cancel_right, Int.add_zero, Int.zero_add, nw2_l2, Int.le_refl]
  | succ d ih =>
    intro k hk r h1 h2
    have d1 : ((N : Int) ≤ (k : Int)) = False := eq_false (by omega)
    have ek := hE.1 k (by omega)
    have nx := rb (k + 1) (by omega)
    have nk := rb k (by omega)
    have rk : (rwA (shY (A.2.1 f)) (A.1 0) e k : Int) = rwV (shY (A.2.1 f)) (A.1 0) e (k + 1) := rfl
    obtain ⟨r', q1, q2, q3⟩ := ih (k + 1) (by omega) (up1 r (e k) (rwV (shY (A.2.1 f)) (A.1 0) e (k + 1))) (fun i hi => by
      unfold up1
      by_cases c : i = k
      · rw [c, if_pos rfl, rk]
      · rw [if_neg (fun c2 => c (enO_inj hE (by omega) (by omega) c2))]; exact h1 i (by omega)) (fun o ho ho2 => by
      unfold up1
      rw [if_neg (fun c2 => ho k (by omega) c2.symm)]
      exact h2 o (fun i hi => ho i (by omega)) ho2)
    refine ⟨r', q1, q2, ?_⟩
    have i2 := nw2_w (X := X) (r := r) (N := N) (g := g) (i := (e k : Int)) (v := rwV (shY (A.2.1 f)) (A.1 0) e (k + 1)) (by omega) (by omega)
    have i1 := nw2_a2 (X := X) (r := r) (N := N) (g := g) (i := (k : Int)) hN (by omega) (by omega)
    rw [Int.toNat_natCast, hg k (by omega)] at i1
    rw [Int.toNat_natCast] at i2
    have hy := nw2_P (r := r) (N := N) (g := g) h hB
    rw [← q3, show (((k + 1 : Nat)) : Int) = (k : Int) + 1 by omega, e405_39]
    cases k with
    | zero =>
      simp only [Int.natCast_zero, Int.ofNat_zero, Int.zero_add, Nat.zero_add, show rwV (shY (A.2.1 f)) (A.1 0) e 0 = -1 from rfl, show rwV (shY (A.2.1 f)) (A.1 0) e 1 = 0 from rfl] at *
      simp (disch := omega) only [e405_41, e405_42, e405_43, e405_46, e405_48, e405_51, e405_52, e405_53, e405_54, e405_56, e405_57, e405_58, e405_59, e405_62, e405_63, e405_64, e405_65, e405_67, e405_68, e405_71, e405_72, e405_73, e405_76, e405_79, e405_82, e405_83, e405_84, e405_86, e405_87, e405_89, e405_90, e405_93, ↓reduceIte, Bool.false_eq_true, not_false_eq_true, not_true_eq_false, Nat.reduceLeDiff, Nat.reduceAdd, Nat.reduceEqDiff, Int.reduceToNat, Int.toNat_natCast, iB0, iB1, ru_klI, ru_klR, ru_klF, ru_klJ, ru_kl0, ru_cs0, ru_csI, ru_csR, ru_csF, ru_csJ, wI_add, wI_sub, wI_mul, wI_lt, wI_le, wI_inj, ru_fdE, ru_fdN, ru_iaN, ru_baN, ru_laN, ru_qaN, ru_pfN, ru_isN, ru_bsN, ru_jsN, ru_qsN, ru_set2, Nat.add_right_cancel_iff, if_true, if_false, ite_self, Int.reduceEq, and_self, Int.add_neg_cancel_right, Int.add_zero, Int.zero_add, nw2_l2, d1, i1, i2, Int.reduceAdd, Int.reduceNeg]
    | succ k =>
      have d2 : ((k : Int) + 1 = 0) = False := eq_false (by omega)
      have i3 := nw2_a2 (X := X) (r := r) (N := N) (g := g) (i := (k : Int)) hN (by omega) (by omega)
      rw [Int.toNat_natCast, hg k (by omega)] at i3
      have ek2 := hE.1 k (by omega)
      have y1 := d410 (z := z) hy hf ek.1
      have y2 := d410 (z := z) hy hf ek2.1
      have sr1 := shXY_rng (hr f) (e k)
      have sr2 := shXY_rng (hr f) (e (k + 1))
      have e0 := rwV_s (y := shY (A.2.1 f)) (gap := A.1 0) (e := e) (n := k)
      rw [show (((k + 1 : Nat)) : Int) = (k : Int) + 1 by omega] at *
      by_cases c : A.1 0 < shY (A.2.1 f) (e k) - shY (A.2.1 f) (e (k + 1))
      · rw [if_pos c] at e0
        rw [e0] at i2 ⊢
        have c2 : (shY (A.2.1 f) (e k) - shY (A.2.1 f) (e (k + 1)) ≤ A.1 0) = False := eq_false (by omega)
        simp (disch := omega) only [e405_41, e405_42, e405_43, e405_46, e405_48, e405_51, e405_52, e405_53, e405_54, e405_56, e405_57, e405_58, e405_59, e405_62, e405_63, e405_64, e405_65, e405_67, e405_68, e405_71, e405_72, e405_73, e405_76, e405_79, e405_82, e405_83, e405_84, e405_86, e405_87, e405_89, e405_90, e405_93, ↓reduceIte, Bool.false_eq_true, not_false_eq_true, not_true_eq_false, Nat.reduceLeDiff, Nat.reduceAdd, Nat.reduceEqDiff, Int.reduceToNat, Int.toNat_natCast, iB0, iB1, ru_klI, ru_klR, ru_klF, ru_klJ, ru_kl0, ru_cs0, ru_csI, ru_csR, ru_csF, ru_csJ, wI_add, wI_sub, wI_mul, wI_lt, wI_le, wI_inj, ru_fdE, ru_fdN, ru_iaN, ru_baN, ru_laN, ru_qaN, ru_pfN, ru_isN, ru_bsN, ru_jsN, ru_qsN, ru_set2, Nat.add_right_cancel_iff, if_true, if_false, ite_self, Int.reduceEq, and_self, Int.add_neg_cancel_right, Int.add_zero, Int.zero_add, nw2_l2, d1, i1, i2, i3, d2, y1, y2, Int.add_sub_cancel, yl_o hy, yl_f1 hy, c, c2]
      · rw [if_neg c] at e0
        rw [e0] at i2 ⊢
        have c2 : (shY (A.2.1 f) (e k) - shY (A.2.1 f) (e (k + 1)) ≤ A.1 0) = True := eq_true (by omega)
        simp (disch := omega) only [e405_41, e405_42, e405_43, e405_46, e405_48, e405_51, e405_52, e405_53, e405_54, e405_56, e405_57, e405_58, e405_59, e405_62, e405_63, e405_64, e405_65, e405_67, e405_68, e405_71, e405_72, e405_73, e405_76, e405_79, e405_82, e405_83, e405_84, e405_86, e405_87, e405_89, e405_90, e405_93, ↓reduceIte, Bool.false_eq_true, not_false_eq_true, not_true_eq_false, Nat.reduceLeDiff, Nat.reduceAdd, Nat.reduceEqDiff, Int.reduceToNat, Int.toNat_natCast, iB0, iB1, ru_klI, ru_klR, ru_klF, ru_klJ, ru_kl0, ru_cs0, ru_csI, ru_csR, ru_csF, ru_csJ, wI_add, wI_sub, wI_mul, wI_lt, wI_le, wI_inj, ru_fdE, ru_fdN, ru_iaN, ru_baN, ru_laN, ru_qaN, ru_pfN, ru_isN, ru_bsN, ru_jsN, ru_qsN, ru_set2, Nat.add_right_cancel_iff, if_true, if_false, ite_self, Int.reduceEq, and_self, Int.add_neg_cancel_right, Int.add_zero, Int.zero_add, nw2_l2, d1, i1, i2, i3, d2, y1, y2, Int.add_sub_cancel, yl_o hy, yl_f1 hy, c, c2]
theorem d405 (h : ylP X B A) (hr : ylR A) (hB : B + 30 ≤ X.2.1) {f : Nat} (hf : f < 3) (hgap : 0 ≤ A.1 0 ∧ A.1 0 ≤ 99) : ∃ (N : Nat) (g r : Nat → Int) (rc : Int), rwOK (shS (A.2.1 f)) (shY (A.2.1 f)) (A.1 0) r rc ∧ N ≤ 12 ∧ ru_ev z 405 [.ref (B + 1), .int (wI f)] X = some (.inl (some (.ref X.2.1)), nw2 X r N g) := by
  have na : am_na X 0 (wI 12) = some (am_new X (ylI 0 12 (fun _ => 0)) 12) := yl_na (X := X) (N := 12) (by decide)
  have hy := ylP_new (n := 12) (e := ylI 0 12 (fun _ => 0)) h hB
  obtain ⟨N, e, g, q1, q2, q3⟩ := d406 (z := z) (all := 0) hy hr (show B + 30 ≤ X.2.1 + 1 by omega) hf (by decide)
  have hN := enO_12 q1
  obtain ⟨r1, a1, a2⟩ := d405a (z := z) (X := X) (B := B) (f := f) (N := N) (g := g) 12 0 rfl (fun _ => 0) (fun j hj => by omega)
  obtain ⟨r2, b1, b2, b3⟩ := d405b (z := z) h hr hB hf hN q1 q2 hgap N 0 (Nat.zero_add _) r1 (fun i hi => by omega) (fun o _ ho => a1 o ho)
  obtain ⟨e', he'⟩ := enY_ex (hr f) q1
  have sg : ∀ k, k < 12 → shS (A.2.1 f) k = true → 0 ≤ shY (A.2.1 f) k ∧ shY (A.2.1 f) k ≤ 999 := fun k _ sk => (shS_rng (hr f) sk).2.1
  refine ⟨N, g, r2, _, rwOK_of hgap.1 q1 he' sg (fun i j hij hj => ?_) b1 (fun k hk sk => b2 k (fun i hi he => sk (by rw [← he]; exact (q1.1 i hi).2)) hk), hN, ?_⟩
  · have k1 := q1.2.1 i j hij hj
    have s1 := shS_rng (hr f) (q1.1 i (by omega)).2
    have s2 := shS_rng (hr f) (q1.1 j hj).2
    simp only [kyA, if_true, kyL] at k1
    omega
  · rw [← b3]
    have a2' := a2
    simp only [Int.natCast_zero, Int.ofNat_zero] at a2'
    have e0 : am_new (am_new X (ylI 0 12 (fun _ => 0)) 12) (ylI 0 N g) N = nw2 X (fun _ => 0) N g := rfl
    have e1 : (am_new X (ylI 0 12 (fun _ => 0)) 12).2.1 = X.2.1 + 1 := rfl
    rw [e0, e1] at q3
    simp (disch := omega) only [en405, e405_0, e405_2, e405_4, e405_5, e405_6, e405_7, e405_8, e405_11, e405_12, e405_13, e405_33, e405_34, e405_36, e405_37, ↓reduceIte, Bool.false_eq_true, not_false_eq_true, not_true_eq_false, Nat.reduceLeDiff, Nat.reduceAdd, Nat.reduceEqDiff, Int.reduceToNat, Int.toNat_natCast, iB0, iB1, ru_klI, ru_klR, ru_klF, ru_klJ, ru_kl0, ru_cs0, ru_csI, ru_csR, ru_csF, ru_csJ, wI_add, wI_sub, wI_mul, wI_lt, wI_le, wI_inj, ru_fdE, ru_fdN, ru_iaN, ru_baN, ru_laN, ru_qaN, ru_pfN, ru_isN, ru_bsN, ru_jsN, ru_qsN, ru_set2, Nat.add_right_cancel_iff, if_true, if_false, ite_self, Int.reduceEq, and_self, Int.add_neg_cancel_right, Int.add_zero, Int.zero_add, yl_o h, na, q3, a2', show rwV (shY (A.2.1 f)) (A.1 0) e 0 = -1 from rfl, Int.natCast_zero, Int.ofNat_zero]
end RW
