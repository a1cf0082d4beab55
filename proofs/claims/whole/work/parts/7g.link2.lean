/-! ===== the class links people, 2 ===== -/
section LINK2
variable {z : Bool} {h : am_H} {C : tCl} {P : Nat} {p : tPi}
theorem k261a (hP : isPi P) {n : Nat} {o : Nat → Nat} {D : Nat → Nat → Int} (hn : n ≤ 12) (h0 : p.1 0 = (n : Int)) (ho : ∀ i, i < n → p.2 2 i = (o i : Int)) (hD : ∀ (E K : Nat → Int) a b, a < n → b < n → ru_ev z 262 [.ref P, .int (wI (o a : Nat)), .int (wI (o b : Nat))] (clPut h (piPut C P (piQ p E K))) = some (.inl (some (.int (wI (D a b)))), clPut h (piPut C P (piQ p E K)))) {K : Nat → Int} : ∀ d i, i + d = n → ∀ (E : Nat → Int), (∀ j, j < i → E j = D 0 j) → ∃ E' : Nat → Int, (∀ j, j < n → E' j = D 0 j) ∧
    ru_n z 261 2 [some (.ref P), some (.int (wI i)), none, none, none, none] [] (clPut h (piPut C P (piQ p E K))) = ru_n z 261 38 [some (.ref P), some (.int (wI n)), none, none, none, none] [] (clPut h (piPut C P (piQ p E' K))) := by
  intro d
  induction d with
  | zero =>
    intro i hi E hE
    obtain rfl : i = n := by omega
    refine ⟨E, hE, ?_⟩
    have c : ((i : Int) ≤ (i : Int)) = True := eq_true (Int.le_refl _)
    simp (disch := omega) only [e261_2, e261_3, e261_4, e261_7, ↓reduceIte, Bool.false_eq_true, not_false_eq_true, not_true_eq_false, Nat.reduceLeDiff, Nat.reduceAdd, Nat.reduceEqDiff, Int.reduceToNat, Int.toNat_natCast, iB0, iB1, ru_klI, ru_klR, ru_klF, ru_klJ, ru_kl0, ru_cs0, ru_csI, ru_csR, ru_csF, ru_csJ, wI_add, wI_sub, wI_mul, wI_lt, wI_le, wI_inj, ru_fdE, ru_fdN, ru_iaN, ru_baN, ru_laN, ru_qaN, ru_pfN, ru_isN, ru_bsN, ru_jsN, ru_qsN, ru_set2, Nat.add_right_cancel_iff, if_true, if_false, ite_self, Int.reduceEq, and_self, Int.add_neg_cancel_right, Int.add_zero, Int.zero_add, pi_e hP, pq_f0 hP, h0, c]
  | succ d ih =>
    intro i hi E hE
    obtain ⟨E', t1, t2⟩ := ih (i + 1) (by omega) (up1 E i (D 0 i)) (fun j hj => by
      unfold up1
      by_cases e : j = i
      · subst e; rw [if_pos rfl]
      · rw [if_neg e]; exact hE j (by omega))
    refine ⟨E', t1, ?_⟩
    have c : ((n : Int) ≤ (i : Int)) = False := eq_false (by omega)
    have o1 := ho i (by omega)
    have o2 := ho 0 (by omega)
    have d1 := fun E K => hD E K 0 i (by omega) (by omega)
    rw [← t2, e261_2]
    simp (disch := omega) only [e261_3, e261_4, e261_7, e261_10, e261_11, e261_14, e261_15, e261_16, e261_17, e261_20, e261_21, e261_22, e261_23, e261_26, e261_27, e261_28, e261_31, e261_32, e261_35, ↓reduceIte, Bool.false_eq_true, not_false_eq_true, not_true_eq_false, Nat.reduceLeDiff, Nat.reduceAdd, Nat.reduceEqDiff, Int.reduceToNat, Int.toNat_natCast, iB0, iB1, ru_klI, ru_klR, ru_klF, ru_klJ, ru_kl0, ru_cs0, ru_csI, ru_csR, ru_csF, ru_csJ, wI_add, wI_sub, wI_mul, wI_lt, wI_le, wI_inj, ru_fdE, ru_fdN, ru_iaN, ru_baN, ru_laN, ru_qaN, ru_pfN, ru_isN, ru_bsN, ru_jsN, ru_qsN, ru_set2, Nat.add_right_cancel_iff, if_true, if_false, ite_self, Int.reduceEq, and_self, Int.add_neg_cancel_right, Int.add_zero, Int.zero_add, pi_e hP, pq_f0 hP, pi_f4 hP, pi_f10 hP, pq_a2 hP, pq_w8 hP, h0, c, o1, o2, d1, Int.toNat_zero, Int.natCast_add, Int.natCast_one]
theorem k261c (hP : isPi P) {n m : Nat} {o : Nat → Nat} {D : Nat → Nat → Int} (hn : n ≤ 12) (hm : m < n) (h0 : p.1 0 = (n : Int)) (ho : ∀ i, i < n → p.2 2 i = (o i : Int)) (hD : ∀ (E K : Nat → Int) a b, a < n → b < n → ru_ev z 262 [.ref P, .int (wI (o a : Nat)), .int (wI (o b : Nat))] (clPut h (piPut C P (piQ p E K))) = some (.inl (some (.int (wI (D a b)))), clPut h (piPut C P (piQ p E K)))) (hDr : ∀ a b, a < n → b < n → 0 ≤ D a b ∧ D a b ≤ 1998) {K : Nat → Int} {J i : Int} {F : Nat → Int} (hF : ∀ q, q < n → 0 ≤ F q ∧ F q ≤ 1998) : ∀ d j, j + d = n → ∀ (E : Nat → Int) (l5 : Option Value), (∀ q, E q = if q < j then (if F q ≤ D m q then F q else D m q) else F q) → ∃ (E' : Nat → Int) (l5' : Option Value), (∀ q, E' q = if q < n then (if F q ≤ D m q then F q else D m q) else F q) ∧
    ru_n z 261 85 [some (.ref P), some (.int (wI J)), some (.int (wI i)), some (.int (wI m)), some (.int (wI j)), l5] [] (clPut h (piPut C P (piQ p E K))) = ru_n z 261 138 [some (.ref P), some (.int (wI J)), some (.int (wI i)), some (.int (wI m)), some (.int (wI n)), l5'] [] (clPut h (piPut C P (piQ p E' K))) := by
  intro d
  induction d with
  | zero =>
    intro j hj E l5 hE
    obtain rfl : j = n := by omega
    refine ⟨E, l5, hE, ?_⟩
    have c : ((j : Int) ≤ (j : Int)) = True := eq_true (Int.le_refl _)
    simp (disch := omega) only [e261_85, e261_87, e261_88, e261_91, ↓reduceIte, Bool.false_eq_true, not_false_eq_true, not_true_eq_false, Nat.reduceLeDiff, Nat.reduceAdd, Nat.reduceEqDiff, Int.reduceToNat, Int.toNat_natCast, iB0, iB1, ru_klI, ru_klR, ru_klF, ru_klJ, ru_kl0, ru_cs0, ru_csI, ru_csR, ru_csF, ru_csJ, wI_add, wI_sub, wI_mul, wI_lt, wI_le, wI_inj, ru_fdE, ru_fdN, ru_iaN, ru_baN, ru_laN, ru_qaN, ru_pfN, ru_isN, ru_bsN, ru_jsN, ru_qsN, ru_set2, Nat.add_right_cancel_iff, if_true, if_false, ite_self, Int.reduceEq, and_self, Int.add_neg_cancel_right, Int.add_zero, Int.zero_add, pi_e hP, pq_f0 hP, h0, c]
  | succ d ih =>
    intro j hj E l5 hE
    have hEj : E j = F j := by rw [hE j, if_neg (by omega)]
    obtain ⟨E', l5', t1, t2⟩ := ih (j + 1) (by omega) (up1 E j (if F j ≤ D m j then F j else D m j)) (some (.int (wI (D m j)))) (fun q => by
      unfold up1
      by_cases e : q = j
      · subst e; rw [if_pos rfl, if_pos (show q < q + 1 by omega)]
      · rw [if_neg e, hE q]
        by_cases c : q < j
        · rw [if_pos c, if_pos (show q < j + 1 by omega)]
        · rw [if_neg c, if_neg (show ¬ q < j + 1 by omega)])
    refine ⟨E', l5', t1, ?_⟩
    have c : ((n : Int) ≤ (j : Int)) = False := eq_false (by omega)
    have o1 := ho j (by omega)
    have o2 := ho m hm
    have d1 := fun E K => hD E K m j hm (by omega)
    have r1 := hDr m j hm (by omega)
    have r2 := hF j (by omega)
    rw [← t2, e261_85]
    simp (disch := omega) only [e261_87, e261_88, e261_91, e261_94, e261_95, e261_96, e261_99, e261_100, e261_101, e261_102, e261_105, e261_107, e261_108, e261_111, e261_113, e261_114, e261_117, e261_119, e261_120, e261_123, e261_125, e261_126, e261_128, e261_131, e261_132, e261_135, ↓reduceIte, Bool.false_eq_true, not_false_eq_true, not_true_eq_false, Nat.reduceLeDiff, Nat.reduceAdd, Nat.reduceEqDiff, Int.reduceToNat, Int.toNat_natCast, iB0, iB1, ru_klI, ru_klR, ru_klF, ru_klJ, ru_kl0, ru_cs0, ru_csI, ru_csR, ru_csF, ru_csJ, wI_add, wI_sub, wI_mul, wI_lt, wI_le, wI_inj, ru_fdE, ru_fdN, ru_iaN, ru_baN, ru_laN, ru_qaN, ru_pfN, ru_isN, ru_bsN, ru_jsN, ru_qsN, ru_set2, Nat.add_right_cancel_iff, if_true, if_false, ite_self, Int.reduceEq, and_self, Int.add_neg_cancel_right, Int.add_zero, Int.zero_add, pi_e hP, pq_f0 hP, pi_f4 hP, pi_f10 hP, pq_a2 hP, pq_a8 hP, pq_w8 hP, h0, c, o1, o2, d1, hEj, m264, Int.natCast_add, Int.natCast_one]
theorem k261b (hP : isPi P) {n : Nat} {o : Nat → Nat} {D : Nat → Nat → Int} (hn : n ≤ 12) (h1 : 1 ≤ n) (h0 : p.1 0 = (n : Int)) (ho : ∀ i, i < n → p.2 2 i = (o i : Int)) (hD : ∀ (E K : Nat → Int) a b, a < n → b < n → ru_ev z 262 [.ref P, .int (wI (o a : Nat)), .int (wI (o b : Nat))] (clPut h (piPut C P (piQ p E K))) = some (.inl (some (.int (wI (D a b)))), clPut h (piPut C P (piQ p E K)))) (hDr : ∀ a b, a < n → b < n → 0 ≤ D a b ∧ D a b ≤ 1998) : ∀ d i, i + 1 + d = n → ∀ (E K : Nat → Int) (J : Nat) (w : Nat → Nat) (l3 l4 l5 : Option Value), lkI n D i J E K w → ∃ (E' K' : Nat → Int) (J' : Nat) (w' : Nat → Nat), lkI n D (n - 1) J' E' K' w' ∧
    ru_n z 261 42 [some (.ref P), some (.int (wI J)), some (.int (wI i)), l3, l4, l5] [] (clPut h (piPut C P (piQ p E K))) = some (.inl none, clPut h (piPut C P (piQ p E' K'))) := by
  intro d
  induction d with
  | zero =>
    intro i hi E K J w l3 l4 l5 hI
    obtain rfl : i = n - 1 := by omega
    refine ⟨E, K, J, w, hI, ?_⟩
    have c : ((n : Int) - 1 ≤ ((n - 1 : Nat) : Int)) = True := eq_true (by omega)
    simp (disch := omega) only [e261_42, e261_43, e261_44, e261_47, e261_48, e261_49, e261_144, ↓reduceIte, Bool.false_eq_true, not_false_eq_true, not_true_eq_false, Nat.reduceLeDiff, Nat.reduceAdd, Nat.reduceEqDiff, Int.reduceToNat, Int.toNat_natCast, iB0, iB1, ru_klI, ru_klR, ru_klF, ru_klJ, ru_kl0, ru_cs0, ru_csI, ru_csR, ru_csF, ru_csJ, wI_add, wI_sub, wI_mul, wI_lt, wI_le, wI_inj, ru_fdE, ru_fdN, ru_iaN, ru_baN, ru_laN, ru_qaN, ru_pfN, ru_isN, ru_bsN, ru_jsN, ru_qsN, ru_set2, Nat.add_right_cancel_iff, if_true, if_false, ite_self, Int.reduceEq, and_self, Int.add_neg_cancel_right, Int.add_zero, Int.zero_add, pi_e hP, pq_f0 hP, h0, c]
  | succ d ih =>
    intro i hi E K J w l3 l4 l5 hI
    have hEr : ∀ q, q < n → 0 ≤ E q ∧ E q ≤ 1998 := fun q hq => by
      obtain ⟨-, t, t1, t2⟩ := hI.2.2.2.2.2.1 q hq
      rw [t2]; exact hDr _ _ (hI.1 t t1) hq
    obtain ⟨b, b1, b2⟩ := k263 (z := z) (h := h) (C := C) (p := p) (E := E) (K := K) hP hI.2.2.2.1 hn h0 hEr
    rcases b1 with ⟨-, hall⟩ | ⟨m, rfl, m1, m2, m3⟩
    · exfalso
      have c1 := hI.2.2.2.2.1
      have c2 : cnB (fun q => J.testBit q) n = cnB (fun _ => true) n := cnB_congr fun q hq => hall q hq
      have c3 : ∀ n, cnB (fun _ => true) n = n := fun n => by
        induction n with
        | zero => rfl
        | succ n ih => rw [cnB, ih]; rfl
      rw [c3] at c2
      omega
    · have hS := lk_step hI hn m1 m2 m3
      obtain ⟨E2, l5', u1, u2⟩ := k261c (z := z) (h := h) (C := C) (p := p) hP hn m1 h0 ho hD hDr (K := up1 K i (E m)) (J := ((J ||| 2 ^ m : Nat) : Int)) (i := (i : Int)) (F := E) hEr n 0 (by omega) E l5 (fun q => by rw [if_neg (by omega)])
      have eE : E2 = (fun q => if q < n then (if E q ≤ D m q then E q else D m q) else E q) := funext u1
      rw [← eE] at hS
      obtain ⟨E', K', J', w', v1, v2⟩ := ih (i + 1) (by omega) E2 (up1 K i (E m)) (J ||| 2 ^ m) _ (some (.int (wI m))) (some (.int (wI n))) l5' hS
      refine ⟨E', K', J', w', v1, ?_⟩
      have c : ((n : Int) - 1 ≤ (i : Int)) = False := eq_false (by omega)
      have cm : ((m : Int) = -1) = False := eq_false (by omega)
      have h9 : 2 ^ m < 2 ^ 12 := Nat.pow_lt_pow_right (by decide) (by omega)
      have hJ := hI.2.2.2.1
      rw [show ((0 : Nat) : Int) = 0 from rfl] at u2
      rw [← v2, e261_42]
      simp (disch := omega) only [e261_43, e261_44, e261_47, e261_48, e261_49, e261_52, e261_53, e261_54, e261_57, e261_58, e261_59, e261_60, e261_63, e261_64, e261_65, e261_68, e261_69, e261_70, e261_73, e261_74, e261_75, e261_76, e261_77, e261_78, e261_79, e261_80, e261_81, e261_82, e261_83, ↓reduceIte, Bool.false_eq_true, not_false_eq_true, not_true_eq_false, Nat.reduceLeDiff, Nat.reduceAdd, Nat.reduceEqDiff, Int.reduceToNat, Int.toNat_natCast, iB0, iB1, ru_klI, ru_klR, ru_klF, ru_klJ, ru_kl0, ru_cs0, ru_csI, ru_csR, ru_csF, ru_csJ, wI_add, wI_sub, wI_mul, wI_lt, wI_le, wI_inj, ru_fdE, ru_fdN, ru_iaN, ru_baN, ru_laN, ru_qaN, ru_pfN, ru_isN, ru_bsN, ru_jsN, ru_qsN, ru_set2, Nat.add_right_cancel_iff, if_true, if_false, ite_self, Int.reduceEq, and_self, Int.add_neg_cancel_right, Int.add_zero, Int.zero_add, pi_e hP, pq_f0 hP, pi_f10 hP, pi_f11 hP, pq_a8 hP, pq_w9 hP, h0, c, b2, cm, wI_shl1, wI_nat_or, u2]
      simp (disch := omega) only [e261_138, e261_141, ↓reduceIte, Bool.false_eq_true, not_false_eq_true, not_true_eq_false, Nat.reduceLeDiff, Nat.reduceAdd, Nat.reduceEqDiff, Int.reduceToNat, Int.toNat_natCast, iB0, iB1, ru_klI, ru_klR, ru_klF, ru_klJ, ru_kl0, ru_cs0, ru_csI, ru_csR, ru_csF, ru_csJ, wI_add, wI_sub, wI_mul, wI_lt, wI_le, wI_inj, ru_fdE, ru_fdN, ru_iaN, ru_baN, ru_laN, ru_qaN, ru_pfN, ru_isN, ru_bsN, ru_jsN, ru_qsN, ru_set2, Nat.add_right_cancel_iff, if_true, if_false, ite_self, Int.reduceEq, and_self, Int.add_neg_cancel_right, Int.add_zero, Int.zero_add, Int.natCast_add, Int.natCast_one]
/-- the people's distances by their places in the order -/
theorem k261 (hP : isPi P) {q : tPh} {gap : Int} (hr : phR q) (hOK : piOK p q gap) {n : Nat} {eo : Nat → Nat} (hn0 : p.1 0 = (n : Int)) (h1 : 1 ≤ n) (heo : enO (shS q) (kyO (shX q) (shY q)) n eo) (hp2 : ∀ i, i < n → p.2 2 i = (eo i : Int)) : ∃ (E K : Nat → Int) (J : Nat) (w : Nat → Nat), lkI n (fun a b => apF (shX q) (shY q) (eo a) (eo b)) (n - 1) J E K w ∧
    ru_ev z 261 [.ref P] (clPut h (piPut C P p)) = some (.inl none, clPut h (piPut C P (piQ p E K))) := by
  have hn := enO_12 heo
  have hxy : ∀ a, a < n → eo a < 12 ∧ (p.2 0 (eo a) = shX q (eo a) ∧ 0 ≤ shX q (eo a) ∧ shX q (eo a) ≤ 999) ∧ (p.2 1 (eo a) = shY q (eo a) ∧ 0 ≤ shY q (eo a) ∧ shY q (eo a) ≤ 999) := fun a ha => by
    obtain ⟨n', eo', er', -, hx, -⟩ := hOK
    have k1 := heo.1 a ha
    have k2 := hx _ k1.1 k1.2
    have k3 := shS_rng hr k1.2
    exact ⟨k1.1, ⟨k2.1, k3.1⟩, ⟨k2.2, k3.2.1⟩⟩
  have hD : ∀ (E K : Nat → Int) a b, a < n → b < n → ru_ev z 262 [.ref P, .int (wI (eo a : Nat)), .int (wI (eo b : Nat))] (clPut h (piPut C P (piQ p E K))) = some (.inl (some (.int (wI (apF (shX q) (shY q) (eo a) (eo b))))), clPut h (piPut C P (piQ p E K))) := fun E K a b ha hb => k262 hP (hxy a ha).1 (hxy b hb).1 (hxy a ha).2.1 (hxy b hb).2.1 (hxy a ha).2.2 (hxy b hb).2.2
  have hDr : ∀ a b, a < n → b < n → 0 ≤ apF (shX q) (shY q) (eo a) (eo b) ∧ apF (shX q) (shY q) (eo a) (eo b) ≤ 1998 := fun a b ha hb => apF_rng (hxy a ha).2.1.2 (hxy b hb).2.1.2 (hxy a ha).2.2.2 (hxy b hb).2.2.2
  obtain ⟨E, e1, e2⟩ := k261a (z := z) (h := h) (C := C) (p := p) (D := fun a b => apF (shX q) (shY q) (eo a) (eo b)) hP hn hn0 hp2 hD (K := p.2 9) n 0 (by omega) (p.2 8) (fun j hj => by omega)
  have hI : lkI n (fun a b => apF (shX q) (shY q) (eo a) (eo b)) 0 1 E (p.2 9) (fun _ => 0) := by
    refine ⟨fun t _ => by dsimp only; omega, fun s t hs ht _ => by omega, fun qq hq => ?_, by decide, ?_, fun qq hq => ⟨fun t _ => by rw [e1 qq hq]; exact Int.le_refl _, 0, Nat.le_refl _, e1 qq hq⟩, fun s hs => by omega⟩
    · have : (1 : Nat).testBit qq = decide (qq = 0) := by
        have h9 := Nat.testBit_two_pow (n := 0) (m := qq)
        simp only [Nat.pow_zero] at h9
        rw [h9]
        by_cases e : qq = 0
        · subst e; rfl
        · rw [decide_eq_false e, decide_eq_false (fun c => e c.symm)]
      rw [this, decide_eq_true_eq]
      constructor
      · intro e; exact ⟨0, Nat.le_refl _, e.symm⟩
      · rintro ⟨t, -, e⟩; exact e.symm
    · have : cnB (fun qq => (1 : Nat).testBit qq) n = cnB (fun _ => false) n + 1 := by
        refine cnB_one (k := 0) n (by omega) rfl rfl (fun o _ ho => ?_)
        have h9 := Nat.testBit_two_pow (n := 0) (m := o)
        simp only [Nat.pow_zero] at h9
        rw [h9, decide_eq_false (fun c => ho c.symm)]
      rw [this, cnB_none n (fun _ _ => by decide)]
  obtain ⟨E', K', J', w', v1, v2⟩ := k261b (z := z) (h := h) (C := C) (p := p) (D := fun a b => apF (shX q) (shY q) (eo a) (eo b)) hP hn h1 hn0 hp2 hD hDr (n - 1) 0 (by omega) E (p.2 9) 1 (fun _ => 0) none none none hI
  refine ⟨E', K', J', w', v1, ?_⟩
  rw [pq_self, show ((0 : Nat) : Int) = 0 from rfl] at e2
  rw [show ((1 : Nat) : Int) = 1 from rfl, show ((0 : Nat) : Int) = 0 from rfl] at v2
  simp (disch := omega) only [en261, e261_0, e261_1, ↓reduceIte, Bool.false_eq_true, not_false_eq_true, not_true_eq_false, Nat.reduceLeDiff, Nat.reduceAdd, Nat.reduceEqDiff, Int.reduceToNat, Int.toNat_natCast, iB0, iB1, ru_klI, ru_klR, ru_klF, ru_klJ, ru_kl0, ru_cs0, ru_csI, ru_csR, ru_csF, ru_csJ, wI_add, wI_sub, wI_mul, wI_lt, wI_le, wI_inj, ru_fdE, ru_fdN, ru_iaN, ru_baN, ru_laN, ru_qaN, ru_pfN, ru_isN, ru_bsN, ru_jsN, ru_qsN, ru_set2, Nat.add_right_cancel_iff, if_true, if_false, ite_self, Int.reduceEq, and_self, Int.add_neg_cancel_right, Int.add_zero, Int.zero_add, pi_e hP, e2]
  simp (disch := omega) only [e261_38, e261_39, e261_40, e261_41, ↓reduceIte, Bool.false_eq_true, not_false_eq_true, not_true_eq_false, Nat.reduceLeDiff, Nat.reduceAdd, Nat.reduceEqDiff, Int.reduceToNat, Int.toNat_natCast, iB0, iB1, ru_klI, ru_klR, ru_klF, ru_klJ, ru_kl0, ru_cs0, ru_csI, ru_csR, ru_csF, ru_csJ, wI_add, wI_sub, wI_mul, wI_lt, wI_le, wI_inj, ru_fdE, ru_fdN, ru_iaN, ru_baN, ru_laN, ru_qaN, ru_pfN, ru_isN, ru_bsN, ru_jsN, ru_qsN, ru_set2, Nat.add_right_cancel_iff, if_true, if_false, ite_self, Int.reduceEq, and_self, Int.add_neg_cancel_right, Int.add_zero, Int.zero_add, v2]
theorem piOK_Q {q : tPh} {gap : Int} {E K : Nat → Int} (hOK : piOK p q gap) : piOK (piQ p E K) q gap := by
  unfold piOK piQ at *
  simp only [upC, Nat.reduceEqDiff, if_false]
  exact hOK
/-- how many groups, by the links -/
theorem k260l (hP : isPi P) {E K : Nat → Int} {n : Nat} {dd : Int} (hd : 0 ≤ dd ∧ dd ≤ 1998) (hn : n ≤ 12) (h1 : 1 ≤ n) (h0 : p.1 0 = (n : Int)) (hK : ∀ s, s < n - 1 → 0 ≤ K s ∧ K s ≤ 1998) : ∀ d i, i + d = n - 1 → ru_n z 260 17 [some (.ref P), some (.int (wI dd)), some (.int (wI (1 + (cnB (fun s => decide (K s > dd)) i : Nat)))), some (.int (wI i))] [] (clPut h (piPut C P (piQ p E K))) = some (.inl (some (.int (wI (1 + (cnB (fun s => decide (K s > dd)) (n - 1) : Nat))))), clPut h (piPut C P (piQ p E K))) := by
  intro d
  induction d with
  | zero =>
    intro i hi
    obtain rfl : i = n - 1 := by omega
    have c : ((n : Int) - 1 ≤ ((n - 1 : Nat) : Int)) = True := eq_true (by omega)
    simp (disch := omega) only [e260_17, e260_18, e260_19, e260_22, e260_23, e260_24, e260_46, e260_47, ↓reduceIte, Bool.false_eq_true, not_false_eq_true, not_true_eq_false, Nat.reduceLeDiff, Nat.reduceAdd, Nat.reduceEqDiff, Int.reduceToNat, Int.toNat_natCast, iB0, iB1, ru_klI, ru_klR, ru_klF, ru_klJ, ru_kl0, ru_cs0, ru_csI, ru_csR, ru_csF, ru_csJ, wI_add, wI_sub, wI_mul, wI_lt, wI_le, wI_inj, ru_fdE, ru_fdN, ru_iaN, ru_baN, ru_laN, ru_qaN, ru_pfN, ru_isN, ru_bsN, ru_jsN, ru_qsN, ru_set2, Nat.add_right_cancel_iff, if_true, if_false, ite_self, Int.reduceEq, and_self, Int.add_neg_cancel_right, Int.add_zero, Int.zero_add, pi_e hP, pq_f0 hP, h0, c]
  | succ d ih =>
    intro i hi
    have c : ((n : Int) - 1 ≤ (i : Int)) = False := eq_false (by omega)
    have hk := hK i (by omega)
    have hle := cnB_le (fun s => decide (K s > dd)) i
    rw [← ih (i + 1) (by omega), e260_17]
    by_cases e : K i > dd
    · have ec : cnB (fun s => decide (K s > dd)) (i + 1) = cnB (fun s => decide (K s > dd)) i + 1 := by rw [cnB, decide_eq_true e]; rfl
      have ce : (K i ≤ dd) = False := eq_false (by omega)
      rw [ec]
      simp (disch := omega) only [e260_18, e260_19, e260_22, e260_23, e260_24, e260_27, e260_28, e260_31, e260_32, e260_33, e260_34, e260_37, e260_40, e260_43, ↓reduceIte, Bool.false_eq_true, not_false_eq_true, not_true_eq_false, Nat.reduceLeDiff, Nat.reduceAdd, Nat.reduceEqDiff, Int.reduceToNat, Int.toNat_natCast, iB0, iB1, ru_klI, ru_klR, ru_klF, ru_klJ, ru_kl0, ru_cs0, ru_csI, ru_csR, ru_csF, ru_csJ, wI_add, wI_sub, wI_mul, wI_lt, wI_le, wI_inj, ru_fdE, ru_fdN, ru_iaN, ru_baN, ru_laN, ru_qaN, ru_pfN, ru_isN, ru_bsN, ru_jsN, ru_qsN, ru_set2, Nat.add_right_cancel_iff, if_true, if_false, ite_self, Int.reduceEq, and_self, Int.add_neg_cancel_right, Int.add_zero, Int.zero_add, pi_e hP, pq_f0 hP, pi_f11 hP, pq_a9 hP, h0, c, ce, Int.natCast_add, Int.natCast_one, Int.add_assoc]
    · have ec : cnB (fun s => decide (K s > dd)) (i + 1) = cnB (fun s => decide (K s > dd)) i := by rw [cnB, decide_eq_false e]; rfl
      have ce : (K i ≤ dd) = True := eq_true (by omega)
      rw [ec]
      simp (disch := omega) only [e260_18, e260_19, e260_22, e260_23, e260_24, e260_27, e260_28, e260_31, e260_32, e260_33, e260_34, e260_37, e260_40, e260_43, ↓reduceIte, Bool.false_eq_true, not_false_eq_true, not_true_eq_false, Nat.reduceLeDiff, Nat.reduceAdd, Nat.reduceEqDiff, Int.reduceToNat, Int.toNat_natCast, iB0, iB1, ru_klI, ru_klR, ru_klF, ru_klJ, ru_kl0, ru_cs0, ru_csI, ru_csR, ru_csF, ru_csJ, wI_add, wI_sub, wI_mul, wI_lt, wI_le, wI_inj, ru_fdE, ru_fdN, ru_iaN, ru_baN, ru_laN, ru_qaN, ru_pfN, ru_isN, ru_bsN, ru_jsN, ru_qsN, ru_set2, Nat.add_right_cancel_iff, if_true, if_false, ite_self, Int.reduceEq, and_self, Int.add_neg_cancel_right, Int.add_zero, Int.zero_add, pi_e hP, pq_f0 hP, pi_f11 hP, pq_a9 hP, h0, c, ce, Int.natCast_add, Int.natCast_one]
/-- what is told of groups: the links -/
def gpI (q : tPh) (n : Nat) (K : Nat → Int) : Prop := ∃ (eo : Nat → Nat) (E : Nat → Int) (J : Nat) (w : Nat → Nat), enO (shS q) (kyO (shX q) (shY q)) n eo ∧ (1 ≤ n → lkI n (fun a b => apF (shX q) (shY q) (eo a) (eo b)) (n - 1) J E K w)
theorem lk_rng {q : tPh} {n : Nat} {K : Nat → Int} (hr : phR q) (hg : gpI q n K) : ∀ s, s < n - 1 → 0 ≤ K s ∧ K s ≤ 1998 := fun s hs => by
  obtain ⟨eo, E, J, w, h1, h2⟩ := hg
  have h3 := h2 (by omega)
  obtain ⟨⟨t, t1, t2⟩, -⟩ := h3.2.2.2.2.2.2 s hs
  rw [t2]
  have a1 := shS_rng hr (h1.1 _ (h3.1 t (by omega))).2
  have a2 := shS_rng hr (h1.1 _ (h3.1 (s + 1) (by omega))).2
  exact apF_rng a1.1 a2.1 a1.2.1 a2.2.1
theorem k260 (hP : isPi P) {q : tPh} {gap dd : Int} (hd : 0 ≤ dd ∧ dd ≤ 1998) (hr : phR q) (hOK : piOK p q gap) : ∃ (n : Nat) (p' : tPi) (K : Nat → Int), piOK p' q gap ∧ gpI q n K ∧ ru_ev z 260 [.ref P, .int (wI dd)] (clPut h (piPut C P p)) = some (.inl (some (.int (wI (if n = 0 then 0 else 1 + (cnB (fun s => decide (K s > dd)) (n - 1) : Nat))))), clPut h (piPut C P p')) := by
  have hOK2 := hOK
  obtain ⟨n, eo, er, h0, hx, w1, w2, -⟩ := hOK2
  have hn := enO_12 w1
  by_cases e : n = 0
  · subst e
    refine ⟨0, p, fun _ => 0, hOK, ⟨eo, fun _ => 0, 0, fun _ => 0, w1, fun c => by omega⟩, ?_⟩
    rw [if_pos rfl]
    simp (disch := omega) only [en260, e260_0, e260_1, e260_4, e260_7, e260_8, e260_9, e260_10, e260_13, e260_14, e260_15, e260_16, e260_17, e260_18, e260_19, e260_22, e260_23, e260_24, e260_27, e260_28, e260_31, e260_32, e260_33, e260_34, e260_37, e260_40, e260_43, e260_46, e260_47, ↓reduceIte, Bool.false_eq_true, not_false_eq_true, not_true_eq_false, Nat.reduceLeDiff, Nat.reduceAdd, Nat.reduceEqDiff, Int.reduceToNat, Int.toNat_natCast, iB0, iB1, ru_klI, ru_klR, ru_klF, ru_klJ, ru_kl0, ru_cs0, ru_csI, ru_csR, ru_csF, ru_csJ, wI_add, wI_sub, wI_mul, wI_lt, wI_le, wI_inj, ru_fdE, ru_fdN, ru_iaN, ru_baN, ru_laN, ru_qaN, ru_pfN, ru_isN, ru_bsN, ru_jsN, ru_qsN, ru_set2, Nat.add_right_cancel_iff, if_true, if_false, ite_self, Int.reduceEq, and_self, Int.add_neg_cancel_right, Int.add_zero, Int.zero_add, pi_e hP, pi_f0 hP, pi_s0 hP, pi_f1 hP, pi_s1 hP, pi_f2 hP, pi_a0 hP, pi_w0 hP, pi_f3 hP, pi_a1 hP, pi_w1 hP, pi_f4 hP, pi_a2 hP, pi_w2 hP, pi_f5 hP, pi_a3 hP, pi_w3 hP, pi_f6 hP, pi_a4 hP, pi_w4 hP, pi_f7 hP, pi_a5 hP, pi_w5 hP, pi_f8 hP, pi_a6 hP, pi_w6 hP, pi_f9 hP, pi_a7 hP, pi_w7 hP, pi_f10 hP, pi_a8 hP, pi_w8 hP, pi_f11 hP, pi_a9 hP, pi_w9 hP, Int.reduceEq, ru_ctR, ru_ctI, upC_e, upC_n, upC_up, up1_e, up1_n, h0, Int.natCast_zero, not_true]
  · obtain ⟨E, K, J, w, a1, a2⟩ := k261 (z := z) (h := h) (C := C) hP hr hOK h0 (by omega) w1 w2
    have hg : gpI q n K := ⟨eo, E, J, w, w1, fun _ => a1⟩
    have a3 := k260l (z := z) (h := h) (C := C) (p := p) (E := E) (K := K) hP hd hn (by omega) h0 (lk_rng hr hg) (n - 1) 0 (by omega)
    refine ⟨n, piQ p E K, K, piOK_Q hOK, hg, ?_⟩
    have c0 : ((n : Int) = 0) = False := eq_false (by omega)
    have e0 : (1 : Int) + ((cnB (fun s => decide (K s > dd)) 0 : Nat) : Int) = 1 := rfl
    rw [e0, show ((0 : Nat) : Int) = 0 from rfl] at a3
    rw [if_neg e]
    simp (disch := omega) only [en260, e260_0, e260_1, e260_4, e260_7, e260_8, e260_9, e260_10, e260_13, e260_14, e260_15, e260_16, ↓reduceIte, Bool.false_eq_true, not_false_eq_true, not_true_eq_false, Nat.reduceLeDiff, Nat.reduceAdd, Nat.reduceEqDiff, Int.reduceToNat, Int.toNat_natCast, iB0, iB1, ru_klI, ru_klR, ru_klF, ru_klJ, ru_kl0, ru_cs0, ru_csI, ru_csR, ru_csF, ru_csJ, wI_add, wI_sub, wI_mul, wI_lt, wI_le, wI_inj, ru_fdE, ru_fdN, ru_iaN, ru_baN, ru_laN, ru_qaN, ru_pfN, ru_isN, ru_bsN, ru_jsN, ru_qsN, ru_set2, Nat.add_right_cancel_iff, if_true, if_false, ite_self, Int.reduceEq, and_self, Int.add_neg_cancel_right, Int.add_zero, Int.zero_add, pi_e hP, pi_f0 hP, pi_s0 hP, pi_f1 hP, pi_s1 hP, pi_f2 hP, pi_a0 hP, pi_w0 hP, pi_f3 hP, pi_a1 hP, pi_w1 hP, pi_f4 hP, pi_a2 hP, pi_w2 hP, pi_f5 hP, pi_a3 hP, pi_w3 hP, pi_f6 hP, pi_a4 hP, pi_w4 hP, pi_f7 hP, pi_a5 hP, pi_w5 hP, pi_f8 hP, pi_a6 hP, pi_w6 hP, pi_f9 hP, pi_a7 hP, pi_w7 hP, pi_f10 hP, pi_a8 hP, pi_w8 hP, pi_f11 hP, pi_a9 hP, pi_w9 hP, Int.reduceEq, ru_ctR, ru_ctI, upC_e, upC_n, upC_up, up1_e, up1_n, h0, c0, not_false_iff, a2, a3]
/-- the greatest of the first i links -/
def mxF (K : Nat → Int) : Nat → Int
  | 0 => 0
  | i + 1 => if K i ≤ mxF K i then mxF K i else K i
theorem mxF_sp (K : Nat → Int) : ∀ i, (∀ s, s < i → 0 ≤ K s ∧ K s ≤ 1998) → (0 ≤ mxF K i ∧ mxF K i ≤ 1998) ∧ (∀ s, s < i → K s ≤ mxF K i) ∧ (mxF K i = 0 ∨ ∃ s, s < i ∧ mxF K i = K s)
  | 0, _ => ⟨by unfold mxF; omega, fun s h => by omega, Or.inl rfl⟩
  | i + 1, h => by
    obtain ⟨a1, a2, a3⟩ := mxF_sp K i (fun s hs => h s (by omega))
    have a4 := h i (by omega)
    unfold mxF
    by_cases e : K i ≤ mxF K i
    · rw [if_pos e]
      refine ⟨a1, fun s hs => ?_, ?_⟩
      · by_cases c : s = i
        · subst c; exact e
        · exact a2 s (by omega)
      · rcases a3 with a3 | ⟨s, s1, s2⟩
        · exact Or.inl a3
        · exact Or.inr ⟨s, by omega, s2⟩
    · rw [if_neg e]
      refine ⟨a4, fun s hs => ?_, Or.inr ⟨i, by omega, rfl⟩⟩
      by_cases c : s = i
      · subst c; exact Int.le_refl _
      · have := a2 s (by omega); omega
theorem k270l (hP : isPi P) {E K : Nat → Int} {n : Nat} (hn : n ≤ 12) (h1 : 1 ≤ n) (h0 : p.1 0 = (n : Int)) (hK : ∀ s, s < n - 1 → 0 ≤ K s ∧ K s ≤ 1998) : ∀ d i, i + d = n - 1 → ru_n z 270 8 [some (.ref P), some (.int (wI (mxF K i))), some (.int (wI i))] [] (clPut h (piPut C P (piQ p E K))) = some (.inl (some (.int (wI (mxF K (n - 1))))), clPut h (piPut C P (piQ p E K))) := by
  intro d
  induction d with
  | zero =>
    intro i hi
    obtain rfl : i = n - 1 := by omega
    have c : ((n : Int) - 1 ≤ ((n - 1 : Nat) : Int)) = True := eq_true (by omega)
    simp (disch := omega) only [e270_8, e270_9, e270_10, e270_13, e270_14, e270_15, e270_35, e270_36, ↓reduceIte, Bool.false_eq_true, not_false_eq_true, not_true_eq_false, Nat.reduceLeDiff, Nat.reduceAdd, Nat.reduceEqDiff, Int.reduceToNat, Int.toNat_natCast, iB0, iB1, ru_klI, ru_klR, ru_klF, ru_klJ, ru_kl0, ru_cs0, ru_csI, ru_csR, ru_csF, ru_csJ, wI_add, wI_sub, wI_mul, wI_lt, wI_le, wI_inj, ru_fdE, ru_fdN, ru_iaN, ru_baN, ru_laN, ru_qaN, ru_pfN, ru_isN, ru_bsN, ru_jsN, ru_qsN, ru_set2, Nat.add_right_cancel_iff, if_true, if_false, ite_self, Int.reduceEq, and_self, Int.add_neg_cancel_right, Int.add_zero, Int.zero_add, pi_e hP, pq_f0 hP, h0, c]
  | succ d ih =>
    intro i hi
    have c : ((n : Int) - 1 ≤ (i : Int)) = False := eq_false (by omega)
    have hk := hK i (by omega)
    have hm := (mxF_sp K i (fun s hs => hK s (by omega))).1
    rw [← ih (i + 1) (by omega), e270_8]
    have em : mxF K (i + 1) = if K i ≤ mxF K i then mxF K i else K i := rfl
    rw [em]
    simp (disch := omega) only [e270_9, e270_10, e270_13, e270_14, e270_15, e270_18, e270_19, e270_20, e270_23, e270_24, e270_25, e270_28, e270_29, e270_32, ↓reduceIte, Bool.false_eq_true, not_false_eq_true, not_true_eq_false, Nat.reduceLeDiff, Nat.reduceAdd, Nat.reduceEqDiff, Int.reduceToNat, Int.toNat_natCast, iB0, iB1, ru_klI, ru_klR, ru_klF, ru_klJ, ru_kl0, ru_cs0, ru_csI, ru_csR, ru_csF, ru_csJ, wI_add, wI_sub, wI_mul, wI_lt, wI_le, wI_inj, ru_fdE, ru_fdN, ru_iaN, ru_baN, ru_laN, ru_qaN, ru_pfN, ru_isN, ru_bsN, ru_jsN, ru_qsN, ru_set2, Nat.add_right_cancel_iff, if_true, if_false, ite_self, Int.reduceEq, and_self, Int.add_neg_cancel_right, Int.add_zero, Int.zero_add, pi_e hP, pq_f0 hP, pi_f11 hP, pq_a9 hP, h0, c, m271, Int.natCast_add, Int.natCast_one]
theorem k270 (hP : isPi P) {q : tPh} {gap : Int} (hr : phR q) (hOK : piOK p q gap) : ∃ (n : Nat) (p' : tPi) (K : Nat → Int), piOK p' q gap ∧ gpI q n K ∧ ru_ev z 270 [.ref P] (clPut h (piPut C P p)) = some (.inl (some (.int (wI (mxF K (n - 1))))), clPut h (piPut C P p')) := by
  have hOK2 := hOK
  obtain ⟨n, eo, er, h0, hx, w1, w2, -⟩ := hOK2
  have hn := enO_12 w1
  by_cases e : n = 0
  · subst e
    refine ⟨0, p, fun _ => 0, hOK, ⟨eo, fun _ => 0, 0, fun _ => 0, w1, fun c => by omega⟩, ?_⟩
    have hA : ru_ev z 261 [.ref P] (clPut h (piPut C P p)) = some (.inl none, clPut h (piPut C P p)) := by
      have c1 : ((0 : Int) - 1 ≤ 0) = True := eq_true (by omega)
      simp (disch := omega) only [en261, e261_0, e261_1, e261_2, e261_3, e261_4, e261_7, e261_38, e261_39, e261_40, e261_41, e261_42, e261_43, e261_44, e261_47, e261_48, e261_49, e261_144, ↓reduceIte, Bool.false_eq_true, not_false_eq_true, not_true_eq_false, Nat.reduceLeDiff, Nat.reduceAdd, Nat.reduceEqDiff, Int.reduceToNat, Int.toNat_natCast, iB0, iB1, ru_klI, ru_klR, ru_klF, ru_klJ, ru_kl0, ru_cs0, ru_csI, ru_csR, ru_csF, ru_csJ, wI_add, wI_sub, wI_mul, wI_lt, wI_le, wI_inj, ru_fdE, ru_fdN, ru_iaN, ru_baN, ru_laN, ru_qaN, ru_pfN, ru_isN, ru_bsN, ru_jsN, ru_qsN, ru_set2, Nat.add_right_cancel_iff, if_true, if_false, ite_self, Int.reduceEq, and_self, Int.add_neg_cancel_right, Int.add_zero, Int.zero_add, pi_e hP, pi_f0 hP, pi_s0 hP, pi_f1 hP, pi_s1 hP, pi_f2 hP, pi_a0 hP, pi_w0 hP, pi_f3 hP, pi_a1 hP, pi_w1 hP, pi_f4 hP, pi_a2 hP, pi_w2 hP, pi_f5 hP, pi_a3 hP, pi_w3 hP, pi_f6 hP, pi_a4 hP, pi_w4 hP, pi_f7 hP, pi_a5 hP, pi_w5 hP, pi_f8 hP, pi_a6 hP, pi_w6 hP, pi_f9 hP, pi_a7 hP, pi_w7 hP, pi_f10 hP, pi_a8 hP, pi_w8 hP, pi_f11 hP, pi_a9 hP, pi_w9 hP, Int.reduceEq, ru_ctR, ru_ctI, upC_e, upC_n, upC_up, up1_e, up1_n, h0, Int.natCast_zero, Int.le_refl, c1]
    have em : mxF (fun _ => 0) (0 - 1) = 0 := rfl
    have c1 : ((0 : Int) - 1 ≤ 0) = True := eq_true (by omega)
    rw [em]
    simp (disch := omega) only [en270, e270_0, e270_1, e270_4, e270_5, e270_6, e270_7, e270_8, e270_9, e270_10, e270_13, e270_14, e270_15, e270_35, e270_36, ↓reduceIte, Bool.false_eq_true, not_false_eq_true, not_true_eq_false, Nat.reduceLeDiff, Nat.reduceAdd, Nat.reduceEqDiff, Int.reduceToNat, Int.toNat_natCast, iB0, iB1, ru_klI, ru_klR, ru_klF, ru_klJ, ru_kl0, ru_cs0, ru_csI, ru_csR, ru_csF, ru_csJ, wI_add, wI_sub, wI_mul, wI_lt, wI_le, wI_inj, ru_fdE, ru_fdN, ru_iaN, ru_baN, ru_laN, ru_qaN, ru_pfN, ru_isN, ru_bsN, ru_jsN, ru_qsN, ru_set2, Nat.add_right_cancel_iff, if_true, if_false, ite_self, Int.reduceEq, and_self, Int.add_neg_cancel_right, Int.add_zero, Int.zero_add, pi_e hP, pi_f0 hP, pi_s0 hP, pi_f1 hP, pi_s1 hP, pi_f2 hP, pi_a0 hP, pi_w0 hP, pi_f3 hP, pi_a1 hP, pi_w1 hP, pi_f4 hP, pi_a2 hP, pi_w2 hP, pi_f5 hP, pi_a3 hP, pi_w3 hP, pi_f6 hP, pi_a4 hP, pi_w4 hP, pi_f7 hP, pi_a5 hP, pi_w5 hP, pi_f8 hP, pi_a6 hP, pi_w6 hP, pi_f9 hP, pi_a7 hP, pi_w7 hP, pi_f10 hP, pi_a8 hP, pi_w8 hP, pi_f11 hP, pi_a9 hP, pi_w9 hP, Int.reduceEq, ru_ctR, ru_ctI, upC_e, upC_n, upC_up, up1_e, up1_n, h0, Int.natCast_zero, hA, c1]
  · obtain ⟨E, K, J, w, a1, a2⟩ := k261 (z := z) (h := h) (C := C) hP hr hOK h0 (by omega) w1 w2
    have hg : gpI q n K := ⟨eo, E, J, w, w1, fun _ => a1⟩
    have a3 := k270l (z := z) (h := h) (C := C) (p := p) (E := E) (K := K) hP hn (by omega) h0 (lk_rng hr hg) (n - 1) 0 (by omega)
    refine ⟨n, piQ p E K, K, piOK_Q hOK, hg, ?_⟩
    have e0 : mxF K 0 = 0 := rfl
    rw [e0, show ((0 : Nat) : Int) = 0 from rfl] at a3
    simp (disch := omega) only [en270, e270_0, e270_1, e270_4, e270_5, e270_6, e270_7, ↓reduceIte, Bool.false_eq_true, not_false_eq_true, not_true_eq_false, Nat.reduceLeDiff, Nat.reduceAdd, Nat.reduceEqDiff, Int.reduceToNat, Int.toNat_natCast, iB0, iB1, ru_klI, ru_klR, ru_klF, ru_klJ, ru_kl0, ru_cs0, ru_csI, ru_csR, ru_csF, ru_csJ, wI_add, wI_sub, wI_mul, wI_lt, wI_le, wI_inj, ru_fdE, ru_fdN, ru_iaN, ru_baN, ru_laN, ru_qaN, ru_pfN, ru_isN, ru_bsN, ru_jsN, ru_qsN, ru_set2, Nat.add_right_cancel_iff, if_true, if_false, ite_self, Int.reduceEq, and_self, Int.add_neg_cancel_right, Int.add_zero, Int.zero_add, pi_e hP, pi_f0 hP, pi_s0 hP, pi_f1 hP, pi_s1 hP, pi_f2 hP, pi_a0 hP, pi_w0 hP, pi_f3 hP, pi_a1 hP, pi_w1 hP, pi_f4 hP, pi_a2 hP, pi_w2 hP, pi_f5 hP, pi_a3 hP, pi_w3 hP, pi_f6 hP, pi_a4 hP, pi_w4 hP, pi_f7 hP, pi_a5 hP, pi_w5 hP, pi_f8 hP, pi_a6 hP, pi_w6 hP, pi_f9 hP, pi_a7 hP, pi_w7 hP, pi_f10 hP, pi_a8 hP, pi_w8 hP, pi_f11 hP, pi_a9 hP, pi_w9 hP, Int.reduceEq, ru_ctR, ru_ctI, upC_e, upC_n, upC_up, up1_e, up1_n, a2, a3]
end LINK2
