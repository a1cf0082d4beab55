/-! ===== mostSeen: the class ===== -/
/-- the row of the times that names are seen -/
abbrev seT (C : tCl) (T : Nat → Int) : tCl := upA C 1260 T
section SEEN3
variable {z : Bool} {h : am_H} {C : tCl}
theorem seT_get (C : tCl) : seT C (C.2.1 1260) = C := by
  refine Prod.ext rfl (Prod.ext (funext fun q => ?_) rfl)
  show (if q = 1260 then C.2.1 1260 else C.2.1 q) = C.2.1 q
  split
  · rename_i e; rw [e]
  · rfl
theorem seT_ph (T : Nat → Int) {a : Nat} (ha : a + 4 < 1260 ∨ 1260 < a + 1) : cph (seT C T) a = cph C a := cph_eq rfl (fun c hc => by
  show (if a + 1 + c = 1260 then T else C.2.1 (a + 1 + c)) = C.2.1 (a + 1 + c)
  rw [if_neg (by omega)])
theorem seT_a {T : Nat → Int} {i : Int} (h1 : 0 ≤ i) (h2 : i < 20) : am_ia (clPut h (seT C T)) 1260 (wI i) = some (wI (T i.toNat)) := by
  rw [cl_a (by decide +kernel) (by decide) h1 (by rw [show cln 1260 = 20 by decide +kernel]; exact h2) (by omega)]
  show some (wI ((if 1260 = 1260 then T else C.2.1 1260) i.toNat)) = _
  rw [if_pos rfl]
theorem seT_w {T : Nat → Int} {i v : Int} (h1 : 0 ≤ i) (h2 : i < 20) : am_is (clPut h (seT C T)) 1260 (wI i) (wI v) = some (clPut h (seT C (up1 T i.toNat v))) := by
  rw [cl_w (by decide +kernel) (by decide) h1 (by rw [show cln 1260 = 20 by decide +kernel]; exact h2) (by omega)]
  refine cl_cg (Prod.ext rfl (Prod.ext (funext fun b => ?_) rfl))
  show (if b = 1260 then (fun j => if j = i.toNat then v else (seT C T).2.1 1260 j) else (if b = 1260 then T else C.2.1 b)) = (if b = 1260 then up1 T i.toNat v else C.2.1 b)
  by_cases e : b = 1260
  · rw [if_pos e, if_pos e]
    funext j
    show (if j = i.toNat then v else (if 1260 = 1260 then T else C.2.1 1260) j) = up1 T i.toNat v j
    rw [if_pos rfl]; rfl
  · rw [if_neg e, if_neg e, if_neg e]
theorem seT_R (T : Nat → Int) (hR : clR C) : clR (seT C T) := by
  obtain ⟨-, -, -, -, hst, -, -, a1, a2⟩ := clA_k hR.1
  refine ⟨hR.1, hR.2.1, hR.2.2.1, hR.2.2.2.1, fun i hi => ?_⟩
  have e : cAp (seT C T) i = cAp C i := rfl
  rw [e, seT_ph T (by unfold cAp; omega)]
  exact hR.2.2.2.2 i hi
theorem seT_pw (T : Nat → Int) (hR : clR C) {k : Nat} (hk : k < 5) (n : Nat) : pwB (seT C T) n k = pwB C n k := by
  obtain ⟨-, -, -, -, hst, -, -, a1, a2⟩ := clA_k hR.1
  unfold pwB
  have e : cAp (seT C T) k = cAp C k := rfl
  rw [e, seT_ph T (by unfold cAp; omega)]
theorem c237z : ∀ d k : Nat, k + d = 20 → ∀ T : Nat → Int, (∀ i, i < k → T i = 0) → ∃ T' : Nat → Int, (∀ i, i < 20 → T' i = 0) ∧ ru_n z 237 2 [some (.ref 1000), some (.int (wI k)), none, none] [] (clPut h (seT C T)) = ru_n z 237 21 [some (.ref 1000), some (.int (wI 20)), none, none] [] (clPut h (seT C T')) := by
  intro d
  induction d with
  | zero =>
    intro k hk T hT
    obtain rfl : k = 20 := by omega
    refine ⟨T, hT, ?_⟩
    simp (disch := omega) only [e237_2, e237_3, e237_5, ↓reduceIte, Bool.false_eq_true, not_false_eq_true, not_true_eq_false, Nat.reduceLeDiff, Nat.reduceAdd, Nat.reduceEqDiff, Int.reduceToNat, Int.toNat_natCast, iB0, iB1, ru_klI, ru_klR, ru_klF, ru_klJ, ru_kl0, ru_cs0, ru_csI, ru_csR, ru_csF, ru_csJ, wI_add, wI_sub, wI_mul, wI_lt, wI_le, wI_inj, ru_fdE, ru_fdN, ru_iaN, ru_baN, ru_laN, ru_qaN, ru_pfN, ru_isN, ru_bsN, ru_jsN, ru_qsN, ru_set2, Nat.add_right_cancel_iff, if_true, if_false, ite_self, Int.reduceEq, and_self, Int.add_neg_cancel_right, Int.add_zero, Int.zero_add, show (((20 : Nat) : Int)) = 20 from rfl, Int.le_refl]
  | succ d ih =>
    intro k hk T hT
    have c : ((20 : Int) ≤ (k : Int)) = False := eq_false (by omega)
    obtain ⟨T', t1, t2⟩ := ih (k + 1) (by omega) (up1 T k 0) (fun i hi => by
      unfold up1
      split
      · rfl
      · exact hT i (by omega))
    refine ⟨T', t1, ?_⟩
    rw [← t2, e237_2]
    have w := seT_w (h := h) (C := C) (T := T) (i := (k : Int)) (v := 0) (by omega) (by omega)
    rw [Int.toNat_natCast] at w
    simp (disch := omega) only [e237_3, e237_5, e237_8, e237_9, e237_12, e237_13, e237_14, e237_15, e237_18, ↓reduceIte, Bool.false_eq_true, not_false_eq_true, not_true_eq_false, Nat.reduceLeDiff, Nat.reduceAdd, Nat.reduceEqDiff, Int.reduceToNat, Int.toNat_natCast, iB0, iB1, ru_klI, ru_klR, ru_klF, ru_klJ, ru_kl0, ru_cs0, ru_csI, ru_csR, ru_csF, ru_csJ, wI_add, wI_sub, wI_mul, wI_lt, wI_le, wI_inj, ru_fdE, ru_fdN, ru_iaN, ru_baN, ru_laN, ru_qaN, ru_pfN, ru_isN, ru_bsN, ru_jsN, ru_qsN, ru_set2, Nat.add_right_cancel_iff, if_true, if_false, ite_self, Int.reduceEq, and_self, Int.add_neg_cancel_right, Int.add_zero, Int.zero_add, cl_e0, cl_g0_9, c, w, Int.natCast_add, Int.natCast_one]
theorem c237i {s : Nat} (hs : s < 2147483648) {l1 : Option Value} : ∀ d n : Nat, n + d = 20 → ∀ T : Nat → Int, ∃ T' : Nat → Int, (∀ i, i < 20 → T' i = if i < n then T i else T i + (if s.testBit i = true then 1 else 0)) ∧ ru_n z 237 55 [some (.ref 1000), l1, some (.int (wI s)), some (.int (wI n))] [] (clPut h (seT C T)) = ru_n z 237 81 [some (.ref 1000), l1, some (.int (wI s)), some (.int (wI 20))] [] (clPut h (seT C T')) := by
  intro d
  induction d with
  | zero =>
    intro n hn T
    obtain rfl : n = 20 := by omega
    refine ⟨T, fun i hi => by rw [if_pos hi], ?_⟩
    simp (disch := omega) only [e237_55, e237_56, e237_58, ↓reduceIte, Bool.false_eq_true, not_false_eq_true, not_true_eq_false, Nat.reduceLeDiff, Nat.reduceAdd, Nat.reduceEqDiff, Int.reduceToNat, Int.toNat_natCast, iB0, iB1, ru_klI, ru_klR, ru_klF, ru_klJ, ru_kl0, ru_cs0, ru_csI, ru_csR, ru_csF, ru_csJ, wI_add, wI_sub, wI_mul, wI_lt, wI_le, wI_inj, ru_fdE, ru_fdN, ru_iaN, ru_baN, ru_laN, ru_qaN, ru_pfN, ru_isN, ru_bsN, ru_jsN, ru_qsN, ru_set2, Nat.add_right_cancel_iff, if_true, if_false, ite_self, Int.reduceEq, and_self, Int.add_neg_cancel_right, Int.add_zero, Int.zero_add, show (((20 : Nat) : Int)) = 20 from rfl, Int.le_refl]
  | succ d ih =>
    intro n hn T
    have c : ((20 : Int) ≤ (n : Int)) = False := eq_false (by omega)
    have x := seT_a (h := h) (C := C) (T := T) (i := (n : Int)) (by omega) (by omega)
    rw [Int.toNat_natCast] at x
    have w := seT_w (h := h) (C := C) (T := T) (i := (n : Int)) (v := T n + (if s.testBit n = true then 1 else 0)) (by omega) (by omega)
    rw [Int.toNat_natCast] at w
    have hb := wI_bit (s := s) (k := (n : Int)) hs (by omega) (by omega)
    rw [Int.toNat_natCast] at hb
    obtain ⟨T', t1, t2⟩ := ih (n + 1) (by omega) (up1 T n (T n + (if s.testBit n = true then 1 else 0)))
    refine ⟨T', fun i hi => ?_, ?_⟩
    · rw [t1 i hi]
      by_cases e : i = n
      · rw [e, if_pos (Nat.lt_succ_self _), if_neg (Nat.lt_irrefl _), up1_e]
      · rw [up1_n e]
        by_cases e2 : i < n
        · rw [if_pos e2, if_pos (by omega)]
        · rw [if_neg e2, if_neg (by omega)]
    · rw [← t2, e237_55]
      simp (disch := omega) only [e237_56, e237_58, e237_61, e237_62, e237_65, e237_66, e237_67, e237_68, e237_69, e237_70, e237_71, e237_72, e237_73, e237_74, e237_75, e237_78, ↓reduceIte, Bool.false_eq_true, not_false_eq_true, not_true_eq_false, Nat.reduceLeDiff, Nat.reduceAdd, Nat.reduceEqDiff, Int.reduceToNat, Int.toNat_natCast, iB0, iB1, ru_klI, ru_klR, ru_klF, ru_klJ, ru_kl0, ru_cs0, ru_csI, ru_csR, ru_csF, ru_csJ, wI_add, wI_sub, wI_mul, wI_lt, wI_le, wI_inj, ru_fdE, ru_fdN, ru_iaN, ru_baN, ru_laN, ru_qaN, ru_pfN, ru_isN, ru_bsN, ru_jsN, ru_qsN, ru_set2, Nat.add_right_cancel_iff, if_true, if_false, ite_self, Int.reduceEq, and_self, Int.add_neg_cancel_right, Int.add_zero, Int.zero_add, cl_e0, cl_g0_9, c, x, hb, w, Int.natCast_add, Int.natCast_one]
      exact if_pos ⟨rfl, rfl⟩
theorem c237l (hR : clR C) {m : Nat} (hm : cPm C = (m : Int)) : ∀ d k : Nat, k + d = m → ∀ (T : Nat → Int) (l2 l3 : Option Value), ∃ T' : Nat → Int, ((∀ i, i < 20 → T i = (cnB (pwB C i) k : Nat)) → ∀ i, i < 20 → T' i = (cnB (pwB C i) m : Nat)) ∧ ru_n z 237 23 [some (.ref 1000), some (.int (wI k)), l2, l3] [] (clPut h (seT C T)) = some (.inl none, clPut h (seT C T')) := by
  have r := hR.2.1
  obtain ⟨-, -, -, -, hst, -, -, a1, a2⟩ := clA_k hR.1
  obtain ⟨s1, s2, s3, s4⟩ := isSt_k hst
  intro d
  induction d with
  | zero =>
    intro k hk T l2 l3
    obtain rfl : k = m := by omega
    refine ⟨T, fun hT => hT, ?_⟩
    have hF := clF (C := seT C T) (seT_R T hR).1 (h := h)
    rw [show alb (seT C T) = alb C from rfl, show cPm (seT C T) = cPm C from rfl] at hF
    have c : (cPm C ≤ (k : Int)) = True := eq_true (by omega)
    simp (disch := omega) only [e237_23, e237_24, e237_25, e237_28, e237_31, e237_34, e237_87, ↓reduceIte, Bool.false_eq_true, not_false_eq_true, not_true_eq_false, Nat.reduceLeDiff, Nat.reduceAdd, Nat.reduceEqDiff, Int.reduceToNat, Int.toNat_natCast, iB0, iB1, ru_klI, ru_klR, ru_klF, ru_klJ, ru_kl0, ru_cs0, ru_csI, ru_csR, ru_csF, ru_csJ, wI_add, wI_sub, wI_mul, wI_lt, wI_le, wI_inj, ru_fdE, ru_fdN, ru_iaN, ru_baN, ru_laN, ru_qaN, ru_pfN, ru_isN, ru_bsN, ru_jsN, ru_qsN, ru_set2, Nat.add_right_cancel_iff, if_true, if_false, ite_self, Int.reduceEq, and_self, Int.add_neg_cancel_right, Int.add_zero, Int.zero_add, cl_e0, hF, c]
  | succ d ih =>
    intro k hk T l2 l3
    have hRT := seT_R T hR
    have hF := clF (C := seT C T) hRT.1 (h := h)
    rw [show alb (seT C T) = alb C from rfl, show cPm (seT C T) = cPm C from rfl] at hF
    have c : (cPm C ≤ (k : Int)) = False := eq_false (by omega)
    have q5 := cl_q5 (h := h) (C := seT C T) (i := (k : Int)) s2 (by omega) (by omega) (by omega)
    rw [show alb C + 4 + 1 + 1 + 5 * (k : Int).toNat = cAp C k by unfold cAp; omega] at q5
    have hp := cl_ph (h := h) (C := seT C T) (cAp_ph hR.1 (i := k) (by omega))
    rw [seT_ph T (by unfold cAp; omega)] at hp
    have hq := hR.2.2.2.2 k (by omega)
    have b2 := nmN_lt hq ((cph C (cAp C k)).1 7).toNat
    obtain ⟨T1, t1, t2⟩ := c237i (z := z) (h := h) (C := C) (s := nmN (cph C (cAp C k)) ((cph C (cAp C k)).1 7).toNat) (by omega) (l1 := some (.int (wI k))) 20 0 (by omega) T
    obtain ⟨T', u1, u2⟩ := ih (k + 1) (by omega) T1 (some (.int (wI (nmN (cph C (cAp C k)) ((cph C (cAp C k)).1 7).toNat : Nat)))) (some (.int (wI 20)))
    refine ⟨T', fun hT => u1 (fun i hi => ?_), ?_⟩
    · rw [t1 i hi, if_neg (Nat.not_lt_zero _), hT i hi]
      show _ = ((cnB (pwB C i) k + (if pwB C i k = true then 1 else 0) : Nat) : Int)
      unfold pwB
      split <;> simp
    · rw [show ((0 : Nat) : Int) = 0 from rfl] at t2
      simp only [Int.natCast_add, Int.natCast_one] at u2
      rw [← u2, e237_23]
      simp (disch := omega) only [e237_24, e237_25, e237_28, e237_31, e237_34, e237_37, e237_38, e237_41, e237_44, e237_47, e237_48, e237_49, e237_52, e237_53, e237_54, ↓reduceIte, Bool.false_eq_true, not_false_eq_true, not_true_eq_false, Nat.reduceLeDiff, Nat.reduceAdd, Nat.reduceEqDiff, Int.reduceToNat, Int.toNat_natCast, iB0, iB1, ru_klI, ru_klR, ru_klF, ru_klJ, ru_kl0, ru_cs0, ru_csI, ru_csR, ru_csF, ru_csJ, wI_add, wI_sub, wI_mul, wI_lt, wI_le, wI_inj, ru_fdE, ru_fdN, ru_iaN, ru_baN, ru_laN, ru_qaN, ru_pfN, ru_isN, ru_bsN, ru_jsN, ru_qsN, ru_set2, Nat.add_right_cancel_iff, if_true, if_false, ite_self, Int.reduceEq, and_self, Int.add_neg_cancel_right, Int.add_zero, Int.zero_add, cl_e0, hF, c, q5, m228 hp hq]
      rw [t2]
      simp (disch := omega) only [e237_81, e237_84, ↓reduceIte, Bool.false_eq_true, not_false_eq_true, not_true_eq_false, Nat.reduceLeDiff, Nat.reduceAdd, Nat.reduceEqDiff, Int.reduceToNat, Int.toNat_natCast, iB0, iB1, ru_klI, ru_klR, ru_klF, ru_klJ, ru_kl0, ru_cs0, ru_csI, ru_csR, ru_csF, ru_csJ, wI_add, wI_sub, wI_mul, wI_lt, wI_le, wI_inj, ru_fdE, ru_fdN, ru_iaN, ru_baN, ru_laN, ru_qaN, ru_pfN, ru_isN, ru_bsN, ru_jsN, ru_qsN, ru_set2, Nat.add_right_cancel_iff, if_true, if_false, ite_self, Int.reduceEq, and_self, Int.add_neg_cancel_right, Int.add_zero, Int.zero_add]
theorem c237 (hR : clR C) : ∃ T : Nat → Int, (∀ i, i < 20 → T i = (cnB (pwB C i) (cPm C).toNat : Nat)) ∧ ru_ev z 237 [.ref 1000] (clPut h C) = some (.inl none, clPut h (seT C T)) := by
  have r := hR.2.1
  obtain ⟨T1, t1, t2⟩ := c237z (z := z) (h := h) (C := C) 20 0 (by omega) (C.2.1 1260) (fun i hi => absurd hi (Nat.not_lt_zero _))
  obtain ⟨T2, u1, u2⟩ := c237l (z := z) (h := h) hR (m := (cPm C).toNat) (by omega) (cPm C).toNat 0 (by omega) T1 none none
  refine ⟨T2, u1 (fun i hi => t1 i hi), ?_⟩
  rw [seT_get, show ((0 : Nat) : Int) = 0 from rfl] at t2
  rw [show ((0 : Nat) : Int) = 0 from rfl] at u2
  simp (disch := omega) only [e237_0, e237_1, en237, ↓reduceIte, Bool.false_eq_true, not_false_eq_true, not_true_eq_false, Nat.reduceLeDiff, Nat.reduceAdd, Nat.reduceEqDiff, Int.reduceToNat, Int.toNat_natCast, iB0, iB1, ru_klI, ru_klR, ru_klF, ru_klJ, ru_kl0, ru_cs0, ru_csI, ru_csR, ru_csF, ru_csJ, wI_add, wI_sub, wI_mul, wI_lt, wI_le, wI_inj, ru_fdE, ru_fdN, ru_iaN, ru_baN, ru_laN, ru_qaN, ru_pfN, ru_isN, ru_bsN, ru_jsN, ru_qsN, ru_set2, Nat.add_right_cancel_iff, if_true, if_false, ite_self, Int.reduceEq, and_self, Int.add_neg_cancel_right, Int.add_zero, Int.zero_add, cl_e0]
  rw [t2]
  simp (disch := omega) only [e237_21, e237_22, ↓reduceIte, Bool.false_eq_true, not_false_eq_true, not_true_eq_false, Nat.reduceLeDiff, Nat.reduceAdd, Nat.reduceEqDiff, Int.reduceToNat, Int.toNat_natCast, iB0, iB1, ru_klI, ru_klR, ru_klF, ru_klJ, ru_kl0, ru_cs0, ru_csI, ru_csR, ru_csF, ru_csJ, wI_add, wI_sub, wI_mul, wI_lt, wI_le, wI_inj, ru_fdE, ru_fdN, ru_iaN, ru_baN, ru_laN, ru_qaN, ru_pfN, ru_isN, ru_bsN, ru_jsN, ru_qsN, ru_set2, Nat.add_right_cancel_iff, if_true, if_false, ite_self, Int.reduceEq, and_self, Int.add_neg_cancel_right, Int.add_zero, Int.zero_add, am_kl]
  exact u2
end SEEN3
