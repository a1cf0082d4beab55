/-! ===== copyNames: a row copied, the class ===== -/
section CPC
variable {z : Bool} {h : am_H} {C : tCl} {a b : Nat} {p1 p2 : tPi}
def stQ (C : tCl) (a : Nat) (p1 p2 : tPi) (q : tPh) : tCl := piPut (piPut (phP C a q) 1070 p1) 1081 p2
theorem stQ_1 {q : tPh} : stQ C a p1 p2 q = piPut (piPut (phP C a q) 1081 p2) 1070 p1 := piPut_comm
theorem stQ_p {q : tPh} (hfar : a + 4 < 1070 ∨ 1091 < a) : stQ C a p1 p2 q = phP (piPut (piPut C 1070 p1) 1081 p2) a q := by
  unfold stQ
  rw [pi_ph_sw (by omega), pi_ph_sw (by omega)]
theorem c368 {q qk : tPh} {r n : Nat} {D E N : Nat → Int} {len1 len2 : Int} (ha : isPh a) (hb : isPh b) (fa : a + 4 < 1070 ∨ 1091 < a) (fb : b + 4 < 1070 ∨ 1091 < b) (fab : a + 4 < b ∨ b + 4 < a) (hq : phR q) (hz : ∀ c, 4 ≤ c → q.2 c = fun _ => 0) (hk : cph C b = qk) (hkr : phR qk) (hr : r < 12)
    (e1 : p1.2 6 (r + 1) - p1.2 6 r = len1) (e2 : p2.2 6 (r + 1) - p2.2 6 r = len2) (g1 : 0 ≤ len1 ∧ len1 ≤ 12) (g2 : 0 ≤ len2 ∧ len2 ≤ 12) (hn : (if len1 ≤ len2 then len1 else len2) = (n : Int))
    (h1 : ∀ j, j < n → (0 ≤ p1.2 6 r + (j : Int) ∧ p1.2 6 r + (j : Int) < 12) ∧ p1.2 5 (p1.2 6 r + (j : Int)).toNat = D j ∧ 0 ≤ D j ∧ D j < q.1 7)
    (h2 : ∀ j, j < n → (0 ≤ p2.2 6 r + (j : Int) ∧ p2.2 6 r + (j : Int) < 12) ∧ p2.2 5 (p2.2 6 r + (j : Int)).toNat = E j ∧ 0 ≤ E j ∧ E j < 12 ∧ N j = qk.2 3 (E j).toNat) :
    ru_ev z 368 [.ref 1000, .ref a, .ref b, .int (wI r)] (clPut h (stQ C a p1 p2 q)) = some (.inl (some (.int (wI ((cpF D N n (q, 0)).2 : Nat)))), clPut h (stQ C a p1 p2 (cpF D N n (q, 0)).1)) := by
  have hn12 : n ≤ 12 := by split at hn <;> omega
  have hN : ∀ j, j < n → -1 ≤ N j ∧ N j ≤ 19 := fun j hj => by
    obtain ⟨-, -, -, -, e⟩ := h2 j hj
    have := phR_i hkr (E j).toNat
    rw [e]; omega
  have hat : ∀ q', phAt (clPut h (stQ C a p1 p2 q')) b qk := fun q' => by
    have := cl_ph (h := h) (C := stQ C a p1 p2 q') hb
    unfold stQ at this
    rw [piPut_ph (by omega), piPut_ph (by omega), phP_ph (by omega), hk] at this
    exact this
  have key : ∀ d j : Nat, j + d = n → ∀ l7 : Option Value, ru_n z 368 27 [some (.ref 1000), some (.ref a), some (.ref b), some (.int (wI r)), some (.int (wI n)), some (.int (wI ((cpF D N j (q, 0)).2 : Nat))), some (.int (wI j)), l7] [] (clPut h (stQ C a p1 p2 (cpF D N j (q, 0)).1)) = some (.inl (some (.int (wI ((cpF D N n (q, 0)).2 : Nat)))), clPut h (stQ C a p1 p2 (cpF D N n (q, 0)).1)) := by
    intro d
    induction d with
    | zero =>
      intro j hj l7
      obtain rfl : j = n := by omega
      simp (disch := omega) only [e368_27, e368_29, e368_31, e368_82, e368_84, ↓reduceIte, Bool.false_eq_true, not_false_eq_true, not_true_eq_false, Nat.reduceLeDiff, Nat.reduceAdd, Nat.reduceEqDiff, Int.reduceToNat, Int.toNat_natCast, iB0, iB1, ru_klI, ru_klR, ru_klF, ru_klJ, ru_kl0, ru_cs0, ru_csI, ru_csR, ru_csF, ru_csJ, wI_add, wI_sub, wI_mul, wI_lt, wI_le, wI_inj, ru_fdE, ru_fdN, ru_iaN, ru_baN, ru_laN, ru_qaN, ru_pfN, ru_isN, ru_bsN, ru_jsN, ru_qsN, ru_set2, Nat.add_right_cancel_iff, if_true, if_false, ite_self, Int.reduceEq, and_self, Int.add_neg_cancel_right, Int.add_zero, Int.zero_add, Int.le_refl]
    | succ d ih =>
      intro j hj l7
      have c : ((n : Int) ≤ (j : Int)) = False := eq_false (by omega)
      obtain ⟨a1, a2, a3, a4⟩ := h1 j (by omega)
      obtain ⟨b1, b2, b3, b4, b5⟩ := h2 j (by omega)
      obtain ⟨q1, q2, q3, q4, q5⟩ := cpF_R (D := D) (s := (q, 0)) hq hz j (fun i hi => hN i (by omega))
      have hNj := hN j (by omega)
      have m2 := k94 (z := z) (h := h) (C := piPut (phP C a (cpF D N j (q, 0)).1) 1070 p1) (P := 1081) (Or.inr rfl) (p := p2) (r := r) (j := (j : Int)) (by omega) b1.1 b1.2
      rw [b2] at m2
      have m1 := k94 (z := z) (h := h) (C := piPut (phP C a (cpF D N j (q, 0)).1) 1081 p2) (P := 1070) (Or.inl rfl) (p := p1) (r := r) (j := (j : Int)) (by omega) a1.1 a1.2
      rw [a2, ← stQ_1] at m1
      have m2 : ru_ev z 94 [.ref 1081, .int (wI r), .int (wI (j : Int))] (clPut h (stQ C a p1 p2 (cpF D N j (q, 0)).1)) = some (.inl (some (.int (wI (E j)))), clPut h (stQ C a p1 p2 (cpF D N j (q, 0)).1)) := m2
      have x3 := phA3 (hat (cpF D N j (q, 0)).1) b3 b4
      rw [← b5] at x3
      by_cases cn : N j = -1
      · have es : cpF D N (j + 1) (q, 0) = cpF D N j (q, 0) := if_pos cn
        have ih1 := ih (j + 1) (by omega)
        rw [es] at ih1
        simp only [Int.natCast_add, Int.natCast_one] at ih1
        have dn : (N j = -1) = True := eq_true cn
        rw [← ih1 (some (.int (wI (N j)))), e368_27]
        simp (disch := omega) only [e368_29, e368_31, e368_34, e368_35, e368_38, e368_39, e368_42, e368_43, e368_45, e368_48, e368_49, e368_51, e368_53, e368_54, e368_57, e368_58, e368_59, e368_62, e368_63, e368_65, e368_68, e368_70, e368_73, e368_76, e368_79, ↓reduceIte, Bool.false_eq_true, not_false_eq_true, not_true_eq_false, Nat.reduceLeDiff, Nat.reduceAdd, Nat.reduceEqDiff, Int.reduceToNat, Int.toNat_natCast, iB0, iB1, ru_klI, ru_klR, ru_klF, ru_klJ, ru_kl0, ru_cs0, ru_csI, ru_csR, ru_csF, ru_csJ, wI_add, wI_sub, wI_mul, wI_lt, wI_le, wI_inj, ru_fdE, ru_fdN, ru_iaN, ru_baN, ru_laN, ru_qaN, ru_pfN, ru_isN, ru_bsN, ru_jsN, ru_qsN, ru_set2, Nat.add_right_cancel_iff, if_true, if_false, ite_self, Int.reduceEq, and_self, Int.add_neg_cancel_right, Int.add_zero, Int.zero_add, cl_e0, cl_g0_4, cl_g0_5, c, m2, phF (hat (cpF D N j (q, 0)).1), x3, dn]
      · have es : cpF D N (j + 1) (q, 0) = (gvQ (cpF D N j (q, 0)).1 (D j).toNat (N j), (cpF D N j (q, 0)).2 + 1) := if_neg cn
        have ih1 := ih (j + 1) (by omega)
        rw [es] at ih1
        simp only [Int.natCast_add, Int.natCast_one] at ih1
        have dn : (N j = -1) = False := eq_false cn
        have m3 := k101 (z := z) (h := h) (C := piPut (piPut C 1070 p1) 1081 p2) (a := a) (q := (cpF D N j (q, 0)).1) ha q2 q1 (k := (D j).toNat) (by rw [q3]; show ((D j).toNat : Int) < q.1 7; omega) (nm := N j) hNj
        rw [← stQ_p fa, show (((D j).toNat : Nat) : Int) = D j by omega] at m3
        have m3 : ru_ev z 101 [.ref a, .int (wI (D j)), .int (wI (N j))] (clPut h (stQ C a p1 p2 (cpF D N j (q, 0)).1)) = some (.inl none, clPut h (stQ C a p1 p2 (gvQ (cpF D N j (q, 0)).1 (D j).toNat (N j)))) := by
          rw [m3, ← stQ_p fa]; rfl
        rw [← ih1 (some (.int (wI (N j)))), e368_27]
        simp (disch := omega) only [e368_29, e368_31, e368_34, e368_35, e368_38, e368_39, e368_42, e368_43, e368_45, e368_48, e368_49, e368_51, e368_53, e368_54, e368_57, e368_58, e368_59, e368_62, e368_63, e368_65, e368_68, e368_70, e368_73, e368_76, e368_79, ↓reduceIte, Bool.false_eq_true, not_false_eq_true, not_true_eq_false, Nat.reduceLeDiff, Nat.reduceAdd, Nat.reduceEqDiff, Int.reduceToNat, Int.toNat_natCast, iB0, iB1, ru_klI, ru_klR, ru_klF, ru_klJ, ru_kl0, ru_cs0, ru_csI, ru_csR, ru_csF, ru_csJ, wI_add, wI_sub, wI_mul, wI_lt, wI_le, wI_inj, ru_fdE, ru_fdN, ru_iaN, ru_baN, ru_laN, ru_qaN, ru_pfN, ru_isN, ru_bsN, ru_jsN, ru_qsN, ru_set2, Nat.add_right_cancel_iff, if_true, if_false, ite_self, Int.reduceEq, and_self, Int.add_neg_cancel_right, Int.add_zero, Int.zero_add, cl_e0, cl_g0_4, cl_g0_5, c, m2, m1, m3, phF (hat (cpF D N j (q, 0)).1), x3, dn]
  have k0 := key n 0 (by omega) none
  have y2 := k93 (z := z) (h := h) (C := piPut (phP C a q) 1070 p1) (P := 1081) (Or.inr rfl) (p := p2) hr
  rw [e2] at y2
  have y2 : ru_ev z 93 [.ref 1081, .int (wI r)] (clPut h (stQ C a p1 p2 q)) = some (.inl (some (.int (wI len2))), clPut h (stQ C a p1 p2 q)) := y2
  have y1 := k93 (z := z) (h := h) (C := piPut (phP C a q) 1081 p2) (P := 1070) (Or.inl rfl) (p := p1) hr
  rw [e1, ← stQ_1] at y1
  have y3 := m264 (z := z) (h := clPut h (stQ C a p1 p2 q)) (a := len1) (b := len2) (by omega) (by omega)
  rw [hn] at y3
  rw [show (((cpF D N 0 (q, 0)).2 : Nat) : Int) = 0 from rfl, show ((0 : Nat) : Int) = 0 from rfl] at k0
  simp (disch := omega) only [e368_0, e368_1, e368_4, e368_5, e368_8, e368_9, e368_12, e368_13, e368_16, e368_19, e368_21, e368_22, e368_24, e368_25, en368, ↓reduceIte, Bool.false_eq_true, not_false_eq_true, not_true_eq_false, Nat.reduceLeDiff, Nat.reduceAdd, Nat.reduceEqDiff, Int.reduceToNat, Int.toNat_natCast, iB0, iB1, ru_klI, ru_klR, ru_klF, ru_klJ, ru_kl0, ru_cs0, ru_csI, ru_csR, ru_csF, ru_csJ, wI_add, wI_sub, wI_mul, wI_lt, wI_le, wI_inj, ru_fdE, ru_fdN, ru_iaN, ru_baN, ru_laN, ru_qaN, ru_pfN, ru_isN, ru_bsN, ru_jsN, ru_qsN, ru_set2, Nat.add_right_cancel_iff, if_true, if_false, ite_self, Int.reduceEq, and_self, Int.add_neg_cancel_right, Int.add_zero, Int.zero_add, cl_e0, cl_g0_4, cl_g0_5, y1, y2, y3]
  exact k0
end CPC
