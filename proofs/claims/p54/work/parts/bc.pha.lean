/-! ===== phrases: the whole call ===== -/
section PHA
variable {z : Bool} {g : am_H} {M : tMd} {C : tCl} {cap L : Nat} {xs : Nat → Int32}
/-- the class's tail: recorded, and the draft laid over the photo -/
theorem ph_c {H : am_H} (hR : clR C) {n : Nat} (hn5 : n < 5) {C' : tCl} (hiC' : hiC C') (phC : phA C') (hal : alb C' = alb C) (hd : phR (cph C' 1065)) {l1 l2 : Option Value} {R : Nat} {S : am_H} {gv : Int} (k90 : ru_ev z 90 [.ref R] S = some (.inl (some (.int (wI gv))), clPut H C')) : ∃ (C1 : tCl) (qn : tPh), hsOK C' C1 (alb C' + 4) ∧ (∀ c, 4 ≤ c → qn.2 c = fun _ => 0) ∧ phR qn ∧ (∀ k, k < 8 → qn.1 k = (cph C' 1065).1 k) ∧ (∀ c i, c < 4 → i < 12 → qn.2 c i = (cph C' 1065).2 c i) ∧
    ru_n z 77 73 [some (.ref 1000), l1, l2, some (.ref (cAp C n)), some (.ref R), none] [] S = some (.inl (some (.int (wI gv))), clPut H (phP C1 (cAp C n) qn)) := by
  obtain ⟨-, -, -, -, hst, -, -, a1, a2⟩ := clA_k hR.1
  have hA2 : alb C = 1003 ∨ alb C = 1034 := by unfold alb; rcases hR.1 with ⟨e1, e2⟩ | ⟨e1, e2⟩ <;> omega
  have ha := cAp_ph hR.1 hn5
  obtain ⟨C1, k1, k2⟩ := c113 (z := z) (h := H) hiC' phC (s := alb C' + 4) (by rw [hal]; exact hst) (by rw [hal]; omega)
  have hfar : 1065 + 4 < cAp C n ∨ cAp C n + 4 < 1065 := by unfold cAp; omega
  obtain ⟨-, -, -, s', t1, t2, t3, t4, t5, t6, t7⟩ := id k1
  have ed : cph C1 1065 = cph C' 1065 := cph_eq ((t7 _ (by omega)).1 (by omega)) (fun c hc => (t7 _ (by omega)).2)
  have ea : cph C1 (cAp C n) = cph C' (cAp C n) := cph_eq ((t7 _ (by unfold cAp; omega)).1 (by unfold cAp; omega)) (fun c hc => (t7 _ (by unfold cAp; omega)).2)
  have era : phR (cph C' (cAp C n)) := by
    have := phC.1 _ hst n hn5
    rw [show alb C + 4 + 2 + 5 * n = cAp C n by unfold cAp; omega] at this
    exact this
  obtain ⟨q', cq, rq⟩ := k80 (z := z) (h := H) (C := C1) (a := cAp C n) (b := 1065) ha isPh_draft hfar (q := cph C1 (cAp C n)) (r := cph C1 1065) (by rw [ed]; exact hd) rfl
  rw [phP_get, phP_nz] at rq
  have hq := cpQ_R cq (C := C1) (a := cAp C n) (by rw [ea]; exact era) (by rw [ed]; exact hd)
  obtain ⟨qn, hqn⟩ : ∃ qn : tPh, qn = (q'.1, fun c => if c < 4 then q'.2 c else fun _ => 0) := ⟨_, rfl⟩
  have hz : ∀ c, 4 ≤ c → qn.2 c = fun _ => 0 := fun c hc => by rw [hqn]; exact if_neg (by omega)
  rw [phP_nz, ← hqn, phP_eq hz] at hq
  rw [← hqn] at rq
  have g0 : am_fd (clPut H C') 1000 0 1 = some (.ref (alb C')) := by rw [cl_g0_1]; rfl
  have g2 : am_fd (clPut H C') (alb C') 2 2 = some (.ref (alb C' + 4)) := (sprF (by rw [hal]; exact hA2)).2.2.2.1
  obtain ⟨w1, w2, w3, w4⟩ := cq
  refine ⟨C1, qn, k1, hz, hq, fun k hk => by rw [hqn]; show q'.1 k = _; rw [w1 k hk, ed], fun c i hc hi => by rw [hqn]; show (if c < 4 then q'.2 c else fun _ => 0) i = _; rw [if_pos hc, w3 c i hc hi, ed], ?_⟩
  simp (disch := omega) only [e77_73, e77_75, e77_78, e77_80, e77_81, e77_84, e77_85, e77_88, e77_91, e77_94, e77_95, e77_96, e77_99, e77_102, e77_104, ↓reduceIte, Bool.false_eq_true, not_false_eq_true, not_true_eq_false, Nat.reduceLeDiff, Nat.reduceAdd, Nat.reduceEqDiff, Int.reduceToNat, Int.toNat_natCast, iB0, iB1, ru_klI, ru_klR, ru_klF, ru_klJ, ru_kl0, ru_cs0, ru_csI, ru_csR, ru_csF, ru_csJ, wI_add, wI_sub, wI_mul, wI_lt, wI_le, wI_inj, ru_fdE, ru_fdN, ru_iaN, ru_baN, ru_laN, ru_qaN, ru_pfN, ru_isN, ru_bsN, ru_jsN, ru_qsN, ru_set2, Nat.add_right_cancel_iff, if_true, if_false, ite_self, Int.reduceEq, and_self, Int.add_neg_cancel_right, Int.add_zero, Int.zero_add, k90, cl_e0, cl_g0_3, cl_g0_6, g0, g2, k2, rq]
end PHA
