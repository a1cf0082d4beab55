/-! ===== acts: a name given or taken ===== -/
theorem phN_m1 {p : tPh} {N : Int} (hN : phN p N) (h0 : 0 ≤ N) {k : Nat} : phN (p.1, upC p.2 3 (up1 (p.2 3) k (-1))) N := by
  obtain ⟨a1, a2, a3, a4⟩ := hN
  have e : ∀ i, (upC p.2 3 (up1 (p.2 3) k (-1))) 3 i = if i = k then -1 else p.2 3 i := fun i => by
    rw [upC_e]
    by_cases c : i = k
    · rw [c, up1_e, if_pos rfl]
    · rw [up1_n c, if_neg c]
  refine ⟨fun i hi => ?_, fun i j hi hj he hne => ?_, a3, a4⟩
  · show (upC p.2 3 (up1 (p.2 3) k (-1))) 3 i < N
    rw [e i]
    split
    · omega
    · exact a1 i hi
  · have he' : (upC p.2 3 (up1 (p.2 3) k (-1))) 3 i = (upC p.2 3 (up1 (p.2 3) k (-1))) 3 j := he
    have hne' : ¬ (upC p.2 3 (up1 (p.2 3) k (-1))) 3 i = -1 := hne
    rw [e i] at he' hne'
    rw [e j] at he'
    by_cases c : i = k
    · rw [if_pos c] at hne'; exact absurd rfl hne'
    · rw [if_neg c] at he' hne'
      by_cases d : j = k
      · rw [if_pos d] at he'; exact absurd he' hne'
      · rw [if_neg d] at he'
        exact a2 i j hi hj he' hne'
theorem pheq_m1 {q p : tPh} (h : pheq q p) {k : Nat} : pheq (gvQ q k (-1)) (p.1, upC p.2 3 (up1 (p.2 3) k (-1))) := by
  refine ⟨h.1, fun c i hc hi => ?_⟩
  show upC q.2 3 (am_up (gvF (q.2 3) (-1) (q.1 7).toNat) k (-1)) c i = upC p.2 3 (up1 (p.2 3) k (-1)) c i
  by_cases e : c = 3
  · rw [e, upC_e, upC_e]
    by_cases e2 : i = k
    · rw [e2, up1_e, ru_upE]
    · rw [up1_n e2, ru_upN e2]
      unfold gvF
      have := h.2 3 i (by decide) hi
      by_cases c2 : i < (q.1 7).toNat ∧ q.2 3 i = -1
      · rw [if_pos c2, ← this, c2.2]
      · rw [if_neg c2]; exact this
  · rw [upC_n e, upC_n e]; exact h.2 c i hc hi
section AC5
variable {z : Bool} {B f : Nat} {A : tLw} {n : Nat} {g : Nat → Int32} {F L : Nat → List Nat} {C : tCl} {NN P : Nat}
/-- the class's answer to a gift, and what it leaves -/
theorem ac_giv {X : am_H} {t k : Nat} {nm : Int} (h : acI X B A n g t F L C NN P) (hf : f < P) (hk : (k : Int) < (A.2.1 f).1 7) (hnm : -1 ≤ nm ∧ nm < (NN : Int)) {Y : am_H} (hY : clI Y C) : ∃ C1, hsOK C C1 (alb C + 4) ∧ ru_ev z 364 [.ref 1000, .int (wI f), .int (wI k), .int (wI nm)] Y = some (.inl (some (.int (wI ((A.2.1 f).2 3 k)))), clPut Y (phP C1 (cAp C f) (gvQ (cph C (cAp C f)) k nm))) := by
  obtain ⟨rc, pq, rq, hf3, rp⟩ := ac_rc h hf
  obtain ⟨hl, hw, hc, hX, hI, hP, hb⟩ := id h
  obtain ⟨hR, hH, hA, hS, -⟩ := id hI
  have e7 := pq.1 7 (by decide)
  have rK : rcK C (f : Int) (k : Int) = 0 := by unfold rcK; rw [if_pos rc, if_pos (by rw [Int.toNat_natCast]; omega)]
  have h6 := hw.2.1
  have s := phR_s rq
  have rG : rcG C (f : Int) (k : Int) nm = 0 := by
    unfold rcG
    rw [if_pos rK]
    split
    · rfl
    · have := hS.2.1
      have := hP.1
      unfold rcN cNm
      rw [if_neg (by omega), if_pos (by omega)]
  obtain ⟨u, C1, q', k1, ⟨k2, k3⟩, k4⟩ := ch_get rG (c364 (z := z) (h := Y) hR hH hA (f := (f : Int)) (k := (k : Int)) (nm := nm) (by omega) (by omega) (by omega))
  simp only [Int.toNat_natCast] at k2 k3 k4
  rw [← hY] at k4
  rw [pq.2 3 k (by decide) (by omega)] at k3
  rw [k3] at k4
  have e9 : q' = gvQ (cph C (cAp C f)) k nm := k2
  rw [e9] at k4
  exact ⟨C1, k1, k4⟩
theorem act5 (hk : txK B n) {X : am_H} {t : Nat} (h : acI X B A n g t F L C NN P) (hf : f < P) (ht : t ≤ 900000) (hm : 0 < (A.2.1 f).1 7) {wd hg hd : Int32} : ∃ X', acO B n g F L NN P X t X' 2 0 0 ∧ ru_n z 412 71 [some (.ref 1000), some (.ref (B + 1)), some (.ref B), some (.int (wI 5)), some (.int (wI f)), some (.int wd), some (.int hg), some (.int hd), none, none, none, none, none, none, none, none] [] X = some (.inl (some (.int (wI 1))), X') := by
  obtain ⟨-, -, -, hf3, rp⟩ := ac_rc h hf
  obtain ⟨kB1, kB2, kB3⟩ := id hk
  have s := phR_s rp
  obtain ⟨m8, m8'⟩ := ac_m h hf
  obtain ⟨k, X1, v1, v2, k390, h1, e1⟩ := ac_drw (z := z) hk h (by omega) (lo := 0) (hi := (A.2.1 f).1 7 - 1) (by omega) (by omega) (by omega)
  obtain ⟨k, rfl⟩ : ∃ m : Nat, k = (m : Int) := ⟨k.toNat, by omega⟩
  have hw6 := h1.2.1.2.1
  obtain ⟨nm, X2, r1, r2, k390', h2, e2⟩ := ac_drw (z := z) hk h1 (by omega) (lo := -1) (hi := (NN : Int) - 1) (by omega) (by omega) (by omega)
  obtain ⟨rc, pq, rq, -, -⟩ := ac_rc h2 hf
  obtain ⟨hl, hw, hc, hX, hI, hP, hb⟩ := id h2
  obtain ⟨hR, hH, hA, -, -⟩ := id hI
  obtain ⟨hN, hw1, hw2, hw3, hw4⟩ := hw.2.2.2.2.2.2 f hf
  have f2 := yl_f2 h1.1.1
  rw [h1.2.1.1] at f2
  obtain ⟨m8a, m8b⟩ := ac_m h1 hf
  have rn := yl_n hl.1 hf3 (k := (k : Int)) (by omega) (by omega)
  rw [Int.toNat_natCast] at rn
  have w1 : wI 1 &&& 1 = wI 1 := by decide +kernel
  have d50 : ((5 : Int) = 0) = False := eq_false (by decide)
  have d51 : ((5 : Int) = 1) = False := eq_false (by decide)
  have d52 : ((5 : Int) = 2) = False := eq_false (by decide)
  have d53 : ((5 : Int) = 3) = False := eq_false (by decide)
  have d54 : ((5 : Int) = 4) = False := eq_false (by decide)
  have dm : ((A.2.1 f).1 7 ≤ 0) = False := eq_false (by omega)
  have pk := phR_i rp k
  by_cases c : 0 ≤ nm
  · have dn : (0 ≤ nm) = True := eq_true c
    obtain ⟨Y, y1, y2, y3⟩ := d413 (z := z) hl.1 hw.2.2.2.2.2.1 (f := f) (k := k) (nm := nm) hf3 (by omega) (by omega)
    have hcY : clI Y C := clI_same hc (fun q h1 h2 => y3.1 q (by omega))
    obtain ⟨C1, k1, k4⟩ := ac_giv (z := z) h2 hf (k := k) (nm := nm) (by omega) (by omega) hcY
    have y2' : ylP Y B (ylU A f (lgv (A.2.1 f) k nm)) := y2
    have O := ac_chg (C := C) (C1 := C1) (q' := gvQ (cph C (cAp C f)) k nm) (t := t + 1 + 1) hk h2 hf y2' (agA_e y3) (lgv_R rp (by omega)) (lgv_N rp hN (by omega)) rfl rfl (fun i hi => by rw [lgv_c (by decide)]; exact hw3 i hi) hw4 k1 (row_z (by decide)) (gvQ_R rq (by omega)) (lgv_q pq rp hN (by omega))
    have O2 := acO_t (X := X) (t := t) (dt' := 2) (c' := 0) (s' := 0) (by omega) (by rw [e2, e1]; omega) (by rw [e2, e1]; omega) O
    refine ⟨_, acO_m O2 (by omega) (by omega) (by omega), ?_⟩
    simp (disch := omega) only [e412_71, e412_72, e412_324, e412_325, e412_326, e412_373, e412_374, e412_375, e412_458, e412_459, e412_460, e412_554, e412_555, e412_556, e412_672, e412_673, e412_674, e412_677, e412_678, e412_681, e412_683, e412_684, e412_687, e412_688, e412_689, e412_690, e412_693, e412_695, e412_696, e412_697, e412_698, e412_701, e412_703, e412_704, e412_705, e412_706, e412_709, e412_710, e412_711, e412_714, e412_716, e412_717, e412_720, e412_722, e412_723, e412_725, e412_726, e412_728, e412_730, e412_733, e412_734, e412_737, e412_739, e412_740, e412_742, e412_743, e412_744, e412_747, e412_748, e412_750, e412_752, e412_754, e412_757, e412_758, e412_760, e412_762, e412_764, e412_767, e412_769, e412_772, e412_773, e412_776, e412_777, ↓reduceIte, Bool.false_eq_true, not_false_eq_true, not_true_eq_false, Nat.reduceLeDiff, Nat.reduceAdd, Nat.reduceEqDiff, Int.reduceToNat, Int.toNat_natCast, iB0, iB1, ru_klI, ru_klR, ru_klF, ru_klJ, ru_kl0, ru_cs0, ru_csI, ru_csR, ru_csF, ru_csJ, wI_add, wI_sub, wI_mul, wI_lt, wI_le, wI_inj, ru_fdE, ru_fdN, ru_iaN, ru_baN, ru_laN, ru_qaN, ru_pfN, ru_isN, ru_bsN, ru_jsN, ru_qsN, ru_set2, Nat.add_right_cancel_iff, if_true, if_false, ite_self, Int.reduceEq, and_self, Int.add_neg_cancel_right, Int.add_zero, Int.zero_add, yl_o h.1.1, yl_o h1.1.1, yl_o hl.1, m8, m8', k390, k390', f2, yl_f12 hl.1, yl_q21 hl.1 hf3, rn, y1, k4, d50, d51, d52, d53, d54, dm, dn, w1, not_true, not_false_iff]
  · obtain rfl : nm = -1 := by omega
    have dn : ((0 : Int) ≤ -1) = False := eq_false (by decide)
    obtain ⟨Y, y1, y2, y3⟩ := yl_wn hl.1 (k := (k : Int)) (v := -1) hf3 (by omega) (by omega)
    rw [Int.toNat_natCast] at y2
    have hcY : clI Y C := clI_same hc (fun q h1 h2 => y3.1 q (by omega))
    obtain ⟨C1, k1, k4⟩ := ac_giv (z := z) h2 hf (k := k) (nm := -1) (by omega) (by omega) hcY
    have O := ac_chg (C := C) (C1 := C1) (q' := gvQ (cph C (cAp C f)) k (-1)) (t := t + 1 + 1) hk h2 hf y2 (agA_e y3) (phR_row rp (by omega) (fun e => by omega) (fun _ => by omega)) (phN_m1 hN (by omega)) rfl rfl (fun i hi => hw3 i hi) hw4 k1 (row_z (by decide)) (gvQ_R rq (by omega)) (pheq_m1 pq)
    have O2 := acO_t (X := X) (t := t) (dt' := 2) (c' := 0) (s' := 0) (by omega) (by rw [e2, e1]; omega) (by rw [e2, e1]; omega) O
    refine ⟨_, acO_m O2 (by omega) (by omega) (by omega), ?_⟩
    simp (disch := omega) only [e412_71, e412_72, e412_324, e412_325, e412_326, e412_373, e412_374, e412_375, e412_458, e412_459, e412_460, e412_554, e412_555, e412_556, e412_672, e412_673, e412_674, e412_677, e412_678, e412_681, e412_683, e412_684, e412_687, e412_688, e412_689, e412_690, e412_693, e412_695, e412_696, e412_697, e412_698, e412_701, e412_703, e412_704, e412_705, e412_706, e412_709, e412_710, e412_711, e412_714, e412_716, e412_717, e412_720, e412_722, e412_723, e412_725, e412_726, e412_728, e412_730, e412_733, e412_734, e412_737, e412_739, e412_740, e412_742, e412_743, e412_744, e412_747, e412_748, e412_750, e412_752, e412_754, e412_757, e412_758, e412_760, e412_762, e412_764, e412_767, e412_769, e412_772, e412_773, e412_776, e412_777, ↓reduceIte, Bool.false_eq_true, not_false_eq_true, not_true_eq_false, Nat.reduceLeDiff, Nat.reduceAdd, Nat.reduceEqDiff, Int.reduceToNat, Int.toNat_natCast, iB0, iB1, ru_klI, ru_klR, ru_klF, ru_klJ, ru_kl0, ru_cs0, ru_csI, ru_csR, ru_csF, ru_csJ, wI_add, wI_sub, wI_mul, wI_lt, wI_le, wI_inj, ru_fdE, ru_fdN, ru_iaN, ru_baN, ru_laN, ru_qaN, ru_pfN, ru_isN, ru_bsN, ru_jsN, ru_qsN, ru_set2, Nat.add_right_cancel_iff, if_true, if_false, ite_self, Int.reduceEq, and_self, Int.add_neg_cancel_right, Int.add_zero, Int.zero_add, yl_o h.1.1, yl_o h1.1.1, yl_o hl.1, m8, m8', k390, k390', f2, yl_f12 hl.1, yl_q21 hl.1 hf3, rn, y1, k4, d50, d51, d52, d53, d54, dm, dn, w1, not_true, not_false_iff]
end AC5
