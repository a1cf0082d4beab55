/-! ===== acts: a person added ===== -/
section AC4
variable {z : Bool} {B f : Nat} {A : tLw} {n : Nat} {g : Nat → Int32} {F L : Nat → List Nat} {C : tCl} {NN P : Nat}
/-- the law's photo with a person more -/
def laQ (q : tPh) (m : Nat) (px py : Int) : tPh := (up1 q.1 7 ((m : Int) + 1), upC (upC (upC q.2 0 (up1 (q.2 0) m px)) 1 (up1 (q.2 1) m py)) 3 (up1 (q.2 3) m (-1)))
theorem laQ_c {q : tPh} {m : Nat} {px py : Int} : (laQ q m px py).2 0 = up1 (q.2 0) m px ∧ (laQ q m px py).2 1 = up1 (q.2 1) m py ∧ (laQ q m px py).2 2 = q.2 2 ∧ (laQ q m px py).2 3 = up1 (q.2 3) m (-1) ∧ (laQ q m px py).1 7 = m + 1 ∧ ∀ k, k ≠ 7 → (laQ q m px py).1 k = q.1 k := ⟨rfl, rfl, rfl, rfl, rfl, fun k hk => up1_n hk⟩
theorem laQ_R {q : tPh} {m : Nat} {px py : Int} (hr : phR q) (hm : m < 12) (hx : 0 ≤ px ∧ px ≤ 999) (hy : 0 ≤ py ∧ py ≤ 999) : phR (laQ q m px py) := by
  have a1 := phR_row (c := 0) (k := m) (v := px) hr (by omega) (fun e => by omega) (fun e => by omega)
  have a2 := phR_row (c := 1) (k := m) (v := py) a1 (by omega) (fun e => by omega) (fun e => by omega)
  have a3 := phR_row (c := 3) (k := m) (v := -1) a2 (by omega) (fun e => by omega) (fun e => by omega)
  have a4 := phR_up (k := 7) (v := (m : Int) + 1) a3 (by omega) (fun e => by omega) (fun _ => by omega)
  exact a4
theorem laQ_N {q : tPh} {m : Nat} {px py N : Int} (hm : q.1 7 = (m : Int)) (hN : phN q N) (h0 : 0 ≤ N) : phN (laQ q m px py) N := by
  obtain ⟨a1, a2, a3, a4⟩ := hN
  obtain ⟨-, -, -, c3, c7, ck⟩ := laQ_c (q := q) (m := m) (px := px) (py := py)
  refine ⟨fun i hi => ?_, fun i j hi hj he hne => ?_, by rw [ck 2 (by decide), ck 4 (by decide)]; exact a3, by rw [ck 3 (by decide), ck 5 (by decide)]; exact a4⟩
  · rw [c7] at hi
    rw [c3]
    by_cases c : i = m
    · rw [c, up1_e]; omega
    · rw [up1_n c]; exact a1 i (by omega)
  · rw [c7] at hi hj
    rw [c3] at he hne
    by_cases c : i = m
    · rw [c, up1_e] at hne; exact absurd rfl hne
    · rw [up1_n c] at he hne
      by_cases d : j = m
      · rw [d, up1_e] at he; exact absurd he hne
      · rw [up1_n d] at he
        exact a2 i j (by omega) (by omega) he hne
theorem laQ_E {q p : tPh} {m : Nat} {px py : Int} (h : pheq q p) (hm : p.1 7 = (m : Int)) (ha : ∀ i : Nat, p.1 7 ≤ (i : Int) → p.2 2 i = 0) : pheq (adQ q px py) (laQ p m px py) := by
  have e7 := h.1 7 (by decide)
  have em : (q.1 7).toNat = m := by omega
  obtain ⟨c0, c1, c2, c3, c7, ck⟩ := laQ_c (q := p) (m := m) (px := px) (py := py)
  obtain ⟨d0, d1, d2, d3, -, d7, dk⟩ := adQ_c (q := q) (px := px) (py := py)
  rw [em] at d0 d1 d2 d3
  refine ⟨fun k hk => ?_, fun c i hc hi => ?_⟩
  · by_cases e : k = 7
    · subst e; rw [d7, c7]; omega
    · rw [dk k e, ck k e]; exact h.1 k hk
  · rw [d7] at hi
    have : c = 0 ∨ c = 1 ∨ c = 2 ∨ c = 3 := by omega
    rcases this with rfl | rfl | rfl | rfl
    · rw [d0, c0]
      by_cases e : i = m
      · rw [e, up1_e, up1_e]
      · rw [up1_n e, up1_n e]; exact h.2 0 i (by decide) (by omega)
    · rw [d1, c1]
      by_cases e : i = m
      · rw [e, up1_e, up1_e]
      · rw [up1_n e, up1_n e]; exact h.2 1 i (by decide) (by omega)
    · rw [d2, c2]
      by_cases e : i = m
      · rw [e, up1_e, ha m (by omega)]
      · rw [up1_n e]; exact h.2 2 i (by decide) (by omega)
    · rw [d3, c3]
      by_cases e : i = m
      · rw [e, up1_e, up1_e]
      · rw [up1_n e, up1_n e]; exact h.2 3 i (by decide) (by omega)
theorem act4 (hk : txK B n) {X : am_H} {t : Nat} (h : acI X B A n g t F L C NN P) (hf : f < P) (ht : t ≤ 900000) (hm : (A.2.1 f).1 7 < 12) {hd : Int32} : ∃ X', acO B n g F L NN P X t X' 2 0 0 ∧ ru_n z 412 71 [some (.ref 1000), some (.ref (B + 1)), some (.ref B), some (.int (wI 4)), some (.int (wI f)), some (.int (wI ((A.2.1 f).1 4 - (A.2.1 f).1 2))), some (.int (wI ((A.2.1 f).1 5 - (A.2.1 f).1 3))), some (.int hd), none, none, none, none, none, none, none, none] [] X = some (.inl (some (.int (wI 1))), X') := by
  obtain ⟨-, -, -, hf3, rp⟩ := ac_rc h hf
  obtain ⟨kB1, kB2, kB3⟩ := id hk
  have s := phR_s rp
  obtain ⟨m, hm7⟩ : ∃ m : Nat, (A.2.1 f).1 7 = (m : Int) := ⟨((A.2.1 f).1 7).toNat, by omega⟩
  obtain ⟨m8, m8'⟩ := ac_m h hf
  have fr := (h.2.1.2.2.2.2.2.2 f hf).1.2.2
  obtain ⟨px, X1, v1, v2, k390, h1, e1⟩ := ac_drw (z := z) hk h (by omega) (lo := 0) (hi := (A.2.1 f).1 4 - (A.2.1 f).1 2) (by omega) (by omega) (by omega)
  obtain ⟨py, X2, r1, r2, k390', h2, e2⟩ := ac_drw (z := z) hk h1 (by omega) (lo := 0) (hi := (A.2.1 f).1 5 - (A.2.1 f).1 3) (by omega) (by omega) (by omega)
  obtain ⟨rc, pq, rq, -, -⟩ := ac_rc h2 hf
  obtain ⟨hl, hw, hc, hX, hI, hP, hb⟩ := id h2
  obtain ⟨hR, hH, hA, -, -⟩ := id hI
  obtain ⟨hN, hw1, hw2, hw3, hw4⟩ := hw.2.2.2.2.2.2 f hf
  obtain ⟨x, hx⟩ : ∃ x : Int, x = adX (A.2.1 f) px := ⟨_, rfl⟩
  have hxr : 0 ≤ x ∧ x ≤ 999 := by rw [hx]; unfold adX; split <;> omega
  obtain ⟨Y, y1, y2, y3⟩ := d398 (z := z) hl.1 hw.2.2.2.2.2.1 (f := f) (m := m) (px := x) (py := (A.2.1 f).1 3 + py) hf3 hm7 (by omega)
  have y2' : ylP Y B (ylU A f (laQ (A.2.1 f) m x ((A.2.1 f).1 3 + py))) := y2
  have hcY : clI Y C := clI_same hc (fun q h1 h2 => y3.1 q (by omega))
  have e7 := pq.1 7 (by decide)
  have e4 := pq.1 4 (by decide)
  have e2' := pq.1 2 (by decide)
  have e5 := pq.1 5 (by decide)
  have e3 := pq.1 3 (by decide)
  have rA : (if rcP C (f : Int) = 0 then acR (cph C (cAp C ((f : Int)).toNat)) px py else rcP C (f : Int)) = 0 := by
    rw [if_pos rc, Int.toNat_natCast]
    unfold acR
    rw [if_neg (by omega), if_pos ⟨by omega, by omega, by omega⟩]
  obtain ⟨u, C1, q', k1, ⟨k2, k3⟩, k4⟩ := ch_get rA (c361 (z := z) (h := Y) hR hH hA (f := (f : Int)) (x := px) (y := py) (by omega) (by omega) (by omega))
  simp only [Int.toNat_natCast] at k2 k3 k4
  rw [← hcY] at k4
  have ex : adX (cph C (cAp C f)) px = x := by rw [hx]; exact (adX_eq pq).symm
  rw [ex, e3] at k2
  have O := ac_chg (C := C) (C1 := C1) (q' := q') (t := t + 1 + 1) hk h2 hf y2' (agA_e y3) (laQ_R rp (by omega) hxr (by omega)) (laQ_N hm7 hN (by omega)) rfl rfl (fun i hi => by
    rw [laQ_c.2.2.2.2.1] at hi
    rw [laQ_c.2.2.1]
    exact hw3 i (by omega)) (by rw [laQ_c.2.2.2.2.2 4 (by decide), laQ_c.2.2.2.2.2 0 (by decide)]; exact hw4) k1 (by rw [k2]; exact fun c hc => by rw [adQ_c.2.2.2.2.1 c hc]; exact cph_hi C _ c hc) (by rw [k2]; exact adQ_R rq (by omega) hxr (by omega)) (by rw [k2]; exact laQ_E pq hm7 hw3)
  have O2 := acO_t (X := X) (t := t) (dt' := 2) (c' := 0) (s' := 0) (by omega) (by rw [e2, e1]; omega) (by rw [e2, e1]; omega) O
  refine ⟨_, acO_m O2 (by omega) (by omega) (by omega), ?_⟩
  have hy9 : ylP (clPut Y (phP C1 (cAp C f) q')) B (ylU A f (laQ (A.2.1 f) m x ((A.2.1 f).1 3 + py))) := ylP_ag y2' (fun q h1 h2 => by rw [clPut_o (by omega)])
  have r8 := yl_8 hy9 hf3
  rw [ylU_s, laQ_c.2.2.2.2.1] at r8
  have r25 := yl_25 hl.1 hf3
  have g2 := yl_fr hl.1 hf3 (k := 2) (by omega) (by omega)
  have g0 := yl_fr hl.1 hf3 (k := 0) (by omega) (by omega)
  have g1 := yl_fr hl.1 hf3 (k := 1) (by omega) (by omega)
  simp only [Int.reduceToNat, Nat.reduceAdd] at g0 g1 g2
  have w1 : wI 1 &&& 1 = wI 1 := by decide +kernel
  have d40 : ((4 : Int) = 0) = False := eq_false (by decide)
  have d41 : ((4 : Int) = 1) = False := eq_false (by decide)
  have d42 : ((4 : Int) = 2) = False := eq_false (by decide)
  have d43 : ((4 : Int) = 3) = False := eq_false (by decide)
  have dm : ((12 : Int) ≤ (A.2.1 f).1 7) = False := eq_false (by omega)
  have d0 : ((0 : Int) = 0) = True := eq_true rfl
  have d1 : ((1 : Int) = 0) = False := eq_false (by decide)
  have eu : u = (m : Int) + 1 - 1 := by omega
  rw [eu] at k4
  have : (A.2.1 f).1 6 = 0 ∨ (A.2.1 f).1 6 = 1 := by omega
  unfold adX at hx
  rcases this with e | e
  · rw [e] at r25
    rw [if_neg (by omega)] at hx
    rw [hx] at y1
    simp (disch := omega) only [e412_71, e412_72, e412_324, e412_325, e412_326, e412_373, e412_374, e412_375, e412_458, e412_459, e412_460, e412_554, e412_555, e412_556, e412_559, e412_560, e412_563, e412_565, e412_566, e412_568, e412_571, e412_572, e412_573, e412_575, e412_578, e412_580, e412_581, e412_582, e412_584, e412_587, e412_589, e412_590, e412_592, e412_593, e412_596, e412_598, e412_599, e412_602, e412_603, e412_606, e412_608, e412_609, e412_610, e412_611, e412_613, e412_614, e412_617, e412_618, e412_621, e412_623, e412_624, e412_625, e412_626, e412_628, e412_629, e412_630, e412_633, e412_635, e412_636, e412_637, e412_638, e412_640, e412_641, e412_644, e412_645, e412_647, e412_649, e412_651, e412_654, e412_655, e412_658, e412_660, e412_661, e412_662, e412_663, e412_666, e412_667, e412_670, e412_671, ↓reduceIte, Bool.false_eq_true, not_false_eq_true, not_true_eq_false, Nat.reduceLeDiff, Nat.reduceAdd, Nat.reduceEqDiff, Int.reduceToNat, Int.toNat_natCast, iB0, iB1, ru_klI, ru_klR, ru_klF, ru_klJ, ru_kl0, ru_cs0, ru_csI, ru_csR, ru_csF, ru_csJ, wI_add, wI_sub, wI_mul, wI_lt, wI_le, wI_inj, ru_fdE, ru_fdN, ru_iaN, ru_baN, ru_laN, ru_qaN, ru_pfN, ru_isN, ru_bsN, ru_jsN, ru_qsN, ru_set2, Nat.add_right_cancel_iff, if_true, if_false, ite_self, Int.reduceEq, and_self, Int.add_neg_cancel_right, Int.add_zero, Int.zero_add, yl_o h.1.1, yl_o h1.1.1, yl_o hl.1, yl_o hy9, m8, m8', k390, k390', yl_f13 hl.1, yl_f9 hl.1, yl_q9 hl.1 hf3, yl_f8 hy9, r8, r25, g0, g1, g2, y1, k4, d40, d41, d42, d43, dm, d0, d1, w1, not_true, not_false_iff]
  · rw [e] at r25
    rw [if_pos e] at hx
    rw [hx] at y1
    simp (disch := omega) only [e412_71, e412_72, e412_324, e412_325, e412_326, e412_373, e412_374, e412_375, e412_458, e412_459, e412_460, e412_554, e412_555, e412_556, e412_559, e412_560, e412_563, e412_565, e412_566, e412_568, e412_571, e412_572, e412_573, e412_575, e412_578, e412_580, e412_581, e412_582, e412_584, e412_587, e412_589, e412_590, e412_592, e412_593, e412_596, e412_598, e412_599, e412_602, e412_603, e412_606, e412_608, e412_609, e412_610, e412_611, e412_613, e412_614, e412_617, e412_618, e412_621, e412_623, e412_624, e412_625, e412_626, e412_628, e412_629, e412_630, e412_633, e412_635, e412_636, e412_637, e412_638, e412_640, e412_641, e412_644, e412_645, e412_647, e412_649, e412_651, e412_654, e412_655, e412_658, e412_660, e412_661, e412_662, e412_663, e412_666, e412_667, e412_670, e412_671, ↓reduceIte, Bool.false_eq_true, not_false_eq_true, not_true_eq_false, Nat.reduceLeDiff, Nat.reduceAdd, Nat.reduceEqDiff, Int.reduceToNat, Int.toNat_natCast, iB0, iB1, ru_klI, ru_klR, ru_klF, ru_klJ, ru_kl0, ru_cs0, ru_csI, ru_csR, ru_csF, ru_csJ, wI_add, wI_sub, wI_mul, wI_lt, wI_le, wI_inj, ru_fdE, ru_fdN, ru_iaN, ru_baN, ru_laN, ru_qaN, ru_pfN, ru_isN, ru_bsN, ru_jsN, ru_qsN, ru_set2, Nat.add_right_cancel_iff, if_true, if_false, ite_self, Int.reduceEq, and_self, Int.add_neg_cancel_right, Int.add_zero, Int.zero_add, yl_o h.1.1, yl_o h1.1.1, yl_o hl.1, yl_o hy9, m8, m8', k390, k390', yl_f13 hl.1, yl_f9 hl.1, yl_q9 hl.1 hf3, yl_f8 hy9, r8, r25, g0, g1, g2, y1, k4, d40, d41, d42, d43, dm, d0, d1, w1, not_true, not_false_iff]
end AC4
