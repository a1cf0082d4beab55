/-! ===== acts: retouch, a name given ===== -/
theorem pheq_row {q p : tPh} {c k : Nat} {v : Int} (h : pheq q p) : pheq (q.1, upC q.2 c (up1 (q.2 c) k v)) (p.1, upC p.2 c (up1 (p.2 c) k v)) := by
  refine ⟨h.1, fun d i hd hi => ?_⟩
  show upC q.2 c (up1 (q.2 c) k v) d i = upC p.2 c (up1 (p.2 c) k v) d i
  by_cases e : d = c
  · rw [e, upC_e, upC_e]
    by_cases e2 : i = k
    · rw [e2, up1_e, up1_e]
    · rw [up1_n e2, up1_n e2]; exact h.2 c i (by omega) hi
  · rw [upC_n e, upC_n e]; exact h.2 d i hd hi
theorem phR_row {q : tPh} {c k : Nat} {v : Int} (hr : phR q) (h : -1 ≤ v ∧ v ≤ 999) (h2 : c = 2 → 0 ≤ v ∧ v ≤ 1) (h3 : c = 3 → v ≤ 19) : phR (q.1, upC q.2 c (up1 (q.2 c) k v)) := by
  obtain ⟨a1, a2, a3, a4, a5, a6⟩ := hr
  refine ⟨a1, a2, a3, fun d i => ?_, fun i => ?_, fun i => ?_⟩
  · show -1 ≤ upC q.2 c (up1 (q.2 c) k v) d i ∧ upC q.2 c (up1 (q.2 c) k v) d i ≤ 999
    by_cases e : d = c
    · rw [e, upC_e]
      by_cases e2 : i = k
      · rw [e2, up1_e]; exact h
      · rw [up1_n e2]; exact a4 c i
    · rw [upC_n e]; exact a4 d i
  · show 0 ≤ upC q.2 c (up1 (q.2 c) k v) 2 i ∧ upC q.2 c (up1 (q.2 c) k v) 2 i ≤ 1
    by_cases e : 2 = c
    · rw [← e, upC_e]
      by_cases e2 : i = k
      · rw [e2, up1_e]; exact h2 e.symm
      · rw [up1_n e2]; exact a5 i
    · rw [upC_n e]; exact a5 i
  · show upC q.2 c (up1 (q.2 c) k v) 3 i ≤ 19
    by_cases e : 3 = c
    · rw [← e, upC_e]
      by_cases e2 : i = k
      · rw [e2, up1_e]; exact h3 e.symm
      · rw [up1_n e2]; exact a6 i
    · rw [upC_n e]; exact a6 i
theorem row_z {C : tCl} {a c : Nat} {G : Nat → Int} (hc : c < 4) : ∀ d, 4 ≤ d → (((cph C a).1, upC (cph C a).2 c G) : tPh).2 d = fun _ => 0 := fun d hd => by
  show upC (cph C a).2 c G d = fun _ => 0
  rw [upC_n (by omega)]
  exact cph_hi C a d hd
section AC3
variable {z : Bool} {B f : Nat} {A : tLw} {n : Nat} {g : Nat → Int32} {F L : Nat → List Nat} {C : tCl} {NN P : Nat}
theorem ac_m {X : am_H} {t : Nat} (h : acI X B A n g t F L C NN P) (hf : f < P) : am_fd X (B + 1) 13 8 = some (.ref (B + 8)) ∧ am_ia X (B + 8) (wI f) = some (wI ((A.2.1 f).1 7)) := by
  have := h.2.1
  exact ⟨yl_f8 h.1.1, yl_8 h.1.1 (by have := this.2.2.2.1; omega)⟩
theorem act3 (hk : txK B n) {X : am_H} {t : Nat} (h : acI X B A n g t F L C NN P) (hf : f < P) (ht : t ≤ 900000) (hm : 0 < (A.2.1 f).1 7) {wd hg hd : Int32} : ∃ X', acO B n g F L NN P X t X' 2 0 0 ∧ ru_n z 412 71 [some (.ref 1000), some (.ref (B + 1)), some (.ref B), some (.int (wI 3)), some (.int (wI f)), some (.int wd), some (.int hg), some (.int hd), none, none, none, none, none, none, none, none] [] X = some (.inl (some (.int (wI 1))), X') := by
  obtain ⟨-, -, -, hf3, rp⟩ := ac_rc h hf
  obtain ⟨kB1, kB2, kB3⟩ := id hk
  have s := phR_s rp
  obtain ⟨m8, m8'⟩ := ac_m h hf
  obtain ⟨k, X1, v1, v2, k390, h1, e1⟩ := ac_drw (z := z) hk h (by omega) (lo := 0) (hi := (A.2.1 f).1 7 - 1) (by omega) (by omega) (by omega)
  obtain ⟨k, rfl⟩ : ∃ m : Nat, k = (m : Int) := ⟨k.toNat, by omega⟩
  obtain ⟨r, X2, r1, r2, k390', h2, e2⟩ := ac_drw (z := z) hk h1 (by omega) (lo := 0) (hi := 1) (by omega) (by omega) (by omega)
  obtain ⟨rc, pq, rq, -, -⟩ := ac_rc h2 hf
  obtain ⟨hl, hw, hc, hX, hI, hP, hb⟩ := id h2
  obtain ⟨hR, hH, hA, -, -⟩ := id hI
  obtain ⟨hN, hw1, hw2, hw3, hw4⟩ := hw.2.2.2.2.2.2 f hf
  obtain ⟨w, hwd⟩ : ∃ w : Int, w = if r = 0 then 1 else 0 := ⟨_, rfl⟩
  have hw01 : w = 0 ∨ w = 1 := by rw [hwd]; split <;> omega
  obtain ⟨Y, y1, y2, y3⟩ := yl_wa hl.1 (k := (k : Int)) hf3 hw01 (by omega) (by omega)
  rw [Int.toNat_natCast] at y2
  have hcY : clI Y C := clI_same hc (fun q h1 h2 => y3.1 q (by omega))
  have e7 := pq.1 7 (by decide)
  have rK : rcK C (f : Int) (k : Int) = 0 := by unfold rcK; rw [if_pos rc, if_pos (by rw [Int.toNat_natCast]; omega)]
  obtain ⟨u, C1, q', k1, ⟨k2, k3⟩, k4⟩ := ch_get rK (c358 (z := z) (h := Y) hR hH hA (f := (f : Int)) (k := (k : Int)) (w := w) (by omega) (by omega) (by omega))
  simp only [Int.toNat_natCast] at k2 k3 k4
  rw [← hcY] at k4
  rw [pq.2 2 k (by decide) (by omega)] at k3
  have hw3' : ∀ i : Nat, (A.2.1 f).1 7 ≤ (i : Int) → upC (A.2.1 f).2 2 (up1 ((A.2.1 f).2 2) k w) 2 i = 0 := fun i hi => by
    rw [upC_e, up1_n (by omega)]
    exact hw3 i hi
  have O := ac_chg (C := C) (C1 := C1) (q' := q') (t := t + 1 + 1) hk h2 hf y2 (agA_e y3) (phR_row rp (by omega) (fun _ => by omega) (fun e => by omega)) (phN_1 (q := A.2.1 f) rfl (fun i _ => rfl) ⟨hN.2.2.1, hN.2.2.2⟩ hN) rfl rfl hw3' hw4 k1 (by rw [k2]; exact row_z (by decide)) (by rw [k2]; exact phR_row rq (by omega) (fun _ => by omega) (fun e => by omega)) (by rw [k2]; exact pheq_row pq)
  have O2 := acO_t (X := X) (t := t) (dt' := 2) (c' := 0) (s' := 0) (by omega) (by rw [e2, e1]; omega) (by rw [e2, e1]; omega) O
  refine ⟨_, acO_m O2 (by omega) (by omega) (by omega), ?_⟩
  have hy9 : ylP (clPut Y (phP C1 (cAp C f) q')) B (ylU A f ((A.2.1 f).1, upC (A.2.1 f).2 2 (up1 ((A.2.1 f).2 2) k w))) := ylP_ag y2 (fun q h1 h2 => by rw [clPut_o (by omega)])
  have ra := yl_aw h1.1.1 hf3 (k := (k : Int)) (by omega) (by omega)
  have ra' := yl_aw y2 hf3 (k := (k : Int)) (by omega) (by omega)
  rw [Int.toNat_natCast] at ra ra'
  rw [ylU_s] at ra'
  have ra'' : am_ba Y (B + 27 + f) (wI (k : Int)) = some (wI w) := by
    rw [ra']
    show some (wI (upC (A.2.1 f).2 2 (up1 ((A.2.1 f).2 2) k w) 2 k)) = _
    rw [upC_e, up1_e]
  obtain ⟨m8a, m8b⟩ := ac_m h1 hf
  have w1 : wI 1 &&& 1 = wI 1 := by decide +kernel
  have d30 : ((3 : Int) = 0) = False := eq_false (by decide)
  have d31 : ((3 : Int) = 1) = False := eq_false (by decide)
  have d32 : ((3 : Int) = 2) = False := eq_false (by decide)
  have dm : ((A.2.1 f).1 7 ≤ 0) = False := eq_false (by omega)
  rw [k3] at k4
  have pk := phR_i rp k
  by_cases c : r = 0
  · have dr : (r = 0) = True := eq_true c
    rw [if_pos c] at hwd
    rw [hwd] at y1 k4 ra''
    simp (disch := omega) only [e412_71, e412_72, e412_324, e412_325, e412_326, e412_373, e412_374, e412_375, e412_458, e412_459, e412_460, e412_463, e412_464, e412_467, e412_469, e412_470, e412_473, e412_474, e412_475, e412_476, e412_479, e412_481, e412_482, e412_483, e412_484, e412_487, e412_489, e412_490, e412_493, e412_495, e412_496, e412_498, e412_499, e412_501, e412_502, e412_505, e412_507, e412_508, e412_510, e412_511, e412_512, e412_513, e412_516, e412_519, e412_520, e412_523, e412_524, e412_525, e412_526, e412_528, e412_530, e412_531, e412_534, e412_536, e412_537, e412_539, e412_540, e412_543, e412_545, e412_548, e412_549, e412_552, e412_553, ↓reduceIte, Bool.false_eq_true, not_false_eq_true, not_true_eq_false, Nat.reduceLeDiff, Nat.reduceAdd, Nat.reduceEqDiff, Int.reduceToNat, Int.toNat_natCast, iB0, iB1, ru_klI, ru_klR, ru_klF, ru_klJ, ru_kl0, ru_cs0, ru_csI, ru_csR, ru_csF, ru_csJ, wI_add, wI_sub, wI_mul, wI_lt, wI_le, wI_inj, ru_fdE, ru_fdN, ru_iaN, ru_baN, ru_laN, ru_qaN, ru_pfN, ru_isN, ru_bsN, ru_jsN, ru_qsN, ru_set2, Nat.add_right_cancel_iff, if_true, if_false, ite_self, Int.reduceEq, and_self, Int.add_neg_cancel_right, Int.add_zero, Int.zero_add, yl_o h.1.1, yl_o h1.1.1, yl_o hl.1, yl_o y2, m8, m8', k390, k390', yl_f14 h1.1.1, yl_q26 h1.1.1 hf3, yl_f14 y2, yl_q26 y2 hf3, ra, ra'', y1, k4, d30, d31, d32, dm, dr, w1, not_true, not_false_iff]
  · have dr : (r = 0) = False := eq_false c
    rw [if_neg c] at hwd
    rw [hwd] at y1 k4 ra''
    simp (disch := omega) only [e412_71, e412_72, e412_324, e412_325, e412_326, e412_373, e412_374, e412_375, e412_458, e412_459, e412_460, e412_463, e412_464, e412_467, e412_469, e412_470, e412_473, e412_474, e412_475, e412_476, e412_479, e412_481, e412_482, e412_483, e412_484, e412_487, e412_489, e412_490, e412_493, e412_495, e412_496, e412_498, e412_499, e412_501, e412_502, e412_505, e412_507, e412_508, e412_510, e412_511, e412_512, e412_513, e412_516, e412_519, e412_520, e412_523, e412_524, e412_525, e412_526, e412_528, e412_530, e412_531, e412_534, e412_536, e412_537, e412_539, e412_540, e412_543, e412_545, e412_548, e412_549, e412_552, e412_553, ↓reduceIte, Bool.false_eq_true, not_false_eq_true, not_true_eq_false, Nat.reduceLeDiff, Nat.reduceAdd, Nat.reduceEqDiff, Int.reduceToNat, Int.toNat_natCast, iB0, iB1, ru_klI, ru_klR, ru_klF, ru_klJ, ru_kl0, ru_cs0, ru_csI, ru_csR, ru_csF, ru_csJ, wI_add, wI_sub, wI_mul, wI_lt, wI_le, wI_inj, ru_fdE, ru_fdN, ru_iaN, ru_baN, ru_laN, ru_qaN, ru_pfN, ru_isN, ru_bsN, ru_jsN, ru_qsN, ru_set2, Nat.add_right_cancel_iff, if_true, if_false, ite_self, Int.reduceEq, and_self, Int.add_neg_cancel_right, Int.add_zero, Int.zero_add, yl_o h.1.1, yl_o h1.1.1, yl_o hl.1, yl_o y2, m8, m8', k390, k390', yl_f14 h1.1.1, yl_q26 h1.1.1 hf3, yl_f14 y2, yl_q26 y2 hf3, ra, ra'', y1, k4, d30, d31, d32, dm, dr, w1, not_true, not_false_iff]
end AC3
