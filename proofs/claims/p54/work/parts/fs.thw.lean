/-! ===== what the law's last calls throw ===== -/
theorem agX_thr (Y : am_H) : agX Y (thr Y) 1 6 := ⟨fun _ _ => rfl, Nat.le_succ _, Nat.le_refl _, Nat.le_refl _⟩
section THW
variable {z : Bool} {B : Nat} {A : tLw} {n : Nat} {g : Nat → Int32} {F L : Nat → List Nat} {C : tCl} {NN P : Nat} {X : am_H} {t : Nat}
/-- a call that throws, and all is as before -/
def thO (z : Bool) (B : Nat) (A : tLw) (n : Nat) (g : Nat → Int32) (t : Nat) (F L : Nat → List Nat) (NN P : Nat) (X : am_H) (w a b c v : Int) : Prop := ∃ (X' : am_H) (C' : tCl), acI X' B A n g t F L C' NN P ∧ X'.2.1 ≤ X.2.1 + 1 ∧ X'.2.2 ≤ X.2.2 + 6 ∧ ru_ev z 399 [.ref 1000, .int (wI w), .int (wI a), .int (wI b), .int (wI c)] X = some (.inl (some (.int (wI v))), X')
theorem thO_mk (hk : txK B n) {C' : tCl} (h' : acI (clPut X C') B A n g t F L C' NN P) {w a b c : Int} {E : Nat} (hE : E < 3) (k : ru_ev z 400 [.ref 1000, .int (wI w), .int (wI a), .int (wI b), .int (wI c)] X = some (.inr E, clPut (thr X) C')) : thO z B A n g t F L NN P X w a b c ((E : Int) + 1) :=
  ⟨clPut (thr X) C', C', ac_new hk h' (agX_thr (clPut X C')), Nat.le_refl _, Nat.le_refl _, t399 hE k⟩
theorem ac_cl (h : acI X B A n g t F L C NN P) : acI (clPut X C) B A n g t F L C NN P := by
  have e := h.2.2.1
  unfold clI at e
  rw [← e]; exact h
theorem rcP_no (h : acI X B A n g t F L C NN P) : rcP C (P : Int) = 2 := by
  have := h.2.2.2.2.2.1.1
  have := h.2.1.2.2.2.1
  unfold rcP
  rw [if_neg (by omega), if_neg (by omega)]
theorem th_0 (hk : txK B n) (h : acI X B A n g t F L C NN P) : thO z B A n g t F L NN P X 0 P 0 0 2 := by
  have hP := h.2.1.2.2.2.1
  have k := c164 (z := z) (h := X) h.2.2.2.2.1.1 (f := (P : Int)) (by omega)
  have e2 := rcP_no h
  rw [oR_n (by omega), e2, ← h.2.2.1] at k
  exact thO_mk (E := 1) hk (ac_cl h) (by decide) (t400_0 k)
theorem th_2 (hk : txK B n) (h : acI X B A n g t F L C NN P) : thO z B A n g t F L NN P X 2 0 ((A.2.1 0).1 7) 0 2 := by
  have hP := h.2.1.2.2.2.1
  obtain ⟨rc, pq, rq, hf3, rp⟩ := ac_rc h (f := 0) (by omega)
  have s := phR_s rp
  have e7 := pq.1 7 (by decide)
  have k := c178 (z := z) (h := X) h.2.2.2.2.1.1 (f := (0 : Int)) (k := (A.2.1 0).1 7) (by omega) (by omega)
  have e2 : rcK C (0 : Int) ((A.2.1 0).1 7) = 2 := by
    have rc' : rcP C 0 = 0 := rc
    unfold rcK
    rw [if_pos rc', if_neg (by show ¬ (0 ≤ _ ∧ _ < (cph C (cAp C 0)).1 7); omega)]
  rw [oR_n (by omega), e2, ← h.2.2.1] at k
  exact thO_mk (E := 1) hk (ac_cl h) (by decide) (t400_2 k)
theorem th_1 (hk : txK B n) (h : acI X B A n g t F L C NN P) : thO z B A n g t F L NN P X 1 0 4 0 3 := by
  have hP := h.2.1.2.2.2.1
  obtain ⟨rc, pq, rq, hf3, rp⟩ := ac_rc h (f := 0) (by omega)
  have rc' : rcP C 0 = 0 := rc
  have k := c167 (z := z) (h := X) h.2.2.2.2.1.1 (f := (0 : Int)) (w := 4) (by omega) (by omega)
  rw [oR_n (by rw [if_pos rc']; decide), if_pos rc', ← h.2.2.1] at k
  exact thO_mk (E := 2) hk (ac_cl h) (by decide) (t400_1 k)
theorem th_3 (hk : txK B n) (h : acI X B A n g t F L C NN P) {r : Nat → Int} {rc : Int} (w : rwOK (shS (A.2.1 0)) (shY (A.2.1 0)) (A.1 0) r rc) : thO z B A n g t F L NN P X 3 0 rc 0 2 := by
  have hP := h.2.1.2.2.2.1
  obtain ⟨rc0, pq, rq, hf3, rp⟩ := ac_rc h (f := 0) (by omega)
  have rcb := rwOK_rc w
  obtain ⟨tt, v, C', k1, k2⟩ := c190 (z := z) (h := X) h.2.2.2.2.1.1 (f := (0 : Int)) (r := rc) (by omega) (by omega)
  rcases k2 with ⟨k2, -⟩ | ⟨-, p, rfl, k3, k4⟩
  · exact absurd rc0 k2
  · have k3' : piOK p (cph C (cAp C 0)) (C.1 (alb C) 0) := k3
    rw [h.2.2.2.2.1.2.2.2.2] at k3'
    have e := (pk_row pq rq k3' w).1
    have et : tt = 2 := by
      rcases k4 with ⟨q1, q2, -⟩ | ⟨-, q⟩
      · omega
      · exact q
    rw [et, oR_n (by decide), ← h.2.2.1] at k1
    exact thO_mk (E := 1) hk (ac_pi hk h) (by decide) (t400_3 k1)
theorem th_8 (hk : txK B n) (h : acI X B A n g t F L C NN P) : thO z B A n g t F L NN P X 8 0 NN 0 2 := by
  have hP := h.2.1.2.2.2.1
  have hN := h.2.1.2.1
  obtain ⟨rc, pq, rq, hf3, rp⟩ := ac_rc h (f := 0) (by omega)
  have rc' : rcP C 0 = 0 := rc
  have c1 := h.2.2.2.2.2.1.1
  have c2 : cNm C = (NN : Int) := h.2.2.2.2.1.2.2.2.1.2.1
  have k := c224 (z := z) (h := X) h.2.2.2.2.1.1 (f := (0 : Int)) (n := (NN : Int)) (by omega) (by omega)
  have e2 : (if rcP C 0 = 0 then rcN C (NN : Int) else rcP C 0) = 2 := by
    rw [if_pos rc']
    unfold rcN
    rw [if_neg (by omega), if_neg (by omega)]
  rw [oR_n (by omega), e2, ← h.2.2.1] at k
  exact thO_mk (E := 1) hk (ac_cl h) (by decide) (t400_8 k)
theorem th_17 (hk : txK B n) (h : acI X B A n g t F L C NN P) : thO z B A n g t F L NN P X 17 0 ((A.2.1 0).1 0) ((A.2.1 0).1 0) 3 := by
  have hP := h.2.1.2.2.2.1
  obtain ⟨rc, pq, rq, hf3, rp⟩ := ac_rc h (f := 0) (by omega)
  have rc' : rcP C 0 = 0 := rc
  have s := phR_s rp
  obtain ⟨hR, hH, hA, -, -⟩ := id h.2.2.2.2.1
  have hw4 := (h.2.1.2.2.2.2.2.2 0 (by omega)).2.2.2.2
  have e4 := pq.1 4 (by decide)
  have e2 := pq.1 2 (by decide)
  have e9 : (if rcP C 0 = 0 then (if isCr (cph C (cAp C ((0 : Int)).toNat)) ((A.2.1 0).1 0) 0 ((A.2.1 0).1 0) 0 = true then 0 else 3) else rcP C 0) = 3 := by
    rw [if_pos rc', if_neg (fun c => ?_)]
    obtain ⟨a1, -⟩ := isCr_t.mp c
    have a1' : 0 ≤ (A.2.1 0).1 0 ∧ (A.2.1 0).1 0 ≤ (cph C (cAp C 0)).1 4 - (cph C (cAp C 0)).1 2 := a1
    omega
  obtain ⟨tt, v, C', k1, k2⟩ := c347 (z := z) (h := X) hR hH hA (f := (0 : Int)) (x1 := (A.2.1 0).1 0) (y1 := 0) (x2 := (A.2.1 0).1 0) (y2 := 0) (by omega) (by omega) (by omega) (by omega) (by omega)
  rw [e9] at k2
  rcases k2 with ⟨-, rfl, rfl⟩ | ⟨k2, -⟩
  · rw [oR_n (by decide), ← h.2.2.1] at k1
    exact thO_mk (E := 2) hk (ac_cl h) (by decide) (t400_17 k1)
  · exact absurd k2 (by decide)
/-- more bytes than there are -/
theorem th_25 (hk : txK B n) (h : acI X B A n g t F L C NN P) : thO z B A n g t F L NN P X 25 0 1 0 2 := by
  have hP := h.2.1.2.2.2.1
  obtain ⟨rc, pq, rq, hf3, rp⟩ := ac_rc h (f := 0) (by omega)
  have rc' : rcP C 0 = 0 := rc
  have hb := h.2.2.2.2.2.2
  have x78 := d78 (z := z) (h := X) h.2.2.2.2.1.1 (f := (0 : Int)) (by omega)
  rw [oR_0 rc', ← h.2.2.1] at x78
  have x18 := c18 (z := z) (h := X) (C := C) (v := (1 : Int)) (by omega) (by omega)
  rw [if_neg (by omega), ← h.2.2.1] at x18
  have e0 : X.1 1000 = some (.inr (0, clL0 C 1000)) := by
    have e : X.1 1000 = (clPut X C).1 1000 := congrArg (fun Y : am_H => Y.1 1000) h.2.2.1
    rw [e, cl_e0]
  have k : ru_ev z 77 [.ref 1000, .int (wI 0), .int (wI 1)] X = some (.inr 1, clPut (thr X) C) := by
    simp (disch := omega) only [en77, e77_0, e77_1, e77_2, e77_5, e77_6, e77_7, e77_8, ↓reduceIte, Bool.false_eq_true, not_false_eq_true, not_true_eq_false, Nat.reduceLeDiff, Nat.reduceAdd, Nat.reduceEqDiff, Int.reduceToNat, Int.toNat_natCast, iB0, iB1, ru_klI, ru_klR, ru_klF, ru_klJ, ru_kl0, ru_cs0, ru_csI, ru_csR, ru_csF, ru_csJ, wI_add, wI_sub, wI_mul, wI_lt, wI_le, wI_inj, ru_fdE, ru_fdN, ru_iaN, ru_baN, ru_laN, ru_qaN, ru_pfN, ru_isN, ru_bsN, ru_jsN, ru_qsN, ru_set2, Nat.add_right_cancel_iff, if_true, if_false, ite_self, Int.reduceEq, and_self, Int.add_neg_cancel_right, Int.add_zero, Int.zero_add, e0, x78, x18]
  exact thO_mk (E := 1) hk (ac_cl h) (by decide) (t400_25 k)
theorem th_20 (hk : txK B n) (h : acI X B A n g t F L C NN P) : thO z B A n g t F L NN P X 20 0 0 0 3 := by
  have hP := h.2.1.2.2.2.1
  obtain ⟨rc, pq, rq, hf3, rp⟩ := ac_rc h (f := 0) (by omega)
  have rc' : rcP C 0 = 0 := rc
  obtain ⟨hR, hH, hA, -, -⟩ := id h.2.2.2.2.1
  have e9 : rcQ C 0 0 = 3 := by unfold rcQ; rw [if_pos rc', if_pos rc', if_pos rfl]
  obtain ⟨tt, v, C', k1, k2⟩ := c367 (z := z) (h := X) hR hH hA (f := (0 : Int)) (k := (0 : Int)) (by omega) (by omega)
  unfold cpR at k2
  rw [e9] at k2
  rcases k2 with ⟨-, rfl, rfl⟩ | ⟨k2, -⟩
  · rw [oR_n (by decide), ← h.2.2.1] at k1
    exact thO_mk (E := 2) hk (ac_cl h) (by decide) (t400_20 k1)
  · exact absurd k2 (by decide)
theorem th_19 (hk : txK B n) (h : acI X B A n g t F L C NN P) : thO z B A n g t F L NN P X 19 0 ((A.2.1 0).1 7) 0 2 := by
  have hP := h.2.1.2.2.2.1
  obtain ⟨rc, pq, rq, hf3, rp⟩ := ac_rc h (f := 0) (by omega)
  have rc' : rcP C 0 = 0 := rc
  have s := phR_s rp
  have e7 := pq.1 7 (by decide)
  obtain ⟨hR, hH, hA, -, -⟩ := id h.2.2.2.2.1
  have e2 : rcK C (0 : Int) ((A.2.1 0).1 7) = 2 := by
    unfold rcK
    rw [if_pos rc', if_neg (by show ¬ (0 ≤ _ ∧ _ < (cph C (cAp C 0)).1 7); omega)]
  have e9 : rcG C 0 ((A.2.1 0).1 7) 0 = 2 := by unfold rcG; rw [if_neg (by omega), e2]
  obtain ⟨tt, v, C', k1, k2⟩ := c364 (z := z) (h := X) hR hH hA (f := (0 : Int)) (k := (A.2.1 0).1 7) (nm := 0) (by omega) (by omega) (by omega)
  rw [e9] at k2
  rcases k2 with ⟨-, rfl, rfl⟩ | ⟨k2, -⟩
  · rw [oR_n (by decide), ← h.2.2.1] at k1
    exact thO_mk (E := 1) hk (ac_cl h) (by decide) (t400_19 k1)
  · exact absurd k2 (by decide)
theorem th_18 (hk : txK B n) (h : acI X B A n g t F L C NN P) (hm : ¬ (A.2.1 0).1 7 = 12) : thO z B A n g t F L NN P X 18 0 (-1) 0 3 := by
  have hP := h.2.1.2.2.2.1
  obtain ⟨rc, pq, rq, hf3, rp⟩ := ac_rc h (f := 0) (by omega)
  have rc' : rcP C 0 = 0 := rc
  have e7 := pq.1 7 (by decide)
  obtain ⟨hR, hH, hA, -, -⟩ := id h.2.2.2.2.1
  have e9 : (if rcP C 0 = 0 then acR (cph C (cAp C ((0 : Int)).toNat)) (-1) 0 else rcP C 0) = 3 := by
    rw [if_pos rc']
    show acR (cph C (cAp C 0)) (-1) 0 = 3
    unfold acR
    rw [if_neg (by omega), if_neg (by omega)]
  obtain ⟨tt, v, C', k1, k2⟩ := c361 (z := z) (h := X) hR hH hA (f := (0 : Int)) (x := -1) (y := 0) (by omega) (by omega) (by omega)
  rw [e9] at k2
  rcases k2 with ⟨-, rfl, rfl⟩ | ⟨k2, -⟩
  · rw [oR_n (by decide), ← h.2.2.1] at k1
    exact thO_mk (E := 2) hk (ac_cl h) (by decide) (t400_18 k1)
  · exact absurd k2 (by decide)
theorem th_18p (hk : txK B n) (h : acI X B A n g t F L C NN P) : thO z B A n g t F L NN P X 18 P 0 0 2 := by
  have hP := h.2.1.2.2.2.1
  obtain ⟨hR, hH, hA, -, -⟩ := id h.2.2.2.2.1
  have e2 := rcP_no h
  have e9 : (if rcP C (P : Int) = 0 then acR (cph C (cAp C ((P : Int)).toNat)) 0 0 else rcP C (P : Int)) = 2 := by rw [if_neg (by omega), e2]
  obtain ⟨tt, v, C', k1, k2⟩ := c361 (z := z) (h := X) hR hH hA (f := (P : Int)) (x := 0) (y := 0) (by omega) (by omega) (by omega)
  rw [e9] at k2
  rcases k2 with ⟨-, rfl, rfl⟩ | ⟨k2, -⟩
  · rw [oR_n (by decide), ← h.2.2.1] at k1
    exact thO_mk (E := 1) hk (ac_cl h) (by decide) (t400_18 k1)
  · exact absurd k2 (by decide)
end THW
