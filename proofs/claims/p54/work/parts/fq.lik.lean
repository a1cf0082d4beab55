/-! ===== all is the same: what the class answers ===== -/
section LIK
variable {z : Bool} {B f : Nat} {A : tLw} {n : Nat} {g : Nat → Int32} {F L : Nat → List Nat} {C : tCl} {NN P : Nat} {X : am_H} {t : Nat}
/-- new cells -/
theorem ac_new (hk : txK B n) (h : acI X B A n g t F L C NN P) {Y : am_H} {c s : Nat} (k : agX X Y c s) : acI Y B A n g t F L C NN P := by
  obtain ⟨hl, hw, hc, hX, hI, hP, hb⟩ := h
  obtain ⟨kB1, kB2, kB3⟩ := id hk
  have e : ∀ q, q < 1000 → Y.1 q = X.1 q := fun q hq => k.1 q (by omega)
  exact ⟨laI_W hk hl (fun q hq _ => e q hq) (ylP_ag hl.1 (fun q h1 h2 => e q (by omega))) (dwP_ag hl.2.1 (e 1 (by omega)) (e B (by omega))) rfl rfl, hw, clI_x hc k hX, by have := k.2.1; omega, hI, hP, hb⟩
/-- the class's state is another, as sound -/
theorem ac_put (hk : txK B n) (h : acI X B A n g t F L C NN P) {C' : tCl} (i1 : yqI C' (A.1 0) NN F L) (i2 : ypI C' P A.2.1) (i3 : C'.1 1001 1 = 0) : acI (clPut X C') B A n g t F L C' NN P := by
  obtain ⟨hl, hw, hc, hX, hI, hP, hb⟩ := h
  obtain ⟨kB1, kB2, kB3⟩ := id hk
  have e : ∀ q, q < 1000 → (clPut X C').1 q = X.1 q := fun q hq => clPut_o (by omega)
  exact ⟨laI_W hk hl (fun q hq _ => e q hq) (ylP_ag hl.1 (fun q h1 h2 => e q (by omega))) (dwP_ag hl.2.1 (e 1 (by omega)) (e B (by omega))) rfl rfl, hw, clI_put _ _, hX, i1, i2, i3⟩
theorem ac_pi (hk : txK B n) (h : acI X B A n g t F L C NN P) {p : tPi} : acI (clPut X (piPut C 1070 p)) B A n g t F L (piPut C 1070 p) NN P := by
  obtain ⟨a1, a2, a3⟩ := yc_pi (P1 := 1070) (p := p) (Or.inl rfl) h.2.2.2.2.1
  exact ac_put hk h a1 (a2 _ _ h.2.2.2.2.2.1) (by rw [piPut_1 (by decide)]; exact h.2.2.2.2.2.2)
theorem lk160 (h : acI X B A n g t F L C NN P) : ru_ev z 160 [.ref 1000] X = some (.inl (some (.int (wI (A.1 2)))), X) := by
  have k := c160 (z := z) (h := X) h.2.2.2.2.1.1.1
  rw [← h.2.2.1, h.2.2.2.2.2.1.1, ← h.2.1.2.2.1] at k
  exact k
theorem lk210 (h : acI X B A n g t F L C NN P) : ru_ev z 210 [.ref 1000] X = some (.inl (some (.int (wI (A.1 1)))), X) := by
  have k := c210 (z := z) (h := X) h.2.2.2.2.1.1.1
  have e : cNm C = (NN : Int) := h.2.2.2.2.1.2.2.2.1.2.1
  rw [← h.2.2.1, e, ← h.2.1.1] at k
  exact k
theorem lk164 (h : acI X B A n g t F L C NN P) (hf : f < P) : ru_ev z 164 [.ref 1000, .int (wI f)] X = some (.inl (some (.int (wI ((A.2.1 f).1 7)))), X) := by
  obtain ⟨rc, pq, rq, hf3, rp⟩ := ac_rc h hf
  have k := c164 (z := z) (h := X) h.2.2.2.2.1.1 (f := (f : Int)) (by omega)
  rw [oR_0 rc, Int.toNat_natCast, ← h.2.2.1, pq.1 7 (by decide)] at k
  exact k
theorem lk170 (h : acI X B A n g t F L C NN P) (hf : f < P) : ru_ev z 170 [.ref 1000, .int (wI f)] X = some (.inl (some (.int (wI ((A.2.1 f).1 6)))), X) := by
  obtain ⟨rc, pq, rq, hf3, rp⟩ := ac_rc h hf
  have k := c170 (z := z) (h := X) h.2.2.2.2.1.1 (f := (f : Int)) (by omega)
  rw [oR_0 rc, Int.toNat_natCast, ← h.2.2.1, pq.1 6 (by decide)] at k
  exact k
theorem lk167 (h : acI X B A n g t F L C NN P) (hf : f < P) {w : Nat} (hw : w < 4) : ru_ev z 167 [.ref 1000, .int (wI f), .int (wI w)] X = some (.inl (some (.int (wI ((A.2.1 f).1 (w + 2))))), X) := by
  obtain ⟨rc, pq, rq, hf3, rp⟩ := ac_rc h hf
  have k := c167 (z := z) (h := X) h.2.2.2.2.1.1 (f := (f : Int)) (w := (w : Int)) (by omega) (by omega)
  rw [oR_0 (by rw [if_pos rc, if_pos (by omega)]), Int.toNat_natCast, Int.toNat_natCast, ← h.2.2.1, pq.1 (w + 2) (by omega)] at k
  exact k
theorem lkK (h : acI X B A n g t F L C NN P) (hf : f < P) {k : Nat} (hk : (k : Int) < (A.2.1 f).1 7) : rcK C (f : Int) (k : Int) = 0 ∧ (k : Int) < (cph C (cAp C f)).1 7 ∧ k < 12 := by
  obtain ⟨rc, pq, rq, hf3, rp⟩ := ac_rc h hf
  have e7 := pq.1 7 (by decide)
  have s := phR_s rp
  refine ⟨?_, by omega, by omega⟩
  unfold rcK
  rw [if_pos rc, if_pos (by rw [Int.toNat_natCast]; omega)]
theorem lk173 (h : acI X B A n g t F L C NN P) (hf : f < P) {k : Nat} (hk : (k : Int) < (A.2.1 f).1 7) : ru_ev z 173 [.ref 1000, .int (wI f), .int (wI k)] X = some (.inl (some (.int (wI (if shw (A.2.1 f) k = true then 1 else 0)))), X) := by
  obtain ⟨rc, pq, rq, hf3, rp⟩ := ac_rc h hf
  obtain ⟨rk, k7, k12⟩ := lkK h hf hk
  have e := c173 (z := z) (h := X) h.2.2.2.2.1.1 (f := (f : Int)) (k := (k : Int)) (by omega) (by omega)
  rw [oR_0 rk, Int.toNat_natCast, Int.toNat_natCast, ← h.2.2.1, pheq_shw pq k7] at e
  exact e
theorem lk178 (h : acI X B A n g t F L C NN P) (hf : f < P) {k : Nat} (hk : (k : Int) < (A.2.1 f).1 7) : ru_ev z 178 [.ref 1000, .int (wI f), .int (wI k)] X = some (.inl (some (.int (wI (if shw (A.2.1 f) k = true then 1000 * shX (A.2.1 f) k + shY (A.2.1 f) k else -1)))), X) := by
  obtain ⟨rc, pq, rq, hf3, rp⟩ := ac_rc h hf
  obtain ⟨rk, k7, k12⟩ := lkK h hf hk
  have e := c178 (z := z) (h := X) h.2.2.2.2.1.1 (f := (f : Int)) (k := (k : Int)) (by omega) (by omega)
  rw [oR_0 rk, Int.toNat_natCast, Int.toNat_natCast, ← h.2.2.1, pheq_shw pq k7, pheq_shX pq k7, pheq_shY pq k7] at e
  exact e
theorem lk221 (h : acI X B A n g t F L C NN P) (hf : f < P) {k : Nat} (hk : (k : Int) < (A.2.1 f).1 7) : ru_ev z 221 [.ref 1000, .int (wI f), .int (wI k)] X = some (.inl (some (.int (wI ((A.2.1 f).2 3 k)))), X) := by
  obtain ⟨rc, pq, rq, hf3, rp⟩ := ac_rc h hf
  obtain ⟨rk, k7, k12⟩ := lkK h hf hk
  have e := c221 (z := z) (h := X) h.2.2.2.2.1.1 (f := (f : Int)) (k := (k : Int)) (by omega) (by omega)
  rw [oR_0 rk, Int.toNat_natCast, Int.toNat_natCast, ← h.2.2.1, pq.2 3 k (by decide) k7] at e
  exact e
theorem lk181 (h : acI X B A n g t F L C NN P) (hf : f < P) : ru_ev z 181 [.ref 1000, .int (wI f)] X = some (.inl (some (.int (wI (bsN (shw (A.2.1 f)) ((A.2.1 f).1 7).toNat : Nat)))), X) := by
  obtain ⟨rc, pq, rq, hf3, rp⟩ := ac_rc h hf
  have s := phR_s rq
  have e := c181 (z := z) (h := X) h.2.2.2.2.1.1 (f := (f : Int)) (by omega)
  rw [oR_0 rc, Int.toNat_natCast, ← h.2.2.1, pheq_set pq (by omega)] at e
  exact e
theorem lk186 (hk : txK B n) (h : acI X B A n g t F L C NN P) (hf : f < P) {r : Nat → Int} {rc : Int} (w : rwOK (shS (A.2.1 f)) (shY (A.2.1 f)) (A.1 0) r rc) : ∃ C', acI (clPut X C') B A n g t F L C' NN P ∧ ru_ev z 186 [.ref 1000, .int (wI f)] X = some (.inl (some (.int (wI rc))), clPut X C') := by
  obtain ⟨rc0, pq, rq, hf3, rp⟩ := ac_rc h hf
  obtain ⟨tt, v, C', k1, k2⟩ := c186 (z := z) (h := X) h.2.2.2.2.1.1 (f := (f : Int)) (by omega)
  rcases k2 with ⟨k2, -⟩ | ⟨-, p, rfl, k3, rfl, rfl⟩
  · exact absurd rc0 k2
  · rw [Int.toNat_natCast, h.2.2.2.2.1.2.2.2.2] at k3
    rw [← h.2.2.1, oR_0 rfl, (pk_row pq rq k3 w).1] at k1
    exact ⟨_, ac_pi hk h, k1⟩
theorem lk198 (hk : txK B n) (h : acI X B A n g t F L C NN P) (hf : f < P) {k : Nat} (hk7 : (k : Int) < (A.2.1 f).1 7) {r : Nat → Int} {rc : Int} (w : rwOK (shS (A.2.1 f)) (shY (A.2.1 f)) (A.1 0) r rc) : ∃ C', acI (clPut X C') B A n g t F L C' NN P ∧ ru_ev z 198 [.ref 1000, .int (wI f), .int (wI k)] X = some (.inl (some (.int (wI (r k)))), clPut X C') := by
  obtain ⟨rc0, pq, rq, hf3, rp⟩ := ac_rc h hf
  obtain ⟨rk, k7, k12⟩ := lkK h hf hk7
  obtain ⟨tt, v, C', k1, k2⟩ := c198 (z := z) (h := X) h.2.2.2.2.1.1 (f := (f : Int)) (k := (k : Int)) (by omega) (by omega)
  rcases k2 with ⟨k2, -⟩ | ⟨-, p, rfl, k3, rfl, rfl⟩
  · exact absurd rk k2
  · rw [Int.toNat_natCast, h.2.2.2.2.1.2.2.2.2] at k3
    rw [← h.2.2.1, oR_0 rfl, Int.toNat_natCast, (pk_row pq rq k3 w).2 k k12] at k1
    exact ⟨_, ac_pi hk h, k1⟩
end LIK
