/-! ===== rows of the law's album and of the class's picture ===== -/
theorem pk_row {p : tPi} {q p' : tPh} {gap : Int} (c : pheq q p') (hq : phR q) (ok : piOK p q gap) {r : Nat → Int} {rc : Int} (w : rwOK (shS p') (shY p') gap r rc) : p.1 1 = rc ∧ ∀ k, k < 12 → p.2 3 k = r k := by
  obtain ⟨n, eo, er, o1, o2, o3, o4, o5, o6, o7, o8, o9⟩ := ok
  exact rwOK_uni o5 w (fun k hk => by rw [shS_eq c]) (fun k hk hs => pheq_shY c (shS_rng hq hs).2.2.1)
theorem pk_at {p : tPi} {q p' : tPh} {gap : Int} (c : pheq q p') (hq : phR q) (ok : piOK p q gap) {r : Nat → Int} {rc : Int} (w : rwOK (shS p') (shY p') gap r rc) {n : Nat} {e : Nat → Nat} {rr : Nat} (he : enO (fun o => shS p' o && decide (r o = (rr : Int))) (kyX (shX p')) n e) (hrr : (rr : Int) < rc) : lenC p rr = (n : Int) ∧ ∀ j, j < n → plC p rr j = (e j : Int) := by
  obtain ⟨r1, r2⟩ := pk_row c hq ok w
  obtain ⟨n0, eo, er, o1, o2, o3, o4, o5, o6, o7, o8, o9⟩ := ok
  have eS := shS_eq c
  have hx : ∀ k, k < 12 → shS q k = true → 0 ≤ shX q k ∧ shX q k ≤ 999 := fun k _ hs => (shS_rng hq hs).1
  have e1 : rlN (shS q) (p.2 3) (rr : Int) = n := by
    rw [← enO_n he]
    refine cnB_congr (fun o ho => ?_)
    rw [eS, r2 o ho]
  have e2 := o9 rr (by omega)
  have e3 := o9 (rr + 1) (by omega)
  have e4 := rsN_succ (shS q) (p.2 3) (rr : Int)
  have e5 : ((rr + 1 : Nat) : Int) = (rr : Int) + 1 := by omega
  rw [e5] at e3
  refine ⟨by unfold lenC; omega, fun j hj => ?_⟩
  have h1 := he.1 j hj
  simp only [Bool.and_eq_true, decide_eq_true_eq] at h1
  have sk : shS q (e j) = true := by rw [eS]; exact h1.2.1
  have rk : p.2 3 (e j) = (rr : Int) := by rw [r2 _ h1.1]; exact h1.2.2
  have l1 : lfN (shS q) (p.2 3) (shX q) (e j) = j := by
    refine Eq.trans (cnB_congr (fun o ho => ?_)) (enO_rk he hj)
    show (shS q o && (decide (p.2 3 o = p.2 3 (e j)) && lfB (shX q) o (e j))) = ((shS p' o && decide (r o = (rr : Int))) && decide (kyX (shX p') o < kyX (shX p') (e j)))
    by_cases so : shS q o = true
    · have x1 := hx _ h1.1 sk
      have x2 := hx o ho so
      have y1 := pheq_shX c (shS_rng hq so).2.2.1
      have y2 := pheq_shX c (shS_rng hq sk).2.2.1
      rw [← eS, so, r2 o ho, r2 _ h1.1, h1.2.2, Bool.true_and, Bool.true_and]
      by_cases ro : r o = (rr : Int)
      · rw [decide_eq_true ro, Bool.true_and, Bool.true_and]
        unfold lfB kyX
        rw [y1, y2]
        by_cases cx : shX p' o = shX p' (e j)
        · rw [if_pos cx]
          exact decide_eq_decide.mpr (by omega)
        · rw [if_neg cx]
          exact decide_eq_decide.mpr (by omega)
      · rw [decide_eq_false ro, Bool.false_and, Bool.false_and]
    · have so2 : shS q o = false := by simpa using so
      rw [← eS, so2, Bool.false_and, Bool.false_and, Bool.false_and]
  obtain ⟨a1, a2⟩ := er_of o7 hx h1.1 sk
  rw [rk, l1] at a1 a2
  unfold plC
  rw [e2, show ((rsN (shS q) (p.2 3) (rr : Int) : Int) + (j : Int)).toNat = rsN (shS q) (p.2 3) (rr : Int) + j by omega, o8 _ a1, a2]
