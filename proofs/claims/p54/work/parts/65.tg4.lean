/-! ===== the smallest rectangle: class against reference ===== -/
theorem tgF_congr {s : Bool} {P : Nat → Bool} {v v' : Nat → Int} {i0 : Int} : ∀ n, (∀ k, k < n → v k = v' k) → tgF s P v i0 n = tgF s P v' i0 n
  | 0, _ => rfl
  | n + 1, h => by
    unfold tgF
    rw [tgF_congr n fun k hk => h k (by omega), h n (by omega)]
/-- only those in the set count -/
theorem tgF_cut {s : Bool} {P : Nat → Bool} {v v' : Nat → Int} {i0 : Int} : ∀ n, (∀ k, k < n → P k = true → v k = v' k) → tgF s P v i0 n = tgF s P v' i0 n
  | 0, _ => rfl
  | n + 1, h => by
    unfold tgF
    by_cases e : P n = true
    · rw [tgF_cut n fun k hk => h k (by omega), h n (by omega) e]
    · rw [tgF_cut n fun k hk => h k (by omega), if_neg e, if_neg e]
theorem rel_rcG {C : tCl} {M : tMd} (hR : clR C) (hM : mdR M) (h : relA C M) (f s w : Int) : (((if rcP C f = 0 then (if tgOk (bsN (shw (cph C (cAp C f.toNat))) ((cph C (cAp C f.toNat)).1 7).toNat) s w = true then 0 else 3) else rcP C f) : Nat) : Int) = rfG M f s w := by
  have e := rel_rcP hM h f
  unfold rfG
  by_cases e1 : rcP C f = 0
  · have e2 : rfP M f = 0 := by rw [← e, e1]; rfl
    have hc := (dph (h := (fun _ => none, 0, 0)) hR e1).2
    rw [if_pos e1, if_pos e2, pheq_set (rel_ph h e1) (hc.1 7).1]
    split <;> rfl
  · have e2 : ¬ rfP M f = 0 := by omega
    rw [if_neg e1, if_neg e2]; exact e
theorem st35 {C : tCl} {M : tMd} (hR : clR C) (hM : mdR M) (h : relA C M) {f s w : Int} (g : -2147483648 ≤ s ∧ s < 2147483648) (er : (((if rcP C f = 0 then (if tgOk (bsN (shw (cph C (cAp C f.toNat))) ((cph C (cAp C f.toNat)).1 7).toNat) s w = true then 0 else 3) else rcP C f) : Nat) : Int) = rfG M f s w) (e : (if rcP C f = 0 then (if tgOk (bsN (shw (cph C (cAp C f.toNat))) ((cph C (cAp C f.toNat)).1 7).toNat) s w = true then 0 else 3) else rcP C f) = 0) :
    tgF (decide (w < 2)) s.toNat.testBit (tgV (cph C (cAp C f.toNat)) w) (if w < 2 then 1000 else 0) ((cph C (cAp C f.toNat)).1 7).toNat = if rfG M f s w = 0 then tgF (decide (w < 2)) s.toNat.testBit (tgV (mph M f.toNat) w) (if w < 2 then 1000000000 else -1) ((mph M f.toNat).1 7).toNat else 0 := by
  rw [if_pos (show rfG M f s w = 0 by rw [← er, e]; rfl)]
  by_cases e1 : rcP C f = 0
  · rw [if_pos e1] at e
    have hc := (dph (h := (fun _ => none, 0, 0)) hR e1).2
    have hp := rel_ph h e1
    have sc := phR_s hc
    have ok : tgOk (bsN (shw (cph C (cAp C f.toNat))) ((cph C (cAp C f.toNat)).1 7).toNat) s w = true := by
      by_cases ok : tgOk (bsN (shw (cph C (cAp C f.toNat))) ((cph C (cAp C f.toNat)).1 7).toNat) s w = true
      · exact ok
      · rw [if_neg ok] at e; exact absurd e (by decide)
    have b1 := bsN_b (P := shw (cph C (cAp C f.toNat))) (k := ((cph C (cAp C f.toNat)).1 7).toNat) (by omega)
    obtain ⟨m, rfl, m1, m2⟩ := tgOk_m b1.1 g ok
    have h0 := (tgOk_t.mp ok).2.1
    generalize hq : cph C (cAp C f.toNat) = q at *
    have m3 : ∀ k, m.testBit k = true → k < (q.1 7).toNat ∧ shw q k = true := by
      intro k hk
      have := m2 k hk
      rw [bsN_bit, Bool.and_eq_true, decide_eq_true_eq] at this
      exact this
    rw [← hp.1 7 (by decide), Int.toNat_natCast]
    have e5 : ∀ i0 : Int, tgF (decide (w < 2)) m.testBit (tgV (mph M f.toNat) w) i0 (q.1 7).toNat = tgF (decide (w < 2)) m.testBit (tgV q w) i0 (q.1 7).toNat := by
      intro i0
      apply tgF_congr
      intro k hk
      unfold tgV
      rw [pheq_shX hp (by omega), pheq_shY hp (by omega)]
    rw [e5]
    apply tgF_eq
    · intro k hk
      obtain ⟨k1, k2⟩ := m3 k hk
      have hr := shXY_rng hc k
      have : 0 ≤ tgV q w k ∧ tgV q w k < 1000 := by
        simp only [shw, decide_eq_true_eq] at k2
        unfold tgV shX shY
        repeat' split
        all_goals omega
      by_cases hw : w < 2
      · simp only [hw, decide_true, if_true]; omega
      · simp only [hw, decide_false, Bool.false_eq_true, if_false]; omega
    · have : ∃ k, m.testBit k = true := Nat.exists_testBit_of_ne_zero (by omega)
      obtain ⟨k, hk⟩ := this
      exact ⟨k, (m3 k hk).1, hk⟩
  · rw [if_neg e1] at e; exact absurd e e1
