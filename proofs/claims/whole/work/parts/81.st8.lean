/-! ===== the law's steps of flip, uncrop (printed by wip/gen/genst2.py) ===== -/
theorem fl_ch {M : tMd} {q : tPh} {n : Nat} (hM : mdR M) (hg : rgI M) (hN : phN (mph M n) (M.1 20)) (hn : n < 5) (hz : ∀ c, 4 ≤ c → q.2 c = fun _ => 0) (hr : phR q) (he : pheq q (mph M n)) : phCh M n (up1 q.1 6 (1 - M.2 0 (54 * n + 4)), q.2) (up1 (M.2 0) (54 * n + 4) (1 - M.2 0 (54 * n + 4))) := by
  have h6 := (hM.2.2.2.2.2.2 n hn)
  have s6 : 0 ≤ M.2 0 (54 * n + 4) ∧ M.2 0 (54 * n + 4) ≤ 1 := (phR_s h6).2.2.2.2.2.2.1
  refine ⟨hz, ⟨fun k => ?_, ?_, hr.2.2.1, hr.2.2.2.1, hr.2.2.2.2.1, hr.2.2.2.2.2⟩, fun j => ?_, ?_, ⟨fun k hk => ?_, fun c i hc hi => ?_⟩, ?_, fun f hf hne j h1 h2 => ?_⟩
  · have := hr.1 k
    show 0 ≤ up1 q.1 6 (1 - M.2 0 (54 * n + 4)) k ∧ up1 q.1 6 (1 - M.2 0 (54 * n + 4)) k ≤ 999
    unfold up1
    split <;> omega
  · show up1 q.1 6 (1 - M.2 0 (54 * n + 4)) 6 ≤ 1
    rw [up1_e]; omega
  · have := hg.1 j
    unfold up1
    split <;> omega
  · exact srR_up (srR_of hM) (fun f hf => ⟨fun c => by omega, fun c => by omega, fun i hi => ⟨fun c => by omega, fun c => by omega⟩⟩)
  · have hk8 : k = 0 ∨ k = 1 ∨ k = 2 ∨ k = 3 ∨ k = 4 ∨ k = 5 ∨ k = 6 ∨ k = 7 := by omega
    have e := he.1 k hk
    rw [mph_f] at e
    unfold msf at e ⊢
    rcases hk8 with rfl | rfl | rfl | rfl | rfl | rfl | rfl | rfl <;> simp [up1] at e ⊢ <;> exact e
  · have e := he.2 c i hc hi
    rw [mph_f] at e
    unfold msf at e ⊢
    dsimp only at e ⊢
    rw [e]
    have f1 : ∀ x, 54 * n + 6 ≤ x → up1 (M.2 0) (54 * n + 4) (1 - M.2 0 (54 * n + 4)) x = M.2 0 x := fun x hx => up1_n (by omega)
    rw [f1 _ (by omega), f1 _ (by omega)]
  · refine phN_1 (q := mph M n) ?_ (fun i hi => ?_) (phN_f (fun j hj => up1_n (by omega)) hN.2.2) hN
    · show up1 (M.2 0) (54 * n + 4) (1 - M.2 0 (54 * n + 4)) (54 * n + 5) = M.2 0 (54 * n + 5)
      exact up1_n (by omega)
    · rw [mph_f]
      unfold msf
      dsimp only
      rw [up1_n (show 54 * n + 6 + 4 * i + 3 ≠ 54 * n + 4 by omega)]
  · exact up1_n (by omega)
section ST8
variable {z : Bool} {g : am_H} {C : tCl} {M : tMd} {xs : Nat → Int32} {L i : Nat}
theorem st_41 (h : coI C M) (hg : gI g L xs) (hi : i + 6 ≤ L) (hL : L ≤ 3072) : stC z 2799 g C M i := by
  intro l6 l7
  obtain ⟨hR, hA, hM, hr, hn, hG, hH, hS, hrg⟩ := id h
  obtain ⟨f, ef, gf⟩ := wI_ex (xs (i + 1))
  obtain ⟨o, ho⟩ := hg.2.1
  obtain ⟨g', C', M', t, v, b, hRt, hQ, hn9, hX, h1, h2, h3, h4, h5⟩ := gn_stepX (z := z) (g := g) (M := M) (jc := 352) (jh := 351) (jm := 353) (cargs := [.ref 1000, .int (wI f)]) (margs := [.ref 1315, .int (wI f)]) (nE := 2) (o := o) (X := fun C' M' => coI C' M' ∧ chC C C' ∧ chM M M')
    (fun h => c352 hR hH.1 hA gf) (fun h => p353 hM gf)
    (fun t v C' b M' k1 k2 => ck_fin (n := f.toNat) (tc := rcP C f) (tm := rfP M f) h (rel_rcP hM hr f) (rcP_2 C f) (by decide) (fun e => by
      have e1 : rfP M f = 0 := by rw [← rel_rcP hM hr f, e]; rfl
      exact ⟨rf_has hM e1, rel_lt e1⟩)
      (fun e q' S' v b q1 q2 => by
        obtain ⟨c1, c2, c3, c4⟩ := rel_rf hM hr e
        obtain ⟨d1, d2⟩ := q1
        obtain ⟨d3, d4⟩ := q2
        have s := phR_s c3
        have hq := (dph (h := (fun _ => none, 0, 0)) hR e).2
        have e6 : (cph C (cAp C f.toNat)).1 6 = M.2 0 (54 * f.toNat + 4) := c4.1 6 (by decide)
        refine ⟨by rw [d2, d4, e6], ?_⟩
        rw [d1, d3, e6]
        exact fl_ch hM hrg (hn _ (rel_lt c1)) c2 (fun c hc => cph_hi _ _ c hc) hq c4) k1 k2.1)
    (fun H G o t v C' k1 k2 hc ho => hp351 (by
      rcases k1 with ⟨q1, q2, -⟩ | ⟨q0, -, -, -, -, -, -, q3⟩
      · exact absurd (by rw [← q2]; exact k2) q1
      · have := (phR_s (dph (h := (fun _ => none, 0, 0)) hR q0).2).2.2.2.2.2.2.1; omega) hc ho)
    (fun H G E hE hc => by
      have e9 : E = 0 ∨ E = 1 := by omega
      rcases e9 with rfl | rfl
      · exact hx351_0 hc
      · exact hx351_1 hc) ho
  simp only [List.cons_append, List.nil_append] at h1
  rw [← ef] at h1 h2
  exact ⟨g', C', M', _, _, lw_41 (gI_x hg) (gI_x (gI_on hg h5)) hi hL (by omega) (hQ.2) h1 h2 h3 (fun e => h4 (by omega)), h5, hX⟩
theorem st_42 (h : coI C M) (hg : gI g L xs) (hi : i + 6 ≤ L) (hL : L ≤ 3072) : stC z 2862 g C M i := by
  intro l6 l7
  obtain ⟨hR, hA, hM, hr, hn, hG, hH, hS, hrg⟩ := id h
  obtain ⟨f, ef, gf⟩ := wI_ex (xs (i + 1))
  obtain ⟨o, ho⟩ := hg.2.1
  obtain ⟨hw1, hw2⟩ : (rcP C f = 0 → 1 ≤ (cph C (cAp C f.toNat)).1 0 ∧ 1 ≤ (cph C (cAp C f.toNat)).1 1) ∧ (rfP M f = 0 → 1 ≤ (mph M f.toNat).1 0 ∧ 1 ≤ (mph M f.toNat).1 1) := by
    have w : rfP M f = 0 → 1 ≤ (mph M f.toNat).1 0 ∧ 1 ≤ (mph M f.toNat).1 1 := fun e => hrg.2.2.2.2 _ (rel_lt e)
    refine ⟨fun e => ?_, w⟩
    obtain ⟨c1, c2, c3, c4⟩ := rel_rf hM hr e
    rw [c4.1 0 (by decide), c4.1 1 (by decide)]
    exact w c1
  obtain ⟨g', C', M', t, v, b, hRt, hQ, hn9, hX, h1, h2, h3, h4, h5⟩ := gn_stepX (z := z) (g := g) (M := M) (jc := 355) (jh := 354) (jm := 356) (cargs := [.ref 1000, .int (wI f)]) (margs := [.ref 1315, .int (wI f)]) (nE := 2) (o := o) (X := fun C' M' => coI C' M' ∧ chC C C' ∧ chM M M')
    (fun h => c355 hR hH.1 hA gf hw1) (fun h => p356 hM hrg gf hw2)
    (fun t v C' b M' k1 k2 => ck_fin (n := f.toNat) (tc := rcP C f) (tm := rfP M f) h (rel_rcP hM hr f) (rcP_2 C f) (by decide) (fun e => by
      have e1 : rfP M f = 0 := by rw [← rel_rcP hM hr f, e]; rfl
      exact ⟨rf_has hM e1, rel_lt e1⟩)
      (fun e q' S' v b q1 q2 => by
        obtain ⟨c1, c2, c3, c4⟩ := rel_rf hM hr e
        obtain ⟨d1, d2⟩ := q1
        obtain ⟨d3, d4⟩ := q2
        have s := phR_s c3
        have hq := (dph (h := (fun _ => none, 0, 0)) hR e).2
        have w2 := hw2 c1
        have e0 := c4.1 0 (by decide)
        have e1 := c4.1 1 (by decide)
        have e7 := c4.1 7 (by decide)
        rw [e0, e1] at d1
        have fc := fr_ch (l := 0) (t := 0) (r := (mph M f.toNat).1 0 - 1) (b := (mph M f.toNat).1 1 - 1) hM hrg (hn _ (rel_lt c1)) c2 (fun c hc => cph_hi _ _ c hc) hq c4 (by omega) (by omega) (by omega) (by omega) (by omega) (by omega)
        rw [← d1, ← d3] at fc
        refine ⟨?_, fc⟩
        rw [d2, d4, ← e7]
        have x1 : cnB (shw q') ((cph C (cAp C f.toNat)).1 7).toNat = cnB (shw (msf S' (M.2 8) (M.2 9) f.toNat)) ((cph C (cAp C f.toNat)).1 7).toNat := cnB_congr fun k hk => pheq_shw fc.2.2.2.2.1 (by rw [d1]; show (k : Int) < (cph C (cAp C f.toNat)).1 7; omega)
        have x2 : cnB (shw (cph C (cAp C f.toNat))) ((cph C (cAp C f.toNat)).1 7).toNat = cnB (shw (mph M f.toNat)) ((cph C (cAp C f.toNat)).1 7).toNat := cnB_congr fun k hk => pheq_shw c4 (by omega)
        rw [x1, x2]) k1 k2)
    (fun H G o t v C' k1 k2 hc ho => hp354 hc ho)
    (fun H G E hE hc => by
      have e9 : E = 0 ∨ E = 1 := by omega
      rcases e9 with rfl | rfl
      · exact hx354_0 hc
      · exact hx354_1 hc) ho
  simp only [List.cons_append, List.nil_append] at h1
  rw [← ef] at h1 h2
  exact ⟨g', C', M', _, _, lw_42 (gI_x hg) (gI_x (gI_on hg h5)) hi hL (by omega) h1 h2 h3 (fun e => h4 (by omega)), h5, hX⟩
end ST8
