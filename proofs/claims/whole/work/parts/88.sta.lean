/-! ===== the law's steps of crop, addPerson (printed by wip/gen/genst2.py) ===== -/
theorem rcPc_0 {a n : Nat} {P : Prop} [Decidable P] (e : (if a = 0 then (if P then 0 else n + 1) else a) = 0) : a = 0 := by
  by_cases c : a = 0
  · exact c
  · rw [if_neg c] at e; exact e
theorem rcA_0 {a n : Nat} (e : (if a = 0 then n else a) = 0) : a = 0 := by
  by_cases c : a = 0
  · exact c
  · rw [if_neg c] at e; exact e
theorem crX_eq {q p : tPh} (he : pheq q p) (x1 x2 : Int) : crL q x1 x2 = crL p x1 x2 ∧ crR q x1 x2 = crR p x1 x2 := by
  unfold crL crR
  rw [he.1 6 (by decide), he.1 4 (by decide), he.1 2 (by decide)]
  exact ⟨rfl, rfl⟩
theorem adX_eq {q p : tPh} (he : pheq q p) {x : Int} : adX p x = adX q x := by
  unfold adX
  rw [he.1 6 (by decide), he.1 4 (by decide), he.1 2 (by decide)]
theorem acR_3 (q : tPh) (x y : Int) : acR q x y ≤ 3 := by
  unfold acR
  (repeat' split) <;> omega
theorem acR_eq {q p : tPh} (he : pheq q p) {x y : Int} : acR q x y = acR p x y := by
  unfold acR
  rw [he.1 7 (by decide), he.1 4 (by decide), he.1 2 (by decide), he.1 5 (by decide), he.1 3 (by decide)]
theorem acR_0 {q : tPh} (hr : phR q) {x y : Int} (e : acR q x y = 0) : q.1 7 < 12 ∧ 0 ≤ adX q x ∧ adX q x ≤ 999 ∧ (0 ≤ q.1 3 + y ∧ q.1 3 + y ≤ 999) := by
  have s := phR_s hr
  unfold acR at e
  split at e
  · omega
  · split at e
    · rename_i h1 h2
      unfold adX
      refine ⟨by omega, ?_, ?_, by omega⟩ <;> split <;> omega
    · omega
theorem rel_rcA {C : tCl} {M : tMd} (hM : mdR M) (hr : relA C M) (f x y : Int) : (((if rcP C f = 0 then acR (cph C (cAp C f.toNat)) x y else rcP C f) : Nat) : Int) = rfA M f x y := by
  have er := rel_rcP hM hr f
  unfold rfA
  by_cases e : rcP C f = 0
  · obtain ⟨c1, c2, c3, c4⟩ := rel_rf hM hr e
    rw [if_pos e, if_pos c1, acR_eq c4]
  · rw [if_neg e, if_neg (by omega), er]
section STA
variable {z : Bool} {g : am_H} {C : tCl} {M : tMd} {xs : Nat → Int32} {L i : Nat}
theorem st_40 (h : coI C M) (hg : gI g L xs) (hi : i + 6 ≤ L) (hL : L ≤ 3072) : stC z 2695 g C M i := by
  intro l6 l7
  obtain ⟨hR, hA, hM, hr, hn, hG, hH, hS, hrg⟩ := id h
  obtain ⟨f, ef, gf⟩ := wI_ex (xs (i + 1))
  obtain ⟨x1, ex1, gx1⟩ := wI_ex (xs (i + 2))
  obtain ⟨y1, ey1, gy1⟩ := wI_ex (xs (i + 3))
  obtain ⟨x2, ex2, gx2⟩ := wI_ex (xs (i + 4))
  obtain ⟨y2, ey2, gy2⟩ := wI_ex (xs (i + 5))
  obtain ⟨o, ho⟩ := hg.2.1
  obtain ⟨g', C', M', t, v, b, hRt, hQ, hn9, hX, h1, h2, h3, h4, h5⟩ := gn_stepX (z := z) (g := g) (M := M) (jc := 347) (jh := 346) (jm := 349) (cargs := [.ref 1000, .int (wI f), .int (wI x1), .int (wI y1), .int (wI x2), .int (wI y2)]) (margs := [.ref 1315, .int (wI f), .int (wI x1), .int (wI y1), .int (wI x2), .int (wI y2)]) (nE := 3) (o := o) (X := fun C' M' => coI C' M' ∧ chC C C' ∧ chM M M')
    (fun h => c347 hR hH.1 hA gf gx1 gy1 gx2 gy2) (fun h => p349 hM hrg gf gx1 gy1 gx2 gy2)
    (fun t v C' b M' k1 k2 => ck_fin (n := f.toNat) (tc := if rcP C f = 0 then (if isCr (cph C (cAp C f.toNat)) x1 y1 x2 y2 = true then 0 else 3) else rcP C f) (tm := rfC M f x1 y1 x2 y2) h (rel_rcC hM hr f x1 y1 x2 y2) (by have := rcP_2 C f; (repeat' split) <;> omega) (by decide) (fun e => by
      have e0 := rcPc_0 e
      have e1 : rfP M f = 0 := by rw [← rel_rcP hM hr f, e0]; rfl
      exact ⟨rf_has hM e1, rel_lt e1⟩)
      (fun e q' S' v b q1 q2 => by
        have e0 := rcPc_0 e
        rw [if_pos e0] at e
        have ec : isCr (cph C (cAp C f.toNat)) x1 y1 x2 y2 = true := by
          by_cases c : isCr (cph C (cAp C f.toNat)) x1 y1 x2 y2 = true
          · exact c
          · rw [if_neg c] at e; exact absurd e (by decide)
        obtain ⟨c1, c2, c3, c4⟩ := rel_rf hM hr e0
        obtain ⟨d1, d2⟩ := q1
        obtain ⟨d3, d4⟩ := q2
        have s := phR_s c3
        have hq := (dph (h := (fun _ => none, 0, 0)) hR e0).2
        have e7 := c4.1 7 (by decide)
        obtain ⟨r1, r2, r3, r4, r5, r6⟩ := cr_rng hq ec
        obtain ⟨z1, z2⟩ := crX_eq c4 x1 x2
        unfold crQ at d1
        rw [← z1, ← z2, ← c4.1 3 (by decide)] at d3
        have fc := fr_ch hM hrg (hn _ (rel_lt c1)) c2 (fun c hc => cph_hi _ _ c hc) hq c4 r1 r2 r3 r4 r5 r6
        rw [← d1, ← d3] at fc
        refine ⟨?_, fc⟩
        rw [d2, d4, ← e7]
        have x1 : cnB (shw q') ((cph C (cAp C f.toNat)).1 7).toNat = cnB (shw (msf S' (M.2 8) (M.2 9) f.toNat)) ((cph C (cAp C f.toNat)).1 7).toNat := cnB_congr fun k hk => pheq_shw fc.2.2.2.2.1 (by rw [d1]; show (k : Int) < (cph C (cAp C f.toNat)).1 7; omega)
        have x2 : cnB (shw (cph C (cAp C f.toNat))) ((cph C (cAp C f.toNat)).1 7).toNat = cnB (shw (mph M f.toNat)) ((cph C (cAp C f.toNat)).1 7).toNat := cnB_congr fun k hk => pheq_shw c4 (by omega)
        rw [x1, x2]) k1 k2)
    (fun H G o t v C' k1 k2 hc ho => hp346 hc ho)
    (fun H G E hE hc => by
      have e9 : E = 0 ∨ E = 1 ∨ E = 2 := by omega
      rcases e9 with rfl | rfl | rfl
      · exact hx346_0 hc
      · exact hx346_1 hc
      · exact hx346_2 hc) ho
  simp only [List.cons_append, List.nil_append] at h1
  rw [← ef, ← ex1, ← ey1, ← ex2, ← ey2] at h1 h2
  exact ⟨g', C', M', _, _, lw_40 (gI_x hg) (gI_x (gI_on hg h5)) hi hL (by omega) h1 h2 h3 (fun e => h4 (by omega)), h5, hX⟩
theorem st_44 (h : coI C M) (hg : gI g L xs) (hi : i + 6 ≤ L) (hL : L ≤ 3072) : stC z 3021 g C M i := by
  intro l6 l7
  obtain ⟨hR, hA, hM, hr, hn, hG, hH, hS, hrg⟩ := id h
  obtain ⟨f, ef, gf⟩ := wI_ex (xs (i + 1))
  obtain ⟨x, ex, gx⟩ := wI_ex (xs (i + 2))
  obtain ⟨y, ey, gy⟩ := wI_ex (xs (i + 3))
  obtain ⟨o, ho⟩ := hg.2.1
  obtain ⟨g', C', M', t, v, b, hRt, hQ, hn9, hX, h1, h2, h3, h4, h5⟩ := gn_stepX (z := z) (g := g) (M := M) (jc := 361) (jh := 360) (jm := 362) (cargs := [.ref 1000, .int (wI f), .int (wI x), .int (wI y)]) (margs := [.ref 1315, .int (wI f), .int (wI x), .int (wI y)]) (nE := 3) (o := o) (X := fun C' M' => coI C' M' ∧ chC C C' ∧ chM M M')
    (fun h => c361 hR hH.1 hA gf gx gy) (fun h => p362 hM gf gx gy)
    (fun t v C' b M' k1 k2 => ck_fin (n := f.toNat) (tc := if rcP C f = 0 then acR (cph C (cAp C f.toNat)) x y else rcP C f) (tm := rfA M f x y) h (rel_rcA hM hr f x y) (by have := rcP_2 C f; have := acR_3 (cph C (cAp C f.toNat)) x y; (repeat' split) <;> omega) (by decide) (fun e => by
      have e0 := rcA_0 e
      have e1 : rfP M f = 0 := by rw [← rel_rcP hM hr f, e0]; rfl
      exact ⟨rf_has hM e1, rel_lt e1⟩)
      (fun e q' S' v b q1 q2 => by
        have e0 := rcA_0 e
        rw [if_pos e0] at e
        obtain ⟨c1, c2, c3, c4⟩ := rel_rf hM hr e0
        obtain ⟨d1, d2⟩ := q1
        obtain ⟨d3, d4⟩ := q2
        have s := phR_s c3
        have hq := (dph (h := (fun _ => none, 0, 0)) hR e0).2
        have e7 := c4.1 7 (by decide)
        obtain ⟨g12, gx1, gx2, gy1⟩ := acR_0 hq e
        refine ⟨by rw [d2, d4, e7], ?_⟩
        rw [adX_eq c4, ← c4.1 3 (by decide)] at d3
        rw [d1, d3]
        exact ad_ch (m := ((mph M f.toNat).1 7).toNat) hM hrg (hn _ (rel_lt c1)) c2 (by omega) (by omega) (fun c hc => cph_hi _ _ c hc) hq c4 ⟨gx1, gx2⟩ gy1) k1 k2)
    (fun H G o t v C' k1 k2 hc ho => hp360 hc ho)
    (fun H G E hE hc => by
      have e9 : E = 0 ∨ E = 1 ∨ E = 2 := by omega
      rcases e9 with rfl | rfl | rfl
      · exact hx360_0 hc
      · exact hx360_1 hc
      · exact hx360_2 hc) ho
  simp only [List.cons_append, List.nil_append] at h1
  rw [← ef, ← ex, ← ey] at h1 h2
  exact ⟨g', C', M', _, _, lw_44 (gI_x hg) (gI_x (gI_on hg h5)) hi hL (by omega) h1 h2 h3 (fun e => h4 (by omega)), h5, hX⟩
end STA
