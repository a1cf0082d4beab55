/-! ===== the law's steps of retouch, giveName (printed by wip/gen/genst2.py) ===== -/
theorem rcG_2 (C : tCl) (f k nm : Int) : rcG C f k nm ≤ 2 := by
  have a := rcK_2 C f k
  have b := rcN_2 C nm
  unfold rcG
  split
  · split <;> omega
  · omega
theorem rcG_0 {C : tCl} {f k nm : Int} (h : rcG C f k nm = 0) : rcK C f k = 0 ∧ (nm = -1 ∨ 0 ≤ nm ∧ nm < cNm C) := by
  unfold rcG at h
  split at h
  · rename_i e
    refine ⟨e, ?_⟩
    split at h
    · exact Or.inl ‹_›
    · unfold rcN at h
      split at h
      · omega
      · split at h
        · exact Or.inr ‹_›
        · omega
  · exact absurd h ‹_›
theorem rel_rcGv {C : tCl} {M : tMd} (hM : mdR M) (hr : relA C M) (f k nm : Int) : ((rcG C f k nm : Nat) : Int) = rfGv M f k nm := by
  have a := rel_rcK hM hr f k
  unfold rcG rfGv
  by_cases e : rcK C f k = 0
  · have e1 : rfK M f k = 0 := by rw [← a, e]; rfl
    rw [if_pos e, if_pos e1]
    by_cases c : nm = -1
    · rw [if_pos c, if_pos c]; rfl
    · rw [if_neg c, if_neg c]
      rw [rel_rcN1 hM hr nm]
      unfold rfN1
      rw [if_neg (by rw [rf_has hM (rfK_0 e1).1]; decide)]
  · have e1 : ¬ rfK M f k = 0 := by omega
    rw [if_neg e, if_neg e1, a]
section ST9
variable {z : Bool} {g : am_H} {C : tCl} {M : tMd} {xs : Nat → Int32} {L i : Nat}
theorem st_43 (h : coI C M) (hg : gI g L xs) (hi : i + 6 ≤ L) (hL : L ≤ 3072) : stC z 2918 g C M i := by
  intro l6 l7
  obtain ⟨hR, hA, hM, hr, hn, hG, hH, hS, hrg⟩ := id h
  obtain ⟨f, ef, gf⟩ := wI_ex (xs (i + 1))
  obtain ⟨k, ek, gk⟩ := wI_ex (xs (i + 2))
  obtain ⟨w0, ew0, gw0⟩ := wI_ex (xs (i + 3))
  obtain ⟨o, ho⟩ := hg.2.1
  obtain ⟨w, hw, hw01⟩ : ∃ w : Int, ((xs (i + 3) = wI 0 ∧ w = 0) ∨ (¬ xs (i + 3) = wI 0 ∧ w = 1)) ∧ 0 ≤ w ∧ w ≤ 1 := by
    by_cases e : xs (i + 3) = wI 0
    · exact ⟨0, Or.inl ⟨e, rfl⟩, by decide, by decide⟩
    · exact ⟨1, Or.inr ⟨e, rfl⟩, by decide, by decide⟩
  obtain ⟨g', C', M', t, v, b, hRt, hQ, hn9, hX, h1, h2, h3, h4, h5⟩ := gn_stepX (z := z) (g := g) (M := M) (jc := 358) (jh := 357) (jm := 359) (cargs := [.ref 1000, .int (wI f), .int (wI k), .int (wI w)]) (margs := [.ref 1315, .int (wI f), .int (wI k), .int (wI w)]) (nE := 2) (o := o) (X := fun C' M' => coI C' M' ∧ chC C C' ∧ chM M M')
    (fun h => c358 hR hH.1 hA gf gk hw01) (fun h => p359 hM gf gk hw01)
    (fun t v C' b M' k1 k2 => ck_fin (n := f.toNat) (tc := rcK C f k) (tm := rfK M f k) h (rel_rcK hM hr f k) (rcK_2 C f k) (by decide) (fun e => by
      have e1 : rfP M f = 0 := by rw [← rel_rcP hM hr f, (rcK_0 e).1]; rfl
      exact ⟨rf_has hM e1, rel_lt e1⟩)
      (fun e q' S' v b q1 q2 => by
        obtain ⟨e0, b1, b2⟩ := rcK_0 e
        obtain ⟨c1, c2, c3, c4⟩ := rel_rf hM hr e0
        obtain ⟨d1, d2⟩ := q1
        obtain ⟨d3, d4⟩ := q2
        have s := phR_s c3
        have hq := (dph (h := (fun _ => none, 0, 0)) hR e0).2
        have e7 := c4.1 7 (by decide)
        have k12 : k.toNat < 12 := by omega
        have e3 := c4.2 2 k.toNat (by decide) (rcK_i e)
        rw [← (mph_x (M := M) (f := f.toNat) k12).2.2.1] at e3
        refine ⟨by rw [d2, d4, e3], ?_⟩
        rw [d1, d3]
        exact fg_ch hM hrg (hn _ (rel_lt c1)) c2 k12 (fun c hc => cph_hi _ _ c hc) hq c4 hw01) k1 k2.1)
    (fun H G o t v C' k1 k2 hc ho => hp357 (by
      rcases k1 with ⟨q1, q2, -⟩ | ⟨q0, -, -, -, -, -, -, q3⟩
      · exact absurd (by rw [← q2]; exact k2) q1
      · have := (phR_i (dph (h := (fun _ => none, 0, 0)) hR (rcK_0 q0).1).2 k.toNat).2.2.1; omega) hc ho)
    (fun H G E hE hc => by
      have e9 : E = 0 ∨ E = 1 := by omega
      rcases e9 with rfl | rfl
      · exact hx357_0 hc
      · exact hx357_1 hc) ho
  simp only [List.cons_append, List.nil_append] at h1
  rw [← ef, ← ek] at h1 h2
  exact ⟨g', C', M', _, _, lw_43 (gI_x hg) (gI_x (gI_on hg h5)) hi hL hw (by omega) (hQ.2) h1 h2 h3 (fun e => h4 (by omega)), h5, hX⟩
theorem st_45 (h : coI C M) (hg : gI g L xs) (hi : i + 6 ≤ L) (hL : L ≤ 3072) : stC z 3101 g C M i := by
  intro l6 l7
  obtain ⟨hR, hA, hM, hr, hn, hG, hH, hS, hrg⟩ := id h
  obtain ⟨f, ef, gf⟩ := wI_ex (xs (i + 1))
  obtain ⟨k, ek, gk⟩ := wI_ex (xs (i + 2))
  obtain ⟨nm, enm, gnm⟩ := wI_ex (xs (i + 3))
  obtain ⟨o, ho⟩ := hg.2.1
  obtain ⟨g', C', M', t, v, b, hRt, hQ, hn9, hX, h1, h2, h3, h4, h5⟩ := gn_stepX (z := z) (g := g) (M := M) (jc := 364) (jh := 363) (jm := 365) (cargs := [.ref 1000, .int (wI f), .int (wI k), .int (wI nm)]) (margs := [.ref 1315, .int (wI f), .int (wI k), .int (wI nm)]) (nE := 2) (o := o) (X := fun C' M' => coI C' M' ∧ chC C C' ∧ chM M M')
    (fun h => c364 hR hH.1 hA gf gk gnm) (fun h => p365 hM gf gk gnm)
    (fun t v C' b M' k1 k2 => ck_fin (n := f.toNat) (tc := rcG C f k nm) (tm := rfGv M f k nm) h (rel_rcGv hM hr f k nm) (rcG_2 C f k nm) (by decide) (fun e => by
      have e1 : rfP M f = 0 := by rw [← rel_rcP hM hr f, (rcK_0 (rcG_0 e).1).1]; rfl
      exact ⟨rf_has hM e1, rel_lt e1⟩)
      (fun e q' S' v b q1 q2 => by
        obtain ⟨e9, hnm⟩ := rcG_0 e
        obtain ⟨e0, b1, b2⟩ := rcK_0 e9
        obtain ⟨c1, c2, c3, c4⟩ := rel_rf hM hr e0
        obtain ⟨d1, d2⟩ := q1
        obtain ⟨d3, d4⟩ := q2
        have s := phR_s c3
        have hq := (dph (h := (fun _ => none, 0, 0)) hR e0).2
        have h20 : cNm C = M.1 20 := by rw [hr.2.1, if_neg (by rw [rf_has hM c1]; decide)]
        have h21 := hM.2.2.2.1
        refine ⟨by rw [d2, d4]; exact c4.2 3 k.toNat (by decide) (rcK_i e9), ?_⟩
        rw [d1, d3]
        exact nm_ch hM hrg (hn _ (rel_lt c1)) c2 (rcK_i e9) (fun c hc => cph_hi _ _ c hc) hq c4 (by omega)) k1 k2)
    (fun H G o t v C' k1 k2 hc ho => hp363 hc ho)
    (fun H G E hE hc => by
      have e9 : E = 0 ∨ E = 1 := by omega
      rcases e9 with rfl | rfl
      · exact hx363_0 hc
      · exact hx363_1 hc) ho
  simp only [List.cons_append, List.nil_append] at h1
  rw [← ef, ← ek, ← enm] at h1 h2
  exact ⟨g', C', M', _, _, lw_45 (gI_x hg) (gI_x (gI_on hg h5)) hi hL (by omega) h1 h2 h3 (fun e => h4 (by omega)), h5, hX⟩
end ST9
