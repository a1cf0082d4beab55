/-! ===== the law's steps of groups and linking (printed by wip/gen/genst2.py) ===== -/
theorem lk_X {z : Bool} {C : tCl} {M : tMd} (hR : clR C) (hM : mdR M) (hr : relA C M) {f : Int} (g : -2147483648 ≤ f ∧ f < 2147483648) : ∃ X : Int, (0 ≤ X ∧ X ≤ 1998) ∧ (rfP M f = 0 → ∀ (dd : Int) (G : Nat → Int) (N : Nat), 0 ≤ dd → dd ≤ 1998 → grI (mph M f.toNat) ((mph M f.toNat).1 7).toNat dd (fun _ _ => True) G N → (N ≤ 1 ↔ X ≤ dd)) := by
  obtain ⟨t, v, C', -, k1⟩ := c269 (z := z) (h := (fun _ => none, 0, 0)) hR g
  have er := rel_rcP hM hr f
  rcases k1 with ⟨a1, -⟩ | ⟨a1, p, -, a2, a3, n, K, a4, a5⟩
  · exact ⟨0, by omega, fun c => by omega⟩
  · obtain ⟨c1, c2, c3, c4⟩ := rel_rf hM hr a1
    have s := phR_s c3
    exact ⟨mxF K (n - 1), (mxF_sp K (n - 1) (lk_rng c3 (gpI_congr a4 c4))).1, fun _ dd G N h1 _ h3 => lk_good c3 (by omega) (gpI_congr a4 c4) h1 h3⟩
section ST5
variable {z : Bool} {g : am_H} {C : tCl} {M : tMd} {xs : Nat → Int32} {L i : Nat}
theorem st_30 (hR : clR C) (hM : mdR M) (hr : relA C M) (hn : relN M) (hG : C.1 (alb C) 0 = M.1 24) (hg : gI g L xs) (hi : i + 6 ≤ L) (hL : L ≤ 3072) : stE z 1983 g C M i := by
  intro l6 l7
  obtain ⟨f, ef, gf⟩ := wI_ex (xs (i + 1))
  obtain ⟨dd, edd, gdd⟩ := wI_ex (xs (i + 2))
  obtain ⟨o, ho⟩ := hg.2.1
  obtain ⟨g', C', M', t, v, b, hRt, hQ, hn9, h0, hv, h1, h2, h3, h4, h5⟩ := gn_step (z := z) (g := g) (M := M) (jc := 259) (jh := 258) (jm := 265) (cargs := [.ref 1000, .int (wI f), .int (wI dd)]) (margs := [.ref 1315, .int (wI f), .int (wI dd)]) (nE := 3) (o := o)
    (fun h => c259 hR gf gdd) (fun h => p265 hM gf gdd)
    (fun t v C' b M' k1 k2 => by
      have er := rel_rcP hM hr f
      have e2 := rcP_2 C f
      rcases k1 with ⟨a1, rfl, rfl⟩ | ⟨a1, p, rfl, a2, a3⟩
      · rcases k2 with ⟨b1, rfl⟩ | ⟨b1, -⟩ | ⟨b1, -⟩
        · exact ⟨by omega, by rw [mdT_1, er], fun c => absurd c a1⟩
        · omega
        · omega
      · obtain ⟨c1, c2, c3, c4⟩ := rel_rf hM hr a1
        have s := phR_s c3
        rcases k2 with ⟨b1, rfl⟩ | ⟨b1, b2, rfl⟩ | ⟨b1, b2, G, N, rfl, b3, b4⟩
        · exact absurd c1 b1
        · rcases a3 with ⟨d1, d2, d3⟩ | ⟨d1, d2⟩
          · exact absurd ⟨d1, d2⟩ b2
          · exact ⟨by omega, by rw [mdT_1, d2]; rfl, fun c => by omega⟩
        · rcases a3 with ⟨d1, d2, d3, n, K, d4, d5⟩ | ⟨d1, d2⟩
          · refine ⟨by omega, by rw [mdT_1, d3]; rfl, fun _ => ?_⟩
            rw [d5, b4]
            exact gp_eq c3 (by omega) (gpI_congr d4 c4) b3
          · exact absurd b2 d1)
    (fun H G o t v C' k1 k2 hc ho => hp258 hc ho)
    (fun H G E hE hc => by
      have e9 : E = 0 ∨ E = 1 ∨ E = 2 := by omega
      rcases e9 with rfl | rfl | rfl
      · exact hx258_0 hc
      · exact hx258_1 hc
      · exact hx258_2 hc) ho
  simp only [List.cons_append, List.nil_append] at h1
  rw [← ef, ← edd] at h1 h2
  exact ⟨g', C', M', _, _, lw_30 (gI_x hg) (gI_x (gI_on hg h5)) hi hL (by omega) h1 h2 h3 (fun e => h4 (by omega)), h5, rp_clE hRt, (by
      rcases hQ with ⟨-, rfl⟩ | ⟨-, -, rfl⟩ | ⟨-, -, G, N, rfl, -⟩
      · rw [mdT_1] at h0; exact mdE_T (by omega)
      · exact mdE_T (by omega)
      · exact mdE_G (by omega))⟩
theorem st_31 (hR : clR C) (hM : mdR M) (hr : relA C M) (hn : relN M) (hG : C.1 (alb C) 0 = M.1 24) (hg : gI g L xs) (hi : i + 6 ≤ L) (hL : L ≤ 3072) : stE z 2051 g C M i := by
  intro l6 l7
  obtain ⟨f, ef, gf⟩ := wI_ex (xs (i + 1))
  obtain ⟨o, ho⟩ := hg.2.1
  obtain ⟨X, hX, hgood⟩ := lk_X (z := z) hR hM hr gf
  obtain ⟨g', C', M', t, v, b, hRt, hQ, hn9, h0, hv, h1, h2, h3, h4, h5⟩ := gn_step (z := z) (g := g) (M := M) (jc := 269) (jh := 268) (jm := 272) (cargs := [.ref 1000, .int (wI f)]) (margs := [.ref 1315, .int (wI f)]) (nE := 2) (o := o)
    (fun h => c269 hR gf) (fun h => p272 hM gf hX hgood)
    (fun t v C' b M' k1 k2 => by
      have er := rel_rcP hM hr f
      have e2 := rcP_2 C f
      rcases k1 with ⟨a1, rfl, rfl⟩ | ⟨a1, p, rfl, a2, a3, n, K, a4, a5⟩
      · rcases k2 with ⟨b1, rfl⟩ | ⟨b1, -⟩
        · exact ⟨by omega, by rw [mdT_1, er], fun c => absurd c a1⟩
        · omega
      · obtain ⟨c1, c2, c3, c4⟩ := rel_rf hM hr a1
        rcases k2 with ⟨b1, rfl⟩ | ⟨b1, G, rfl, b3⟩
        · exact absurd c1 b1
        · refine ⟨by omega, by rw [mdT_1, a3]; rfl, fun _ => ?_⟩
          rw [b3]
          have s := phR_s c3
          have hm : (mph M f.toNat).1 7 = (((mph M f.toNat).1 7).toNat : Nat) := by omega
          have w1 := mxF_sp K (n - 1) (lk_rng c3 (gpI_congr a4 c4))
          obtain ⟨G1, N1, y1, -⟩ := p266 (z := z) (h := (fun _ => none, 0, 0)) c2 c3 hm (dd := v) (by omega)
          obtain ⟨G2, N2, y2, -⟩ := p266 (z := z) (h := (fun _ => none, 0, 0)) c2 c3 hm (dd := X) hX
          have z1 := hgood c1 _ _ _ (by omega) (by omega) y1
          have z2 := lk_good c3 hm (gpI_congr a4 c4) (by omega) y1
          have z3 := hgood c1 _ _ _ hX.1 hX.2 y2
          have z4 := lk_good c3 hm (gpI_congr a4 c4) hX.1 y2
          rw [← a5] at z2 z4
          have x1 := z1.mp (z2.mpr (Int.le_refl _))
          have x2 := z4.mp (z3.mpr (Int.le_refl _))
          omega)
    (fun H G o t v C' k1 k2 hc ho => hp268 hc ho)
    (fun H G E hE hc => by
      have e9 : E = 0 ∨ E = 1 := by omega
      rcases e9 with rfl | rfl
      · exact hx268_0 hc
      · exact hx268_1 hc) ho
  simp only [List.cons_append, List.nil_append] at h1
  rw [← ef] at h1 h2
  exact ⟨g', C', M', _, _, lw_31 (gI_x hg) (gI_x (gI_on hg h5)) hi hL (by omega) h1 h2 h3 (fun e => h4 (by omega)), h5, rp_clE hRt, (by
      rcases hQ with ⟨-, rfl⟩ | ⟨-, G, rfl, -⟩
      · rw [mdT_1] at h0; exact mdE_T (by omega)
      · exact mdE_G (by omega))⟩
end ST5
