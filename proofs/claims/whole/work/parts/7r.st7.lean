/-! ===== the law's steps of inversions (printed by wip/gen/genst2.py) ===== -/
theorem rpP_clE {C : tCl} {f k : Int} {T : Int → Prop} {t : Nat} {v : Int} {C' : tCl} (h : rpP C f k T t v C') : clE C C' := by
  rcases h with ⟨-, -, rfl⟩ | ⟨-, -, -, h, -⟩
  · exact clE_refl _
  · exact h
section ST7
variable {z : Bool} {g : am_H} {C : tCl} {M : tMd} {xs : Nat → Int32} {L i : Nat}
theorem st_28 (hR : clR C) (hM : mdR M) (hr : relA C M) (hn : relN M) (hG : C.1 (alb C) 0 = M.1 24) (hg : gI g L xs) (hi : i + 6 ≤ L) (hL : L ≤ 3072) : stE z 1840 g C M i := by
  intro l6 l7
  obtain ⟨f, ef, gf⟩ := wI_ex (xs (i + 1))
  obtain ⟨k, ek, gk⟩ := wI_ex (xs (i + 2))
  obtain ⟨o, ho⟩ := hg.2.1
  obtain ⟨g', C', M', t, v, b, hRt, hQ, hn9, h0, hv, h1, h2, h3, h4, h5⟩ := gn_step (z := z) (g := g) (M := M) (jc := 249) (jh := 248) (jm := 252) (cargs := [.ref 1000, .int (wI f), .int (wI k)]) (margs := [.ref 1315, .int (wI f), .int (wI k)]) (nE := 2) (o := o)
    (fun h => c249 hR gf gk) (fun h => md_ex (p252 hM hn gf gk))
    (fun t v C' b M' k1 k2 => by
      obtain ⟨k2, k3⟩ := k2
      subst k2
      have er := rel_rcPP hM hr f k
      have b1 := rcP_2 C f
      have b2 := rcP_2 C k
      rcases k1 with ⟨a1, a2, rfl⟩ | ⟨a1, a2, rfl, a3, a4⟩
      · refine ⟨?_, by rw [mdT_1, a2, er], fun c => absurd (by rw [← a2]; exact c) a1⟩
        rw [a2]; split <;> omega
      · rw [if_pos a1, a2] at er
        have er0 : rfPP M f k = 0 := er.symm
        obtain ⟨c1, c2, c3, c4⟩ := rel_rf hM hr a1
        obtain ⟨d1, d2, d3, d4⟩ := rel_rf hM hr a2
        refine ⟨by omega, by rw [mdT_1, ← er], fun _ => ?_⟩
        have hN := hM.2.2.2.1
        obtain ⟨N, hNN⟩ := Int.eq_ofNat_of_zero_le hN.1
        have n1 := hn _ (rel_lt c1)
        have n2 := hn _ (rel_lt d1)
        rw [hNN] at n1 n2
        rw [k3, if_pos er0, ivI_eq c4 d4 c3 d3 n1 n2 (by omega) a4]
        unfold tnV
        rw [hNN, Int.toNat_natCast])
    (fun H G o t v C' k1 k2 hc ho => hp248 hc ho)
    (fun H G E hE hc => by
      have e9 : E = 0 ∨ E = 1 := by omega
      rcases e9 with rfl | rfl
      · exact hx248_0 hc
      · exact hx248_1 hc) ho
  simp only [List.cons_append, List.nil_append] at h1
  rw [← ef, ← ek] at h1 h2
  exact ⟨g', C', M', _, _, lw_28 (gI_x hg) (gI_x (gI_on hg h5)) hi hL (by omega) h1 h2 h3 (fun e => h4 (by omega)), h5, rpP_clE hRt, rpM_T (b := 0) hQ.1 h0 hn9 (by decide)⟩
theorem st_29 (hR : clR C) (hM : mdR M) (hr : relA C M) (hn : relN M) (hG : C.1 (alb C) 0 = M.1 24) (hg : gI g L xs) (hi : i + 6 ≤ L) (hL : L ≤ 3072) : stE z 1908 g C M i := by
  intro l6 l7
  obtain ⟨f, ef, gf⟩ := wI_ex (xs (i + 1))
  obtain ⟨k, ek, gk⟩ := wI_ex (xs (i + 2))
  obtain ⟨o, ho⟩ := hg.2.1
  obtain ⟨g', C', M', t, v, b, hRt, hQ, hn9, h0, hv, h1, h2, h3, h4, h5⟩ := gn_step (z := z) (g := g) (M := M) (jc := 255) (jh := 254) (jm := 256) (cargs := [.ref 1000, .int (wI f), .int (wI k)]) (margs := [.ref 1315, .int (wI f), .int (wI k)]) (nE := 2) (o := o)
    (fun h => c255 hR gf gk) (fun h => md_ex (p256 hM hn gf gk))
    (fun t v C' b M' k1 k2 => by
      obtain ⟨k2, k3⟩ := k2
      subst k2
      have er := rel_rcPP hM hr f k
      have b1 := rcP_2 C f
      have b2 := rcP_2 C k
      rcases k1 with ⟨a1, a2, rfl⟩ | ⟨a1, a2, rfl, a3, a4⟩
      · refine ⟨?_, by rw [mdT_1, a2, er], fun c => absurd (by rw [← a2]; exact c) a1⟩
        rw [a2]; split <;> omega
      · rw [if_pos a1, a2] at er
        have er0 : rfPP M f k = 0 := er.symm
        obtain ⟨c1, c2, c3, c4⟩ := rel_rf hM hr a1
        obtain ⟨d1, d2, d3, d4⟩ := rel_rf hM hr a2
        refine ⟨by omega, by rw [mdT_1, ← er], fun _ => ?_⟩
        have hN := hM.2.2.2.1
        obtain ⟨N, hNN⟩ := Int.eq_ofNat_of_zero_le hN.1
        have n1 := hn _ (rel_lt c1)
        have n2 := hn _ (rel_lt d1)
        rw [hNN] at n1 n2
        obtain ⟨w, a5, a6⟩ := a4
        rw [k3, if_pos er0, a6, ivI_eq c4 d4 c3 d3 n1 n2 (by omega) a5, rel_nm hR hM hr hn a1, rel_nm hR hM hr hn a2]
        unfold tnV
        rw [hNN, Int.toNat_natCast])
    (fun H G o t v C' k1 k2 hc ho => hp254 (by
      rcases k1 with ⟨q1, q2, -⟩ | ⟨-, -, -, -, w, -, q3⟩
      · exact absurd (by rw [← q2]; exact k2) q1
      · rw [q3]; split <;> omega) hc ho)
    (fun H G E hE hc => by
      have e9 : E = 0 ∨ E = 1 := by omega
      rcases e9 with rfl | rfl
      · exact hx254_0 hc
      · exact hx254_1 hc) ho
  simp only [List.cons_append, List.nil_append] at h1
  rw [← ef, ← ek] at h1 h2
  exact ⟨g', C', M', _, _, lw_29 (gI_x hg) (gI_x (gI_on hg h5)) hi hL (by omega) (by rw [hQ.2]; (repeat' split) <;> omega) h1 h2 h3 (fun e => h4 (by omega)), h5, rpP_clE hRt, rpM_T (b := 0) hQ.1 h0 hn9 (by decide)⟩
end ST7
