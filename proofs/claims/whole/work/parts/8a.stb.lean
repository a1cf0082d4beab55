/-! ===== the law's step of undo (printed by wip/gen/genst2.py) ===== -/
section STB
variable {z : Bool} {g : am_H} {C : tCl} {M : tMd} {xs : Nat → Int32} {L i : Nat}
theorem st_47 (h : coI C M) (hg : gI g L xs) (hi : i + 6 ≤ L) (hL : L ≤ 3072) : stC z 3249 g C M i := by
  intro l6 l7
  obtain ⟨hR, hA, hM, hr, hn, hG, hH, hS, hrg⟩ := id h
  obtain ⟨o, ho⟩ := hg.2.1
  obtain ⟨g', C', M', t, v, b, hRt, hQ, hn9, hX, h1, h2, h3, h4, h5⟩ := gn_stepX (z := z) (g := g) (M := M) (jc := 371) (jh := 370) (jm := 373) (cargs := [.ref 1000]) (margs := [.ref 1315]) (nE := 1) (o := o) (X := fun C' M' => coI C' M' ∧ chC C C' ∧ chM M M')
    (fun h => c371 hR hH.1 hA) (fun h => p373 hM)
    (fun t v C' b M' k1 k2 => by
      have hk : C.1 1092 0 = M.1 4 := hH.2.2.1
      rcases k1 with ⟨a1, rfl, rfl⟩ | ⟨a1, rfl, a2, a3, a4, a5, a6, a7⟩
      · rcases k2 with ⟨b1, rfl⟩ | ⟨b1, -⟩
        · exact ⟨by omega, by rw [mdT_1]; rfl, fun c => by omega, coI_T h (by omega), chC_refl _, chM_T _ _⟩
        · omega
      · rcases k2 with ⟨b1, -⟩ | ⟨b1, b2, rfl⟩
        · omega
        · have ha : M.1 1 = 1 := by have := hH.2.1; have := hM.2.1; omega
          rw [hk] at a2 a3 a5 a6
          have w := hH.2.2.2 (M.1 4 - 1).toNat (by omega)
          obtain ⟨x1, x2, x3⟩ := st_take h w a6
          have w0 := w.1.1
          have e25 : C.1 (alb C + 4) 0 = M.1 25 := (coI_st h ha).1.1
          obtain ⟨y1, y2, y3⟩ := ch_st (M := mdT M 0) (n' := M.1 4 - 1) (coI_T h (by omega)) ha (by show 0 ≤ M.1 4 - 1 ∧ M.1 4 - 1 ≤ M.1 4; omega) a3 a4 (by rw [a5, w0, e25]) (fun f hf => (a6 f hf).2) a7 x1 x2 x3
          exact ⟨by omega, by show (0 : Int) = 0; rfl, fun _ => by omega, y1, y2, chM_tr (chM_T _ _) y3⟩)
    (fun H G o t v C' k1 k2 hc ho => hp370 hc ho)
    (fun H G E hE hc => by
      have e9 : E = 0 := by omega
      rcases e9 with rfl
      · exact hx370_0 hc) ho
  simp only [List.cons_append, List.nil_append] at h1
  exact ⟨g', C', M', _, _, lw_47 (gI_x hg) (gI_x (gI_on hg h5)) hi hL (by omega) h1 h2 h3 (fun e => h4 (by omega)), h5, hX⟩
end STB
