/-! ===== the law's steps of spacing, aspect ===== -/
theorem okF_sp {p : tPi} {q : tPh} {gap : Int} (hp : piOK p q gap) (hq : phR q) {r : Nat} (hr : (r : Int) < p.1 1) : okF (spV p r) := by
  unfold spV
  have ln := pi_len hp hr
  by_cases c : p.2 6 (r + 1) - p.2 6 r - 1 < 1
  · rw [if_pos c]; exact okF_0
  · rw [if_neg c]
    obtain ⟨j, hj⟩ := Int.eq_ofNat_of_zero_le (show 0 ≤ p.2 6 (r + 1) - p.2 6 r - 1 by omega)
    obtain ⟨x0, a, b, x1, x2, x3, x4, x5, x6, x7, x8, x9, x10, x11⟩ := pi_x0 hp hq (r := r) (j := j) hr (by omega)
    rw [hj, x1, x2, Int.toNat_natCast, Int.toNat_natCast, x7, x8]
    exact okF_V (by omega) (by omega) (by omega)
theorem sp_K {C : tCl} {M : tMd} (hR : clR C) (hM : mdR M) (hr : relA C M) (hG : C.1 (alb C) 0 = M.1 24) {f : Int} (g : -2147483648 ≤ f ∧ f < 2147483648) (e0 : rcP C f = 0) : ∀ rc R L Q, lrOK M f.toNat rc R L Q → ∀ r : Nat, (r : Int) < rc → ∃ a b : Nat, a < 12 ∧ b < 12 ∧ fnF (stP R L (r : Int) 0) ((mph M f.toNat).1 7).toNat 0 = (a : Int) ∧ fnF (stP R L (r : Int) (Q r - 1)) ((mph M f.toNat).1 7).toNat 0 = (b : Int) ∧ (1 ≤ Q r ∧ Q r ≤ 12) ∧ (0 ≤ shX (mph M f.toNat) b - shX (mph M f.toNat) a ∧ shX (mph M f.toNat) b - shX (mph M f.toNat) a ≤ 999) := by
  intro rc R L Q hl r hrr
  obtain ⟨c1, c2, c3, c4⟩ := rel_rf hM hr e0
  have hq := (dph (h := (fun _ => none, 0, 0)) hR e0).2
  obtain ⟨P, p, -, hp, -⟩ := c187 (z := true) (h := (fun _ => none, 0, 0)) hR g e0
  rw [hG] at hp
  obtain ⟨y1, y2, y3, y4, y5⟩ := pl_link hp hl c4 hq c3
  have hQ : 1 ≤ Q r ∧ Q r ≤ 12 := by
    have hrc := rwOK_rc hl.1
    obtain ⟨k, k1, k2, k3⟩ := rwOK_surj hl.1 hrr
    have l3 := hl.2.2 r (by omega)
    have a1 := cnB_pos (P := fun o => shS (mph M f.toNat) o && decide (R o = (r : Int))) (k := k) 12 k1 (by rw [k2]; simp [k3])
    have a2 := cnB_le (fun o => shS (mph M f.toNat) o && decide (R o = (r : Int))) 12
    unfold rlN at l3
    omega
  have hlen := y4 r hrr
  obtain ⟨j, hj⟩ := Int.eq_ofNat_of_zero_le (show 0 ≤ Q r - 1 by omega)
  obtain ⟨a, a1, a2, a3, a4, a5⟩ := y5 r 0 hrr (by omega)
  obtain ⟨b, b1, b2, b3, b4, b5⟩ := y5 r j hrr (by omega)
  obtain ⟨x0, a', b', x1, x2, x3, x4, x5, x6, x7, x8, x9, x10, x11⟩ := pi_x0 hp hq (r := r) (j := j) (by omega) (by omega)
  have ea : a' = a := by
    have : (a' : Int) = (a : Int) := by rw [← x1, ← a4]; rfl
    omega
  have eb : b' = b := by
    have : (b' : Int) = (b : Int) := by rw [← x2, ← b4]
    omega
  subst ea
  subst eb
  refine ⟨a', b', a1, b1, a5, by rw [hj]; exact b5, hQ, ?_⟩
  rw [← pheq_shX c4 (shS_lt b2), ← pheq_shX c4 (shS_lt a2)]
  omega
theorem sp_eq {M : tMd} {p : tPi} {q : tPh} {f : Nat} {rc : Int} {R L Q : Nat → Int} (hp : piOK p q (M.1 24)) (hq : phR q) (he : pheq q (mph M f)) (hd : plkD p q M f rc R L Q) {r : Nat} (hr : (r : Int) < rc) (hQ : 1 ≤ Q r ∧ Q r ≤ 12) : spV p r = spW M f R L Q r := by
  obtain ⟨y1, y2, y3, y4, y5⟩ := hd
  have hlen := y4 r hr
  unfold spV spW
  rw [hlen]
  by_cases c : Q r = 1
  · rw [if_pos c, if_pos (by omega)]
  · rw [if_neg c, if_neg (by omega)]
    obtain ⟨j, hj⟩ := Int.eq_ofNat_of_zero_le (show 0 ≤ Q r - 1 by omega)
    obtain ⟨a, a1, a2, a3, a4, a5⟩ := y5 r 0 hr (by omega)
    obtain ⟨b, b1, b2, b3, b4, b5⟩ := y5 r j hr (by omega)
    obtain ⟨x0, a', b', x1, x2, x3, x4, x5, x6, x7, x8, x9, x10, x11⟩ := pi_x0 hp hq (r := r) (j := j) (by omega) (by omega)
    have ea : a' = a := by
      have : (a' : Int) = (a : Int) := by rw [← x1, ← a4]; rfl
      omega
    have eb : b' = b := by
      have : (b' : Int) = (b : Int) := by rw [← x2, ← b4]
      omega
    subst ea
    subst eb
    have a5 : fnF (stP R L (r : Int) 0) ((mph M f).1 7).toNat 0 = (a' : Int) := a5
    rw [hj, x1, x2, a5, b5, Int.toNat_natCast, Int.toNat_natCast, x7, x8, pheq_shX he (shS_lt a2), pheq_shX he (shS_lt b2)]
section ST3233
variable {z : Bool} {g : am_H} {C : tCl} {M : tMd} {xs : Nat → Int32} {L i : Nat}
theorem st_32 (h : coI C M) (hg : gI g L xs) (hi : i + 6 ≤ L) (hL : L ≤ 3072) : stC z 2107 g C M i := by
  intro l6 l7
  obtain ⟨hR, hA, hM, hr, hn, hG, hH, hS, hrg⟩ := id h
  obtain ⟨f, ef, gf⟩ := wI_ex (xs (i + 1))
  obtain ⟨r, er, gr⟩ := wI_ex (xs (i + 2))
  obtain ⟨o, ho⟩ := hg.2.2.2
  obtain ⟨o2, ho2⟩ := hg.2.1
  have hK : rfP M f = 0 → ∀ rc R L Q, lrOK M f.toNat rc R L Q → ∀ r : Nat, (r : Int) < rc → ∃ a b : Nat, a < 12 ∧ b < 12 ∧ fnF (stP R L (r : Int) 0) ((mph M f.toNat).1 7).toNat 0 = (a : Int) ∧ fnF (stP R L (r : Int) (Q r - 1)) ((mph M f.toNat).1 7).toNat 0 = (b : Int) ∧ (1 ≤ Q r ∧ Q r ≤ 12) ∧ (0 ≤ shX (mph M f.toNat) b - shX (mph M f.toNat) a ∧ shX (mph M f.toNat) b - shX (mph M f.toNat) a ≤ 999) := fun e => sp_K hR hM hr hG gf (by have := rel_rcP hM hr f; omega)
  obtain ⟨g', C', M', t, b, hn9, hv, hX, h1, h2, h3, h4, h5⟩ := gn_stepD (z := z) (g := g) (M := M) (jc := 274) (jh := 273) (jm := 275) (cargs := [.ref 1000, .int (wI f), .int (wI r)]) (margs := [.ref 1315, .int (wI f), .int (wI r)]) (nE := 2) (o := o) (o2 := o2) (X := fun C' M' => coI C' M' ∧ chC C C' ∧ chM M M')
    (fun h => c274 hR gf gr) (fun h => p275 hM gf gr hK)
    (fun t v C' b M' k1 k2 => by
      obtain ⟨a1, a2, a3⟩ := rp_vb (nE := 2) hR hM hr hG (by decide) (fun e0 p rc R L Q t v t' b hp hl hd hT hT' => by
        obtain ⟨c1, c2, c3, c4⟩ := rel_rf hM hr e0
        have hq := (dph (h := (fun _ => none, 0, 0)) hR e0).2
        have ec := hd.1
        rcases hT with ⟨t1, t2, t3, t4⟩ | ⟨t1, t2⟩
        · rcases hT' with ⟨u1, u2, u3, u4⟩ | ⟨u1, u2⟩
          · obtain ⟨-, -, -, -, -, -, hQ, -⟩ := hK c1 rc R L Q hl r.toNat (by omega)
            exact ⟨by omega, by omega, fun _ => by rw [t4, u4]; exact sp_eq hp hq c4 hd (by omega) hQ⟩
          · omega
        · rcases hT' with ⟨u1, u2, u3, u4⟩ | ⟨u1, u2⟩
          · omega
          · exact ⟨by omega, by omega, fun e => by omega⟩) k1 k2
      refine ⟨a1, a2, fun e => ⟨a3 e, ?_⟩, coI_E h (rp_clE k1) (rp_mdE k2 a2 a1 (by decide))⟩
      rw [← a3 e]
      rcases k1 with ⟨b1, b2, -⟩ | ⟨b1, p, -, b2, b3⟩
      · omega
      · rcases b3 with ⟨t1, t2, t3, rfl⟩ | ⟨t1, t2⟩
        · exact okF_sp b2 (dph (h := (fun _ => none, 0, 0)) hR b1).2 (by omega)
        · omega)
    (fun H G o v k hc ho => hp273 k hc ho)
    (fun H G E hE hc => by
      have e9 : E = 0 ∨ E = 1 := by omega
      rcases e9 with rfl | rfl
      · exact hx273_0 hc
      · exact hx273_1 hc) ho ho2
  simp only [List.cons_append, List.nil_append] at h1
  rw [← ef, ← er] at h1 h2
  exact ⟨g', C', M', _, _, lw_32 (gI_x hg) (gI_x (gI_on hg h5)) hi hL (by omega) (fun e => hv (by omega)) h1 h2 h3 (fun e => h4 (by omega)), h5, hX⟩
theorem st_33 (h : coI C M) (hg : gI g L xs) (hi : i + 6 ≤ L) (hL : L ≤ 3072) : stC z 2197 g C M i := by
  intro l6 l7
  obtain ⟨hR, hA, hM, hr, hn, hG, hH, hS, hrg⟩ := id h
  obtain ⟨f, ef, gf⟩ := wI_ex (xs (i + 1))
  obtain ⟨o, ho⟩ := hg.2.2.2
  obtain ⟨o2, ho2⟩ := hg.2.1
  have er := rel_rcP hM hr f
  have e2 := rcP_2 C f
  have hwm : rfP M f = 0 → (mph M f.toNat).1 2 ≤ (mph M f.toNat).1 4 ∧ (mph M f.toNat).1 3 ≤ (mph M f.toNat).1 5 := fun e => (hn f.toNat (by have := (rfP_0 e).2; omega)).2.2
  have hwc : rcP C f = 0 → (cph C (cAp C f.toNat)).1 2 ≤ (cph C (cAp C f.toNat)).1 4 ∧ (cph C (cAp C f.toNat)).1 3 ≤ (cph C (cAp C f.toNat)).1 5 := fun e => by
    obtain ⟨c1, c2, c3, c4⟩ := rel_rf hM hr e
    rw [c4.1 2 (by decide), c4.1 3 (by decide), c4.1 4 (by decide), c4.1 5 (by decide)]
    exact hwm c1
  obtain ⟨g', C', M', t, b, hn9, hv, hX, h1, h2, h3, h4, h5⟩ := gn_stepD (z := z) (g := g) (M := M) (jc := 277) (jh := 276) (jm := 280) (cargs := [.ref 1000, .int (wI f)]) (margs := [.ref 1315, .int (wI f)]) (nE := 2) (o := o) (o2 := o2) (X := fun C' M' => coI C' M' ∧ chC C C' ∧ chM M M')
    (R := fun t v C' => t = rcP C f ∧ v = flV ((cph C (cAp C f.toNat)).1 4 - (cph C (cAp C f.toNat)).1 2 + 1) ((cph C (cAp C f.toNat)).1 5 - (cph C (cAp C f.toNat)).1 3 + 1) ∧ C' = C)
    (Q := fun b M' => M' = mdT M (rfP M f) ∧ b = if rfP M f = 0 then flV ((mph M f.toNat).1 4 - (mph M f.toNat).1 2 + 1) ((mph M f.toNat).1 5 - (mph M f.toNat).1 3 + 1) else 0)
    (fun h => ⟨_, _, C, c277 hR gf hwc, rfl, rfl, rfl⟩) (fun h => ⟨_, _, p280 hM gf hwm, rfl, rfl⟩)
    (fun t v C' b M' k1 k2 => by
      obtain ⟨rfl, rfl, rfl⟩ := k1
      obtain ⟨rfl, rfl⟩ := k2
      refine ⟨e2, by rw [mdT_1]; omega, fun e => ?_, coI_T h (by omega), chC_refl _, chM_T _ _⟩
      obtain ⟨c1, c2, c3, c4⟩ := rel_rf hM hr e
      have s := phR_s c3
      have w := hwm c1
      rw [if_pos c1]
      refine ⟨by rw [c4.1 2 (by decide), c4.1 3 (by decide), c4.1 4 (by decide), c4.1 5 (by decide)], okF_V (by omega) (by omega) (by omega)⟩)
    (fun H G o v k hc ho => hp276 k hc ho)
    (fun H G E hE hc => by
      have e9 : E = 0 ∨ E = 1 := by omega
      rcases e9 with rfl | rfl
      · exact hx276_0 hc
      · exact hx276_1 hc) ho ho2
  simp only [List.cons_append, List.nil_append] at h1
  rw [← ef] at h1 h2
  exact ⟨g', C', M', _, _, lw_33 (gI_x hg) (gI_x (gI_on hg h5)) hi hL (by omega) (fun e => hv (by omega)) h1 h2 h3 (fun e => h4 (by omega)), h5, hX⟩
end ST3233
