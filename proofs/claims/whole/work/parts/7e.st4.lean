/-! ===== the law's steps that arrange a picture (printed by wip/gen/genst2.py) ===== -/
def plkD (p : tPi) (q : tPh) (M : tMd) (f : Nat) (rc : Int) (R L Q : Nat → Int) : Prop := p.1 1 = rc ∧ (∀ k, k < 12 → p.2 3 k = R k) ∧ (∀ k, k < 12 → p.2 4 k = L k) ∧ (∀ r : Nat, (r : Int) < rc → p.2 6 (r + 1) - p.2 6 r = Q r) ∧ ∀ r j : Nat, (r : Int) < rc → (j : Int) < Q r → ∃ k : Nat, k < 12 ∧ shS q k = true ∧ p.2 3 k = (r : Int) ∧ p.2 5 (p.2 6 r + (j : Int)).toNat = (k : Int) ∧ fnF (stP R L r j) ((mph M f).1 7).toNat 0 = (k : Int)
theorem rel_rf {C : tCl} {M : tMd} (hM : mdR M) (hr : relA C M) {f : Int} (e : rcP C f = 0) : rfP M f = 0 ∧ f.toNat < 5 ∧ phR (mph M f.toNat) ∧ pheq (cph C (cAp C f.toNat)) (mph M f.toNat) := by
  have e1 : rfP M f = 0 := by rw [← rel_rcP hM hr f, e]; rfl
  obtain ⟨n, hn, rfl, hq⟩ := mph_at hM e1
  exact ⟨e1, hn, hq, rel_ph hr e⟩
theorem rp_vb {C : tCl} {M : tMd} {f : Int} {T : tPi → Nat → Int → Prop} {T' : Int → (Nat → Int) → (Nat → Int) → (Nat → Int) → Int → Int → Prop} {nE : Nat} (hR : clR C) (hM : mdR M) (hr : relA C M) (hG : C.1 (alb C) 0 = M.1 24) (h2 : 2 ≤ nE)
    (hT : rcP C f = 0 → ∀ p rc R L Q t v t' b, piOK p (cph C (cAp C f.toNat)) (M.1 24) → lrOK M f.toNat rc R L Q → plkD p (cph C (cAp C f.toNat)) M f.toNat rc R L Q → T p t v → T' rc R L Q t' b → t ≤ nE ∧ t' = (t : Int) ∧ (t = 0 → v = b)) {t : Nat} {v b : Int} {C' : tCl} {M' : tMd} (k1 : rpC C f T t v C') (k2 : rpM M f T' b M') : t ≤ nE ∧ M'.1 0 = (t : Int) ∧ (t = 0 → v = b) := by
  have er := rel_rcP hM hr f
  have e2 := rcP_2 C f
  rcases k1 with ⟨a1, rfl, rfl⟩ | ⟨a1, p, rfl, a2, a3⟩
  · rcases k2 with ⟨b1, rfl⟩ | ⟨b1, -⟩
    · exact ⟨by omega, by rw [mdT_1, er], fun c => absurd c a1⟩
    · omega
  · obtain ⟨c1, c2, c3, c4⟩ := rel_rf hM hr a1
    rcases k2 with ⟨b1, rfl⟩ | ⟨b1, rc, R, L, Q, t', rfl, b2, b3⟩
    · exact absurd c1 b1
    · rw [hG] at a2
      obtain ⟨d1, d2, d3⟩ := hT a1 p rc R L Q t v t' b a2 b2 (pl_link a2 b2 c4 (dph (h := (fun _ => none, 0, 0)) hR a1).2 c3) a3 b3
      exact ⟨d1, by rw [mdT_1]; exact d2, d3⟩
theorem rp_vk {C : tCl} {M : tMd} {f k : Int} {T : tPi → Nat → Int → Prop} {T' : Int → (Nat → Int) → (Nat → Int) → (Nat → Int) → Int → Int → Prop} {nE : Nat} (hR : clR C) (hM : mdR M) (hr : relA C M) (hG : C.1 (alb C) 0 = M.1 24) (h2 : 2 ≤ nE)
    (hT : rcK C f k = 0 → ∀ p rc R L Q t v t' b, piOK p (cph C (cAp C f.toNat)) (M.1 24) → lrOK M f.toNat rc R L Q → plkD p (cph C (cAp C f.toNat)) M f.toNat rc R L Q → T p t v → T' rc R L Q t' b → t ≤ nE ∧ t' = (t : Int) ∧ (t = 0 → v = b)) {t : Nat} {v b : Int} {C' : tCl} {M' : tMd} (k1 : rpK C f k T t v C') (k2 : rpL M f k T' b M') : t ≤ nE ∧ M'.1 0 = (t : Int) ∧ (t = 0 → v = b) := by
  have er := rel_rcK hM hr f k
  have e2 := rcK_2 C f k
  rcases k1 with ⟨a1, rfl, rfl⟩ | ⟨a1, p, rfl, a2, a3⟩
  · rcases k2 with ⟨b1, rfl⟩ | ⟨b1, -⟩
    · exact ⟨by omega, by rw [mdT_1, er], fun c => absurd c a1⟩
    · omega
  · obtain ⟨a0, -⟩ := rcK_0 a1
    obtain ⟨c1, c2, c3, c4⟩ := rel_rf hM hr a0
    rcases k2 with ⟨b1, rfl⟩ | ⟨b1, rc, R, L, Q, t', rfl, b2, b3⟩
    · omega
    · rw [hG] at a2
      obtain ⟨d1, d2, d3⟩ := hT a1 p rc R L Q t v t' b a2 b2 (pl_link a2 b2 c4 (dph (h := (fun _ => none, 0, 0)) hR a0).2 c3) a3 b3
      exact ⟨d1, by rw [mdT_1]; exact d2, d3⟩
theorem rp_clE {C : tCl} {f : Int} {T : tPi → Nat → Int → Prop} {t : Nat} {v : Int} {C' : tCl} (k1 : rpC C f T t v C') : clE C C' := by
  rcases k1 with ⟨-, -, rfl⟩ | ⟨-, p, rfl, -⟩
  · exact clE_refl _
  · exact clE_1 _ _
theorem rp_clK {C : tCl} {f k : Int} {T : tPi → Nat → Int → Prop} {t : Nat} {v : Int} {C' : tCl} (k1 : rpK C f k T t v C') : clE C C' := by
  rcases k1 with ⟨-, -, rfl⟩ | ⟨-, p, rfl, -⟩
  · exact clE_refl _
  · exact clE_1 _ _
theorem rp_mdE {M : tMd} {f : Int} {T' : Int → (Nat → Int) → (Nat → Int) → (Nat → Int) → Int → Int → Prop} {b : Int} {M' : tMd} {t nE : Nat} (k2 : rpM M f T' b M') (h : M'.1 0 = (t : Int)) (ht : t ≤ nE) (h9 : nE ≤ 9) : mdE M M' := by
  rcases k2 with ⟨-, rfl⟩ | ⟨-, rc, R, L, Q, t', rfl, -⟩
  · rw [mdT_1] at h; exact mdE_T (by omega)
  · rw [mdT_1] at h; exact mdE_Q (by omega)
theorem rp_mdL {M : tMd} {f k : Int} {T' : Int → (Nat → Int) → (Nat → Int) → (Nat → Int) → Int → Int → Prop} {b : Int} {M' : tMd} {t nE : Nat} (k2 : rpL M f k T' b M') (h : M'.1 0 = (t : Int)) (ht : t ≤ nE) (h9 : nE ≤ 9) : mdE M M' := by
  rcases k2 with ⟨-, rfl⟩ | ⟨-, rc, R, L, Q, t', rfl, -⟩
  · rw [mdT_1] at h; exact mdE_T (by omega)
  · rw [mdT_1] at h; exact mdE_Q (by omega)
theorem rpM_T {M : tMd} {t b : Int} {M' : tMd} {nE n : Nat} (k2 : M' = mdT M t) (h : M'.1 0 = (n : Int)) (ht : n ≤ nE) (h9 : nE ≤ 9) : mdE M M' := by
  subst k2
  rw [mdT_1] at h; exact mdE_T (by omega)
/-- the order of all people: class against reference -/
theorem en_link {C : tCl} {M : tMd} (hR : clR C) (hM : mdR M) (hr : relA C M) {f : Int} (e : rcP C f = 0) {key key' : Nat → Int} (hk : ∀ k, k < 12 → shS (cph C (cAp C f.toNat)) k = true → key k = key' k) {n : Nat} {en : Nat → Nat} (h : enO (shS (cph C (cAp C f.toNat))) key n en) {j : Nat} (hj : j < n) :
    fnF (fun k => shw (mph M f.toNat) k && decide (rkN (shS (mph M f.toNat)) key' k = j)) ((mph M f.toNat).1 7).toNat 0 = (en j : Nat) := by
  obtain ⟨c1, c2, c3, c4⟩ := rel_rf hM hr e
  have s := phR_s c3
  obtain ⟨m, hm⟩ := Int.eq_ofNat_of_zero_le s.2.2.2.2.2.2.2.1
  rw [hm, Int.toNat_natCast, ← shS_eq c4]
  refine enO_fn (enO_key h (fun a b ha hb sa sb hab => by rw [← hk a ha sa, ← hk b hb sb]; exact hab)) hj (fun k hk2 => ?_) (fun k hk2 hs => ?_) (by omega)
  · rw [shS_eq c4, shS_of (by omega)]
  · have := shS_lt hs
    have := c4.1 7 (by decide)
    omega
/-- a reference's call whose answer and refusal are told at once -/
def mdX (M : tMd) (t0 b0 b : Int) (M' : tMd) : Prop := M' = mdT M t0 ∧ b = b0
theorem md_ex {z : Bool} {jm : Nat} {margs : List Value} {h : am_H} {M : tMd} {t0 b0 : Int} (e : ru_ev z jm margs (mdPut h M) = some (.inl (some (.int (wI b0))), mdPut h (mdT M t0))) : ∃ b M', ru_ev z jm margs (mdPut h M) = some (.inl (some (.int (wI b))), mdPut h M') ∧ mdX M t0 b0 b M' := ⟨b0, mdT M t0, e, rfl, rfl⟩
section ST4
variable {z : Bool} {g : am_H} {C : tCl} {M : tMd} {xs : Nat → Int32} {L i : Nat}
theorem st_13 (hR : clR C) (hM : mdR M) (hr : relA C M) (hn : relN M) (hG : C.1 (alb C) 0 = M.1 24) (hg : gI g L xs) (hi : i + 6 ≤ L) (hL : L ≤ 3072) : stE z 899 g C M i := by
  intro l6 l7
  obtain ⟨f, ef, gf⟩ := wI_ex (xs (i + 1))
  obtain ⟨o, ho⟩ := hg.2.1
  obtain ⟨g', C', M', t, v, b, hRt, hQ, hn9, h0, hv, h1, h2, h3, h4, h5⟩ := gn_step (z := z) (g := g) (M := M) (jc := 186) (jh := 185) (jm := 188) (cargs := [.ref 1000, .int (wI f)]) (margs := [.ref 1315, .int (wI f)]) (nE := 2) (o := o)
    (fun h => c186 hR gf) (fun h => p188 hM gf)
    (fun t v C' b M' k1 k2 => rp_vb hR hM hr hG (by decide) (fun e p rc R L Q t v t' b p1 p2 p3 q1 q2 => by
      obtain ⟨l1, l2, l3, l4, l5⟩ := p3
      exact ⟨by omega, by omega, fun _ => by rw [q1.2, q2.2, l1]⟩) k1 k2)
    (fun H G o t v C' k1 k2 hc ho => hp185 hc ho)
    (fun H G E hE hc => by
      have e9 : E = 0 ∨ E = 1 := by omega
      rcases e9 with rfl | rfl
      · exact hx185_0 hc
      · exact hx185_1 hc) ho
  simp only [List.cons_append, List.nil_append] at h1
  rw [← ef] at h1 h2
  exact ⟨g', C', M', _, _, lw_13 (gI_x hg) (gI_x (gI_on hg h5)) hi hL (by omega) h1 h2 h3 (fun e => h4 (by omega)), h5, rp_clE hRt, rp_mdE hQ h0 hn9 (by decide)⟩
theorem st_14 (hR : clR C) (hM : mdR M) (hr : relA C M) (hn : relN M) (hG : C.1 (alb C) 0 = M.1 24) (hg : gI g L xs) (hi : i + 6 ≤ L) (hL : L ≤ 3072) : stE z 955 g C M i := by
  intro l6 l7
  obtain ⟨f, ef, gf⟩ := wI_ex (xs (i + 1))
  obtain ⟨r, er, gr⟩ := wI_ex (xs (i + 2))
  obtain ⟨o, ho⟩ := hg.2.1
  obtain ⟨g', C', M', t, v, b, hRt, hQ, hn9, h0, hv, h1, h2, h3, h4, h5⟩ := gn_step (z := z) (g := g) (M := M) (jc := 190) (jh := 189) (jm := 192) (cargs := [.ref 1000, .int (wI f), .int (wI r)]) (margs := [.ref 1315, .int (wI f), .int (wI r)]) (nE := 2) (o := o)
    (fun h => c190 hR gf gr) (fun h => p192 hM gf gr)
    (fun t v C' b M' k1 k2 => rp_vb hR hM hr hG (by decide) (fun e p rc R L Q t v t' b p1 p2 p3 q1 q2 => by
      obtain ⟨l1, l2, l3, l4, l5⟩ := p3
      rcases q1 with ⟨a1, a2, a3, a4⟩ | ⟨a1, a2⟩
      · rcases q2 with ⟨b1, b2, b3, b4⟩ | ⟨b1, b2⟩
        · refine ⟨by omega, by omega, fun _ => ?_⟩
          rw [a4, b4, l4 r.toNat (by omega)]
        · omega
      · rcases q2 with ⟨b1, b2, b3, b4⟩ | ⟨b1, b2⟩
        · omega
        · exact ⟨by omega, by omega, fun c => by omega⟩) k1 k2)
    (fun H G o t v C' k1 k2 hc ho => hp189 hc ho)
    (fun H G E hE hc => by
      have e9 : E = 0 ∨ E = 1 := by omega
      rcases e9 with rfl | rfl
      · exact hx189_0 hc
      · exact hx189_1 hc) ho
  simp only [List.cons_append, List.nil_append] at h1
  rw [← ef, ← er] at h1 h2
  exact ⟨g', C', M', _, _, lw_14 (gI_x hg) (gI_x (gI_on hg h5)) hi hL (by omega) h1 h2 h3 (fun e => h4 (by omega)), h5, rp_clE hRt, rp_mdE hQ h0 hn9 (by decide)⟩
theorem st_15 (hR : clR C) (hM : mdR M) (hr : relA C M) (hn : relN M) (hG : C.1 (alb C) 0 = M.1 24) (hg : gI g L xs) (hi : i + 6 ≤ L) (hL : L ≤ 3072) : stE z 1023 g C M i := by
  intro l6 l7
  obtain ⟨f, ef, gf⟩ := wI_ex (xs (i + 1))
  obtain ⟨r, er, gr⟩ := wI_ex (xs (i + 2))
  obtain ⟨j, ej, gj⟩ := wI_ex (xs (i + 3))
  obtain ⟨o, ho⟩ := hg.2.1
  obtain ⟨g', C', M', t, v, b, hRt, hQ, hn9, h0, hv, h1, h2, h3, h4, h5⟩ := gn_step (z := z) (g := g) (M := M) (jc := 195) (jh := 194) (jm := 196) (cargs := [.ref 1000, .int (wI f), .int (wI r), .int (wI j)]) (margs := [.ref 1315, .int (wI f), .int (wI r), .int (wI j)]) (nE := 2) (o := o)
    (fun h => c195 hR gf gr gj) (fun h => p196 hM gf gr gj)
    (fun t v C' b M' k1 k2 => rp_vb hR hM hr hG (by decide) (fun e p rc R L Q t v t' b p1 p2 p3 q1 q2 => by
      obtain ⟨l1, l2, l3, l4, l5⟩ := p3
      have hl : 0 ≤ r ∧ r < rc → p.2 6 (r.toNat + 1) - p.2 6 r.toNat = Q r.toNat := fun h => l4 r.toNat (by omega)
      rcases q1 with ⟨a1, a2, a3, a4, a5, a6⟩ | ⟨a1, a2⟩
      · rcases q2 with ⟨b1, b2, b3, b4, b5, b6⟩ | ⟨b1, b2⟩
        · refine ⟨by omega, by omega, fun _ => ?_⟩
          obtain ⟨k, w1, w2, w3, w4, w5⟩ := l5 r.toNat j.toNat (by omega) (by omega)
          rw [show ((r.toNat : Nat) : Int) = r by omega, show ((j.toNat : Nat) : Int) = j by omega] at w5
          rw [show ((j.toNat : Nat) : Int) = j by omega] at w4
          rw [a6, b6, w4, w5]
        · have := hl ⟨a1, by omega⟩; omega
      · rcases q2 with ⟨b1, b2, b3, b4, b5, b6⟩ | ⟨b1, b2⟩
        · have := hl ⟨b1, b2⟩; omega
        · exact ⟨by omega, by omega, fun c => by omega⟩) k1 k2)
    (fun H G o t v C' k1 k2 hc ho => hp194 hc ho)
    (fun H G E hE hc => by
      have e9 : E = 0 ∨ E = 1 := by omega
      rcases e9 with rfl | rfl
      · exact hx194_0 hc
      · exact hx194_1 hc) ho
  simp only [List.cons_append, List.nil_append] at h1
  rw [← ef, ← er, ← ej] at h1 h2
  exact ⟨g', C', M', _, _, lw_15 (gI_x hg) (gI_x (gI_on hg h5)) hi hL (by omega) h1 h2 h3 (fun e => h4 (by omega)), h5, rp_clE hRt, rp_mdE hQ h0 hn9 (by decide)⟩
theorem st_16 (hR : clR C) (hM : mdR M) (hr : relA C M) (hn : relN M) (hG : C.1 (alb C) 0 = M.1 24) (hg : gI g L xs) (hi : i + 6 ≤ L) (hL : L ≤ 3072) : stE z 1103 g C M i := by
  intro l6 l7
  obtain ⟨f, ef, gf⟩ := wI_ex (xs (i + 1))
  obtain ⟨k, ek, gk⟩ := wI_ex (xs (i + 2))
  obtain ⟨o, ho⟩ := hg.2.1
  obtain ⟨g', C', M', t, v, b, hRt, hQ, hn9, h0, hv, h1, h2, h3, h4, h5⟩ := gn_step (z := z) (g := g) (M := M) (jc := 198) (jh := 197) (jm := 199) (cargs := [.ref 1000, .int (wI f), .int (wI k)]) (margs := [.ref 1315, .int (wI f), .int (wI k)]) (nE := 2) (o := o)
    (fun h => c198 hR gf gk) (fun h => p199 hM gf gk)
    (fun t v C' b M' k1 k2 => rp_vk hR hM hr hG (by decide) (fun e p rc R L Q t v t' b p1 p2 p3 q1 q2 => by
      obtain ⟨l1, l2, l3, l4, l5⟩ := p3
      have hk := (phR_s (dph (h := (fun _ => none, 0, 0)) hR (rcK_0 e).1).2).2.2.2.2.2.2.2
      have hk2 := rcK_i e
      exact ⟨by omega, by omega, fun _ => by rw [q1.2, q2.2, l2 _ (by omega)]⟩) k1 k2)
    (fun H G o t v C' k1 k2 hc ho => hp197 hc ho)
    (fun H G E hE hc => by
      have e9 : E = 0 ∨ E = 1 := by omega
      rcases e9 with rfl | rfl
      · exact hx197_0 hc
      · exact hx197_1 hc) ho
  simp only [List.cons_append, List.nil_append] at h1
  rw [← ef, ← ek] at h1 h2
  exact ⟨g', C', M', _, _, lw_16 (gI_x hg) (gI_x (gI_on hg h5)) hi hL (by omega) h1 h2 h3 (fun e => h4 (by omega)), h5, rp_clK hRt, rp_mdL hQ h0 hn9 (by decide)⟩
theorem st_17 (hR : clR C) (hM : mdR M) (hr : relA C M) (hn : relN M) (hG : C.1 (alb C) 0 = M.1 24) (hg : gI g L xs) (hi : i + 6 ≤ L) (hL : L ≤ 3072) : stE z 1171 g C M i := by
  intro l6 l7
  obtain ⟨f, ef, gf⟩ := wI_ex (xs (i + 1))
  obtain ⟨k, ek, gk⟩ := wI_ex (xs (i + 2))
  obtain ⟨o, ho⟩ := hg.2.1
  obtain ⟨g', C', M', t, v, b, hRt, hQ, hn9, h0, hv, h1, h2, h3, h4, h5⟩ := gn_step (z := z) (g := g) (M := M) (jc := 201) (jh := 200) (jm := 202) (cargs := [.ref 1000, .int (wI f), .int (wI k)]) (margs := [.ref 1315, .int (wI f), .int (wI k)]) (nE := 2) (o := o)
    (fun h => c201 hR gf gk) (fun h => p202 hM gf gk)
    (fun t v C' b M' k1 k2 => rp_vk hR hM hr hG (by decide) (fun e p rc R L Q t v t' b p1 p2 p3 q1 q2 => by
      obtain ⟨l1, l2, l3, l4, l5⟩ := p3
      have hk := (phR_s (dph (h := (fun _ => none, 0, 0)) hR (rcK_0 e).1).2).2.2.2.2.2.2.2
      have hk2 := rcK_i e
      exact ⟨by omega, by omega, fun _ => by rw [q1.2, q2.2, l3 _ (by omega)]⟩) k1 k2)
    (fun H G o t v C' k1 k2 hc ho => hp200 hc ho)
    (fun H G E hE hc => by
      have e9 : E = 0 ∨ E = 1 := by omega
      rcases e9 with rfl | rfl
      · exact hx200_0 hc
      · exact hx200_1 hc) ho
  simp only [List.cons_append, List.nil_append] at h1
  rw [← ef, ← ek] at h1 h2
  exact ⟨g', C', M', _, _, lw_17 (gI_x hg) (gI_x (gI_on hg h5)) hi hL (by omega) h1 h2 h3 (fun e => h4 (by omega)), h5, rp_clK hRt, rp_mdL hQ h0 hn9 (by decide)⟩
theorem st_18 (hR : clR C) (hM : mdR M) (hr : relA C M) (hn : relN M) (hG : C.1 (alb C) 0 = M.1 24) (hg : gI g L xs) (hi : i + 6 ≤ L) (hL : L ≤ 3072) : stE z 1239 g C M i := by
  intro l6 l7
  obtain ⟨f, ef, gf⟩ := wI_ex (xs (i + 1))
  obtain ⟨j, ej, gj⟩ := wI_ex (xs (i + 2))
  obtain ⟨o, ho⟩ := hg.2.1
  obtain ⟨g', C', M', t, v, b, hRt, hQ, hn9, h0, hv, h1, h2, h3, h4, h5⟩ := gn_step (z := z) (g := g) (M := M) (jc := 204) (jh := 203) (jm := 205) (cargs := [.ref 1000, .int (wI f), .int (wI j)]) (margs := [.ref 1315, .int (wI f), .int (wI j)]) (nE := 2) (o := o)
    (fun h => c204 hR gf gj) (fun h => md_ex (p205 hM gf gj))
    (fun t v C' b M' k1 k2 => by
      obtain ⟨k2, k3⟩ := k2
      have er := rel_rcP hM hr f
      have e2 := rcP_2 C f
      rcases k1 with ⟨a1, rfl, rfl⟩ | ⟨a1, p, rfl, a2, a3⟩
      · have e3 : rfO M f j = rfP M f := by unfold rfO; rw [if_neg (by omega)]
        subst k2
        exact ⟨by omega, by rw [mdT_1, e3, er], fun c => absurd c a1⟩
      · obtain ⟨c1, c2, c3, c4⟩ := rel_rf hM hr a1
        have hn1 := piOK_n a2
        obtain ⟨n, eo, er1, h0, h1, w1, w2, -⟩ := a2
        have e4 : rfO M f j = if 0 ≤ j ∧ j ≤ (cnB (shS (mph M f.toNat)) 12 : Nat) - 1 then 0 else 2 := by unfold rfO; rw [if_pos c1]
        have e5 := enO_n w1
        have e6 : cnB (shS (mph M f.toNat)) 12 = n := by rw [← shS_eq c4]; exact e5
        rw [e6] at e4
        subst k2
        rcases a3 with ⟨d1, d2, d3, d4⟩ | ⟨d1, d2⟩
        · rw [if_pos (by omega)] at e4
          refine ⟨by omega, by rw [mdT_1, e4, d3]; rfl, fun _ => ?_⟩
          rw [k3, if_pos e4, d4, w2 _ (by omega)]
          exact (en_link hR hM hr a1 (fun k hk hs => by unfold kyO; rw [pheq_shX c4 (shS_lt hs), pheq_shY c4 (shS_lt hs)]) w1 (by omega)).symm
        · rw [if_neg (by omega)] at e4
          exact ⟨by omega, by rw [mdT_1, e4, d2]; rfl, fun c => by omega⟩)
    (fun H G o t v C' k1 k2 hc ho => hp203 hc ho)
    (fun H G E hE hc => by
      have e9 : E = 0 ∨ E = 1 := by omega
      rcases e9 with rfl | rfl
      · exact hx203_0 hc
      · exact hx203_1 hc) ho
  simp only [List.cons_append, List.nil_append] at h1
  rw [← ef, ← ej] at h1 h2
  exact ⟨g', C', M', _, _, lw_18 (gI_x hg) (gI_x (gI_on hg h5)) hi hL (by omega) h1 h2 h3 (fun e => h4 (by omega)), h5, rp_clE hRt, rpM_T (b := 0) hQ.1 h0 hn9 (by decide)⟩
theorem st_19 (hR : clR C) (hM : mdR M) (hr : relA C M) (hn : relN M) (hG : C.1 (alb C) 0 = M.1 24) (hg : gI g L xs) (hi : i + 6 ≤ L) (hL : L ≤ 3072) : stE z 1307 g C M i := by
  intro l6 l7
  obtain ⟨f, ef, gf⟩ := wI_ex (xs (i + 1))
  obtain ⟨x, ex, gx⟩ := wI_ex (xs (i + 2))
  obtain ⟨y, ey, gy⟩ := wI_ex (xs (i + 3))
  obtain ⟨j, ej, gj⟩ := wI_ex (xs (i + 4))
  obtain ⟨o, ho⟩ := hg.2.1
  obtain ⟨g', C', M', t, v, b, hRt, hQ, hn9, h0, hv, h1, h2, h3, h4, h5⟩ := gn_step (z := z) (g := g) (M := M) (jc := 207) (jh := 206) (jm := 209) (cargs := [.ref 1000, .int (wI f), .int (wI x), .int (wI y), .int (wI j)]) (margs := [.ref 1315, .int (wI f), .int (wI x), .int (wI y), .int (wI j)]) (nE := 3) (o := o)
    (fun h => c207 hR gf gx gy gj) (fun h => md_ex (p209 hM gf gx gy gj))
    (fun t v C' b M' k1 k2 => by
      obtain ⟨k2, k3⟩ := k2
      have er := rel_rcP hM hr f
      have e2 := rcP_2 C f
      rcases k1 with ⟨a1, rfl, rfl⟩ | ⟨a1, p, rfl, a2, a3⟩
      · have e3 : rfD M f x y j = rfP M f := by
          have e30 : rfO M f j = rfP M f := by unfold rfO; rw [if_neg (by omega)]
          unfold rfD; rw [e30, if_neg (by omega)]
        subst k2
        exact ⟨by omega, by rw [mdT_1, e3, er], fun c => absurd c a1⟩
      · obtain ⟨c1, c2, c3, c4⟩ := rel_rf hM hr a1
        have hn1 := piOK_n a2
        obtain ⟨n, eo, er1, h0, h1, w1, w2, -⟩ := a2
        have e4 : rfO M f j = if 0 ≤ j ∧ j ≤ (cnB (shS (mph M f.toNat)) 12 : Nat) - 1 then 0 else 2 := by unfold rfO; rw [if_pos c1]
        have e5 := enO_n w1
        have e6 : cnB (shS (mph M f.toNat)) 12 = n := by rw [← shS_eq c4]; exact e5
        rw [e6] at e4
        subst k2
        rcases a3 with ⟨d1, d2, d3⟩ | ⟨d1, d2⟩
        · rw [if_pos (by omega)] at e4
          rcases d3 with ⟨f1, f2, f3, f4, f5, m, en, f6, f7, f8⟩ | ⟨f1, f2⟩
          · have e7 : rfD M f x y j = 0 := by unfold rfD; rw [if_pos e4, if_pos ⟨f1, f2, f3, f4⟩]
            refine ⟨by omega, by rw [mdT_1, e7, f5]; rfl, fun _ => ?_⟩
            rw [k3, if_pos e7, f8]
            exact (en_link hR hM hr a1 (fun k hk hs => by unfold kyD dqF; rw [pheq_shX c4 (shS_lt hs), pheq_shY c4 (shS_lt hs)]) f7 (by omega)).symm
          · have e7 : rfD M f x y j = 3 := by unfold rfD; rw [if_pos e4, if_neg f1]
            exact ⟨by omega, by rw [mdT_1, e7, f2]; rfl, fun c => by omega⟩
        · rw [if_neg (by omega)] at e4
          have e7 : rfD M f x y j = 2 := by unfold rfD; rw [e4, if_neg (by decide)]
          exact ⟨by omega, by rw [mdT_1, e7, d2]; rfl, fun c => by omega⟩)
    (fun H G o t v C' k1 k2 hc ho => hp206 hc ho)
    (fun H G E hE hc => by
      have e9 : E = 0 ∨ E = 1 ∨ E = 2 := by omega
      rcases e9 with rfl | rfl | rfl
      · exact hx206_0 hc
      · exact hx206_1 hc
      · exact hx206_2 hc) ho
  simp only [List.cons_append, List.nil_append] at h1
  rw [← ef, ← ex, ← ey, ← ej] at h1 h2
  exact ⟨g', C', M', _, _, lw_19 (gI_x hg) (gI_x (gI_on hg h5)) hi hL (by omega) h1 h2 h3 (fun e => h4 (by omega)), h5, rp_clE hRt, rpM_T (b := 0) hQ.1 h0 hn9 (by decide)⟩
end ST4
