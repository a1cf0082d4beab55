/-! ===== the law's step of write, done ===== -/
theorem capT_len {M : tMd} {N rc : Nat} {NM : Nat → Nat → Int} {LN : Nat → Nat} (h4 : nmW M N) (hrc : rc ≤ 12) (hn : ∀ r j, r < rc → j < LN r → nmOK N (NM r j)) (hl : ∀ r, r < rc → LN r ≤ 12) (hs : sLN LN rc 0 ≤ 12) : (capT M NM LN rc).length ≤ 500 ∧ txB (capT M NM LN rc) := by
  have h1 := cCap_len h4 hrc hn hl rc 0 (by omega)
  have l41 : (sbT 41).length = 6 := by decide
  unfold capT
  refine ⟨?_, ?_⟩
  · rw [List.length_append]
    by_cases c : rc = 0
    · rw [if_pos c]; omega
    · rw [if_neg c]; show 0 + _ ≤ 500; omega
  · refine txB_app ?_ (txB_cC h4 hrc hn hl rc 0 (by omega))
    split
    · exact txB_s (by decide)
    · exact txB_nil
theorem rcT_cap {M M0 : tMd} {N rc : Nat} {NM : Nat → Nat → Int} {LN : Nat → Nat} (h : M0.2 5 = M.2 5) (h4 : nmW M N) (hn : ∀ r j, r < rc → j < LN r → nmOK N (NM r j)) : rcT M0 NM LN rc = capT M NM LN rc := by
  have h75 : sbT 75 = sbT 41 := by decide
  unfold rcT capT
  rw [rCap_eq (nmW_M h h4) hn rc 0 (by omega), cCap_M h, h75]
section ST37
variable {z : Bool} {g : am_H} {C : tCl} {M : tMd} {xs : Nat → Int32} {L i cap : Nat}
theorem st_37 (h : fuI g C M cap) (hg : gI g L xs) (hi : i + 6 ≤ L) (hL : L ≤ 3072) : stF z 2527 g C M i cap L xs := by
  intro l6 l7
  obtain ⟨hR, hA, hM, hr, hn, hG, hH, hS, hrg⟩ := id h.1
  obtain ⟨f, ef, gf⟩ := wI_ex (xs (i + 1))
  have er := rel_rcP hM hr f
  have e2 := rcP_2 C f
  have hs := fu_sb h hg.2.2.1
  have hst0 : strs (mdPut g M) := fun i hi => by
    obtain ⟨a1, ⟨f, a2, a3⟩, a4, a5⟩ := strs_of h.2.2.2.2 i hi
    exact ⟨by rw [mdPut_o (by omega)]; exact a1, ⟨f, by rw [mdPut_o (by omega)]; exact a2, a3⟩, a4, a5⟩
  have hd0 : dgI (mdPut g M) := by
    obtain ⟨-, ⟨f, b1, b2⟩, k, d1, d2⟩ := h.2.2.2.2
    exact ⟨⟨f, by rw [mdPut_o (by omega)]; exact b1, b2⟩, k, by rw [mdPut_o (by omega)]; exact d1, d2⟩
  -- names, rows and lengths, whether there is such a photo or not
  obtain ⟨N, rc, NM, LN, hw, hrc, hl, hok, hsl, hKc, hKm⟩ : ∃ (N rc : Nat) (NM : Nat → Nat → Int) (LN : Nat → Nat), wcN C M N ∧ rc ≤ 12 ∧ (∀ r, r < rc → LN r ≤ 12) ∧ (∀ r j, r < rc → j < LN r → nmOK N (NM r j)) ∧ sLN LN rc 0 ≤ 12 ∧ (rcP C f = 0 → ∀ p', piOK p' (cph C (cAp C f.toNat)) (C.1 (alb C) 0) → wcA (piPut C 1070 p') M N (alb C) (cAp C f.toNat) rc NM LN) ∧ (rfP M f = 0 → ∀ rc' R L Q, lrOK M f.toNat rc' R L Q → rc' = (rc : Int) ∧ ∀ r, r < rc → wmP (mdQ (mdT M 0) rc' R L Q) N f.toNat r (LN r) (NM r)) := by
    by_cases e : rcP C f = 0
    · obtain ⟨rc, NM, LN, k1, k2, k3, k4, k5, k6, k7⟩ := cap_ex h.1 h.2.1 gf e
      exact ⟨_, rc, NM, LN, k1, k2, k3, k4, k5, fun _ => k6, fun _ => k7⟩
    · exact ⟨0, 0, fun _ _ => -1, fun _ => 0, ⟨hR.1, by decide, fun n hn => absurd hn (Nat.not_lt_zero _), fun n hn => absurd hn (Nat.not_lt_zero _)⟩, by decide, fun r hr => absurd hr (Nat.not_lt_zero _), fun r j hr => absurd hr (Nat.not_lt_zero _), Nat.zero_le _, fun c => absurd c e, fun c => by omega⟩
  obtain ⟨hT, hb⟩ := capT_len (M := M) hw.2.2.2 hrc hok hl hsl
  obtain ⟨t, v, C', H', q1, q2⟩ := c299 (z := z) (M := M) (N := N) (rc := rc) (NM := NM) (LN := LN) hR hs hst0 hd0 hw gf hKc hT
  have hH' : mdPut H' M = H' ∧ (∃ o, H'.1 1332 = some (ouC o)) ∧ strs H' := by
    rcases q2 with ⟨a1, a2, a3, a4⟩ | ⟨a1, a2, ⟨p', cap', a3, a4⟩, a5⟩
    · rw [a4]
      refine ⟨by rw [md_thr, mdPut_put], ?_, hst0⟩
      obtain ⟨o, ho⟩ := hg.2.1
      exact ⟨o, by show (mdPut g M).1 1332 = _; rw [mdPut_o (by omega)]; exact ho⟩
    · have ww : wrS M (up1 M.1 38 ((capT M NM LN rc).length : Int), upC M.2 15 (fun i => (((capT M NM LN rc).getD i 0 : Nat) : Int))) (capT M NM LN rc) := ⟨fun k hk => up1_n hk, fun c hc => upC_n hc, up1_e (f := M.1) (k := 38) (v := ((capT M NM LN rc).length : Int)), fun i hi => by
        show upC M.2 15 (fun i => (((capT M NM LN rc).getD i 0 : Nat) : Int)) 15 i = _
        rw [upC_e]⟩
      obtain ⟨k1, k2, cap2, k3, k4, -⟩ := wr_fu (M0 := M) h hg a3 a4 hT hb ⟨fun _ _ _ _ => rfl, fun _ _ _ _ => rfl, hM.1.1, hM.1.2⟩ ww
      exact ⟨k1, k4.2.1, k2⟩
  rw [← hH'.1] at q1
  obtain ⟨g', C2, M2, t2, b, g1, k1, k2, k3, k4, k5, k6, k7⟩ := gn_stepW (z := z) (g := g) (M := M) (C := C) (jc := 299) (jh := 298) (jm := 326) (cargs := [.ref 1000, .int (wI f)]) (margs := [.ref 1315, .int (wI f)]) (nE := 2) (X := wrX g cap L xs)
    (R := fun t v C' g1 => (¬ rcP C f = 0 ∧ t = rcP C f ∧ C' = C ∧ g1 = thr (mdPut g M)) ∨ (rcP C f = 0 ∧ t = 0 ∧ (∃ p' cap', sbS g1 C' (capT M NM LN rc) cap' ∧ sbOn (mdPut g M) g1 (piPut C 1070 p') C' cap cap') ∧ v = ((capT M NM LN rc).length : Int)))
    (Q := fun b M' => (¬ rfP M f = 0 ∧ M' = mdT M (rfP M f)) ∨ (rfP M f = 0 ∧ ∃ rc' R L Q, lrOK M f.toNat rc' R L Q ∧ wrS (mdQ (mdT M 0) rc' R L Q) M' (rcT (mdQ (mdT M 0) rc' R L Q) NM LN rc) ∧ b = ((rcT (mdQ (mdT M 0) rc' R L Q) NM LN rc).length : Int)))
    ⟨t, v, C', H', q1, hH'.2.1, hH'.2.2, q2⟩
    (fun h hst => p326 (z := z) (N := N) hM hst gf (fun e rc' R L Q hl' => by
      obtain ⟨u1, u2⟩ := hKm e rc' R L Q hl'
      exact ⟨u1, hrc, u2, by omega⟩))
    (fun t v C' g1 b M' r1 r2 => by
      rcases r1 with ⟨a1, a2, a3, a4⟩ | ⟨a1, a2, ⟨p', cap', a3, a4⟩, a5⟩
      · rcases r2 with ⟨b1, rfl⟩ | ⟨b1, -⟩
        · subst a3
          subst a4
          refine ⟨by omega, by rw [mdT_1]; omega, fun c => by omega, cap, ?_, ?_, by show g.2.1 + 1 + cap ≤ _; omega, by show g.2.2 + 6 + 2 * cap ≤ _; omega⟩
          · have gon : gOn g (thr (mdPut g M)) 1 6 ∨ True := Or.inr trivial
            have f1 := fu_lift h hg.2.2.1 (gOn_refl (c := 0) (s := 0) hg) (coI_T (t := rfP M f) h.1 (by omega)) (chC_refl _) (chM_T _ _)
            obtain ⟨w1, w2, w3, ⟨n, v1, v2, ⟨s1, s2, s3, s4, s5, s6, ff, s7, s8⟩, v4⟩, w5⟩ := f1
            refine ⟨w1, w2, w3, ⟨n, v1, v2, ⟨s1, s2, s3, s4, s5, by show _ < g.2.1 + 1; omega, ff, by show (mdPut g M).1 _ = _; rw [mdPut_o (by omega)]; exact s7, s8⟩, v4⟩, ?_⟩
            obtain ⟨x1, ⟨x2, x3, x4⟩, x5, x6, x7⟩ := w5
            refine ⟨fun i hi => ?_, ⟨x2, by show (mdPut g M).1 10 = _; rw [mdPut_o (by omega)]; exact x3, x4⟩, x5, by show (mdPut g M).1 11 = _; rw [mdPut_o (by omega)]; exact x6, x7⟩
            obtain ⟨y1, y2, y3, y4⟩ := x1 i hi
            exact ⟨by show (mdPut g M).1 _ = _; rw [mdPut_o (by omega)]; exact y1, y2, by show (mdPut g M).1 _ = _; rw [mdPut_o (by omega)]; exact y3, y4⟩
          · obtain ⟨x1, ⟨o, x2⟩, x3, o2, x4⟩ := hg
            exact ⟨by show (mdPut g M).1 1 = _; rw [mdPut_o (by omega)]; exact x1, ⟨o, by show (mdPut g M).1 1332 = _; rw [mdPut_o (by omega)]; exact x2⟩, by show 1334 ≤ g.2.1 + 1; omega, o2, by show (mdPut g M).1 1333 = _; rw [mdPut_o (by omega)]; exact x4⟩
        · omega
      · rcases r2 with ⟨b1, -⟩ | ⟨b1, rc', R, Lr, Q, b2, b3, b4⟩
        · omega
        · rw [rcT_cap (M := M) (M0 := mdQ (mdT M 0) rc' R Lr Q) rfl hw.2.2.2 hok] at b3 b4
          obtain ⟨y1, y2, y3⟩ := wr_fu (M0 := mdQ (mdT M 0) rc' R Lr Q) h hg a3 a4 hT hb ⟨fun k k0 k34 _ => by
            show up1 (mdT M 0).1 34 rc' k = _
            rw [up1_n k34]; exact up1_n k0, fun c h1 h2 h3 => by
            show upC (upC (upC M.2 11 R) 12 Lr) 13 Q c = _
            rw [upC_n h3, upC_n h2, upC_n h1], by show 0 ≤ up1 (mdT M 0).1 34 rc' 0 ∧ up1 (mdT M 0).1 34 rc' 0 ≤ 9; rw [up1_n (by decide), mdT_1]; omega⟩ b3
          refine ⟨by omega, ?_, fun _ => by rw [a5, b4], y3⟩
          rw [b3.1 0 (by decide)]
          show up1 (mdT M 0).1 34 rc' 0 = _
          rw [up1_n (by decide), mdT_1, a2]; rfl)
    (fun H G o v hc ho => hp298 hc ho)
    (fun H G E hE hc => by
      have e9 : E = 0 ∨ E = 1 := by omega
      rcases e9 with rfl | rfl
      · exact hx298_0 hc
      · exact hx298_1 hc)
  simp only [List.cons_append, List.nil_append] at k4
  rw [← ef] at k4 k5
  obtain ⟨cap2, y1, y2, y3, y4⟩ := wrX_fin k2 k3
  have hx1 : (clPut (mdPut g' M) C2).1 1 = some (.inl (10, L, .inl xs)) := by rw [clPut_o (by omega), mdPut_o (by omega)]; exact y1.1
  exact ⟨g', C2, M2, _, _, cap2, lw_37 (gI_x hg) hx1 hi hL (by omega) k4 k5 k6 (fun e => k7 (by omega)), y1, y2, y3, y4⟩
end ST37
