/-! ===== the law's step of writeChange, done ===== -/
/-- after a throw of a writing call: nothing but a cell more -/
theorem wrX_thr {g : am_H} {C : tCl} {M : tMd} {cap L : Nat} {xs : Nat → Int32} (h : fuI g C M cap) (hg : gI g L xs) {t : Int} (ht : 0 ≤ t ∧ t ≤ 9) : wrX g cap L xs C (mdT M t) (thr (mdPut g M)) := by
  obtain ⟨w1, w2, w3, ⟨n, v1, v2, ⟨s1, s2, s3, s4, s5, s6, ff, s7, s8⟩, v4⟩, w5⟩ := id h
  obtain ⟨y1, ⟨o, y2⟩, y3, o2, y4⟩ := id hg
  have f1 := fu_lift h hg.2.2.1 (gOn_refl (c := 0) (s := 0) hg) (coI_T (t := t) h.1 ht) (chC_refl _) (chM_T _ _)
  obtain ⟨w1, w2, w3, ⟨n, v1, v2, ⟨s1, s2, s3, s4, s5, s6, ff, s7, s8⟩, v4⟩, w5⟩ := f1
  obtain ⟨x1, ⟨x2, x3, x4⟩, x5, x6, x7⟩ := w5
  refine ⟨cap, ⟨w1, w2, w3, ⟨n, v1, v2, ⟨s1, s2, s3, s4, s5, by show _ < g.2.1 + 1; omega, ff, by show (mdPut g M).1 _ = _; rw [mdPut_o (by omega)]; exact s7, s8⟩, v4⟩, ?_⟩, ?_, by show g.2.1 + 1 + cap ≤ _; omega, by show g.2.2 + 6 + 2 * cap ≤ _; omega⟩
  · refine ⟨fun i hi => ?_, ⟨x2, by show (mdPut g M).1 10 = _; rw [mdPut_o (by omega)]; exact x3, x4⟩, x5, by show (mdPut g M).1 11 = _; rw [mdPut_o (by omega)]; exact x6, x7⟩
    obtain ⟨y1, y2, y3, y4⟩ := x1 i hi
    exact ⟨by show (mdPut g M).1 _ = _; rw [mdPut_o (by omega)]; exact y1, y2, by show (mdPut g M).1 _ = _; rw [mdPut_o (by omega)]; exact y3, y4⟩
  · exact ⟨by show (mdPut g M).1 1 = _; rw [mdPut_o (by omega)]; exact y1, ⟨o, by show (mdPut g M).1 1332 = _; rw [mdPut_o (by omega)]; exact y2⟩, by show 1334 ≤ g.2.1 + 1; omega, o2, by show (mdPut g M).1 1333 = _; rw [mdPut_o (by omega)]; exact y4⟩
section ST38
variable {z : Bool} {g : am_H} {C : tCl} {M : tMd} {xs : Nat → Int32} {L i cap : Nat}
theorem st_38 (h : fuI g C M cap) (hg : gI g L xs) (hi : i + 6 ≤ L) (hL : L ≤ 3072) : stF z 2583 g C M i cap L xs := by
  intro l6 l7
  obtain ⟨hR, hA, hM, hr, hn, hG, hH, hS, hrg⟩ := id h.1
  obtain ⟨f, ef, gf⟩ := wI_ex (xs (i + 1))
  have er := rel_rcWc hM hr f
  have e2 : rcW C f ≤ 2 := by
    have := rcP_2 C f
    unfold rcW
    repeat' split
    all_goals omega
  have hs := fu_sb h hg.2.2.1
  have hst0 : strs (mdPut g M) := fun i hi => by
    obtain ⟨a1, ⟨f, a2, a3⟩, a4, a5⟩ := strs_of h.2.2.2.2 i hi
    exact ⟨by rw [mdPut_o (by omega)]; exact a1, ⟨f, by rw [mdPut_o (by omega)]; exact a2, a3⟩, a4, a5⟩
  have r20 := hM.2.2.2.1
  obtain ⟨N, hN⟩ := Int.eq_ofNat_of_zero_le r20.1
  have hrf : rcW C f = 0 → rfP M f = 0 ∧ rfP M (f - 1) = 0 ∧ M.1 1 = 1 := fun e => by
    obtain ⟨a1, a2, a3⟩ := rcW_0 e
    have b1 := rel_rcP hM hr f
    have b2 := rel_rcP hM hr (f - 1)
    have b3 : rfP M f = 0 := by omega
    exact ⟨b3, by omega, rf_has hM b3⟩
  have hW : rcW C f = 0 → wcM C M N ∧ nmW M N := fun e => by
    obtain ⟨b1, b2, b3⟩ := hrf e
    obtain ⟨w1, w2⟩ := nmI_W h.2.1 b3
    rw [show (M.1 20).toNat = N by omega] at w1 w2
    refine ⟨⟨⟨hR.1, by omega, w2, w1⟩, ?_⟩, w1⟩
    rw [hr.2.1, if_neg (by omega), hN]
  have hnm : rcW C f = 0 → bsN (nmB (mph M f.toNat)) N = nmN (cph C (cAp C f.toNat)) ((cph C (cAp C f.toNat)).1 7).toNat ∧ bsN (nmB (mph M (f - 1).toNat)) N = nmN (cph C (cAp C (f - 1).toNat)) ((cph C (cAp C (f - 1).toNat)).1 7).toNat := fun e => by
    obtain ⟨a1, a2, a3⟩ := rcW_0 e
    rw [rel_nm hR hM hr hn a1, rel_nm hR hM hr hn a3, show (M.1 20).toNat = N by omega]
    exact ⟨rfl, rfl⟩
  generalize hnn : bsN (nmB (mph M f.toNat)) N = n at hnm
  generalize hoo : bsN (nmB (mph M (f - 1).toNat)) N = o at hnm
  obtain ⟨t, v, C', H', q1, q2⟩ := k336 (z := z) (M := M) (N := N) hR hs hst0 gf (fun e => (hW e).1) hnm
  have hT : rcW C f = 0 → (chT M N (difN n o) (difN o n)).length ≤ 410 ∧ txB (chT M N (difN n o) (difN o n)) := fun e => chT_len (difN_dj n o) (by omega) (hW e).2
  have hwX : ∀ (M0 M' : tMd) cap', rcW C f = 0 → sbS H' C' (chT M N (difN n o) (difN o n)) cap' → sbOn (mdPut g M) H' C C' cap cap' → M0 = mdT M 0 → wrS M0 M' (chT M N (difN n o) (difN o n)) → mdPut H' M = H' ∧ strs H' ∧ wrX g cap L xs C' M' H' := fun M0 M' cap' e a3 a4 e0 ww => by
    subst e0
    refine wr_fu (M0 := mdT M 0) (p := piGet C 1070) h hg a3 (by rw [piPut_get]; exact a4) (by have := (hT e).1; omega) (hT e).2 ⟨fun k k0 k34 _ => mdT_n k0, fun c h1 h2 h3 => rfl, by rw [mdT_1]; omega⟩ ww
  have hH' : mdPut H' M = H' ∧ (∃ o, H'.1 1332 = some (ouC o)) ∧ strs H' := by
    rcases q2 with ⟨a1, a2, a3, a4⟩ | ⟨a1, a2, ⟨cap', a3, a4⟩, a5⟩
    · rw [a4]
      refine ⟨by rw [md_thr, mdPut_put], ?_, hst0⟩
      obtain ⟨o, ho⟩ := hg.2.1
      exact ⟨o, by show (mdPut g M).1 1332 = _; rw [mdPut_o (by omega)]; exact ho⟩
    · have ww : wrS (mdT M 0) (up1 (mdT M 0).1 38 ((chT M N (difN n o) (difN o n)).length : Int), upC (mdT M 0).2 15 (fun i => (((chT M N (difN n o) (difN o n)).getD i 0 : Nat) : Int))) (chT M N (difN n o) (difN o n)) := ⟨fun k hk => up1_n hk, fun c hc => upC_n hc, up1_e (f := (mdT M 0).1) (k := 38) (v := ((chT M N (difN n o) (difN o n)).length : Int)), fun i hi => by
        show upC (mdT M 0).2 15 (fun i => (((chT M N (difN n o) (difN o n)).getD i 0 : Nat) : Int)) 15 i = _
        rw [upC_e]⟩
      obtain ⟨k1, k2, cap2, k3, k4, -⟩ := hwX _ _ cap' a1 a3 a4 rfl ww
      exact ⟨k1, k4.2.1, k2⟩
  rw [← hH'.1] at q1
  obtain ⟨g', C2, M2, t2, b, g1, k1, k2, k3, k4, k5, k6, k7⟩ := gn_stepW (z := z) (g := g) (M := M) (C := C) (jc := 336) (jh := 335) (jm := 339) (cargs := [.ref 1000, .int (wI f)]) (margs := [.ref 1315, .int (wI f)]) (nE := 2) (X := wrX g cap L xs)
    (R := fun t v C1 g1 => (¬ rcW C f = 0 ∧ t = rcW C f ∧ C1 = C ∧ g1 = thr (mdPut g M)) ∨ (rcW C f = 0 ∧ t = 0 ∧ C1 = C' ∧ g1 = H' ∧ (∃ cap', sbS H' C' (chT M N (difN n o) (difN o n)) cap' ∧ sbOn (mdPut g M) H' C C' cap cap') ∧ v = ((chT M N (difN n o) (difN o n)).length : Int)))
    (Q := fun b M' => (¬ rfW M f = 0 ∧ M' = mdT M (rfW M f)) ∨ (rfW M f = 0 ∧ wrS (mdT M 0) M' (chT M N (difN n o) (difN o n)) ∧ b = ((chT M N (difN n o) (difN o n)).length : Int)))
    ⟨t, v, C', H', q1, hH'.2.1, hH'.2.2, by
      rcases q2 with ⟨a1, a2, a3, a4⟩ | ⟨a1, a2, a3, a4⟩
      · exact Or.inl ⟨a1, a2, a3, a4⟩
      · exact Or.inr ⟨a1, a2, rfl, rfl, a3, a4⟩⟩
    (fun h hst => p339 (z := z) hM hst gf hN (fun e => (hW (by omega)).2) (fun _ => ⟨hnn.symm, hoo.symm⟩))
    (fun t v C1 g1 b M' r1 r2 => by
      rcases r1 with ⟨a1, a2, a3, a4⟩ | ⟨a1, a2, a3, a4, ⟨cap', a5, a6⟩, a7⟩
      · rcases r2 with ⟨b1, rfl⟩ | ⟨b1, -⟩
        · subst a3
          subst a4
          exact ⟨by omega, by rw [mdT_1]; omega, fun c => by omega, wrX_thr h hg (by omega)⟩
        · omega
      · rcases r2 with ⟨b1, -⟩ | ⟨b1, b3, b4⟩
        · omega
        · subst a3
          subst a4
          obtain ⟨y1, y2, y3⟩ := hwX _ _ cap' a1 a5 a6 rfl b3
          refine ⟨by omega, ?_, fun _ => by rw [a7, b4], y3⟩
          rw [b3.1 0 (by decide), mdT_1, a2]; rfl)
    (fun H G o v hc ho => hp335 hc ho)
    (fun H G E hE hc => by
      have e9 : E = 0 ∨ E = 1 := by omega
      rcases e9 with rfl | rfl
      · exact hx335_0 hc
      · exact hx335_1 hc)
  simp only [List.cons_append, List.nil_append] at k4
  rw [← ef] at k4 k5
  obtain ⟨cap2, y1, y2, y3, y4⟩ := wrX_fin k2 k3
  have hx1 : (clPut (mdPut g' M) C2).1 1 = some (.inl (10, L, .inl xs)) := by rw [clPut_o (by omega), mdPut_o (by omega)]; exact y1.1
  exact ⟨g', C2, M2, _, _, cap2, lw_38 (gI_x hg) hx1 hi hL (by omega) k4 k5 k6 (fun e => k7 (by omega)), y1, y2, y3, y4⟩
end ST38
