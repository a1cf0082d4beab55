/-! ===== the law's step of load ===== -/
theorem strs_mp {g : am_H} {M : tMd} (h : strs g) : strs (mdPut g M) := fun i hi => by
  obtain ⟨a1, ⟨f, a2, a3⟩, a4, a5⟩ := h i hi
  exact ⟨by rw [mdPut_o (by omega)]; exact a1, ⟨f, by rw [mdPut_o (by omega)]; exact a2, a3⟩, a4, a5⟩
theorem strs_cp {g : am_H} {C : tCl} (h : strs g) : strs (clPut g C) := fun i hi => by
  obtain ⟨a1, ⟨f, a2, a3⟩, a4, a5⟩ := h i hi
  exact ⟨by rw [clPut_o (by omega)]; exact a1, ⟨f, by rw [clPut_o (by omega)]; exact a2, a3⟩, a4, a5⟩
theorem strs_ov {g g' : am_H} (h : strs g) (e : ∀ q, q < 1000 → g'.1 q = g.1 q) : strs g' := fun i hi => by
  obtain ⟨a1, ⟨f, a2, a3⟩, a4, a5⟩ := h i hi
  exact ⟨by rw [e _ (by omega)]; exact a1, ⟨f, by rw [e _ (by omega)]; exact a2, a3⟩, a4, a5⟩
section ST1
variable {z : Bool} {g : am_H} {C : tCl} {M : tMd} {xs : Nat → Int32} {L i cap : Nat}
theorem st_1 (h : fuI g C M cap) (hg : gI g L xs) (hi : i + 6 ≤ L) (hL : L ≤ 3072) : stF z 337 g C M i cap L xs := by
  intro l6 l7
  obtain ⟨v, ev, gv⟩ := wI_ex (xs (i + 1))
  obtain ⟨f1, f2, f3, f4, f5⟩ := id h
  obtain ⟨hR, hA, hM, hr, hnn, hG, hH, hSv, hgg⟩ := id f1
  have b7 := f3.1
  have e7 : C.1 1001 1 = M.1 7 := hr.2.2.2.2.1
  have hst := strs_of f5
  obtain ⟨o, ho⟩ := hg.2.1
  have honT : gOn g (thr g) 1 6 := ⟨fun _ _ _ _ => rfl, hg.2.1, fun h => h, Nat.le_succ _, Nat.le_refl _, Nat.le_refl _⟩
  by_cases c : 0 ≤ v ∧ v ≤ M.1 7
  rotate_left
  · have q1 := c17x (z := z) (h := mdPut g M) (C := C) (by omega) gv (by rw [e7]; exact c)
    have q2 : ∀ h, ru_ev z 52 [.ref 1315, .int (wI v)] (mdPut h M) = _ := fun h => p52x (z := z) (h := h) (by omega) gv c
    have hh := hx16_1 q1
    rw [md_thr] at hh
    rw [← ev] at hh q2
    exact ⟨thr g, C, mdT M 1, _, _, cap, lw_1 (t := 1) (b := 0) (gI_x hg) (gI_x (gI_on hg honT)) hi hL (by omega) hh (by rw [clPM, q2, ← clPM]) (by rw [clPM, p75, mdT_1]) (fun e => absurd e (by decide)), gI_on hg honT, fu_lift h hg.2.2.1 honT (coI_T f1 (by omega)) (chC_refl _) (chM_T _ _), by show g.2.1 + 1 + cap ≤ _; omega, by show g.2.2 + 6 + 2 * cap ≤ _; omega⟩
  obtain ⟨n, rfl⟩ := Int.eq_ofNat_of_zero_le c.1
  obtain ⟨A, hA1⟩ : ∃ A, C.2.2.2 1000 1 = A := ⟨_, rfl⟩
  obtain ⟨B, hB⟩ : ∃ B, C.2.2.2 1000 2 = B := ⟨_, rfl⟩
  have hAB : (B = 1003 ∨ B = 1034) ∧ (A = 1003 ∨ A = 1034) := by
    rcases hR.1 with ⟨e1, e2⟩ | ⟨e1, e2⟩ <;> omega
  obtain ⟨hB2, hA2⟩ := hAB
  have hby : byI C (mdT M 0) n := ⟨by omega, fun i hi => f3.2.2.2 i (by omega)⟩
  obtain ⟨C1, M1, s, k1, k2, k3, k4, k5⟩ := begin_j (z := z) hby
  have hst2 := (spr_k hB2).2.2.2.2.1
  have hs1 : spR B C1 := fun i hi => by
    rw [cph_eq (a := B + 6 + 5 * i) (C := C) (by rw [k4.1 _ (by omega), bgC_o (by omega)]) (fun c hc => by rw [k4.2.2.1]; rfl)]
    have := hA.1 _ hst2 i hi
    rw [show B + 4 + 2 + 5 * i = B + 6 + 5 * i by omega] at this; exact this
  have hb1 : byI C1 M1 n := by
    unfold byI at hby ⊢
    rw [k4.2.2.1, k5.2 3 (by decide)]; exact hby
  have h171 : M1.1 17 = 0 := by
    rw [k5.1 17 (by omega)]
    show up1 (up1 (up1 (up1 (up1 (mdT M 0).1 10 (n : Int)) 11 0) 17 0) 18 (-1)) 7 0 17 = 0
    rw [up1_n (by decide), up1_n (by decide), up1_e]
  have hsp1 : C1.2.2.2 1000 2 = B := by rw [k4.2.2.2.2 _ _ (by omega)]; exact hB
  have e7' : C.1 1001 1 = M.1 7 := e7
  have hv : 0 ≤ (n : Int) ∧ (n : Int) ≤ C.1 1001 1 := by rw [e7]; exact c
  rcases rd_all (z := z) hB2 k3 hb1 h171 hs1 with ⟨C2, M2, r1, r2, r3⟩ | ⟨C2, M2, r1, r2, r3⟩
  · -- all well
    obtain ⟨P, hP⟩ : ∃ P : Nat, M2.1 29 = (P : Int) := ⟨(M2.1 29).toNat, by have := r3.2.2.2.2.2.2.2.2.2; omega⟩
    have hP5 : P ≤ 5 := by have := r3.2.2.2.2.2.2.1.2.1; omega
    have hfin := ld_fin h hg hB hA1 k4 k5 r3 hP
    have hsp2 : C2.2.2.2 1000 2 = B := by rw [r3.1.2.2.2 _ _ (by omega)]; exact hsp1
    have hal2 : C2.2.2.2 1000 1 = A := by rw [r3.1.2.2.2 _ _ (by omega), k4.2.2.2.2 _ _ (by omega)]; exact hA1
    have hq2 : ∀ s, s < 2 → C2.2.2.2 1256 s = 1261 + 27 * s := fun s hs => by rw [r3.1.2.2.2 _ _ (by omega), k4.2.2.2.2 _ _ (by omega)]; exact (hSv s hs).1
    have q1 := c17o (z := z) (h := mdPut g M) (C := C) (by omega) gv hv hB2 hsp1 hsp2 hal2 hq2 (k1 _) (r1 _ (strs_mp hst))
    have eP : C2.1 (B + 4) 0 = (P : Int) := by rw [r3.2.2.2.2.2.2.1.1, hP]
    rw [eP] at q1
    have ho1 : (clPut (mdPut g M) (ldE C2 A B)).1 1332 = some (ouC o) := by rw [clPut_o (by omega), mdPut_o (by omega)]; exact ho
    have hh := hp16 q1 ho1
    rw [cl_seto (by omega), md_seto (by omega)] at hh
    have hon : gOn g (am_set g 1332 (ouC (am_up o 0 (wI (P : Int)).toInt64))) 0 0 := ⟨fun q _ hq _ => ru_setN hq, ⟨_, ru_setE _ _ _⟩, fun h => by rw [ru_setN (by decide)]; exact h, Nat.le_refl _, Nat.le_refl _, Nat.le_refl _⟩
    have hstG : strs (clPut (am_set g 1332 (ouC (am_up o 0 (wI (P : Int)).toInt64))) (ldE C2 A B)) := strs_cp (strs_ov hst (fun q hq => ru_setN (by omega)))
    obtain ⟨m1, m2, m0, m7⟩ := bg_lfM k5 r3.2.2.1
    have q2 := p52o (z := z) (M := M) (by omega) gv c (p55 hstG (k2 (clPut (am_set g 1332 (ouC (am_up o 0 (wI (P : Int)).toInt64))) (ldE C2 A B))) r2) r3.2.2.2.1 m0 hP hP5
    have hx1 : (clPut (mdPut (am_set g 1332 (ouC (am_up o 0 (wI (P : Int)).toInt64))) M) (ldE C2 A B)).1 1 = some (.inl (10, L, .inl xs)) := gI_x (gI_on hg hon)
    have n0 : (tkE (teM M2) P).1 0 = 0 := m0
    rw [← ev] at hh q2
    refine ⟨_, ldE C2 A B, tkE (teM M2) P, _, _, cap, lw_1 (t := 0) (b := (P : Int)) (gI_x hg) hx1 hi hL (by omega) hh (by rw [clPM, q2, ← clPM]) (by rw [clPM, p75, n0]) (fun _ => ?_), gI_on hg hon, fu_lift hfin hg.2.2.1 hon hfin.1 (chC_refl _) (chM_refl _), by show g.2.1 + cap ≤ _; omega, by show g.2.2 + 2 * cap ≤ _; omega⟩
    have e9 : (clPut (mdPut (am_set g 1332 (ouC (am_up o 0 (wI (P : Int)).toInt64))) (tkE (teM M2) P)) (ldE C2 A B)).1 1332 = some (ouC (am_up o 0 (wI (P : Int)).toInt64)) := by
      rw [clPut_o (by omega), mdPut_o (by omega)]; exact ru_setE _ _ _
    rw [ru_la e9 (by omega) (by omega) (by omega)]
    rfl
  · -- a fault
    have hfin := ld_err h hg hB k4 k5 r3
    have q1 := c17e (z := z) (h := mdPut g M) (C := C) (A := A) (by omega) gv hv hB2 hsp1 (k1 _) (r1 _ (strs_mp hst))
    have hh := hx16_2 q1
    rw [md_thr] at hh
    obtain ⟨m1, m2, m0, m7⟩ := bg_lfM k5 r3.2.2.2.2.2.2.1
    have q2 := p52y (z := z) (M := M) (by omega) gv c (p55 (strs_cp (g := thr g) (C := C2) hst) (k2 (clPut (thr g) C2)) r2) r3.2.2.2.2.1 m0
    rw [← ev] at hh q2
    exact ⟨thr g, C2, mdT (teM M2) 2, _, _, cap, lw_1 (t := 2) (b := 0) (gI_x hg) (gI_x (gI_on hg honT)) hi hL (by omega) hh (by rw [clPM, q2, ← clPM]) (by rw [clPM, p75, mdT_1]) (fun e => absurd e (by decide)), gI_on hg honT, hfin, by show g.2.1 + 1 + cap ≤ _; omega, by show g.2.2 + 6 + 2 * cap ≤ _; omega⟩
end ST1
