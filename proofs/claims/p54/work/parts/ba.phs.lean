/-! ===== phrases: the start ===== -/
/-- the reference's state while a photo's picture lies -/
def laM (M : tMd) : tMd := (up1 M.1 0 0, upC M.2 1 (lyF (M.2 1) (M.2 0) 0 270))
theorem phP_nz {C : tCl} {a : Nat} {q : tPh} : phP C a q = phP C a (q.1, fun c => if c < 4 then q.2 c else fun _ => 0) := by
  refine Prod.ext rfl (Prod.ext (funext fun b => ?_) rfl)
  show (if a + 1 ≤ b ∧ b ≤ a + 4 then q.2 (b - (a + 1)) else C.2.1 b) = (if a + 1 ≤ b ∧ b ≤ a + 4 then (if b - (a + 1) < 4 then q.2 (b - (a + 1)) else fun _ => 0) else C.2.1 b)
  by_cases e : a + 1 ≤ b ∧ b ≤ a + 4
  · rw [if_pos e, if_pos e, if_pos (by omega)]
  · rw [if_neg e, if_neg e]
/-- the class, the reference where phrases are begun -/
def sfC (C C0 : tCl) : Prop := (∀ q, q ≠ 1001 → q ≠ 1065 → q ≠ 1070 → C0.1 q = C.1 q) ∧ (∀ q, (q < 1066 ∨ 1080 < q) → C0.2.1 q = C.2.1 q) ∧ (∀ q j, ¬ (q = 1001 ∧ j = 8) → C0.2.2.1 q j = C.2.2.1 q j) ∧ (∀ q j, ¬ (q = 1001 ∧ j = 7) → C0.2.2.2 q j = C.2.2.2 q j) ∧ C0.1 1001 1 = 0 ∧ C0.1 1001 2 = 0 ∧ C0.1 1001 3 = -1
def sfM (M M0 : tMd) : Prop := (∀ k, k ≠ 0 → k ≠ 7 → k ≠ 34 → k ≠ 35 → (k < 10 ∨ 18 < k) → M0.1 k = M.1 k) ∧ (∀ c, c ≠ 1 → c ≠ 4 → c ≠ 11 → c ≠ 12 → c ≠ 13 → M0.2 c = M.2 c) ∧ M0.2 1 = lyF (M.2 1) (M.2 0) 0 270 ∧ M0.1 0 = 0 ∧ M0.1 7 = 0 ∧ M0.1 17 = 0
theorem piPut_at {C : tCl} {P : Nat} {p : tPi} : (piPut C P p).1 P = p.1 := if_pos rfl
section PHS
variable {z : Bool} {M : tMd} {C : tCl}
theorem ph_start (h1 : coI C M) (hnm : nmI C M) (hbu : buI C M) {f : Int} (gf : -2147483648 ≤ f ∧ f < 2147483648) (e : rcP C f = 0) {l : Nat} (hl : (l : Int) ≤ M.1 7) {H : am_H} (hH : 1334 ≤ H.2.1) {rc : Int} {R L Q : Nat → Int} (hlr : lrOK M f.toNat rc R L Q) : ∃ C0 M0 s,
    ru_ev z 77 [.ref 1000, .int (wI f), .int (wI ((l : Nat) : Int))] (clPut H C) = ru_n z 77 73 [some (.ref 1000), some (.int (wI f)), some (.int (wI ((l : Nat) : Int))), some (.ref (cAp C f.toNat)), some (.ref H.2.1), none] [] (clPut (rdH (H.1, H.2.1 + 3, H.2.2 + 33) H.2.1 (alb C + 1) (0, 0, 0, fun _ => 0, fun _ => 0)) C0) ∧
    (∀ h, ru_n z 116 45 [some (.ref 1315), some (.int (wI f)), some (.int (wI ((l : Nat) : Int)))] [] (mdPut h (mdQ (laM M) rc R L Q)) = ru_n z 116 55 [some (.ref 1315), some (.int (wI f)), some (.int (wI ((l : Nat) : Int)))] [] (mdPut h M0)) ∧
    tkR C0 M0 l s ∧ prI f.toNat C0 M0 C0 M0 0 ∧ prS (alb C) (M.1 20).toNat f.toNat C0 M0 ∧ prR f.toNat C0 M0 rc ∧ byI C0 M0 l ∧ sfC C C0 ∧ sfM M M0 := by
  obtain ⟨hR, hA, hM, hr, hnn, hG, hHi, hSv, hgg⟩ := id h1
  obtain ⟨r1, r2, r3, r4⟩ := rel_rf hM hr e
  obtain ⟨p1, p2, p3⟩ := rcP_0 e
  have hcp := hR.2.1
  obtain ⟨k0, k1, k2, k3, k4, n2, n3, a1, a2⟩ := clA_k hR.1
  have hA2 : alb C = 1003 ∨ alb C = 1034 := by unfold alb; rcases hR.1 with ⟨e1, e2⟩ | ⟨e1, e2⟩ <;> omega
  have ha := cAp_ph hR.1 r2
  obtain ⟨c2, c3⟩ := dph (h := H) hR e
  have e25 : f < M.1 25 := by
    have := hr.1
    rw [if_neg (rfP_0 r1).1] at this; omega
  have m1 : M.1 1 = 1 := by have := (rfP_0 r1).1; have := hM.2.1; omega
  have gap := hR.2.2.2.1
  -- the reference's buffer is begun
  obtain ⟨Mb, hMb⟩ : ∃ Mb, Mb = mdQ (laM M) rc R L Q := ⟨_, rfl⟩
  have mb1 : ∀ k, k ≠ 0 → k ≠ 34 → Mb.1 k = M.1 k := fun k h0 h34 => by
    rw [hMb]
    show up1 (up1 M.1 0 0) 34 rc k = _
    rw [up1_n h34, up1_n h0]
  have mb34 : Mb.1 34 = rc := by
    rw [hMb]
    show up1 (up1 M.1 0 0) 34 rc 34 = _
    rw [up1_e]
  have mb0 : Mb.1 0 = 0 := by
    rw [hMb]
    show up1 (up1 M.1 0 0) 34 rc 0 = _
    rw [up1_n (by decide), up1_e]
  have mb2 : ∀ c, c ≠ 1 → c ≠ 11 → c ≠ 12 → c ≠ 13 → Mb.2 c = M.2 c := fun c x1 x2 x3 x4 => by
    rw [hMb]
    show upC (upC (upC (upC M.2 1 _) 11 R) 12 L) 13 Q c = _
    rw [upC_n x4, upC_n x3, upC_n x2, upC_n x1]
  have mb3 : Mb.2 1 = lyF (M.2 1) (M.2 0) 0 270 ∧ Mb.2 11 = R ∧ Mb.2 12 = L ∧ Mb.2 13 = Q := by rw [hMb]; exact ⟨rfl, rfl, rfl, rfl⟩
  have hby : byI C Mb l := ⟨by have := hbu.1; omega, fun i hi => by rw [mb2 3 (by decide) (by decide) (by decide) (by decide)]; exact hbu.2.2.2 i (by omega)⟩
  obtain ⟨C1, Mc, s, b1, b2, b3, b4, b5⟩ := begin_j (z := z) hby
  obtain ⟨M0, hM0⟩ : ∃ M0 : tMd, M0 = (up1 Mc.1 35 0, Mc.2) := ⟨_, rfl⟩
  have z1 : ∀ k, k ≠ 35 → M0.1 k = Mc.1 k := fun k hk => by rw [hM0]; exact up1_n hk
  have z2 : M0.2 = Mc.2 := by rw [hM0]
  have z35 : M0.1 35 = 0 := by rw [hM0]; show up1 Mc.1 35 0 35 = _; rw [up1_e]
  have zk : ∀ k, k ≠ 0 → k ≠ 7 → k ≠ 34 → k ≠ 35 → (k < 10 ∨ 18 < k) → M0.1 k = M.1 k := fun k h0 h7 h34 h35 hk => by rw [z1 k h35, b5.1 k (by omega), bgM_o h7 hk, mb1 k h0 h34]
  have zr : ∀ c, c ≠ 4 → M0.2 c = Mb.2 c := fun c hc => by rw [z2, b5.2 c hc]; rfl
  have zr2 : ∀ c, c ≠ 1 → c ≠ 4 → c ≠ 11 → c ≠ 12 → c ≠ 13 → M0.2 c = M.2 c := fun c x1 x4 x2 x3 x5 => by rw [zr c x4, mb2 c x1 x2 x3 x5]
  have z0 : M0.1 0 = 0 := by rw [z1 0 (by decide), b5.1 0 (by omega), bgM_o (by decide) (by omega), mb0]
  have z34 : M0.1 34 = rc := by rw [z1 34 (by decide), b5.1 34 (by omega), bgM_o (by decide) (by omega), mb34]
  have z7 : M0.1 7 = 0 := by
    rw [z1 7 (by decide), b5.1 7 (by omega)]
    show up1 (up1 (up1 (up1 (up1 Mb.1 10 (l : Int)) 11 0) 17 0) 18 (-1)) 7 0 7 = 0
    rw [up1_e]
  have z17 : M0.1 17 = 0 := by
    rw [z1 17 (by decide), b5.1 17 (by omega)]
    show up1 (up1 (up1 (up1 (up1 Mb.1 10 (l : Int)) 11 0) 17 0) 18 (-1)) 7 0 17 = 0
    rw [up1_n (by decide), up1_n (by decide), up1_e]
  have zmp : ∀ i, mph M0 i = mph M i := fun i => by rw [mph_f, mph_f, zr2 0 (by decide) (by decide) (by decide) (by decide) (by decide), zr2 8 (by decide) (by decide) (by decide) (by decide) (by decide), zr2 9 (by decide) (by decide) (by decide) (by decide) (by decide)]
  have z20 := zk 20 (by decide) (by decide) (by decide) (by decide) (by omega)
  have z24 := zk 24 (by decide) (by decide) (by decide) (by decide) (by omega)
  have z25 := zk 25 (by decide) (by decide) (by decide) (by decide) (by omega)
  have zly : ∀ j, 0 ≤ lyF (M.2 1) (M.2 0) 0 270 j ∧ lyF (M.2 1) (M.2 0) 0 270 j ≤ 999 := fun j => by
    unfold lyF
    split
    · exact hgg.1 _
    · exact hgg.2.1 _
  have zM : mdR M0 := ⟨by rw [z0]; omega, by rw [zk 1 (by decide) (by decide) (by decide) (by decide) (by omega)]; exact hM.2.1, by rw [zk 4 (by decide) (by decide) (by decide) (by decide) (by omega)]; exact hM.2.2.1, by rw [z20]; exact hM.2.2.2.1, by rw [z25]; exact hM.2.2.2.2.1, by rw [z24]; exact hM.2.2.2.2.2.1, fun i hi => by rw [zmp]; exact hM.2.2.2.2.2.2 i hi⟩
  have zg : rgI M0 := by
    unfold rgI
    rw [zr2 0 (by decide) (by decide) (by decide) (by decide) (by decide), zr 1 (by decide), mb3.1, zr2 8 (by decide) (by decide) (by decide) (by decide) (by decide), zr2 9 (by decide) (by decide) (by decide) (by decide) (by decide), z25]
    exact ⟨hgg.1, zly, hgg.2.2⟩
  -- the class: the draft, its picture
  have c1o : ∀ q, q ≠ 1001 → C1.1 q = C.1 q := fun q hq => by rw [b4.1 q hq, bgC_o hq]
  have c1r : C1.2.1 = C.2.1 := by rw [b4.2.2.1]; rfl
  have ca1 : cph C1 (cAp C f.toNat) = cph C (cAp C f.toNat) := cph_eq (c1o _ (by unfold cAp; omega)) (fun c hc => by rw [c1r])
  have cd1 : cph C1 1065 = cph C 1065 := cph_eq (c1o _ (by decide)) (fun c hc => by rw [c1r])
  have hfar : cAp C f.toNat + 4 < 1065 ∨ 1065 + 4 < cAp C f.toNat := by unfold cAp; omega
  obtain ⟨q', cq, rq⟩ := k80 (z := z) (h := H) (C := C1) (a := 1065) (b := cAp C f.toNat) isPh_draft ha hfar (q := cph C1 1065) (r := cph C1 (cAp C f.toNat)) (by rw [ca1]; exact c3) rfl
  rw [phP_get] at rq
  obtain ⟨C2, hC2⟩ : ∃ C2, C2 = phP C1 1065 q' := ⟨_, rfl⟩
  rw [← hC2] at rq
  have hq2 : phR (cph C2 1065) := by rw [hC2]; exact cpQ_R cq (by rw [cd1]; exact hA.2) (by rw [ca1]; exact c3)
  obtain ⟨p', pok, rp⟩ := k81 (z := z) (h := H) (C := C2) (P := 1070) (Or.inl rfl) (a := 1065) (q := cph C2 1065) isPh_draft (by omega) rfl hq2 (gap := C.1 (alb C) 0) gap (piGet C2 1070)
  rw [piPut_get] at rp
  obtain ⟨C0, hC0⟩ : ∃ C0, C0 = piPut C2 1070 p' := ⟨_, rfl⟩
  rw [← hC0] at rp
  have o1 : ∀ q, q ≠ 1065 → q ≠ 1070 → C0.1 q = C1.1 q := fun q x1 x2 => by rw [hC0, piPut_1 x2, hC2, phP_1 x1]
  have o2 : ∀ q, (q < 1066 ∨ 1080 < q) → C0.2.1 q = C1.2.1 q := fun q x1 => by rw [hC0, piPut_2 (by omega), hC2, phP_2 (by omega)]
  have o3 : C0.2.2 = C1.2.2 := by rw [hC0, hC2]; rfl
  have ed : cph C0 1065 = cph C2 1065 := by rw [hC0]; exact piPut_ph (by omega)
  have pok0 : piOK (piGet C0 1070) (cph C0 1065) (M0.1 24) := by
    rw [ed, z24, ← hG]
    refine piOK_c pok ?_ (fun c hc => ?_)
    · show C0.1 1070 = p'.1
      rw [hC0]
      exact piPut_at
    · show C0.2.1 (1070 + 1 + c) = p'.2 c
      rw [hC0, piPut_in (by omega), show 1070 + 1 + c - (1070 + 1) = c by omega]
  have he2 : pheq (cph C0 1065) (mph M0 f.toNat) := by
    rw [ed, zmp]
    obtain ⟨s1, s2⟩ := phP_self (C := C1) (a := 1065) (q := q')
    rw [← hC2] at s1 s2
    obtain ⟨t1, t2, t3, t4⟩ := cq
    refine ⟨fun k hk => by rw [s1, t1 k hk, ca1]; exact r4.1 k hk, fun c i hc hi => ?_⟩
    rw [s1, t1 7 (by decide), ca1] at hi
    have h12 := (phR_s c3).2.2.2.2.2.2.2
    rw [s2 c hc, t3 c i hc (by omega), ca1]
    exact r4.2 c i hc hi
  have e7 : C.1 1001 1 = M.1 7 := hr.2.2.2.2.1
  have cj : ∀ q j, ¬ (q = 1001 ∧ j = 8) → C0.2.2.1 q j = C.2.2.1 q j := fun q j hq => by rw [o3, b4.2.2.2.1 q j hq]; rfl
  have cR : ∀ q j, ¬ (q = 1001 ∧ j = 7) → C0.2.2.2 q j = C.2.2.2 q j := fun q j hq => by rw [o3, b4.2.2.2.2 q j hq]; rfl
  have ci : ∀ i, i < 5 → C0.1 1001 i = (bgC C l).1 1001 i := fun i hi => by rw [o1 _ (by decide) (by decide)]; exact b4.2.1 i hi
  refine ⟨C0, M0, s, ?_, fun h => ?_, ?_, ?_, ?_, ?_, ?_, ⟨fun q x1 x2 x3 => by rw [o1 q x2 x3, c1o q x1], fun q x1 => by rw [o2 q x1, c1r], cj, cR, by rw [ci 1 (by decide)]; rfl, by rw [ci 2 (by decide)]; rfl, by rw [ci 3 (by decide)]; rfl⟩, ⟨zk, zr2, by rw [zr 1 (by decide)]; exact mb3.1, z0, z7, z17⟩⟩
  · have x78 := d78 (z := z) (h := H) hR gf
    rw [oR_0 e] at x78
    have x18 := c18 (z := z) (h := H) (C := C) (v := (l : Int)) (by have := hbu.1; omega) (by have := hbu.1; omega)
    rw [if_pos (by omega)] at x18
    have g01 : ∀ D : tCl, D.2.2.2 1000 1 = alb C → ∀ h, am_fd (clPut h D) 1000 0 1 = some (.ref (alb C)) := fun D hD h => by rw [cl_g0_1, hD]
    have a2C : C2.2.2.2 1000 1 = alb C := by rw [hC2]; show C1.2.2.2 1000 1 = _; rw [b4.2.2.2.2 _ _ (by omega)]; rfl
    have a0C : C0.2.2.2 1000 1 = alb C := cR _ _ (by omega)
    have g1 := g01 C2 a2C H
    have g2 : ∀ h, am_fd (clPut h C0) 1000 0 1 = some (.ref (alb C)) := g01 C0 a0C
    have g3 : am_fd (clPut H C2) (alb C) 2 0 = some (.int (wI (C.1 (alb C) 0))) := by
      have := (sprF hA2 (h := H) (C := C2)).2.1
      rw [show C2.1 (alb C) = C.1 (alb C) by rw [hC2, phP_1 (by omega), c1o _ (by omega)]] at this
      exact this
    have g4 : ∀ h, am_fd (clPut h C0) (alb C) 2 1 = some (.ref (alb C + 1)) := fun h => (sprF hA2).2.2.1
    have t0 : (clPut H C0).2.1 = H.2.1 := rfl
    have nwE : am_new (clPut H C0) (.inr (8, [.null, .null, .null, .null, .int (wI 0), .null, .int (wI 0), .int (wI 0), .null])) 9 = clPut (am_new H (.inr (8, [.null, .null, .null, .null, .int (wI 0), .null, .int (wI 0), .int (wI 0), .null])) 9) C0 := nw_cl (by omega)
    have x89 := c89 (z := z) (h := H) (C := C0) (nm := alb C + 1) (Nat.le_trans (by decide) hH)
    rw [nwE] at x89
    have pe1 : (clPut H C1).1 1065 = some (.inr (6, clL6 C1 1065)) := clP6 (by decide +kernel) (by decide)
    have pe2 : (clPut H C2).1 1070 = some (.inr (4, clL4 C2 1070)) := clP4 (by decide +kernel) (by decide)
    simp (disch := omega) only [en77, e77_0, e77_1, e77_2, e77_5, e77_6, e77_7, e77_8, e77_11, e77_12, e77_15, e77_16, e77_19, e77_20, e77_23, e77_24, e77_27, e77_28, e77_31, e77_32, e77_35, e77_36, e77_39, e77_42, e77_45, e77_48, e77_49, e77_50, e77_53, e77_54, e77_57, e77_60, e77_61, e77_64, e77_65, e77_68, e77_71, ↓reduceIte, Bool.false_eq_true, not_false_eq_true, not_true_eq_false, Nat.reduceLeDiff, Nat.reduceAdd, Nat.reduceEqDiff, Int.reduceToNat, Int.toNat_natCast, iB0, iB1, ru_klI, ru_klR, ru_klF, ru_klJ, ru_kl0, ru_cs0, ru_csI, ru_csR, ru_csF, ru_csJ, wI_add, wI_sub, wI_mul, wI_lt, wI_le, wI_inj, ru_fdE, ru_fdN, ru_iaN, ru_baN, ru_laN, ru_qaN, ru_pfN, ru_isN, ru_bsN, ru_jsN, ru_qsN, ru_set2, Nat.add_right_cancel_iff, if_true, if_false, ite_self, Int.reduceEq, and_self, Int.add_neg_cancel_right, Int.add_zero, Int.zero_add, ru_ctR, ru_ctI, cl_e0, cl_e1, x78, x18, cl_g0_0, cl_g0_3, cl_g0_4, b1, rq, rp, g1, g2, g3, g4, t0, nwE, x89, pe1, pe2]
  · have s35 : am_pf (mdPut h Mc) 1315 10 35 0 (.int (wI 0)) = some (mdPut h M0) := by rw [hM0]; exact md_s35
    rw [← hMb]
    simp (disch := omega) only [e116_45, e116_46, e116_47, e116_50, e116_51, e116_52, ↓reduceIte, Bool.false_eq_true, not_false_eq_true, not_true_eq_false, Nat.reduceLeDiff, Nat.reduceAdd, Nat.reduceEqDiff, Int.reduceToNat, Int.toNat_natCast, iB0, iB1, ru_klI, ru_klR, ru_klF, ru_klJ, ru_kl0, ru_cs0, ru_csI, ru_csR, ru_csF, ru_csJ, wI_add, wI_sub, wI_mul, wI_lt, wI_le, wI_inj, ru_fdE, ru_fdN, ru_iaN, ru_baN, ru_laN, ru_qaN, ru_pfN, ru_isN, ru_bsN, ru_jsN, ru_qsN, ru_set2, Nat.add_right_cancel_iff, if_true, if_false, ite_self, Int.reduceEq, and_self, Int.add_neg_cancel_right, Int.add_zero, Int.zero_add, md_e, b2, s35]
  · exact tkR_of b3 (o1 _ (by decide) (by decide)) (o2 _ (by decide)) (by rw [o3]) (by rw [o3]) (fun k _ _ => z1 k (by omega)) (by rw [z2])
  · exact ⟨⟨fun _ _ => rfl, fun _ _ _ => rfl, fun _ _ _ => rfl, fun _ _ _ => rfl⟩, fun _ _ => rfl, ⟨fun _ _ _ => rfl, fun _ _ _ _ => rfl⟩, z17, z35, zM, zg, by rw [zmp, z20]; exact hnn _ (by omega), by rw [ed]; exact hq2, he2, psE_refl _, psE_refl _, fun _ _ => rfl⟩
  · have h20 := hM.2.2.2.1
    refine ⟨hA2, ?_, by rw [z20]; omega, by omega, r2, fun i hi => ?_⟩
    · rw [o1 _ (by omega) (by omega), c1o _ (by omega)]
      have : cNm C = M.1 20 := by rw [hr.2.1, if_neg (by omega)]
      unfold cNm at this
      omega
    · obtain ⟨q1, q2, q3, q4, -⟩ := hnm m1 i (by omega)
      rw [cj _ _ (by omega), cj _ _ (by omega)]
      unfold wF at q1 q2 q3 q4 ⊢
      rw [zr2 5 (by decide) (by decide) (by decide) (by decide) (by decide)]
      exact ⟨q1, q2, q3, q4⟩
  · refine ⟨pok0, ?_, z34, by rw [ed]; exact hq2, by rw [zmp]; exact r3, he2⟩
    unfold lrOK at hlr ⊢
    rw [zmp, z24, zr 11 (by decide), zr 12 (by decide), zr 13 (by decide), mb3.2.1, mb3.2.2.1, mb3.2.2.2]
    exact hlr
  · unfold byI at hby ⊢
    rw [o2 1002 (by decide), c1r, zr 3 (by decide)]
    exact hby
end PHS
