/-! ===== the class carries phrases out: the whole call ===== -/
/-- the token does not hang on what else the class holds -/
theorem tkC_in2 {C D : tCl} (hb : D.2.1 1002 = C.2.1 1002) (p : Nat → Int) (w : Int64) (n s : Nat) : ∃ p' w' k', tkC C p w n s = inP C p' w' k' ∧ tkC D p w n s = inP D p' w' k' := by
  have e1 : ∀ lo hi, rgB D lo hi = rgB C lo hi := fun lo hi => by unfold rgB; rw [hb]
  have e2 : lnL D n s = lnL C n s := by unfold lnL; rw [e1]
  have e3 : lnD D n s = lnD C n s := by unfold lnD; rw [e1]
  have e4 : ∀ m, lwF D s m = lwF C s m := fun m => by unfold lwF; rw [hb]
  have e5 : ∀ m, nmV D s m = nmV C s m := fun m => by
    induction m with
    | zero => rfl
    | succ m ih => rw [nmV, nmV, ih, hb]
  unfold tkC
  rw [e2, e3, e4, e5, hb]
  by_cases c1 : n ≤ s
  · rw [if_pos c1, if_pos c1]; exact ⟨_, _, _, rfl, rfl⟩
  · rw [if_neg c1, if_neg c1]
    by_cases c2 : 0 < lnL C n s
    · rw [if_pos c2, if_pos c2]; exact ⟨_, _, _, rfl, rfl⟩
    · rw [if_neg c2, if_neg c2]
      by_cases c3 : 0 < lnD C n s
      · rw [if_pos c3, if_pos c3]; exact ⟨_, _, _, rfl, rfl⟩
      · rw [if_neg c3, if_neg c3]; exact ⟨_, _, _, rfl, rfl⟩
theorem inP_1 {C : tCl} {p : Nat → Int} {w : Int64} {k : Nat} : (inP C p w k).1 1001 = p ∧ (inP C p w k).2.2.1 1001 8 = w ∧ (inP C p w k).2.2.2 1001 7 = k ∧ (inP C p w k).2.1 = C.2.1 ∧ (∀ q, q ≠ 1001 → (inP C p w k).1 q = C.1 q) ∧ (∀ q j, ¬ (q = 1001 ∧ j = 8) → (inP C p w k).2.2.1 q j = C.2.2.1 q j) ∧ ∀ q j, ¬ (q = 1001 ∧ j = 7) → (inP C p w k).2.2.2 q j = C.2.2.2 q j := by
  refine ⟨?_, ?_, ?_, rfl, fun q hq => if_neg hq, fun q j h => ?_, fun q j h => ?_⟩
  · show (if (1001 : Nat) = 1001 then p else C.1 1001) = p
    rw [if_pos rfl]
  · show (if (1001 : Nat) = 1001 then (if (8 : Nat) = 8 then w else C.2.2.1 1001 8) else C.2.2.1 1001 8) = w
    rw [if_pos rfl, if_pos rfl]
  · show (if (1001 : Nat) = 1001 then (if (7 : Nat) = 7 then k else C.2.2.2 1001 7) else C.2.2.2 1001 7) = k
    rw [if_pos rfl, if_pos rfl]
  · show (if q = 1001 then (if j = 8 then w else C.2.2.1 q j) else C.2.2.1 q j) = _
    by_cases c : q = 1001
    · rw [if_pos c, if_neg (fun e => h ⟨c, e⟩)]
    · rw [if_neg c]
  · show (if q = 1001 then (if j = 7 then k else C.2.2.2 q j) else C.2.2.2 q j) = _
    by_cases c : q = 1001
    · rw [if_pos c, if_neg (fun e => h ⟨c, e⟩)]
    · rw [if_neg c]
/-- the class begins a text -/
theorem bgn {z : Bool} {C C1 : tCl} {n : Nat} (k : ∀ h, ru_ev z 20 [.ref 1001] (clPut h (bgC C n)) = some (.inl none, clPut h C1)) (h : am_H) : ru_ev z 19 [.ref 1001, .int (wI n)] (clPut h C) = some (.inl none, clPut h C1) := by
  have k1' : ∀ h, ru_ev z 20 [.ref 1001] (clPut h (upI (upI (upI (upI (upI C 1001 4 (n : Int)) 1001 1 0) 1001 2 0) 1001 3 (-1)) 1001 6 0)) = some (.inl none, clPut h C1) := k
  simp (disch := omega) only [en19, e19_0, e19_1, e19_2, e19_5, e19_6, e19_7, e19_10, e19_11, e19_12, e19_15, e19_16, e19_17, e19_20, e19_21, e19_22, e19_25, e19_26, e19_29, ↓reduceIte, Bool.false_eq_true, not_false_eq_true, not_true_eq_false, Nat.reduceLeDiff, Nat.reduceAdd, Nat.reduceEqDiff, Int.reduceToNat, Int.toNat_natCast, iB0, iB1, ru_klI, ru_klR, ru_klF, ru_klJ, ru_kl0, ru_cs0, ru_csI, ru_csR, ru_csF, ru_csJ, wI_add, wI_sub, wI_mul, wI_lt, wI_le, wI_inj, ru_fdE, ru_fdN, ru_iaN, ru_baN, ru_laN, ru_qaN, ru_pfN, ru_isN, ru_bsN, ru_jsN, ru_qsN, ru_set2, Nat.add_right_cancel_iff, if_true, if_false, ite_self, Int.reduceEq, and_self, Int.add_neg_cancel_right, Int.add_zero, Int.zero_add, cl_e1, cl_q1_4, cl_q1_1, cl_q1_2, cl_q1_3, cl_q1_6, k1']
section C77
variable {z : Bool} {C : tCl} {gap : Int} {N P : Nat} {F L : Nat → List Nat} {Q : Nat → tPh}
/-- phrases begun: the state E before the first token, D at it -/
def phS0 (z : Bool) (C : tCl) (f l : Nat) (Qf : tPh) (gap : Int) (H : am_H) (E D : tCl) : Prop := (∀ h, ru_ev z 20 [.ref 1001] (clPut h E) = some (.inl none, clPut h D)) ∧ piOK (piGet E 1070) (cph E 1065) gap ∧ pheq (cph E 1065) Qf ∧ phR (cph E 1065) ∧ (∀ q, q ≠ 1001 → q ≠ 1065 → q ≠ 1070 → E.1 q = C.1 q) ∧ (∀ q j, q ≠ 1001 → E.2.2.1 q j = C.2.2.1 q j) ∧ (∀ q j, q ≠ 1001 → E.2.2.2 q j = C.2.2.2 q j) ∧ (∀ q, (q < 1066 ∨ 1080 < q) → E.2.1 q = C.2.1 q) ∧ (∀ i, i < 5 → E.1 1001 i = (bgC C l).1 1001 i) ∧ E.1 1001 6 = ((0 : Nat) : Int) ∧
  ru_ev z 77 [.ref 1000, .int (wI f), .int (wI l)] (clPut H C) = ru_n z 77 73 [some (.ref 1000), some (.int (wI f)), some (.int (wI l)), some (.ref (cAp C f)), some (.ref H.2.1), none] [] (clPut (rdH (H.1, H.2.1 + 3, H.2.2 + 33) H.2.1 (alb C + 1) (0, 0, 0, fun _ => 0, fun _ => 0)) D)
theorem c77s (hI : yqI C gap N F L) (hP : ypI C P Q) {f : Nat} (hf : f < P) {l : Nat} {k : Nat} (hb1 : C.1 1001 1 = (k : Int)) (hk : l ≤ k ∧ k ≤ 1200) (hbb0 : ∀ i, i < l → -128 ≤ C.2.1 1002 i ∧ C.2.1 1002 i ≤ 127) {H : am_H} (hH : 1315 ≤ H.2.1) : ∃ E D, phS0 z C f l (Q f) gap H E D := by
  obtain ⟨hR, hiC1, hA, hS, hG⟩ := id hI
  obtain ⟨k0, k1, k2, k3, k4, n2, n3, a1, a2⟩ := clA_k hR.1
  have hA2 : alb C = 1003 ∨ alb C = 1034 := hS.1
  obtain ⟨hP1, hP5, hPq⟩ := hP
  have hf5 : f < 5 := by omega
  have e : rcP C (f : Int) = 0 := by unfold rcP; rw [if_neg (by omega), if_pos (by omega)]
  have ha := cAp_ph hR.1 hf5
  have c3 : phR (cph C (cAp C f)) := hR.2.2.2.2 f hf5
  have gap' := hR.2.2.2.1
  -- the text is begun
  obtain ⟨Cb, hCb⟩ : ∃ Cb, Cb = bgC C l := ⟨_, rfl⟩
  have cb2 : Cb.2 = C.2 := by rw [hCb]; rfl
  have cb4 : Cb.1 1001 4 = (l : Int) := by rw [hCb]; rfl
  have cb6 : Cb.1 1001 6 = ((0 : Nat) : Int) := by rw [hCb]; rfl
  have cbo : ∀ q, q ≠ 1001 → Cb.1 q = C.1 q := fun q hq => by rw [hCb]; exact bgC_o hq
  have hbb : ∀ D : tCl, D.2.1 1002 = C.2.1 1002 → ∀ i, i < l → -128 ≤ D.2.1 1002 i ∧ D.2.1 1002 i ≤ 127 := fun D hD i hi => by
    rw [hD]
    exact hbb0 i hi
  obtain ⟨s, hs⟩ : ∃ s, s = eF (rgB C 32 32) (l - 0) 0 := ⟨_, rfl⟩
  have adv : ∀ D : tCl, D.2.1 1002 = C.2.1 1002 → ∀ h, ru_ev z 20 [.ref 1001] (clPut h (inP D (Cb.1 1001) (Cb.2.2.1 1001 8) (Cb.2.2.2 1001 7))) = some (.inl none, clPut h (tkC D (Cb.1 1001) (Cb.2.2.1 1001 8) l s)) := fun D hD h =>
    c20 (z := z) (h := h) (C := D) (p := Cb.1 1001) (w := Cb.2.2.1 1001 8) (k := Cb.2.2.2 1001 7) (n := l) (e := 0) (s := s) cb4 cb6 (Nat.zero_le _) (by omega) (hbb D hD) (by rw [hs]; unfold rgB; rw [hD])
  obtain ⟨C1, hC1⟩ : ∃ C1, C1 = tkC Cb (Cb.1 1001) (Cb.2.2.1 1001 8) l s := ⟨_, rfl⟩
  have b1 : ∀ h, ru_ev z 19 [.ref 1001, .int (wI l)] (clPut h C) = some (.inl none, clPut h C1) := by
    refine bgn (fun h => ?_)
    have := adv Cb (by rw [cb2]) h
    rw [inP_self, ← hC1, hCb] at this
    exact this
  -- the draft, its picture
  have cd1 : ∀ a, a ≠ 1001 → a + 4 < 1002 ∨ 1002 < a → cph C1 a = cph C a := fun a ha1 _ => by
    obtain ⟨p1, w1, k1, y1, -⟩ := tkC_in2 (C := Cb) (D := Cb) rfl (Cb.1 1001) (Cb.2.2.1 1001 8) l s
    rw [hC1, y1]
    exact cph_eq (by rw [inP_1.2.2.2.2.1 _ ha1]; exact cbo _ ha1) (fun c hc => by rw [inP_1.2.2.2.1, cb2])
  have ca1 : cph C1 (cAp C f) = cph C (cAp C f) := cd1 _ (by unfold cAp; omega) (by unfold cAp; omega)
  have hfar : cAp C f + 4 < 1065 ∨ 1065 + 4 < cAp C f := by unfold cAp; omega
  obtain ⟨q', cq, rq⟩ := k80 (z := z) (h := H) (C := C1) (a := 1065) (b := cAp C f) isPh_draft ha hfar (q := cph C1 1065) (r := cph C1 (cAp C f)) (by rw [ca1]; exact c3) rfl
  rw [phP_get] at rq
  obtain ⟨C2, hC2⟩ : ∃ C2, C2 = phP C1 1065 q' := ⟨_, rfl⟩
  rw [← hC2] at rq
  have hq2 : phR (cph C2 1065) := by rw [hC2]; exact cpQ_R cq (by rw [cd1 _ (by decide) (by decide)]; exact hA.2) (by rw [ca1]; exact c3)
  obtain ⟨pi, pok, rp⟩ := k81 (z := z) (h := H) (C := C2) (P := 1070) (Or.inl rfl) (a := 1065) (q := cph C2 1065) isPh_draft (by omega) rfl hq2 (gap := C.1 (alb C) 0) gap' (piGet C2 1070)
  rw [piPut_get] at rp
  obtain ⟨D, hD0⟩ : ∃ D, D = piPut C2 1070 pi := ⟨_, rfl⟩
  rw [← hD0] at rp
  have o1 : ∀ q, q ≠ 1065 → q ≠ 1070 → D.1 q = C1.1 q := fun q x1 x2 => by rw [hD0, piPut_1 x2, hC2, phP_1 x1]
  have o2 : ∀ q, (q < 1066 ∨ 1080 < q) → D.2.1 q = C1.2.1 q := fun q x1 => by rw [hD0, piPut_2 (by omega), hC2, phP_2 (by omega)]
  have o3 : D.2.2 = C1.2.2 := by rw [hD0, hC2]; rfl
  have ed : cph D 1065 = cph C2 1065 := by rw [hD0]; exact piPut_ph (by omega)
  have c1b : C1.2.1 = C.2.1 := by
    obtain ⟨p1, w1, k1, y1, -⟩ := tkC_in2 (C := Cb) (D := Cb) rfl (Cb.1 1001) (Cb.2.2.1 1001 8) l s
    rw [hC1, y1, inP_1.2.2.2.1, cb2]
  have Db : D.2.1 1002 = C.2.1 1002 := by rw [o2 _ (by decide), c1b]
  -- the state before the first token
  obtain ⟨E, hE⟩ : ∃ E, E = inP D (Cb.1 1001) (Cb.2.2.1 1001 8) (Cb.2.2.2 1001 7) := ⟨_, rfl⟩
  obtain ⟨E1, E2, E3, E4, E5, E6, E7⟩ := inP_1 (C := D) (p := Cb.1 1001) (w := Cb.2.2.1 1001 8) (k := Cb.2.2.2 1001 7)
  rw [← hE] at E1 E2 E3 E4 E5 E6 E7
  obtain ⟨pp, ww, kk, y1, y2⟩ := tkC_in2 (C := Cb) (D := D) (by rw [Db, cb2]) (Cb.1 1001) (Cb.2.2.1 1001 8) l s
  have c1x : C1 = inP Cb pp ww kk := hC1.trans y1
  obtain ⟨X1, X2, X3, X4, X5, X6, X7⟩ := inP_1 (C := Cb) (p := pp) (w := ww) (k := kk)
  rw [← c1x] at X1 X2 X3 X4 X5 X6 X7
  have hEs : ∀ h, ru_ev z 20 [.ref 1001] (clPut h E) = some (.inl none, clPut h D) := fun h => by
    have k9 := adv D Db h
    rw [← hE, y2] at k9
    have k8 : inP D pp ww kk = D := by
      have := inP_self (C := D)
      rw [show D.1 1001 = pp by rw [o1 _ (by decide) (by decide), X1], show D.2.2.1 1001 8 = ww by rw [o3, X2], show D.2.2.2 1001 7 = kk by rw [o3, X3]] at this
      exact this
    rw [k8] at k9
    exact k9
  have eE : cph E 1065 = cph D 1065 := cph_eq (E5 _ (by decide)) (fun c hc => by rw [E4])
  have pokE : piOK (piGet E 1070) (cph E 1065) gap := by
    rw [eE, ed, ← hG]
    refine piOK_c pok ?_ (fun c hc => ?_)
    · show E.1 1070 = pi.1
      rw [E5 _ (by decide), hD0]
      exact piPut_at
    · show E.2.1 (1070 + 1 + c) = pi.2 c
      rw [E4, hD0, piPut_in (by omega), show 1070 + 1 + c - (1070 + 1) = c by omega]
  have he2 : pheq (cph E 1065) (Q f) := by
    rw [eE, ed]
    obtain ⟨s1, s2⟩ := phP_self (C := C1) (a := 1065) (q := q')
    rw [← hC2] at s1 s2
    obtain ⟨t1, t2, t3, t4⟩ := cq
    have r4 := hPq f hf
    refine ⟨fun k hk => by rw [s1, t1 k hk, ca1]; exact r4.1 k hk, fun c i hc hi => ?_⟩
    rw [s1, t1 7 (by decide), ca1] at hi
    have h12 := (phR_s c3).2.2.2.2.2.2.2
    rw [s2 c hc, t3 c i hc (by omega), ca1]
    exact r4.2 c i hc hi
  have hcE : ∀ q, q ≠ 1001 → q ≠ 1065 → q ≠ 1070 → E.1 q = C.1 q := fun q x1 x2 x3 => by rw [E5 q x1, o1 q x2 x3, X5 q x1, cbo q x1]
  have hcJ : ∀ q j, q ≠ 1001 → E.2.2.1 q j = C.2.2.1 q j := fun q j x1 => by rw [E6 q j (by omega), o3, X6 q j (by omega), cb2]
  have hcR : ∀ q j, q ≠ 1001 → E.2.2.2 q j = C.2.2.2 q j := fun q j x1 => by rw [E7 q j (by omega), o3, X7 q j (by omega), cb2]
  have hcB : ∀ q, (q < 1066 ∨ 1080 < q) → E.2.1 q = C.2.1 q := fun q x1 => by rw [E4, o2 q x1, c1b]
  refine ⟨E, D, hEs, pokE, he2, by rw [eE, ed]; exact hq2, hcE, hcJ, hcR, hcB, fun i hi => by rw [E1, hCb], by rw [E1]; exact cb6, ?_⟩
  have x78 := d78 (z := z) (h := H) hR (f := (f : Int)) (by omega)
  rw [oR_0 e, Int.toNat_natCast] at x78
  have x18 := c18 (z := z) (h := H) (C := C) (v := (l : Int)) (by omega) (by omega)
  rw [if_pos (by omega)] at x18
  have g01 : ∀ D : tCl, D.2.2.2 1000 1 = alb C → ∀ h, am_fd (clPut h D) 1000 0 1 = some (.ref (alb C)) := fun D hD h => by rw [cl_g0_1, hD]
  have a1C : C1.2.2.2 1000 1 = alb C := by rw [X7 _ _ (by omega), cb2]; rfl
  have a2C : C2.2.2.2 1000 1 = alb C := by rw [hC2]; exact a1C
  have a0C : D.2.2.2 1000 1 = alb C := by rw [o3]; exact a1C
  have g1 := g01 C2 a2C H
  have g2 : ∀ h, am_fd (clPut h D) 1000 0 1 = some (.ref (alb C)) := g01 D a0C
  have g3 : am_fd (clPut H C2) (alb C) 2 0 = some (.int (wI (C.1 (alb C) 0))) := by
    have := (sprF hA2 (h := H) (C := C2)).2.1
    rw [show C2.1 (alb C) = C.1 (alb C) by rw [hC2, phP_1 (by omega), X5 _ (by omega), cbo _ (by omega)]] at this
    exact this
  have g4 : ∀ h, am_fd (clPut h D) (alb C) 2 1 = some (.ref (alb C + 1)) := fun h => (sprF hA2).2.2.1
  have t0 : (clPut H D).2.1 = H.2.1 := rfl
  have nwE : am_new (clPut H D) (.inr (8, [.null, .null, .null, .null, .int (wI 0), .null, .int (wI 0), .int (wI 0), .null])) 9 = clPut (am_new H (.inr (8, [.null, .null, .null, .null, .int (wI 0), .null, .int (wI 0), .int (wI 0), .null])) 9) D := nw_cl (by omega)
  have x89 := c89 (z := z) (h := H) (C := D) (nm := alb C + 1) hH
  rw [nwE] at x89
  have pe1 : (clPut H C1).1 1065 = some (.inr (6, clL6 C1 1065)) := clP6 (by decide +kernel) (by decide)
  have pe2 : (clPut H C2).1 1070 = some (.inr (4, clL4 C2 1070)) := clP4 (by decide +kernel) (by decide)
  simp (disch := omega) only [en77, e77_0, e77_1, e77_2, e77_5, e77_6, e77_7, e77_8, e77_11, e77_12, e77_15, e77_16, e77_19, e77_20, e77_23, e77_24, e77_27, e77_28, e77_31, e77_32, e77_35, e77_36, e77_39, e77_42, e77_45, e77_48, e77_49, e77_50, e77_53, e77_54, e77_57, e77_60, e77_61, e77_64, e77_65, e77_68, e77_71, ↓reduceIte, Bool.false_eq_true, not_false_eq_true, not_true_eq_false, Nat.reduceLeDiff, Nat.reduceAdd, Nat.reduceEqDiff, Int.reduceToNat, Int.toNat_natCast, iB0, iB1, ru_klI, ru_klR, ru_klF, ru_klJ, ru_kl0, ru_cs0, ru_csI, ru_csR, ru_csF, ru_csJ, wI_add, wI_sub, wI_mul, wI_lt, wI_le, wI_inj, ru_fdE, ru_fdN, ru_iaN, ru_baN, ru_laN, ru_qaN, ru_pfN, ru_isN, ru_bsN, ru_jsN, ru_qsN, ru_set2, Nat.add_right_cancel_iff, if_true, if_false, ite_self, Int.reduceEq, and_self, Int.add_neg_cancel_right, Int.add_zero, Int.zero_add, ru_ctR, ru_ctI, cl_e0, cl_e1, x78, x18, cl_g0_0, cl_g0_3, cl_g0_4, b1, rq, rp, g1, g2, g3, g4, t0, nwE, x89, pe1, pe2]
theorem c77 (hI : yqI C gap N F L) (hP : ypI C P Q) {f : Nat} (hf : f < P) (hp : phR (Q f)) (hN : phN (Q f) (N : Int)) (hN6 : N ≤ 6) {m : Nat} (hm : m ≤ 900) {w : List Nat} {p' : tPh} {ct : Nat} (hw : prAll gap N F L (m + 1) (Q f) w p' ct) {k : Nat} (hb1 : C.1 1001 1 = (k : Int)) (hk : w.length ≤ k ∧ k ≤ 1200) (hby : ∀ i, i < w.length → C.2.1 1002 i = ((w.getD i 0 : Nat) : Int)) (h127 : ∀ i, i < w.length → w.getD i 0 ≤ 127) {H : am_H} (hst : strs H) (hH : 1315 ≤ H.2.1) : ∃ (C' : tCl) (H' : am_H), ru_ev z 77 [.ref 1000, .int (wI f), .int (wI (w.length : Nat))] (clPut H C) = some (.inl (some (.int (wI (ct : Nat)))), clPut H' C') ∧ agX H H' 3 33 ∧ yqI C' gap N F L ∧ ypI C' P (fun i => if i = f then p' else Q i) ∧ C'.1 1001 1 = 0 ∧ C'.1 1001 2 = 0 ∧ C'.1 1001 3 = -1 ∧ phN p' (N : Int) := by
  have hbb : ∀ i, i < w.length → -128 ≤ C.2.1 1002 i ∧ C.2.1 1002 i ≤ 127 := fun i hi => by
    rw [hby i hi]
    have := h127 i hi
    omega
  obtain ⟨E, D, hEs, pokE, he2, hE65, hcE, hcJ, hcR, hcB, hx, hx6, run⟩ := c77s (z := z) (H := H) hI hP hf hb1 hk hbb hH
  obtain ⟨hR, hiC1, hA, hS, hG⟩ := id hI
  obtain ⟨k0, k1, k2, k3, k4, n2, n3, a1, a2⟩ := clA_k hR.1
  have hf5 : f < 5 := by have := hP.2.1; omega
  have hSE : nmS E (alb C) N F L := nmS_c hS (hcE _ (by omega) (by omega) (by omega)) (fun j => hcJ _ _ (by omega)) (fun j => hcJ _ _ (by omega))
  have hpo : poR E w.length 0 w := ⟨hx 4 (by decide), hx6, by omega, fun i hi => by rw [hcB _ (by decide)]; exact hbb i hi, by omega, fun i hi => by rw [Nat.zero_add, hcB _ (by decide)]; exact hby i (by omega)⟩
  have hq : fpI E E (cph E 1065) := ⟨⟨fun _ _ => rfl, fun _ _ _ => rfl, fun _ _ _ => rfl, fun _ _ _ => rfl⟩, fun _ _ => rfl, rfl, hE65⟩
  obtain ⟨C3, S3, q3, b2, b3, b4, b5, b6, b7, b8⟩ := f90 (z := z) (R := H.2.1) (h := (H.1, H.2.1 + 3, H.2.2 + 33)) (A := alb C) hH hst hSE pokE hN6 hm hw hq (psE_refl _) hp hN he2 hpo hEs (S := (0, 0, 0, fun _ => 0, fun _ => 0))
  obtain ⟨u1, u2, u3, u4⟩ := b3
  -- the invariant before the change is recorded
  have al3 : C3.2.2.2 1000 = C.2.2.2 1000 := funext fun j => by rw [u1.2.2.2 _ _ (by omega), hcR _ _ (by decide)]
  obtain ⟨v1, v2, v3⟩ := yc_fr (C' := C3) hI al3 (funext fun j => by rw [u1.2.2.2 _ _ (by omega), hcR _ _ (by decide)]) (fun x x1 _ x3 _ x5 => by rw [u1.1 x x1, hcE x x1 x5 x3]) (fun x _ _ x3 => by rw [u1.2.1 x (by omega) (by omega), hcB x (by omega)]) (fun q j x1 => by rw [u1.2.2.1 q j (by omega), hcJ q j x1]) (by rw [u3]; exact u4)
  obtain ⟨C4, qn, w1, w2, w3, w4, w5, w6⟩ := ph_c (z := z) hR hf5 v1.2.1 v1.2.2.1 v3 (by rw [u3]; exact u4) (l1 := some (.int (wI f))) (l2 := some (.int (wI (w.length : Nat)))) b2
  have hqn : pheq qn p' := by
    have h12 := (phR_s u4).2.2.2.2.2.2.2
    refine ⟨fun k hk => by rw [w4 k hk, u3]; exact b5.1 k hk, fun c i hc hi => ?_⟩
    rw [w4 7 (by decide), u3] at hi
    rw [w5 c i hc (by omega), u3]
    exact b5.2 c i hc hi
  obtain ⟨t1, t2, t3, t4⟩ := yc_chg (n := f) (q' := qn) (p' := p') v1 (v2 P Q hP) hf5 w1 w2 w3 hqn
  have ecA : cAp C3 f = cAp C f := by unfold cAp; rw [v3]
  rw [ecA] at t1 t2 t3 t4
  have hx1 : ∀ i, i < 4 → (phP C4 (cAp C f) qn).1 1001 i = (bgC C w.length).1 1001 i := fun i hi => by rw [t3, u2 i hi, hx i (by omega)]
  refine ⟨phP C4 (cAp C f) qn, rdH (H.1, H.2.1 + 3, H.2.2 + 33) H.2.1 (alb C + 1) S3, ?_, ?_, t1, t2, by rw [hx1 1 (by decide)]; rfl, by rw [hx1 2 (by decide)]; rfl, by rw [hx1 3 (by decide)]; rfl, b6⟩
  rotate_left
  · refine ⟨fun q hq => ?_, by show H.2.1 ≤ H.2.1 + 3; omega, by show H.2.1 + 3 ≤ H.2.1 + 3; omega, by show H.2.2 + 33 ≤ H.2.2 + 33; omega⟩
    rw [rdH_o (by omega)]
  · rw [run, w6, show ((0, 0, 0, fun _ => 0, fun _ => 0) : tRd).1 + ((ct : Nat) : Int) = ((ct : Nat) : Int) from Int.zero_add _]
end C77
