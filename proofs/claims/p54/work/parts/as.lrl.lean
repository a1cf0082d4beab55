/-! ===== the relation after load: a fault ===== -/
theorem isSt_sp {t B : Nat} (ht : isSt t) (hB : B = 1003 ∨ B = 1034) (h : t ≠ B + 4) : 1003 ≤ t ∧ (t + 26 < B ∨ B + 30 < t) ∧ (t + 26 < 1256 ∨ 1260 < t) ∧ t + 26 ≤ 1314 := by
  have key : ∀ t ∈ stS, ∀ B, B = 1003 ∨ B = 1034 → t ≠ B + 4 → 1003 ≤ t ∧ (t + 26 < B ∨ B + 30 < t) ∧ (t + 26 < 1256 ∨ 1260 < t) ∧ t + 26 ≤ 1314 := by
    intro t ht B hB
    rcases hB with rfl | rfl
    · revert t; decide +kernel
    · revert t; decide +kernel
  exact key t ht B hB h
theorem coI_sp {C C' : tCl} {M M' : tMd} {B : Nat} (h : coI C M) (hB : C.2.2.2 1000 2 = B) (r : ∀ q j, ¬ (q = 1001 ∧ j = 7) → C'.2.2.2 q j = C.2.2.2 q j)
    (d1 : ∀ x, x ≠ 1001 → (x < B ∨ B + 30 < x) → C'.1 x = C.1 x) (d3 : ∀ x, (x < B ∨ B + 30 < x) → C'.2.1 x = C.2.1 x) (hs : spR B C')
    (n1 : M'.1 1 = M.1 1) (n4 : M'.1 4 = M.1 4) (n20 : M'.1 20 = M.1 20) (n24 : M'.1 24 = M.1 24) (n25 : M'.1 25 = M.1 25) (a0 : M'.2 0 = M.2 0) (b1 : M'.2 1 = M.2 1) (b2 : M'.2 2 = M.2 2) (b8 : M'.2 8 = M.2 8) (b9 : M'.2 9 = M.2 9)
    (m3 : 0 ≤ M'.1 0 ∧ M'.1 0 ≤ 9) (u1 : C'.1 1001 1 = M'.1 7) (u2 : C'.1 1001 2 = M'.1 8) (u3 : C'.1 1001 3 = M'.1 9) : coI C' M' := by
  obtain ⟨hR, hA, hM, hr, hnn, hG, hH, hSv, hg⟩ := h
  have hAB : (B = 1003 ∨ B = 1034) ∧ alb C ≠ B ∧ (alb C + 30 < B ∨ B + 30 < alb C) := by
    unfold alb
    rcases hR.1 with ⟨e1, e2⟩ | ⟨e1, e2⟩ <;> omega
  obtain ⟨hB2, hne, hdis⟩ := hAB
  obtain ⟨-, -, -, -, hst, -, -, a1, a2⟩ := clA_k hR.1
  have h5 := hM.2.2.2.2.1
  have r1 : C'.2.2.2 1000 = C.2.2.2 1000 := funext fun j => r _ _ (by omega)
  have r2 : C'.2.2.2 1093 = C.2.2.2 1093 := funext fun j => r _ _ (by omega)
  have r3 : C'.2.2.2 1256 = C.2.2.2 1256 := funext fun j => r _ _ (by omega)
  have ds : ∀ t, isSt t → t ≠ B + 4 → ∀ f, f < 5 → cph C' (t + 2 + 5 * f) = cph C (t + 2 + 5 * f) := fun t ht hn f hf => by
    have k := isSt_sp ht hB2 hn
    exact cph_eq (d1 _ (by omega) (by omega)) (fun c hc => d3 _ (by omega))
  have hal : alb C' = alb C := by unfold alb; rw [r1]
  have hcA : ∀ f, cAp C' f = cAp C f := fun f => by unfold cAp; rw [hal]
  have hcP : cPm C' = cPm C := by unfold cPm; rw [hal, d1 _ (by omega) (by omega)]
  have hcN : cNm C' = cNm C := by unfold cNm; rw [hal, d1 _ (by omega) (by omega)]
  have hgap : C'.1 (alb C') 0 = C.1 (alb C) 0 := by rw [hal, d1 _ (by omega) (by omega)]
  have h92 : C'.1 1092 = C.1 1092 := d1 _ (by omega) (by omega)
  have hmp : ∀ f, mph M' f = mph M f := fun f => by rw [mph_f, mph_f, a0, b8, b9]
  have hsM : ∀ st, stM M' st = stM M st := fun st => by unfold stM; rw [b1]
  have hg1 : rgI M' := ⟨fun j => by rw [a0]; exact hg.1 j, fun j => by rw [b1]; exact hg.2.1 j, fun f => by rw [b8]; exact hg.2.2.1 f, fun f => by rw [b9]; exact hg.2.2.2.1 f, fun f hf => by rw [n25] at hf; rw [b8, b9]; exact hg.2.2.2.2 f hf⟩
  have hM1 : mdR M' := ⟨m3, by rw [n1]; exact hM.2.1, by rw [n4]; exact hM.2.2.1, by rw [n20]; exact hM.2.2.2.1, by rw [n25]; exact hM.2.2.2.2.1, by rw [n24]; exact hM.2.2.2.2.2.1, fun f hf => by rw [hmp]; exact hM.2.2.2.2.2.2 f hf⟩
  have hcAr : ∀ f, f < 5 → cph C' (cAp C f) = cph C (cAp C f) := fun f hf => ds _ hst (by omega) f hf
  refine ⟨⟨?_, by rw [hcP]; exact hR.2.1, by rw [hcN]; exact hR.2.2.1, by rw [hgap]; exact hR.2.2.2.1, fun i hi => by rw [hcA, hcAr i hi]; exact hR.2.2.2.2 i hi⟩, ⟨fun t ht i hi => ?_, by rw [cph_eq (d1 _ (by omega) (by omega)) (fun c hc => d3 _ (by omega))]; exact hA.2⟩, hM1, ?_, fun f hf => by rw [hmp, n20]; exact hnn f (by rw [← n25]; exact hf), by rw [hgap, hG, n24], ⟨⟨fun i hi => by rw [r2]; exact hH.1.1 i hi, fun i j hi hj he => by rw [r2] at he; exact hH.1.2.1 i j hi hj he, by rw [h92]; exact hH.1.2.2⟩, fun c => by rw [n4]; exact hH.2.1 (by rw [← n1]; exact c), by rw [h92, n4]; exact hH.2.2.1, fun i hi => ?_⟩, fun s0 hs0 => ?_, hg1⟩
  · have := hR.1
    unfold clA at this ⊢
    rw [r1]; exact this
  · by_cases e : t = B + 4
    · rw [e, show B + 4 + 2 + 5 * i = B + 6 + 5 * i by omega]; exact hs i hi
    · rw [ds t ht e i hi]; exact hA.1 t ht i hi
  · refine ⟨by rw [hcP, n1, n25]; exact hr.1, by rw [hcN, n1, n20]; exact hr.2.1, by rw [n1, n25]; exact hr.2.2.1, fun f hf => ?_, u1, u2, u3, by rw [h92, n1, n4]; exact hr.2.2.2.2.2.2.2⟩
    rw [hcP] at hf
    have hf5 : f < 5 := by have := hR.2.1; omega
    rw [hcA, hcAr f hf5, hmp]
    exact hr.2.2.2.1 f hf
  · rw [n4] at hi
    obtain ⟨w1, w2⟩ := hH.2.2.2 i hi
    have h4 := hM.2.2.1
    have hs1 := hH.1.1 i (by omega)
    have hfa := isSt_sp hs1.1 hB2 (by omega)
    rw [r2, hsM]
    exact ⟨stEq_of w1 n25 b8 b9 (by rw [d1 _ (by omega) (by omega)]) h5.2 (fun f hf => ds _ hs1.1 (by omega) f hf), gdS_of w2 n25 n20 b8 b9⟩
  · obtain ⟨v1, v2, v3, v4, v5⟩ := hSv s0 hs0
    obtain ⟨c1, -, -⟩ := slot_k hs0
    have hfa := isSt_sp c1 hB2 (by omega)
    refine ⟨by rw [r3]; exact v1, by rw [b2]; exact v2, fun c => by rw [b2]; exact v3 (by rw [← n1]; exact c), fun c => ?_, fun c => ?_⟩
    · rw [d1 _ (by omega) (by omega)]; exact v4 (by rw [← b2]; exact c)
    · obtain ⟨w1, w2⟩ := v5 (by rw [← b2]; exact c)
      rw [hsM]
      exact ⟨stEq_of w1 n25 b8 b9 (by rw [d1 _ (by omega) (by omega)]) h5.2 (fun f hf => ds _ c1 (by omega) f hf), gdS_of w2 n25 n20 b8 b9⟩
/-- what load leaves of the start: class, reference -/
theorem bg_lfC {C C1 C2 : tCl} {B n : Nat} (h1 : inS (bgC C n) C1) (h2 : lfC B C1 C2) (hB : B = 1003 ∨ B = 1034) : lfC B C C2 :=
  lfC_trans ⟨fun q hq _ => by rw [h1.1 q hq, bgC_o hq], fun q _ => by rw [h1.2.2.1]; rfl, fun q j hq _ _ => by rw [h1.2.2.2.1 q j hq]; rfl, fun q j hq => by rw [h1.2.2.2.2 q j hq]; rfl⟩ h2
theorem bg_lfM {M M1 M2 : tMd} {n : Nat} (h1 : scS (bgM (mdT M 0) n) M1) (h2 : lfM M1 M2) : (∀ k, k ≠ 0 → k ≠ 7 → (k < 10 ∨ 18 < k) → k ≠ 22 → k ≠ 28 → k ≠ 29 → M2.1 k = M.1 k) ∧ (∀ c, c ≠ 4 → c ≠ 6 → c ≠ 7 → c ≠ 10 → M2.2 c = M.2 c) ∧ M2.1 0 = 0 ∧ M2.1 7 = 0 := by
  refine ⟨fun k h0 h7 hk a1 a2 a3 => ?_, fun c c1 c2 c3 c4 => ?_, ?_, ?_⟩
  · rw [h2.1 k hk a1 a2 a3, h1.1 k (by omega), bgM_o h7 hk, mdT_n h0]
  · rw [h2.2 c c1 c2 c3 c4, h1.2 c c1]; rfl
  · rw [h2.1 0 (by omega) (by decide) (by decide) (by decide), h1.1 0 (by omega), bgM_o (by decide) (by omega), mdT_1]
  · rw [h2.1 7 (by omega) (by decide) (by decide) (by decide), h1.1 7 (by omega)]
    show up1 (up1 (up1 (up1 (up1 (mdT M 0).1 10 (n : Int)) 11 0) 17 0) 18 (-1)) 7 0 7 = 0
    rw [up1_e]
theorem teM_o {M : tMd} {k : Nat} (h : k ≠ 8) (h2 : k ≠ 9) : (teM M).1 k = M.1 k := by
  show up1 (up1 M.1 8 (M.1 17)) 9 _ k = _
  rw [up1_n h2, up1_n h]
theorem ld_err {g : am_H} {C C1 C2 : tCl} {M M1 M2 : tMd} {B n cap : Nat} {L : Nat} {xs : Nat → Int32} (h : fuI g C M cap) (hg : gI g L xs) (hB : C.2.2.2 1000 2 = B) (h1 : inS (bgC C n) C1) (h2 : scS (bgM (mdT M 0) n) M1) (he : erR B C1 M1 C2 M2) : fuI (thr g) C2 (mdT (teM M2) 2) cap := by
  obtain ⟨f1, f2, f3, f4, f5⟩ := h
  obtain ⟨hR, hA, hM, hr, hnn, hG, hH, hSv, hgg⟩ := id f1
  have hAB : (B = 1003 ∨ B = 1034) ∧ (alb C + 30 < B ∨ B + 30 < alb C) ∧ (alb C = 1003 ∨ alb C = 1034) := by
    unfold alb
    rcases hR.1 with ⟨e1, e2⟩ | ⟨e1, e2⟩ <;> omega
  obtain ⟨hB2, hdis, hal⟩ := hAB
  obtain ⟨e1, e2, e3, e4, e5, e6, e7, e8⟩ := he
  have fC := bg_lfC h1 e1 hB2
  obtain ⟨m1, m2, m0, m7⟩ := bg_lfM h2 e7
  have tT : ∀ k, k ≠ 0 → k ≠ 8 → k ≠ 9 → (mdT (teM M2) 2).1 k = M2.1 k := fun k k0 k8 k9 => by rw [mdT_n k0, teM_o k8 k9]
  have tk : ∀ k, k ≠ 0 → k ≠ 7 → k ≠ 8 → k ≠ 9 → (k < 10 ∨ 18 < k) → k ≠ 22 → k ≠ 28 → k ≠ 29 → (mdT (teM M2) 2).1 k = M.1 k := fun k k0 k7 k8 k9 a1 a2 a3 a4 => by rw [tT k k0 k8 k9, m1 k k0 k7 a1 a2 a3 a4]
  have tr : ∀ c, c ≠ 4 → c ≠ 6 → c ≠ 7 → c ≠ 10 → (mdT (teM M2) 2).2 c = M.2 c := m2
  have t8 : (mdT (teM M2) 2).1 8 = M2.1 17 := rfl
  have t9 : (mdT (teM M2) 2).1 9 = M2.1 18 := by
    show (if M2.1 17 = 0 then -1 else M2.1 18) = _
    rw [if_neg (by omega)]
  have t7 : (mdT (teM M2) 2).1 7 = 0 := by rw [tT 7 (by decide) (by decide) (by decide), m7]
  have c1 : C2.1 1001 1 = 0 := by rw [e2, h1.2.1 1 (by decide)]; rfl
  have hon : gOn g (thr g) 1 6 := ⟨fun _ _ _ _ => rfl, hg.2.1, fun h => h, Nat.le_succ _, Nat.le_refl _, Nat.le_refl _⟩
  have ha2 : alb C2 = alb C := by unfold alb; exact fC.2.2.2 _ _ (by omega)
  refine ⟨?_, ?_, ?_, ?_, gS_on f5 hon hg.2.2.1⟩
  · exact coI_sp f1 hB fC.2.2.2 (fun x hx hx2 => fC.1 x hx hx2) (fun x hx => fC.2.1 x hx) e8 (tk 1 (by decide) (by decide) (by decide) (by decide) (by omega) (by decide) (by decide) (by decide)) (tk 4 (by decide) (by decide) (by decide) (by decide) (by omega) (by decide) (by decide) (by decide)) (tk 20 (by decide) (by decide) (by decide) (by decide) (by omega) (by decide) (by decide) (by decide)) (tk 24 (by decide) (by decide) (by decide) (by decide) (by omega) (by decide) (by decide) (by decide)) (tk 25 (by decide) (by decide) (by decide) (by decide) (by omega) (by decide) (by decide) (by decide)) (tr 0 (by decide) (by decide) (by decide) (by decide)) (tr 1 (by decide) (by decide) (by decide) (by decide)) (tr 2 (by decide) (by decide) (by decide) (by decide)) (tr 8 (by decide) (by decide) (by decide) (by decide)) (tr 9 (by decide) (by decide) (by decide) (by decide)) (by rw [mdT_1]; omega) (by rw [c1, t7]) (by rw [e3, t8]) (by rw [e4, t9])
  · intro a1 n hn
    rw [tk 1 (by decide) (by decide) (by decide) (by decide) (by omega) (by decide) (by decide) (by decide)] at a1
    rw [tk 20 (by decide) (by decide) (by decide) (by decide) (by omega) (by decide) (by decide) (by decide)] at hn
    have k := f2 a1 n hn
    unfold wF at k ⊢
    rw [tr 5 (by decide) (by decide) (by decide) (by decide), ha2, fC.2.2.1 (alb C + 2) n (by omega) (by omega) (by omega), fC.2.2.1 (alb C + 3) n (by omega) (by omega) (by omega)]
    exact k
  · refine ⟨by rw [t7]; omega, by rw [t8]; omega, by rw [t9]; omega, fun i hi => ?_⟩
    rw [t7] at hi; omega
  · exact wrI_of f4 hon (tk 38 (by decide) (by decide) (by decide) (by decide) (by omega) (by decide) (by decide) (by decide)) (tr 15 (by decide) (by decide) (by decide) (by decide)) (fC.1 _ (by decide) (by omega)) (funext fun j => fC.2.2.2 _ _ (by omega))
