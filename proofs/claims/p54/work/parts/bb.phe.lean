/-! ===== phrases: the end ===== -/
theorem rdH_md {h : am_H} {M : tMd} {R nm : Nat} {S : tRd} (hR : 1334 ≤ R) : rdH (mdPut h M) R nm S = mdPut (rdH h R nm S) M := by
  refine Prod.ext (funext fun q => ?_) rfl
  by_cases c : R ≤ q ∧ q ≤ R + 2
  · rw [mdPut_o (by omega)]
    have hq : q = R ∨ q = R + 1 ∨ q = R + 2 := by omega
    rcases hq with rfl | rfl | rfl
    · exact (if_pos rfl).trans (if_pos rfl).symm
    · show (if R + 1 = R then _ else if R + 1 = R + 1 then _ else _) = (if R + 1 = R then _ else if R + 1 = R + 1 then _ else _)
      rw [if_neg (by omega), if_pos rfl, if_neg (by omega), if_pos rfl]
    · show (if R + 2 = R then _ else if R + 2 = R + 1 then _ else if R + 2 = R + 2 then _ else _) = (if R + 2 = R then _ else if R + 2 = R + 1 then _ else if R + 2 = R + 2 then _ else _)
      rw [if_neg (by omega), if_neg (by omega), if_pos rfl, if_neg (by omega), if_neg (by omega), if_pos rfl]
  · rw [rdH_o (by omega)]
    by_cases c2 : q < 1315 ∨ 1331 < q
    · rw [mdPut_o c2, mdPut_o c2, rdH_o (by omega)]
    · unfold mdPut
      dsimp only
      rw [rdH_o (by omega)]
theorem rdH_on {g : am_H} {L : Nat} {xs : Nat → Int32} (hg : gI g L xs) {nm : Nat} {S : tRd} : gOn g (rdH (g.1, g.2.1 + 3, g.2.2 + 33) g.2.1 nm S) 3 33 := by
  have h3 := hg.2.2.1
  refine ⟨fun q h1 _ _ => rdH_o (by omega), ?_, fun ⟨o, ho⟩ => ⟨o, by rw [rdH_o (by omega)]; exact ho⟩, Nat.le_add_right _ _, Nat.le_refl _, Nat.le_refl _⟩
  obtain ⟨o, ho⟩ := hg.2.1
  exact ⟨o, by rw [rdH_o (by omega)]; exact ho⟩
section PHE
variable {z : Bool} {g : am_H} {M : tMd} {C : tCl} {cap L : Nat} {xs : Nat → Int32}
/-- frames from the start of the call on -/
theorem px_C {C0 C' : tCl} (h : sfC C C0) (k : prC C0 C') : (∀ q, q ≠ 1001 → q ≠ 1065 → q ≠ 1070 → C'.1 q = C.1 q) ∧ (∀ q, (q < 1066 ∨ 1080 < q) → C'.2.1 q = C.2.1 q) ∧ (∀ q j, ¬ (q = 1001 ∧ j = 8) → C'.2.2.1 q j = C.2.2.1 q j) ∧ ∀ q j, ¬ (q = 1001 ∧ j = 7) → C'.2.2.2 q j = C.2.2.2 q j :=
  ⟨fun q h1 h2 h3 => (k.1 q h1).trans (h.1 q h1 h2 h3), fun q h1 => (k.2.1 q (by omega) (by omega)).trans (h.2.1 q h1), fun q j h1 => (k.2.2.1 q j h1).trans (h.2.2.1 q j h1), fun q j h1 => (k.2.2.2 q j h1).trans (h.2.2.2.1 q j h1)⟩
theorem px_M {M0 M' : tMd} (h : sfM M M0) (k : prM M0 M') : (∀ k, k ≠ 0 → k ≠ 7 → k ≠ 34 → k ≠ 35 → (k < 10 ∨ 18 < k) → M'.1 k = M.1 k) ∧ (∀ c, c ≠ 0 → c ≠ 1 → c ≠ 4 → c ≠ 7 → c ≠ 11 → c ≠ 12 → c ≠ 13 → M'.2 c = M.2 c) ∧ M'.2 1 = lyF (M.2 1) (M.2 0) 0 270 ∧ M'.1 0 = 0 ∧ M'.1 7 = 0 :=
  ⟨fun q h0 h7 h34 h35 hq => (k.1 q hq h35).trans (h.1 q h0 h7 h34 h35 hq), fun c h0 h1 h4 h7 h11 h12 h13 => (k.2 c h0 h4 h7).trans (h.2.1 c h1 h4 h11 h12 h13), by rw [k.2 1 (by decide) (by decide) (by decide)]; exact h.2.2.1, by rw [k.1 0 (by omega) (by decide)]; exact h.2.2.2.1, by rw [k.1 7 (by omega) (by decide)]; exact h.2.2.2.2.1⟩
theorem nm_px (hnm : nmI C M) {C' : tCl} {M' : tMd} (hal : alb C' = alb C) (hA : alb C = 1003 ∨ alb C = 1034) (h3 : ∀ q j, ¬ (q = 1001 ∧ j = 8) → C'.2.2.1 q j = C.2.2.1 q j) (h1 : M'.1 1 = M.1 1) (h20 : M'.1 20 = M.1 20) (h5 : M'.2 5 = M.2 5) : nmI C' M' := fun a1 n hn => by
  rw [h1] at a1
  rw [h20] at hn
  have k := hnm a1 n hn
  unfold wF at k ⊢
  rw [h5, hal, h3 (alb C + 2) n (by omega), h3 (alb C + 3) n (by omega)]
  exact k
theorem ph_err (h : fuI g C M cap) (hg : gI g L xs) {n : Nat} (hn5 : n < 5) {C0 C' : tCl} {M0 M' : tMd} (hc : sfC C C0) (hm : sfM M M0) (he : epI n C0 M0 C' M') {nm : Nat} {S' : tRd} : fuI (thr (rdH (g.1, g.2.1 + 3, g.2.2 + 33) g.2.1 nm S')) C' ((mdT (teM M') 3).1, upC (teM M').2 0 (feF ((teM M').2 0) ((teM M').2 1) 0 270)) cap ∧ ((mdT (teM M') 3).1, upC (teM M').2 0 (feF ((teM M').2 0) ((teM M').2 1) 0 270)).1 0 = 3 ∧ gOn g (thr (rdH (g.1, g.2.1 + 3, g.2.2 + 33) g.2.1 nm S')) 4 39 := by
  obtain ⟨f1, f2, f3, f4, f5⟩ := id h
  obtain ⟨hR, hA, hM, hr, hnn, hG, hHi, hSv, hgg⟩ := id f1
  obtain ⟨e1, e2, e3, e4, e5, e6, e7, e8, e9⟩ := he
  obtain ⟨x1, x2, x3, x4⟩ := px_C hc e1
  obtain ⟨y1, y2, y3, y4, y5⟩ := px_M hm e6
  have hA2 : alb C = 1003 ∨ alb C = 1034 := by unfold alb; rcases hR.1 with ⟨e1, e2⟩ | ⟨e1, e2⟩ <;> omega
  have on3 := rdH_on hg (nm := nm) (S := S')
  have hon : gOn g (thr (rdH (g.1, g.2.1 + 3, g.2.2 + 33) g.2.1 nm S')) 4 39 := by
    obtain ⟨k1, k2, k3, k4, k5, k6⟩ := on3
    exact ⟨k1, k2, k3, by show g.2.1 ≤ g.2.1 + 3 + 1; omega, by show g.2.1 + 3 + 1 ≤ g.2.1 + 4; omega, by show g.2.2 + 33 + 6 ≤ g.2.2 + 39; omega⟩
  obtain ⟨F, hF⟩ : ∃ F : tMd, F = ((mdT (teM M') 3).1, upC (teM M').2 0 (feF ((teM M').2 0) ((teM M').2 1) 0 270)) := ⟨_, rfl⟩
  have t1 : ∀ k, k ≠ 0 → k ≠ 8 → k ≠ 9 → F.1 k = M'.1 k := fun k h0 h8 h9 => by
    rw [hF]
    show (mdT (teM M') 3).1 k = _
    rw [mdT_n h0, teM_o h8 h9]
  have tk : ∀ k, k ≠ 0 → k ≠ 7 → k ≠ 8 → k ≠ 9 → k ≠ 34 → k ≠ 35 → (k < 10 ∨ 18 < k) → F.1 k = M.1 k := fun k h0 h7 h8 h9 h34 h35 hk => by rw [t1 k h0 h8 h9, y1 k h0 h7 h34 h35 hk]
  have t8 : F.1 8 = M'.1 17 := by rw [hF]; rfl
  have r17 := e9.1
  have t9 : F.1 9 = M'.1 18 := by
    rw [hF]
    show (if M'.1 17 = 0 then -1 else M'.1 18) = _
    rw [if_neg (by omega)]
  have t7 : F.1 7 = 0 := by rw [t1 7 (by decide) (by decide) (by decide), y5]
  have t0 : F.1 0 = 3 := by rw [hF]; show (mdT (teM M') 3).1 0 = 3; rw [mdT_1]
  have u0 : F.2 0 = M.2 0 := by
    rw [hF]
    show upC M'.2 0 (feF (M'.2 0) (M'.2 1) 0 270) 0 = _
    rw [upC_e]
    funext j
    unfold feF
    by_cases c : j < 270
    · rw [if_pos c, y3]
      unfold lyF
      rw [if_pos (by omega)]
      exact congrArg (M.2 0) (by omega)
    · rw [if_neg c, e8 j (by omega), hm.2.1 0 (by decide) (by decide) (by decide) (by decide) (by decide)]
  have uc : ∀ c, c ≠ 0 → F.2 c = M'.2 c := fun c hc => by rw [hF]; exact upC_n hc
  have u1 : F.2 1 = lyF (M.2 1) (M.2 0) 0 270 := by rw [uc 1 (by decide), y3]
  rw [← hF]
  refine ⟨⟨?_, ?_, ?_, ?_, gS_on f5 hon hg.2.2.1⟩, t0, hon⟩
  · refine coI_D f1 (funext fun j => x4 _ _ (by omega)) (funext fun j => x4 _ _ (by omega)) (funext fun j => x4 _ _ (by omega)) (fun x h1 _ h3 _ h5 => x1 x h1 h5 h3) (fun x _ _ h3 => x2 x (by omega)) e7
      (tk 1 (by decide) (by decide) (by decide) (by decide) (by decide) (by decide) (by omega)) (tk 4 (by decide) (by decide) (by decide) (by decide) (by decide) (by decide) (by omega)) (tk 20 (by decide) (by decide) (by decide) (by decide) (by decide) (by decide) (by omega)) (tk 24 (by decide) (by decide) (by decide) (by decide) (by decide) (by decide) (by omega)) (tk 25 (by decide) (by decide) (by decide) (by decide) (by decide) (by decide) (by omega))
      u0 (fun j hj => ?_) (fun j => ?_) (by rw [uc 2 (by decide)]; exact y2 2 (by decide) (by decide) (by decide) (by decide) (by decide) (by decide) (by decide)) (by rw [uc 8 (by decide)]; exact y2 8 (by decide) (by decide) (by decide) (by decide) (by decide) (by decide) (by decide)) (by rw [uc 9 (by decide)]; exact y2 9 (by decide) (by decide) (by decide) (by decide) (by decide) (by decide) (by decide)) (by rw [t0]; omega) (by rw [e2, hc.2.2.2.2.1, t7]) (by rw [e3, t8]) (by rw [e4, t9])
    · rw [u1]
      unfold lyF
      rw [if_neg (by omega)]
    · rw [u1]
      unfold lyF
      split
      · exact hgg.1 _
      · exact hgg.2.1 _
  · exact nm_px f2 (by unfold alb; exact x4 _ _ (by omega)) hA2 x3 (tk 1 (by decide) (by decide) (by decide) (by decide) (by decide) (by decide) (by omega)) (tk 20 (by decide) (by decide) (by decide) (by decide) (by decide) (by decide) (by omega)) (by rw [uc 5 (by decide)]; exact y2 5 (by decide) (by decide) (by decide) (by decide) (by decide) (by decide) (by decide))
  · exact ⟨by rw [t7]; omega, by rw [t8]; omega, by rw [t9]; omega, fun i hi => by rw [t7] at hi; omega⟩
  · exact wrI_of f4 hon (tk 38 (by decide) (by decide) (by decide) (by decide) (by decide) (by decide) (by omega)) (by rw [uc 15 (by decide)]; exact y2 15 (by decide) (by decide) (by decide) (by decide) (by decide) (by decide) (by decide)) (x1 _ (by decide) (by decide) (by decide)) (funext fun j => x4 _ _ (by omega))
/-- all well: the relation before the change is kept -/
theorem ph_mid (f1 : coI C M) {n : Nat} {C0 C' : tCl} {M0 M' : tMd} {gv : Int} (hc : sfC C C0) (hm : sfM M M0) (hr : prI n C0 M0 C' M' gv) : coI C' ((teM M').1, upC (upC (teM M').2 1 (M.2 1)) 0 (M.2 0)) := by
  obtain ⟨hR, hA, hM, hrr, hnn, hG, hHi, hSv, hgg⟩ := id f1
  obtain ⟨a1, a2, a3, a4, a5, a6, a7, a8, a9, b1, b2, b3, b4⟩ := hr
  obtain ⟨x1, x2, x3, x4⟩ := px_C hc a1
  obtain ⟨y1, y2, y3, y4, y5⟩ := px_M hm a3
  obtain ⟨F, hF⟩ : ∃ F : tMd, F = ((teM M').1, upC (upC (teM M').2 1 (M.2 1)) 0 (M.2 0)) := ⟨_, rfl⟩
  have t1 : ∀ k, k ≠ 8 → k ≠ 9 → F.1 k = M'.1 k := fun k h8 h9 => by rw [hF]; exact teM_o h8 h9
  have tk : ∀ k, k ≠ 0 → k ≠ 7 → k ≠ 8 → k ≠ 9 → k ≠ 34 → k ≠ 35 → (k < 10 ∨ 18 < k) → F.1 k = M.1 k := fun k h0 h7 h8 h9 h34 h35 hk => by rw [t1 k h8 h9, y1 k h0 h7 h34 h35 hk]
  have t8 : F.1 8 = 0 := by rw [hF]; exact a4
  have t9 : F.1 9 = -1 := by
    rw [hF]
    show (if M'.1 17 = 0 then -1 else M'.1 18) = _
    rw [if_pos a4]
  have t7 : F.1 7 = 0 := by rw [t1 7 (by decide) (by decide), y5]
  have t0 : F.1 0 = 0 := by rw [t1 0 (by decide) (by decide), y4]
  have u0 : F.2 0 = M.2 0 := by rw [hF]; show upC (upC (teM M').2 1 (M.2 1)) 0 (M.2 0) 0 = _; rw [upC_e]
  have u1 : F.2 1 = M.2 1 := by
    rw [hF]
    show upC (upC (teM M').2 1 (M.2 1)) 0 (M.2 0) 1 = _
    rw [upC_n (by decide), upC_e]
  have uc : ∀ c, c ≠ 0 → c ≠ 1 → F.2 c = M'.2 c := fun c h0 h1 => by
    rw [hF]
    show upC (upC (teM M').2 1 (M.2 1)) 0 (M.2 0) c = _
    rw [upC_n h0, upC_n h1]; rfl
  rw [← hF]
  exact coI_D f1 (funext fun j => x4 _ _ (by omega)) (funext fun j => x4 _ _ (by omega)) (funext fun j => x4 _ _ (by omega)) (fun x h1 _ h3 _ h5 => x1 x h1 h5 h3) (fun x _ _ h3 => x2 x (by omega)) a9
      (tk 1 (by decide) (by decide) (by decide) (by decide) (by decide) (by decide) (by omega)) (tk 4 (by decide) (by decide) (by decide) (by decide) (by decide) (by decide) (by omega)) (tk 20 (by decide) (by decide) (by decide) (by decide) (by decide) (by decide) (by omega)) (tk 24 (by decide) (by decide) (by decide) (by decide) (by decide) (by decide) (by omega)) (tk 25 (by decide) (by decide) (by decide) (by decide) (by decide) (by decide) (by omega))
      u0 (fun j _ => by rw [u1]) (fun j => by rw [u1]; exact hgg.2.1 j) (by rw [uc 2 (by decide) (by decide)]; exact y2 2 (by decide) (by decide) (by decide) (by decide) (by decide) (by decide) (by decide)) (by rw [uc 8 (by decide) (by decide)]; exact y2 8 (by decide) (by decide) (by decide) (by decide) (by decide) (by decide) (by decide)) (by rw [uc 9 (by decide) (by decide)]; exact y2 9 (by decide) (by decide) (by decide) (by decide) (by decide) (by decide) (by decide)) (by rw [t0]; omega) (by rw [a2 1 (by decide), hc.2.2.2.2.1, t7]) (by rw [a2 2 (by decide), hc.2.2.2.2.2.1, t8]) (by rw [a2 3 (by decide), hc.2.2.2.2.2.2, t9])
end PHE
