/-! ===== a photo changes: both sides ===== -/
theorem coI_T {C : tCl} {M : tMd} {t : Int} (h : coI C M) (ht : 0 ≤ t ∧ t ≤ 9) : coI C (mdT M t) := by
  obtain ⟨h1, h2, h3, h4, h5, h6, h7, h8, h9⟩ := h
  exact ⟨h1, h2, mdR_T h3 ht, h4, h5, h6, h7, h8, h9⟩
theorem chC_refl (C : tCl) : chC C C := ⟨rfl, rfl, rfl, rfl, rfl, rfl, rfl, rfl⟩
theorem chM_T (M : tMd) (t : Int) : chM M (mdT M t) := ⟨fun k h1 _ _ _ => up1_n h1, fun c _ _ _ _ _ _ _ => rfl⟩
theorem chM_tr {M N O : tMd} (h : chM M N) (h2 : chM N O) : chM M O := ⟨fun k a b c d => by rw [h2.1 k a b c d, h.1 k a b c d], fun c a b d e f g i => by rw [h2.2 c a b d e f g i, h.2 c a b d e f g i]⟩
theorem chC_tr {C D E : tCl} (h : chC C D) (h2 : chC D E) (ha : alb D = alb C) : chC C E := by
  obtain ⟨a1, a2, a3, a4, a5, a6, a7, a8⟩ := h
  obtain ⟨b1, b2, b3, b4, b5, b6, b7, b8⟩ := h2
  rw [ha] at b8
  exact ⟨b1.trans a1, b2.trans a2, b3.trans a3, b4.trans a4, b5.trans a5, b6.trans a6, b7.trans a7, b8.trans a8⟩
/-- photo n of the class's album is q', of the reference's S' -/
theorem ch_ph {C : tCl} {M : tMd} {n : Nat} {q' : tPh} {S' : Nat → Int} (h : coI C M) (ha : M.1 1 = 1) (hn : (n : Int) < M.1 25) (hR' : phR (cph (phP C (cAp C n) q') (cAp C n))) (hS : ∀ j, 0 ≤ S' j ∧ S' j ≤ 999) (hsr : srR S') (hE : pheq (cph (phP C (cAp C n) q') (cAp C n)) (msf S' (M.2 8) (M.2 9) n)) (hN : phN (msf S' (M.2 8) (M.2 9) n) (M.1 20)) (hoth : ∀ f, f < 5 → f ≠ n → ∀ j, 54 * f ≤ j → j < 54 * f + 54 → S' j = M.2 0 j) : coI (phP C (cAp C n) q') (M.1, upC M.2 0 S') ∧ chC C (phP C (cAp C n) q') ∧ chM M (M.1, upC M.2 0 S') ∧ alb (phP C (cAp C n) q') = alb C := by
  obtain ⟨hR, hA, hM, hr, hnn, hG, hH, hSv, hg⟩ := h
  obtain ⟨-, -, -, -, hst, -, -, a1, a2⟩ := clA_k hR.1
  have h5 := hM.2.2.2.2.1
  have hn5 : n < 5 := by omega
  have hcap : 1009 ≤ cAp C n ∧ cAp C n ≤ 1060 := by unfold cAp; omega
  have hal : alb (phP C (cAp C n) q') = alb C := rfl
  have hcA : ∀ f, cAp (phP C (cAp C n) q') f = cAp C f := fun f => rfl
  have hcP : cPm (phP C (cAp C n) q') = cPm C := by unfold cPm; rw [hal, phP_1 (by unfold cAp; omega)]
  have hcN : cNm (phP C (cAp C n) q') = cNm C := by unfold cNm; rw [hal, phP_1 (by unfold cAp; omega)]
  have hgap : (phP C (cAp C n) q').1 (alb C) 0 = C.1 (alb C) 0 := by rw [phP_1 (by unfold cAp; omega)]
  have ho : ∀ f, f < 5 → f ≠ n → cph (phP C (cAp C n) q') (cAp C f) = cph C (cAp C f) := fun f hf hne => phP_ph (by unfold cAp; omega)
  have hrel := hr.1
  rw [if_neg (by omega)] at hrel
  have hother : ∀ f, f < 5 → f ≠ n → phS (mph M f) (msf S' (M.2 8) (M.2 9) f) := fun f hf hne => by
    rw [mph_f]
    refine ⟨fun k hk => ?_, fun c i hc hi => ?_⟩
    · unfold msf
      dsimp only
      rw [hoth f hf hne _ (by omega) (by omega)]
    · unfold msf
      dsimp only
      rw [hoth f hf hne (54 * f + 6 + 4 * i + 3) (by omega) (by omega), hoth f hf hne (54 * f + 6 + 4 * i + c) (by omega) (by omega)]
  have hg1 : rgI (M.1, upC M.2 0 S') := ⟨fun j => by show 0 ≤ upC M.2 0 S' 0 j ∧ upC M.2 0 S' 0 j ≤ 999; rw [upC_e]; exact hS j, hg.2.1, hg.2.2.1, hg.2.2.2⟩
  have hM1 : mdR (M.1, upC M.2 0 S') := mdR_of ⟨hM.1, hM.2.1, hM.2.2.1, hM.2.2.2.1, hM.2.2.2.2.1, hM.2.2.2.2.2.1⟩ hg1 hsr
  have hst0 : ∀ t, isSt t → t ≠ alb C + 4 → t + 26 < alb C + 4 ∨ alb C + 4 + 26 < t := fun t ht hne => isSt_sep ht hst hne
  have hphs : ∀ t, isSt t → t ≠ alb C + 4 → ∀ f, f < 5 → cph (phP C (cAp C n) q') (t + 2 + 5 * f) = cph C (t + 2 + 5 * f) := fun t ht hne f hf => by
    have := hst0 t ht hne
    exact phP_ph (by unfold cAp; omega)
  have hph1 : ∀ x, x < alb C + 4 + 2 ∨ alb C + 4 + 26 < x → (phP C (cAp C n) q').1 x = C.1 x := fun x hx => phP_1 (by unfold cAp; omega)
  refine ⟨⟨⟨hR.1, by rw [hcP]; exact hR.2.1, by rw [hcN]; exact hR.2.2.1, by rw [hal, hgap]; exact hR.2.2.2.1, fun i hi => ?_⟩, ⟨fun t ht i hi => ?_, ?_⟩, hM1, ?_, fun f hf => ?_, by rw [hal, hgap]; exact hG, ⟨⟨hH.1.1, hH.1.2.1, by rw [phP_1 (by omega)]; exact hH.1.2.2⟩, hH.2.1, ?_, fun i hi => ?_⟩, fun s hs => ?_, hg1⟩, ⟨rfl, rfl, rfl, rfl, ?_, ?_, ?_, ?_⟩, ⟨fun k _ _ _ _ => rfl, fun c hc _ _ _ _ _ _ => upC_n hc⟩, hal⟩
  · rw [hcA]
    by_cases e : i = n
    · subst e; exact hR'
    · rw [ho i hi e]; exact hR.2.2.2.2 i hi
  · by_cases e : t = alb C + 4
    · subst e
      by_cases e2 : i = n
      · subst e2; exact hR'
      · have h9 := hA.1 _ ht i hi
        show phR (cph (phP C (cAp C n) q') (cAp C i))
        rw [ho i hi e2]; exact h9
    · rw [hphs t ht e i hi]; exact hA.1 t ht i hi
  · rw [phP_ph (by unfold cAp; omega)]; exact hA.2
  · refine ⟨by rw [hcP]; exact hr.1, by rw [hcN]; exact hr.2.1, hr.2.2.1, fun f hf => ?_, ?_, ?_, ?_, ?_⟩
    · rw [hcP] at hf
      have hf5 : f < 5 := by have := hR.2.1; omega
      rw [hcA]
      by_cases e : f = n
      · subst e; exact hE
      · rw [ho f hf5 e]
        have h8 := hr.2.2.2.1 f hf
        refine pheq_S h8 (hother f hf5 e) ?_
        rw [h8.1 7 (by decide)]
        exact (hM.2.2.2.2.2.2 f hf5).2.2.1
    · rw [phP_1 (by omega)]; exact hr.2.2.2.2.1
    · rw [phP_1 (by omega)]; exact hr.2.2.2.2.2.1
    · rw [phP_1 (by omega)]; exact hr.2.2.2.2.2.2.1
    · rw [phP_1 (by omega)]; exact hr.2.2.2.2.2.2.2
  · by_cases e : f = n
    · subst e; exact hN
    · have hf5 : f < 5 := by have : (f : Int) < M.1 25 := hf; omega
      exact phN_congr (hother f hf5 e) (hM.2.2.2.2.2.2 f hf5).2.2.1 (hnn f hf)
  · rw [phP_1 (by omega)]; exact hH.2.2.1
  · obtain ⟨w1, w2⟩ := hH.2.2.2 i hi
    have h4 := hM.2.2.1
    have hs1 := hH.1.1 i (by have hi9 : (i : Int) < M.1 4 := hi; omega)
    refine ⟨stEq_of w1 rfl rfl rfl ?_ h5.2 (fun f hf => hphs _ hs1.1 (by omega) f hf), gdS_of w2 rfl rfl rfl rfl⟩
    show (phP C (cAp C n) q').1 (C.2.2.2 1093 i) 0 = C.1 (C.2.2.2 1093 i) 0
    rw [hph1 _ (by omega)]
  · obtain ⟨v1, v2, v3, v4, v5⟩ := hSv s hs
    have hs1 : isSt (1261 + 27 * s) := by
      have : s = 0 ∨ s = 1 := by omega
      rcases this with rfl | rfl <;> (unfold isSt; decide)
    refine ⟨v1, v2, v3, fun c => ?_, fun c => ?_⟩
    · rw [hph1 _ (by omega)]; exact v4 c
    · obtain ⟨w1, w2⟩ := v5 c
      exact ⟨stEq_of w1 rfl rfl rfl (by rw [hph1 _ (by omega)]) h5.2 (fun f hf => hphs _ hs1 (by omega) f hf), gdS_of w2 rfl rfl rfl rfl⟩
  · rw [phP_1 (by omega)]
  · rw [phP_1 (by omega)]
  · rw [phP_2 (by omega)]
  · rw [phP_1 (by unfold cAp; omega)]
/-- the law's step of a change -/
def stC (z : Bool) (pc : Nat) (g : am_H) (C : tCl) (M : tMd) (i : Nat) : Prop := ∀ l6 l7 : Option Value, ∃ (g' : am_H) (C' : tCl) (M' : tMd) (m6 m7 : Option Value),
  ru_n z 0 pc [some (.ref 1), some (.ref 1000), some (.ref 1315), some (.ref 1332), some (.ref 1333), some (.int (wI i)), l6, l7] [] (clPut (mdPut g M) C) =
  ru_n z 0 28 [some (.ref 1), some (.ref 1000), some (.ref 1315), some (.ref 1332), some (.ref 1333), some (.int (wI (i + 6))), m6, m7] [] (clPut (mdPut g' M') C') ∧ gOn g g' 1 6 ∧ coI C' M' ∧ chC C C' ∧ chM M M'
