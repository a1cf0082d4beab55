/-! ===== a change is recorded: both sides ===== -/
theorem cph_eq {C D : tCl} {a : Nat} (h1 : D.1 a = C.1 a) (h2 : ∀ c, c < 4 → D.2.1 (a + 1 + c) = C.2.1 (a + 1 + c)) : cph D a = cph C a := by
  unfold cph
  rw [h1]
  refine Prod.ext rfl (funext fun c => ?_)
  dsimp only
  by_cases e : c < 4
  · rw [if_pos e, if_pos e, h2 c e]
  · rw [if_neg e, if_neg e]
theorem isSt_ne {t : Nat} (ht : isSt t) {i : Nat} (hi : i < 5) : t + 2 + 5 * i ≠ 1092 ∧ 1007 ≤ t ∧ t ≤ 1288 := by
  have key : ∀ t ∈ stS, ∀ i : Fin 5, t + 2 + 5 * i.val ≠ 1092 ∧ 1007 ≤ t ∧ t ≤ 1288 := by decide +kernel
  exact key t ht ⟨i, hi⟩
theorem isSt_ne2 {t : Nat} (ht : isSt t) : t ≠ 1092 := by
  have key : ∀ t ∈ stS, t ≠ 1092 := by decide +kernel
  exact key t ht
theorem rotR_o {C : tCl} {q : Nat} (h : q ≠ 1093) : (rotR C).2.2.2 q = C.2.2.2 q := by
  funext j; simp only [rotR, h, if_false]
theorem stEq_of {C D : tCl} {M N : tMd} {s : Nat} {S : Nat → Int} (h : stEq C M s S) (h25 : N.1 25 = M.1 25) (h8 : N.2 8 = M.2 8) (h9 : N.2 9 = M.2 9) (hc : D.1 s 0 = C.1 s 0) (h5 : M.1 25 ≤ 5) (hp : ∀ f, f < 5 → cph D (s + 2 + 5 * f) = cph C (s + 2 + 5 * f)) : stEq D N s S :=
  ⟨by rw [hc, h.1, h25], fun f hf => by rw [h25] at hf; rw [hp f (by omega), h8, h9]; exact h.2 f hf⟩
theorem gdS_of {M N : tMd} {S : Nat → Int} (h : gdS M S) (h25 : N.1 25 = M.1 25) (h20 : N.1 20 = M.1 20) (h8 : N.2 8 = M.2 8) (h9 : N.2 9 = M.2 9) : gdS N S :=
  ⟨h.1, fun f hf => by rw [h25] at hf; rw [h8, h9, h20]; exact h.2 f hf⟩
theorem ch_rec {C C1 : tCl} {M : tMd} {n' : Int} {G' : Nat → Int} (h : coI C M) (ha : M.1 1 = 1) (hs : hsOK C C1 (alb C + 4)) (hk : ktOK (M.1 4) n' (lyF (M.2 1) (M.2 0) 0 270) G') : coI C1 (up1 M.1 4 n', upC M.2 1 G') ∧ chC C C1 ∧ chM M (up1 M.1 4 n', upC M.2 1 G') ∧ alb C1 = alb C ∧ (∀ f, f < 5 → cph C1 (cAp C f) = cph C (cAp C f)) := by
  obtain ⟨i1, i2⟩ := coI_st h ha
  obtain ⟨hR, hA, hM, hr, hn, hG, hH, hS, hg⟩ := h
  obtain ⟨s1, s2, s3, s', t1, t2, t3, t4, t5, t6, t7⟩ := hs
  obtain ⟨k1, k2, k3, k4, k5, k6⟩ := hk
  obtain ⟨-, -, -, -, hst, -, -, a1, a2⟩ := clA_k hR.1
  have ho : ∀ q, q ≠ 1093 → C1.2.2.2 q = C.2.2.2 q := fun q hq => by
    rw [s2]; split
    · exact rotR_o hq
    · rfl
  have hal : alb C1 = alb C := by unfold alb; rw [ho 1000 (by decide)]
  have hph : ∀ a, a + 4 < s' ∨ s' + 26 < a → a ≠ 1092 → cph C1 a = cph C a := fun a hx hne => cph_eq ((t7 a (by omega)).1 hne) (fun c hc => (t7 (a + 1 + c) (by omega)).2)
  have hpA : ∀ f, f < 5 → cph C1 (cAp C f) = cph C (cAp C f) := fun f hf => hph _ (by unfold cAp; omega) (by unfold cAp; omega)
  have hcA : ∀ f, cAp C1 f = cAp C f := fun f => by unfold cAp; rw [hal]
  have hcP : cPm C1 = cPm C := by unfold cPm; rw [hal, (t7 _ (by omega)).1 (by omega)]
  have hcN : cNm C1 = cNm C := by unfold cNm; rw [hal, (t7 _ (by omega)).1 (by omega)]
  have hgap : C1.1 (alb C1) 0 = C.1 (alb C) 0 := by rw [hal, (t7 _ (by omega)).1 (by omega)]
  have h4 := hM.2.2.1
  have h5 := hM.2.2.2.2.1
  have hkap : C.1 1092 0 = M.1 4 := hH.2.2.1
  have hn6 : 0 ≤ n' ∧ n' ≤ 6 ∧ 1 ≤ n' := by rw [k1]; split <;> omega
  have hkap1 : C1.1 1092 0 = n' := by rw [s1, k1, hkap]
  have hlast : ∀ t, isSt t → t ≠ s' → t + 26 < s' ∨ s' + 26 < t := fun t ht hne => isSt_sep ht t1 hne
  have hR1 : clR C1 := by
    refine ⟨?_, by rw [hcP]; exact hR.2.1, by rw [hcN]; exact hR.2.2.1, by rw [hgap]; exact hR.2.2.2.1, fun i hi => by rw [hcA, hpA i hi]; exact hR.2.2.2.2 i hi⟩
    have := hR.1
    unfold clA at this ⊢
    rw [ho 1000 (by decide)]; exact this
  have hA1 : phA C1 := by
    refine ⟨fun t ht i hi => ?_, ?_⟩
    · by_cases e : t = s'
      · subst e; exact (t6 i hi).2
      · have := hlast t ht e
        have := isSt_ne ht hi
        rw [hph _ (by omega) (by omega)]
        exact hA.1 t ht i hi
    · rw [hph 1065 (by omega) (by omega)]; exact hA.2
  have hg1 : rgI (up1 M.1 4 n', upC M.2 1 G') := by
    refine ⟨hg.1, fun j => ?_, hg.2.2.1, hg.2.2.2⟩
    show 0 ≤ upC M.2 1 G' 1 j ∧ upC M.2 1 G' 1 j ≤ 999
    rw [upC_e]
    obtain ⟨j', e⟩ := k6 j
    rw [e]
    unfold lyF
    split
    · exact hg.1 _
    · exact hg.2.1 _
  have hM1 : mdR (up1 M.1 4 n', upC M.2 1 G') := ⟨hM.1, hM.2.1, by show 0 ≤ up1 M.1 4 n' 4 ∧ up1 M.1 4 n' 4 ≤ 6; rw [up1_e]; omega, hM.2.2.2.1, hM.2.2.2.2.1, hM.2.2.2.2.2.1, fun f hf => hM.2.2.2.2.2.2 f hf⟩
  have hiC1 : hiC C1 := by
    refine ⟨fun i hi => ?_, fun i j hi hj he => ?_, by rw [hkap1]; omega⟩
    · rw [s2]
      split
      · simp only [rotR, if_true]
        by_cases c : i < 5
        · rw [if_pos c]; exact hH.1.1 (i + 1) (by omega)
        · rw [if_neg c, if_pos (by omega)]; exact hH.1.1 0 (by omega)
      · exact hH.1.1 i hi
    · rw [s2] at he
      split at he
      · simp only [rotR, if_true] at he
        by_cases c : i < 5
        · by_cases c2 : j < 5
          · rw [if_pos c, if_pos c2] at he
            have := hH.1.2.1 _ _ (by omega) (by omega) he; omega
          · rw [if_pos c, if_neg c2, if_pos (by omega)] at he
            have := hH.1.2.1 _ _ (by omega) (by omega) he; omega
        · by_cases c2 : j < 5
          · rw [if_neg c, if_pos (by omega), if_pos c2] at he
            have := hH.1.2.1 _ _ (by omega) (by omega) he; omega
          · omega
      · exact hH.1.2.1 _ _ hi hj he
  have hsS : srR (M.2 0) := srR_of hM
  have hhist : ∀ i : Nat, (i : Int) < n' → stEq C1 (up1 M.1 4 n', upC M.2 1 G') (C1.2.2.2 1093 i) (stM (up1 M.1 4 n', upC M.2 1 G') (1 + i)) ∧ gdS (up1 M.1 4 n', upC M.2 1 G') (stM (up1 M.1 4 n', upC M.2 1 G') (1 + i)) := fun i hi => by
    by_cases hl : (i : Int) = n' - 1
    · -- the new one
      have es : C1.2.2.2 1093 i = s' := by rw [t4, hkap1, show (n' - 1).toNat = i by omega]
      have eS : ∀ j, j < 270 → M.2 0 j = stM (up1 M.1 4 n', upC M.2 1 G') (1 + i) j := fun j hj => by
        show _ = upC M.2 1 G' 1 (270 * (1 + i) + j)
        have := k2 j hj
        rw [upC_e, show 270 * (1 + i) + j = 270 * n'.toNat + j by omega, this]
        unfold lyF
        rw [if_pos (by omega), show j - 270 * 0 = j by omega]
      have g1 : stEq C1 (up1 M.1 4 n', upC M.2 1 G') s' (M.2 0) := by
        refine ⟨by rw [t5]; exact i1.1, fun f hf => ?_⟩
        have hf5 : f < 5 := by have : (f : Int) < M.1 25 := hf; omega
        exact phS_tr (t6 f hf5).1 (i1.2 f hf) (t6 f hf5).2
      rw [es]
      exact ⟨stEq_congr eS h5.2 hsS g1, gdS_congr eS h5.2 (gdS_of i2 rfl rfl rfl rfl)⟩
    · have hne : C1.2.2.2 1093 i ≠ s' := fun c => by
        rw [t4, hkap1] at c
        have := hiC1.2.1 _ _ (by omega) (by omega) c
        omega
      have hold : ∃ i0 : Nat, (i0 : Int) < M.1 4 ∧ C1.2.2.2 1093 i = C.2.2.2 1093 i0 ∧ ∀ j, j < 270 → stM M (1 + i0) j = stM (up1 M.1 4 n', upC M.2 1 G') (1 + i) j := by
        by_cases e6 : M.1 4 = 6
        · refine ⟨i + 1, by rw [if_pos e6] at k1; omega, ?_, fun j hj => ?_⟩
          · rw [s2, hkap, if_pos e6]
            simp only [rotR, if_true]
            rw [if_pos (by rw [if_pos e6] at k1; omega)]
          · show M.2 1 (270 * (1 + (i + 1)) + j) = upC M.2 1 G' 1 (270 * (1 + i) + j)
            rw [upC_e, k3 (1 + i) j (by omega) (by omega) hj, if_pos e6]
            unfold lyF
            rw [if_neg (by omega)]
            exact congrArg (M.2 1) (by omega)
        · refine ⟨i, by rw [if_neg e6] at k1; omega, ?_, fun j hj => ?_⟩
          · rw [s2, hkap, if_neg e6]
          · show M.2 1 (270 * (1 + i) + j) = upC M.2 1 G' 1 (270 * (1 + i) + j)
            rw [upC_e, k3 (1 + i) j (by omega) (by omega) hj, if_neg e6]
            unfold lyF
            rw [if_neg (by omega)]
      obtain ⟨i0, y1, y2, y3⟩ := hold
      obtain ⟨w1, w2⟩ := hH.2.2.2 i0 y1
      have hst1 := hH.1.1 i0 (by omega)
      have hsp := hlast _ hst1.1 (by rw [← y2]; exact hne)
      have g1 : stEq C1 (up1 M.1 4 n', upC M.2 1 G') (C.2.2.2 1093 i0) (stM M (1 + i0)) := stEq_of w1 rfl rfl rfl (by rw [(t7 _ (by omega)).1 (by omega)]) h5.2 (fun f hf => hph _ (by omega) (by omega))
      rw [y2]
      exact ⟨stEq_congr y3 h5.2 w2.1 g1, gdS_congr y3 h5.2 (gdS_of w2 rfl rfl rfl rfl)⟩
  refine ⟨⟨hR1, hA1, hM1, ?_, fun f hf => hn f hf, by rw [hgap]; exact hG, ⟨hiC1, fun c => by have c9 : M.1 1 = 0 := c; omega, by rw [hkap1]; show n' = up1 M.1 4 n' 4; rw [up1_e], fun i hi => hhist i (by have hi9 : (i : Int) < up1 M.1 4 n' 4 := hi; rw [up1_e] at hi9; exact hi9)⟩, fun s hs => ?_, hg1⟩, ⟨s3, ho _ (by decide), ho _ (by decide), ho _ (by decide), (t7 _ (by omega)).1 (by omega), (t7 _ (by omega)).1 (by omega), (t7 _ (by omega)).2, (t7 _ (by omega)).1 (by omega)⟩, ⟨fun k _ hk4 _ _ => up1_n hk4, fun c _ hc1 _ _ _ _ _ => upC_n hc1⟩, hal, hpA⟩
  · -- relA
    refine ⟨by rw [hcP]; exact hr.1, by rw [hcN]; exact hr.2.1, hr.2.2.1, fun f hf => ?_, ?_, ?_, ?_, ?_⟩
    · rw [hcP] at hf
      have h8 := hr.1
      rw [hcA, hpA f (by have := hR.2.1; omega)]
      exact hr.2.2.2.1 f hf
    · rw [(t7 1001 (by omega)).1 (by omega)]; exact hr.2.2.2.2.1
    · rw [(t7 1001 (by omega)).1 (by omega)]; exact hr.2.2.2.2.2.1
    · rw [(t7 1001 (by omega)).1 (by omega)]; exact hr.2.2.2.2.2.2.1
    · rw [hkap1]
      show n' = if M.1 1 = 0 then 0 else up1 M.1 4 n' 4
      rw [if_neg (by omega), up1_e]
  · -- svI
    obtain ⟨v1, v2, v3, v4, v5⟩ := hS s hs
    refine ⟨by rw [ho 1256 (by decide)]; exact v1, v2, v3, fun c => ?_, fun c => ?_⟩
    · rw [(t7 _ (by omega)).1 (by omega)]; exact v4 c
    · obtain ⟨w1, w2⟩ := v5 c
      have y3 : ∀ j, j < 270 → stM M (7 + s) j = stM (up1 M.1 4 n', upC M.2 1 G') (7 + s) j := fun j hj => by
        show M.2 1 (270 * (7 + s) + j) = upC M.2 1 G' 1 (270 * (7 + s) + j)
        rw [upC_e, k5 _ (by omega)]
        unfold lyF
        rw [if_neg (by omega)]
      have g1 : stEq C1 (up1 M.1 4 n', upC M.2 1 G') (1261 + 27 * s) (stM M (7 + s)) := stEq_of w1 rfl rfl rfl (by rw [(t7 _ (by omega)).1 (by omega)]) h5.2 (fun f hf => hph _ (by omega) (by omega))
      exact ⟨stEq_congr y3 h5.2 w2.1 g1, gdS_congr y3 h5.2 (gdS_of w2 rfl rfl rfl rfl)⟩
