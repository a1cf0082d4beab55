/-! ===== what a question leaves: the relation stays ===== -/
theorem isSt_far {t : Nat} (ht : isSt t) : t + 26 < 1070 ∨ 1092 < t := by
  have key : ∀ t ∈ stS, t + 26 < 1070 ∨ 1092 < t := by decide +kernel
  exact key t ht
theorem coI_E {C C' : tCl} {M M' : tMd} (h : coI C M) (hc : clE C C') (hm : mdE M M') : coI C' M' ∧ chC C C' ∧ chM M M' := by
  obtain ⟨p, r, hD⟩ := hc
  obtain ⟨m1, m2, m3⟩ := hm
  have d2 : C'.2.2 = C.2.2 := by rw [hD]; rfl
  have d1 : ∀ x, x ≠ 1070 → x ≠ 1081 → C'.1 x = C.1 x := fun x a b => by rw [hD, piPut_1 b, piPut_1 a]
  have d3 : ∀ x, x < 1070 ∨ 1091 < x → C'.2.1 x = C.2.1 x := fun x hx => by rw [hD, piPut_2 (by omega), piPut_2 (by omega)]
  have dp : ∀ a, a + 4 < 1070 ∨ 1091 < a → cph C' a = cph C a := fun a ha => cph_eq (d1 _ (by omega) (by omega)) (fun c hc => d3 _ (by omega))
  have hr2 : C'.2.2.2 = C.2.2.2 := by rw [d2]
  have ds : ∀ t, isSt t → ∀ f, f < 5 → cph C' (t + 2 + 5 * f) = cph C (t + 2 + 5 * f) := fun t ht f hf => dp _ (by have := isSt_far ht; omega)
  obtain ⟨hR, hA, hM, hr, hnn, hG, hH, hSv, hg⟩ := h
  obtain ⟨-, -, -, -, hst, -, -, a1, a2⟩ := clA_k hR.1
  have h5 := hM.2.2.2.2.1
  have hal : alb C' = alb C := by unfold alb; rw [hr2]
  have hcA : ∀ f, cAp C' f = cAp C f := fun f => by unfold cAp; rw [hal]
  have hcP : cPm C' = cPm C := by unfold cPm; rw [hal, d1 _ (by omega) (by omega)]
  have hcN : cNm C' = cNm C := by unfold cNm; rw [hal, d1 _ (by omega) (by omega)]
  have hgap : C'.1 (alb C') 0 = C.1 (alb C) 0 := by rw [hal, d1 _ (by omega) (by omega)]
  have n1 := m1 1 (by decide) (by decide) (by decide)
  have n4 := m1 4 (by decide) (by decide) (by decide)
  have n7 := m1 7 (by decide) (by decide) (by decide)
  have n8' := m1 8 (by decide) (by decide) (by decide)
  have n9' := m1 9 (by decide) (by decide) (by decide)
  have n20 := m1 20 (by decide) (by decide) (by decide)
  have n24 := m1 24 (by decide) (by decide) (by decide)
  have n25 := m1 25 (by decide) (by decide) (by decide)
  have a0 := m2 0 (by decide) (by decide) (by decide) (by decide)
  have b1 := m2 1 (by decide) (by decide) (by decide) (by decide)
  have b2 := m2 2 (by decide) (by decide) (by decide) (by decide)
  have b8 := m2 8 (by decide) (by decide) (by decide) (by decide)
  have b9 := m2 9 (by decide) (by decide) (by decide) (by decide)
  have hmp : ∀ f, mph M' f = mph M f := fun f => by rw [mph_f, mph_f, a0, b8, b9]
  have hsM : ∀ st, stM M' st = stM M st := fun st => by unfold stM; rw [b1]
  have hg1 : rgI M' := ⟨fun j => by rw [a0]; exact hg.1 j, fun j => by rw [b1]; exact hg.2.1 j, fun f => by rw [b8]; exact hg.2.2.1 f, fun f => by rw [b9]; exact hg.2.2.2.1 f, fun f hf => by rw [n25] at hf; rw [b8, b9]; exact hg.2.2.2.2 f hf⟩
  have hM1 : mdR M' := ⟨m3, by rw [n1]; exact hM.2.1, by rw [n4]; exact hM.2.2.1, by rw [n20]; exact hM.2.2.2.1, by rw [n25]; exact hM.2.2.2.2.1, by rw [n24]; exact hM.2.2.2.2.2.1, fun f hf => by rw [hmp]; exact hM.2.2.2.2.2.2 f hf⟩
  refine ⟨⟨⟨?_, by rw [hcP]; exact hR.2.1, by rw [hcN]; exact hR.2.2.1, by rw [hgap]; exact hR.2.2.2.1, fun i hi => by rw [hcA, dp _ (by unfold cAp; omega)]; exact hR.2.2.2.2 i hi⟩, ⟨fun t ht i hi => by rw [ds t ht i hi]; exact hA.1 t ht i hi, by rw [dp _ (by omega)]; exact hA.2⟩, hM1, ?_, fun f hf => by rw [hmp, n20]; exact hnn f (by rw [← n25]; exact hf), by rw [hgap, hG, n24], ⟨⟨fun i hi => by rw [hr2]; exact hH.1.1 i hi, fun i j hi hj he => by rw [hr2] at he; exact hH.1.2.1 i j hi hj he, by rw [d1 1092 (by omega) (by omega)]; exact hH.1.2.2⟩, fun c => by rw [n4]; exact hH.2.1 (by rw [← n1]; exact c), by rw [d1 1092 (by omega) (by omega), n4]; exact hH.2.2.1, fun i hi => ?_⟩, fun s0 hs0 => ?_, hg1⟩, ⟨by rw [d2], by rw [hr2], by rw [hr2], by rw [hr2], d1 _ (by omega) (by omega), d1 _ (by omega) (by omega), d3 _ (by omega), d1 _ (by omega) (by omega)⟩, ⟨fun k k0 k4 k34 k35 => m1 k k0 k34 k35, fun c _ _ _ c11 c12 c13 c14 => m2 c c11 c12 c13 c14⟩⟩
  · have := hR.1
    unfold clA at this ⊢
    rw [hr2]; exact this
  · refine ⟨by rw [hcP, n1, n25]; exact hr.1, by rw [hcN, n1, n20]; exact hr.2.1, by rw [n1, n25]; exact hr.2.2.1, fun f hf => ?_, ?_, ?_, ?_, ?_⟩
    · rw [hcP] at hf
      have hf5 : f < 5 := by have := hR.2.1; omega
      rw [hcA, dp _ (by unfold cAp; omega), hmp]
      exact hr.2.2.2.1 f hf
    · rw [d1 1001 (by omega) (by omega), n7]; exact hr.2.2.2.2.1
    · rw [d1 1001 (by omega) (by omega), n8']; exact hr.2.2.2.2.2.1
    · rw [d1 1001 (by omega) (by omega), n9']; exact hr.2.2.2.2.2.2.1
    · rw [d1 1092 (by omega) (by omega), n1, n4]; exact hr.2.2.2.2.2.2.2
  · rw [n4] at hi
    obtain ⟨w1, w2⟩ := hH.2.2.2 i hi
    have h4 := hM.2.2.1
    have hs1 := hH.1.1 i (by omega)
    have hfa := isSt_far hs1.1
    rw [hr2, hsM]
    exact ⟨stEq_of w1 n25 b8 b9 (by rw [d1 _ (by omega) (by omega)]) h5.2 (fun f hf => ds _ hs1.1 f hf), gdS_of w2 n25 n20 b8 b9⟩
  · obtain ⟨v1, v2, v3, v4, v5⟩ := hSv s0 hs0
    obtain ⟨c1, -, -⟩ := slot_k hs0
    refine ⟨by rw [hr2]; exact v1, by rw [b2]; exact v2, fun c => by rw [b2]; exact v3 (by rw [← n1]; exact c), fun c => ?_, fun c => ?_⟩
    · rw [d1 _ (by omega) (by omega)]; exact v4 (by rw [← b2]; exact c)
    · obtain ⟨w1, w2⟩ := v5 (by rw [← b2]; exact c)
      rw [hsM]
      exact ⟨stEq_of w1 n25 b8 b9 (by rw [d1 _ (by omega) (by omega)]) h5.2 (fun f hf => ds _ c1 f hf), gdS_of w2 n25 n20 b8 b9⟩
/-- a question's step, as a change's -/
theorem stE_C {z : Bool} {pc : Nat} {g : am_H} {C : tCl} {M : tMd} {i : Nat} (h : coI C M) (hs : stE z pc g C M i) : stC z pc g C M i := by
  intro l6 l7
  obtain ⟨g', C', M', m6, m7, k1, k2, k3, k4⟩ := hs l6 l7
  exact ⟨g', C', M', m6, m7, k1, k2, coI_E h k3 k4⟩
