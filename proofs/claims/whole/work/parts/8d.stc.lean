/-! ===== the law's steps of save, restore (printed by wip/gen/genst2.py) ===== -/
theorem gn_stepY {z : Bool} {g : am_H} {C : tCl} {M : tMd} {jc jh jm : Nat} {cargs margs : List Value} {R : Nat → Int → tCl → Prop} {Q : Int → tMd → Prop} {X : tCl → tMd → Prop} {nE : Nat} {tau : Nat → Nat} {o : Nat → Int64} (t0 : tau 0 = 0) (tn : ∀ t, tau t = 0 → t = 0)
    (hcl : ∀ h, ∃ t v C', ru_ev z jc cargs (clPut h C) = oR t (some (.int (wI v))) (clPut h C') (clPut (thr h) C') ∧ R t v C')
    (hmd : ∀ h, ∃ b M', ru_ev z jm margs (mdPut h M) = some (.inl (some (.int (wI b))), mdPut h M') ∧ Q b M')
    (hvb : ∀ t v C' b M', R t v C' → Q b M' → t ≤ nE ∧ tau t ≤ nE ∧ M'.1 0 = (tau t : Int) ∧ (t = 0 → v = b) ∧ X C' M')
    (hp : ∀ (H G : am_H) (o : Nat → Int64) (t : Nat) (v : Int) (C' : tCl), R t v C' → t = 0 → ru_ev z jc cargs H = some (.inl (some (.int (wI v))), G) → G.1 1332 = some (ouC o) → ru_ev z jh (cargs ++ [.ref 1332]) H = some (.inl (some (.int (wI 0))), am_set G 1332 (ouC (am_up o 0 (wI v).toInt64))))
    (hx : ∀ (H G : am_H) (E : Nat), E < nE → ru_ev z jc cargs H = some (.inr E, G) → ru_ev z jh (cargs ++ [.ref 1332]) H = some (.inl (some (.int (wI ((tau (E + 1) : Nat) : Int)))), G))
    (ho : g.1 1332 = some (ouC o)) :
    ∃ g' C' M' t v b, R t v C' ∧ Q b M' ∧ tau t ≤ nE ∧ X C' M' ∧ ru_ev z jh (cargs ++ [.ref 1332]) (clPut (mdPut g M) C) = some (.inl (some (.int (wI (tau t)))), clPut (mdPut g' M) C') ∧ ru_ev z jm margs (clPut (mdPut g' M) C') = some (.inl (some (.int (wI b))), clPut (mdPut g' M') C') ∧
      ru_ev z 75 [.ref 1315] (clPut (mdPut g' M') C') = some (.inl (some (.int (wI (tau t)))), clPut (mdPut g' M') C') ∧ (tau t = 0 → am_la (clPut (mdPut g' M') C') 1332 (wI 0) = some (wI b).toInt64) ∧ gOn g g' 1 6 := by
  obtain ⟨t, v, C', h1, hR⟩ := hcl (mdPut g M)
  by_cases e : t = 0
  · rw [oR_0 e] at h1
    have hG : (clPut (mdPut g M) C').1 1332 = some (ouC o) := by rw [clPut_o (by omega), mdPut_o (by omega), ho]
    have h2 := hp _ _ o t v C' hR e h1 hG
    rw [cl_seto (by omega), md_seto (by omega)] at h2
    obtain ⟨b, M', m1, m2⟩ := hmd (clPut (am_set g 1332 (ouC (am_up o 0 (wI v).toInt64))) C')
    obtain ⟨k1, k1', k2, k3, k4⟩ := hvb t v C' b M' hR m2
    have et : tau t = 0 := by rw [e, t0]
    refine ⟨am_set g 1332 (ouC (am_up o 0 (wI v).toInt64)), C', M', t, v, b, hR, m2, k1', k4, ?_, ?_, ?_, fun _ => ?_, ?_, ⟨_, ru_setE _ _ _⟩, fun h => by rw [ru_setN (by decide)]; exact h, Nat.le_refl _, Nat.le_succ _, Nat.le_add_right _ _⟩
    · rw [h2, et]; rfl
    · rw [clPM, m1, ← clPM]
    · rw [clPM, p75, k2]
    · rw [← k3 e]
      have e9 : (clPut (mdPut (am_set g 1332 (ouC (am_up o 0 (wI v).toInt64))) M') C').1 1332 = some (ouC (am_up o 0 (wI v).toInt64)) := by
        rw [clPut_o (by omega), mdPut_o (by omega)]; exact ru_setE _ _ _
      rw [ru_la e9 (by omega) (by omega) (by omega)]
      rfl
    · intro q _ hq _; exact ru_setN hq
  · rw [oR_n e, md_thr] at h1
    obtain ⟨b, M', m1, m2⟩ := hmd (clPut (thr g) C')
    obtain ⟨k1, k1', k2, k3, k4⟩ := hvb t v C' b M' hR m2
    have h2 := hx _ _ (t - 1) (by omega) h1
    rw [show t - 1 + 1 = t by omega] at h2
    refine ⟨thr g, C', M', t, v, b, hR, m2, k1', k4, h2, ?_, ?_, fun h => absurd (tn t h) e, fun q _ _ _ => rfl, ⟨o, ho⟩, fun h => h, Nat.le_succ _, Nat.le_refl _, Nat.le_refl _⟩
    · rw [clPM, m1, ← clPM]
    · rw [clPM, p75, k2]
theorem rs_tau (t : Nat) (h : (if t = 1 then 2 else if t = 2 then 1 else t) = 0) : t = 0 := by
  split at h
  · omega
  · split at h <;> omega
theorem sm_rel {C : tCl} {M : tMd} (h : coI C M) (ha : M.1 1 = 1) : smF (snC C (alb C + 4)) (cPm C).toNat = smF (inM M) (M.1 25).toNat := by
  obtain ⟨i1, i2⟩ := coI_st h ha
  obtain ⟨hR, hA, hM, hr, hnn, hG, hH, hSv, hg⟩ := h
  have hrel := hr.1
  rw [if_neg (by omega)] at hrel
  rw [hrel]
  refine smF_congr _ (fun i hi => ?_)
  have hi5 : (i : Int) < M.1 25 := by omega
  have he := i1.2 i hi5
  have h7 := hM.2.2.2.2.2.2 i (by have := hM.2.2.2.2.1; omega)
  have s := phR_s h7
  unfold snC inM
  rw [he.1 7 (by decide)]
  exact cnB_congr fun k hk => pheq_shw he (by rw [he.1 7 (by decide)]; have hk' : k < ((mph M i).1 7).toNat := hk; show (k : Int) < (mph M i).1 7; omega)
section STC
variable {z : Bool} {g : am_H} {C : tCl} {M : tMd} {xs : Nat → Int32} {L i : Nat}
theorem st_49 (h : coI C M) (hg : gI g L xs) (hi : i + 6 ≤ L) (hL : L ≤ 3072) : stC z 3306 g C M i := by
  intro l6 l7
  obtain ⟨hR, hA, hM, hr, hn, hG, hH, hS, hrg⟩ := id h
  obtain ⟨s, es, gs⟩ := wI_ex (xs (i + 1))
  obtain ⟨o, ho⟩ := hg.2.1
  have hq : ∀ s, s < 2 → C.2.2.2 1256 s = 1261 + 27 * s := fun s hs => (hS s hs).1
  obtain ⟨g', C', M', t, v, b, hRt, hQ, hn9, hX, h1, h2, h3, h4, h5⟩ := gn_stepX (z := z) (g := g) (M := M) (jc := 377) (jh := 376) (jm := 380) (cargs := [.ref 1000, .int (wI s)]) (margs := [.ref 1315, .int (wI s)]) (nE := 2) (o := o) (X := fun C' M' => coI C' M' ∧ chC C C' ∧ chM M M')
    (fun h => c377 hR hA hq gs) (fun h => p380 hM gs)
    (fun t v C' b M' k1 k2 => by
      rcases k1 with ⟨a0, rfl, rfl⟩ | ⟨a0, a1, rfl, rfl⟩ | ⟨a0, a1, rfl, rfl, a2⟩
      · have hz : M.1 1 = 0 := by
          have h1 := hr.1
          have h2 := hr.2.2.1
          have h3 := hM.2.1
          by_cases c : M.1 1 = 0
          · exact c
          · rw [if_neg c] at h1; have := h2 (by omega); omega
        rcases k2 with ⟨b1, rfl⟩ | ⟨b1, -⟩ | ⟨b1, -⟩
        · exact ⟨by omega, by rw [mdT_1]; rfl, fun c => by omega, coI_T h (by omega), chC_refl _, chM_T _ _⟩
        · omega
        · omega
      · have hz : M.1 1 = 1 := by
          have h1 := hr.1
          have h3 := hM.2.1
          by_cases c : M.1 1 = 0
          · rw [if_pos c] at h1; exact absurd h1 a0
          · omega
        rcases k2 with ⟨b1, -⟩ | ⟨b1, b2, rfl⟩ | ⟨b1, b2, -⟩
        · omega
        · exact ⟨by omega, by rw [mdT_1]; rfl, fun c => by omega, coI_T h (by omega), chC_refl _, chM_T _ _⟩
        · exact absurd b2 a1
      · have hz : M.1 1 = 1 := by
          have h1 := hr.1
          have h3 := hM.2.1
          by_cases c : M.1 1 = 0
          · rw [if_pos c] at h1; exact absurd h1 a0
          · omega
        rcases k2 with ⟨b1, -⟩ | ⟨b1, b2, -⟩ | ⟨b1, b2, rfl, rfl⟩
        · omega
        · exact absurd a1 b2
        · obtain ⟨y1, y2, y3⟩ := ch_sv (M := mdT M 0) (coI_T h (by omega)) hz (show s.toNat < 2 by omega) a2
          refine ⟨by omega, by show (0 : Int) = 0; rfl, fun _ => ?_, y1, y2, chM_tr (chM_T _ _) y3⟩
          rw [sm_rel h hz])
    (fun H G o t v C' k1 k2 hc ho => hp376 hc ho)
    (fun H G E hE hc => by
      have e9 : E = 0 ∨ E = 1 := by omega
      rcases e9 with rfl | rfl
      · exact hx376_0 hc
      · exact hx376_1 hc) ho
  simp only [List.cons_append, List.nil_append] at h1
  rw [← es] at h1 h2
  exact ⟨g', C', M', _, _, lw_49 (gI_x hg) (gI_x (gI_on hg h5)) hi hL (by omega) h1 h2 h3 (fun e => h4 (by omega)), h5, hX⟩
theorem st_50 (h : coI C M) (hg : gI g L xs) (hi : i + 6 ≤ L) (hL : L ≤ 3072) : stC z 3362 g C M i := by
  intro l6 l7
  obtain ⟨hR, hA, hM, hr, hn, hG, hH, hS, hrg⟩ := id h
  obtain ⟨s, es, gs⟩ := wI_ex (xs (i + 1))
  obtain ⟨o, ho⟩ := hg.2.1
  have hq : ∀ s, s < 2 → C.2.2.2 1256 s = 1261 + 27 * s := fun s hs => (hS s hs).1
  have hb2 : ∀ s, s < 2 → M.2 2 s = 0 ∨ M.2 2 s = 1 := fun s hs => (hS s hs).2.1
  have hbb : ∀ s, s < 2 → 0 ≤ C.1 (1261 + 27 * s) 0 ∧ C.1 (1261 + 27 * s) 0 ≤ 5 := fun s hs => by
    obtain ⟨-, q2, q3, q4, q5⟩ := hS s hs
    have := hM.2.2.2.2.1
    rcases q2 with q2 | q2
    · rw [q4 q2]; omega
    · rw [(q5 q2).1.1]; exact this
  have hrr : ∀ s, s < 2 → M.2 2 s = 1 → ∀ f, f < 5 → phR (msf (feF (M.2 0) (M.2 1) (7 + s) 270) (M.2 8) (M.2 9) f) := fun s hs hone f hf => by
    obtain ⟨-, -, -, -, q5⟩ := hS s hs
    have w2 := (q5 hone).2
    refine phR_msf (fun j => ?_) hrg.2.2.1 hrg.2.2.2.1 (srR_congr (S := stM M (7 + s)) (fun j hj => by unfold feF; rw [if_pos hj]; rfl) w2.1) hf
    unfold feF
    split
    · exact hrg.2.1 _
    · exact hrg.1 _
  obtain ⟨g', C', M', t, v, b, hRt, hQ, hn9, hX, h1, h2, h3, h4, h5⟩ := gn_stepY (tau := fun t => if t = 1 then 2 else if t = 2 then 1 else t) rfl rs_tau (z := z) (g := g) (M := M) (jc := 383) (jh := 382) (jm := 384) (cargs := [.ref 1000, .int (wI s)]) (margs := [.ref 1315, .int (wI s)]) (nE := 2) (o := o) (X := fun C' M' => coI C' M' ∧ chC C C' ∧ chM M M')
    (fun h => c383 hR hA hq hbb gs) (fun h => p384 hM hb2 hrr gs)
    (fun t v C' b M' k1 k2 => by
      rcases k1 with ⟨a0, rfl, rfl⟩ | ⟨a0, a1, rfl, rfl⟩ | ⟨a0, a1, rfl, D, a2, rfl, a3⟩
      · rcases k2 with ⟨b1, rfl⟩ | ⟨b1, -⟩ | ⟨b1, -⟩
        · exact ⟨by omega, by decide, by rw [mdT_1]; rfl, fun c => by omega, coI_T h (by omega), chC_refl _, chM_T _ _⟩
        · exact absurd b1 a0
        · exact absurd b1 a0
      · rcases k2 with ⟨b1, -⟩ | ⟨b1, b2, rfl⟩ | ⟨b1, b2, -⟩
        · exact absurd a0 b1
        · exact ⟨by omega, by decide, by rw [mdT_1]; rfl, fun c => by omega, coI_T h (by omega), chC_refl _, chM_T _ _⟩
        · obtain ⟨-, -, q3, -, q5⟩ := hS s.toNat (by omega)
          have ha : M.1 1 = 1 := by have := hM.2.1; omega
          have := (q5 b2).1.1
          have := hr.2.2.1 ha
          omega
      · rcases k2 with ⟨b1, -⟩ | ⟨b1, b2, -⟩ | ⟨b1, b2, rfl, rfl⟩
        · exact absurd a0 b1
        · obtain ⟨-, -, -, q4, -⟩ := hS s.toNat (by omega)
          exact absurd (q4 b2) a1
        · obtain ⟨-, -, q3, -, q5⟩ := hS s.toNat (by omega)
          have ha : M.1 1 = 1 := by have := hM.2.1; omega
          obtain ⟨w1, w2⟩ := q5 b2
          obtain ⟨-, -, -, -, hst, -, -, r1, r2⟩ := clA_k hR.1
          have e25 : C.1 (alb C + 4) 0 = M.1 25 := (coI_st h ha).1.1
          have hal : alb (upI D 1092 0 0) = alb C := by unfold alb; show D.2.2.2 1000 1 = _; rw [a2.2.2.2]
          have hph : ∀ i, i < 5 → cph (upI D 1092 0 0) (alb C + 4 + 2 + 5 * i) = cph D (alb C + 4 + 2 + 5 * i) := fun i hi => upI_ph (by omega)
          obtain ⟨x1, x2, x3⟩ := st_take (D := upI D 1092 0 0) h ⟨w1, w2⟩ (fun i hi => by rw [hph i hi]; exact a2.2.1 i hi)
          obtain ⟨y1, y2, y3⟩ := ch_st (D := upI D 1092 0 0) (M := mdT M 0) (n' := 0) (coI_T h (by omega)) ha (by have := hM.2.2.1; show 0 ≤ (0 : Int) ∧ 0 ≤ M.1 4; omega) (by simp only [upI, if_true]) a2.2.2.2 (by rw [upI_n (by omega), a2.1, w1.1, e25]) (fun f hf => by have := (a2.2.1 f hf).2; rw [← hph f hf] at this; exact this) (fun x hx => ⟨fun hne => by rw [upI_n hne, (a2.2.2.1 x hx).1], (a2.2.2.1 x hx).2⟩) x1 x2 x3
          refine ⟨by omega, by decide, by show (0 : Int) = 0; rfl, fun _ => ?_, y1, y2, chM_tr (chM_T _ _) y3⟩
          have e9 := sm_rel y1 ha
          rw [hal] at e9
          have e8 : cPm (upI D 1092 0 0) = C.1 (1261 + 27 * s.toNat) 0 := by unfold cPm; rw [hal, upI_n (by omega), a2.1]
          rw [e8, smF_congr (g := snC D (alb C + 4)) _ (fun i hi => by unfold snC; rw [hph i (by have := w1.1; have := hM.2.2.2.2.1; omega)])] at e9
          rw [a3, e9]
          exact congrArg (fun n : Nat => (n : Int)) (smF_congr _ (fun i hi => rfl)))
    (fun H G o t v C' k1 k2 hc ho => hp382 hc ho)
    (fun H G E hE hc => by
      have e9 : E = 0 ∨ E = 1 := by omega
      rcases e9 with rfl | rfl
      · exact hx382_0 hc
      · exact hx382_1 hc) ho
  simp only [List.cons_append, List.nil_append] at h1
  rw [← es] at h1 h2
  exact ⟨g', C', M', _, _, lw_50 (gI_x hg) (gI_x (gI_on hg h5)) hi hL (by omega) h1 h2 h3 (fun e => h4 (by omega)), h5, hX⟩
end STC
