/-! ===== the law's step of write ===== -/
theorem gn_stepW {z : Bool} {g : am_H} {C : tCl} {M : tMd} {jc jh jm : Nat} {cargs margs : List Value} {R : Nat → Int → tCl → am_H → Prop} {Q : Int → tMd → Prop} {X : tCl → tMd → am_H → Prop} {nE : Nat}
    (hcl : ∃ t v C' g1, ru_ev z jc cargs (clPut (mdPut g M) C) = oR t (some (.int (wI v))) (clPut (mdPut g1 M) C') (clPut (mdPut g1 M) C') ∧ (∃ o, g1.1 1332 = some (ouC o)) ∧ strs g1 ∧ R t v C' g1)
    (hmd : ∀ h, strs h → ∃ b M', ru_ev z jm margs (mdPut h M) = some (.inl (some (.int (wI b))), mdPut h M') ∧ Q b M')
    (hvb : ∀ t v C' g1 b M', R t v C' g1 → Q b M' → t ≤ nE ∧ M'.1 0 = (t : Int) ∧ (t = 0 → v = b) ∧ X C' M' g1)
    (hp : ∀ (H G : am_H) (o : Nat → Int64) (v : Int), ru_ev z jc cargs H = some (.inl (some (.int (wI v))), G) → G.1 1332 = some (ouC o) → ru_ev z jh (cargs ++ [.ref 1332]) H = some (.inl (some (.int (wI 0))), am_set G 1332 (ouC (am_up o 0 (wI v).toInt64))))
    (hx : ∀ (H G : am_H) (E : Nat), E < nE → ru_ev z jc cargs H = some (.inr E, G) → ru_ev z jh (cargs ++ [.ref 1332]) H = some (.inl (some (.int (wI ((E + 1 : Nat) : Int)))), G)) :
    ∃ g' C' M' t b g1, t ≤ nE ∧ X C' M' g1 ∧ gOn g1 g' 0 0 ∧ ru_ev z jh (cargs ++ [.ref 1332]) (clPut (mdPut g M) C) = some (.inl (some (.int (wI ((t : Nat) : Int)))), clPut (mdPut g' M) C') ∧ ru_ev z jm margs (clPut (mdPut g' M) C') = some (.inl (some (.int (wI b))), clPut (mdPut g' M') C') ∧
      ru_ev z 75 [.ref 1315] (clPut (mdPut g' M') C') = some (.inl (some (.int (wI ((t : Nat) : Int)))), clPut (mdPut g' M') C') ∧ (t = 0 → am_la (clPut (mdPut g' M') C') 1332 (wI 0) = some (wI b).toInt64) := by
  obtain ⟨t, v, C', g1, h1, ⟨o, ho⟩, hst, hR⟩ := hcl
  have hstr : ∀ g2 : am_H, (∀ q, q ≠ 1332 → g2.1 q = g1.1 q) → strs (clPut g2 C') := fun g2 hg i hi => by
    obtain ⟨a1, ⟨f, a2, a3⟩, a4, a5⟩ := hst i hi
    exact ⟨by rw [clPut_o (by omega), hg _ (by omega)]; exact a1, ⟨f, by rw [clPut_o (by omega), hg _ (by omega)]; exact a2, a3⟩, a4, a5⟩
  by_cases e : t = 0
  · rw [oR_0 e] at h1
    have hG : (clPut (mdPut g1 M) C').1 1332 = some (ouC o) := by rw [clPut_o (by omega), mdPut_o (by omega), ho]
    have h2 := hp _ _ o v h1 hG
    rw [cl_seto (by omega), md_seto (by omega)] at h2
    obtain ⟨b, M', m1, m2⟩ := hmd (clPut (am_set g1 1332 (ouC (am_up o 0 (wI v).toInt64))) C') (hstr _ (fun q hq => ru_setN hq))
    obtain ⟨k1, k2, k3, k4⟩ := hvb t v C' g1 b M' hR m2
    refine ⟨am_set g1 1332 (ouC (am_up o 0 (wI v).toInt64)), C', M', t, b, g1, k1, k4, ⟨fun q _ hq _ => ru_setN hq, ⟨_, ru_setE _ _ _⟩, fun h => by rw [ru_setN (by decide)]; exact h, Nat.le_refl _, Nat.le_refl _, Nat.le_refl _⟩, ?_, ?_, ?_, fun _ => ?_⟩
    · rw [h2, e]; rfl
    · rw [clPM, m1, ← clPM]
    · rw [clPM, p75, k2]
    · rw [← k3 e]
      have e9 : (clPut (mdPut (am_set g1 1332 (ouC (am_up o 0 (wI v).toInt64))) M') C').1 1332 = some (ouC (am_up o 0 (wI v).toInt64)) := by
        rw [clPut_o (by omega), mdPut_o (by omega)]; exact ru_setE _ _ _
      rw [ru_la e9 (by omega) (by omega) (by omega)]
      rfl
  · rw [oR_n e] at h1
    obtain ⟨b, M', m1, m2⟩ := hmd (clPut g1 C') (hstr _ (fun _ _ => rfl))
    obtain ⟨k1, k2, k3, k4⟩ := hvb t v C' g1 b M' hR m2
    have h2 := hx _ _ (t - 1) (by omega) h1
    rw [show t - 1 + 1 = t by omega] at h2
    refine ⟨g1, C', M', t, b, g1, k1, k4, ⟨fun q _ _ _ => rfl, ⟨o, ho⟩, fun h => h, Nat.le_refl _, Nat.le_refl _, Nat.le_refl _⟩, h2, ?_, ?_, fun h => absurd h e⟩
    · rw [clPM, m1, ← clPM]
    · rw [clPM, p75, k2]
theorem chM_refl (M : tMd) : chM M M := ⟨fun _ _ _ _ _ => rfl, fun _ _ _ _ _ _ _ _ => rfl⟩
/-- what a writing call leaves: the whole relation, the law's rows, room -/
def wrX (g : am_H) (cap L : Nat) (xs : Nat → Int32) (C' : tCl) (M' : tMd) (g1 : am_H) : Prop := ∃ cap', fuI g1 C' M' cap' ∧ gI g1 L xs ∧ g1.2.1 + cap ≤ g.2.1 + 10 + cap' ∧ g1.2.2 + 2 * cap ≤ g.2.2 + 100 + 2 * cap'
theorem wrX_fin {g g1 g' : am_H} {cap L : Nat} {xs : Nat → Int32} {C' : tCl} {M' : tMd} (h : wrX g cap L xs C' M' g1) (k : gOn g1 g' 0 0) : ∃ cap', gI g' L xs ∧ fuI g' C' M' cap' ∧ g'.2.1 + cap ≤ g.2.1 + 10 + cap' ∧ g'.2.2 + 2 * cap ≤ g.2.2 + 100 + 2 * cap' := by
  obtain ⟨cap', h1, h2, h3, h4⟩ := h
  obtain ⟨-, -, -, k4, k5, k6⟩ := id k
  exact ⟨cap', gI_on h2 k, fu_lift h1 h2.2.2.1 k h1.1 (chC_refl _) (chM_refl _), by omega, by omega⟩
/-- the builder holds a text: out of the relation, and into it -/
theorem fu_sb {g : am_H} {C : tCl} {M : tMd} {cap : Nat} (h : fuI g C M cap) (h3 : 1334 ≤ g.2.1) : sbS (mdPut g M) C ((List.range (M.1 38).toNat).map fun i => (M.2 15 i).toNat) cap := by
  obtain ⟨n, a1, a2, ⟨b1, b2, b3, b4, b5, b6, f, b7, b8⟩, a4⟩ := h.2.2.2.1
  have hl : ((List.range (M.1 38).toNat).map fun i => (M.2 15 i).toNat).length = n := by rw [List.length_map, List.length_range]; omega
  refine ⟨b1, by rw [hl]; exact b2, by rw [hl]; exact b3, b4, b5, b6, h3, f, by rw [mdPut_o (by omega)]; exact b7, fun i hi => ?_⟩
  rw [hl] at hi
  have := a4 i hi
  rw [b8 i hi, List.getD_eq_getElem?_getD, List.getElem?_map, List.getElem?_range (by omega)]
  show M.2 15 i = ((M.2 15 i).toNat : Int)
  omega
/-- after a write: class and reference hold the same text -/
theorem wr_fu {g H' : am_H} {C C' : tCl} {M M0 M' : tMd} {cap cap' L : Nat} {xs : Nat → Int32} {p : tPi} {T : List Nat} (h : fuI g C M cap) (hg : gI g L xs) (hs : sbS H' C' T cap') (ho : sbOn (mdPut g M) H' (piPut C 1070 p) C' cap cap') (hT : T.length ≤ 500) (hb : txB T) (hM0 : (∀ k, k ≠ 0 → k ≠ 34 → k ≠ 35 → M0.1 k = M.1 k) ∧ (∀ c, c ≠ 11 → c ≠ 12 → c ≠ 13 → M0.2 c = M.2 c) ∧ 0 ≤ M0.1 0 ∧ M0.1 0 ≤ 9) (hw : wrS M0 M' T) : mdPut H' M = H' ∧ strs H' ∧ wrX g cap L xs C' M' H' := by
  obtain ⟨h1, h2, h3, h4, h5⟩ := id h
  obtain ⟨o1, o2, o3, o4, o5, o6, o7, o8, o9⟩ := id ho
  obtain ⟨x1, x2, x3, x4⟩ := hg
  obtain ⟨n, wn1, wn2, ⟨sb1, sb2, sb3, sb4, sb5, sb6, -⟩, -⟩ := h4
  have eA : (piPut C 1070 p).2.2.2 1258 0 = C.2.2.2 1258 0 := rfl
  rw [eA] at o1 o5
  have hcell : ∀ q, q < g.2.1 → q ≠ C.2.2.2 1258 0 → H'.1 q = (mdPut g M).1 q := o1
  have hmd : mdPut H' M = H' := by
    refine mdPut_self ?_
    have ha := mdAt_put g M
    unfold mdAt at ha ⊢
    have e : ∀ q, 1315 ≤ q → q ≤ 1331 → H'.1 q = (mdPut g M).1 q := fun q q1 q2 => hcell q (by omega) (by omega)
    rw [e 1315 (by decide) (by decide), e 1316 (by decide) (by decide), e 1317 (by decide) (by decide), e 1318 (by decide) (by decide), e 1319 (by decide) (by decide), e 1320 (by decide) (by decide), e 1321 (by decide) (by decide), e 1322 (by decide) (by decide), e 1323 (by decide) (by decide), e 1324 (by decide) (by decide), e 1325 (by decide) (by decide), e 1326 (by decide) (by decide), e 1327 (by decide) (by decide), e 1328 (by decide) (by decide), e 1329 (by decide) (by decide), e 1330 (by decide) (by decide), e 1331 (by decide) (by decide)]
    exact ha
  have hlow : ∀ q, q < 1000 → H'.1 q = g.1 q := fun q hq => by rw [hcell q (by omega) (by omega), mdPut_o (by omega)]
  have hgs : gS H' := by
    obtain ⟨a, ⟨f, b1, b2⟩, k, d1, d2⟩ := h5
    refine ⟨fun i hi => ?_, ⟨f, by rw [hlow _ (by omega)]; exact b1, b2⟩, k, by rw [hlow _ (by omega)]; exact d1, d2⟩
    obtain ⟨a1, f, a2, a3⟩ := a i hi
    exact ⟨by rw [hlow _ (by omega)]; exact a1, f, by rw [hlow _ (by omega)]; exact a2, a3⟩
  refine ⟨hmd, strs_of hgs, cap', ⟨?_, ?_, ?_, ?_, hgs⟩, ⟨by rw [hlow _ (by omega)]; exact x1, ?_, by show 1334 ≤ H'.2.1; have o2 : g.2.1 ≤ H'.2.1 := o2; omega, ?_⟩, by have o3 : H'.2.1 + cap ≤ g.2.1 + cap' := o3; omega, by have o4 : H'.2.2 + 2 * cap ≤ g.2.2 + 2 * cap' := o4; omega⟩
  · obtain ⟨w1, w2, w3, w4⟩ := hw
    obtain ⟨m1, m2, m3⟩ := hM0
    have e1 : ∀ k, k ≠ 0 → k ≠ 34 → k ≠ 35 → k ≠ 38 → M'.1 k = M.1 k := fun k a b c d => by rw [w1 k d, m1 k a b c]
    have e2 : ∀ c, c ≠ 11 → c ≠ 12 → c ≠ 13 → c ≠ 15 → M'.2 c = M.2 c := fun c a b d e => by rw [w2 c e, m2 c a b d]
    have hr := h1.2.2.2.1
    have d1 : ∀ x, x ≠ 1258 → x ≠ 1070 → C'.1 x = C.1 x := fun x a b => by rw [o6 x a, piPut_1 b]
    refine coI_G h1 (o9 _ (by decide)) (o9 _ (by decide)) (o9 _ (by decide)) (fun x _ a b _ => d1 x a b) (fun x a b c => by rw [o7, piPut_2 (by omega)]) (e1 1 (by decide) (by decide) (by decide) (by decide)) (e1 4 (by decide) (by decide) (by decide) (by decide)) (e1 20 (by decide) (by decide) (by decide) (by decide)) (e1 24 (by decide) (by decide) (by decide) (by decide)) (e1 25 (by decide) (by decide) (by decide) (by decide)) (e2 0 (by decide) (by decide) (by decide) (by decide)) (e2 1 (by decide) (by decide) (by decide) (by decide)) (e2 2 (by decide) (by decide) (by decide) (by decide)) (e2 8 (by decide) (by decide) (by decide) (by decide)) (e2 9 (by decide) (by decide) (by decide) (by decide)) (by rw [w1 0 (by decide)]; exact m3) ?_ ?_ ?_
    · rw [d1 1001 (by decide) (by decide), e1 7 (by decide) (by decide) (by decide) (by decide)]; exact hr.2.2.2.2.1
    · rw [d1 1001 (by decide) (by decide), e1 8 (by decide) (by decide) (by decide) (by decide)]; exact hr.2.2.2.2.2.1
    · rw [d1 1001 (by decide) (by decide), e1 9 (by decide) (by decide) (by decide) (by decide)]; exact hr.2.2.2.2.2.2.1
  · obtain ⟨w1, w2, w3, w4⟩ := hw
    obtain ⟨m1, m2, m3⟩ := hM0
    exact nmI_of h2 (by rw [w1 1 (by decide), m1 1 (by decide) (by decide) (by decide)]) (by rw [w1 20 (by decide), m1 20 (by decide) (by decide) (by decide)]) (by rw [w2 5 (by decide), m2 5 (by decide) (by decide) (by decide)]) (by rw [o8]; rfl) (by unfold alb; rw [o9 1000 (by decide)]; rfl)
  · obtain ⟨w1, w2, w3, w4⟩ := hw
    obtain ⟨m1, m2, m3⟩ := hM0
    exact buI_of h3 (by rw [w1 7 (by decide), m1 7 (by decide) (by decide) (by decide)]) (by rw [w1 8 (by decide), m1 8 (by decide) (by decide) (by decide)]) (by rw [w1 9 (by decide), m1 9 (by decide) (by decide) (by decide)]) (by rw [w2 3 (by decide), m2 3 (by decide) (by decide) (by decide)]) (by rw [o7, piPut_2 (by omega)])
  · obtain ⟨s1, s2, s3, s4, s5, s6, s7, f, s8, s9⟩ := hs
    refine ⟨T.length, hw.2.2.1, hT, ⟨s1, s2, s3, s4, s5, s6, f, s8, fun i hi => by rw [s9 i hi, hw.2.2.2 i hi]⟩, fun i hi => ?_⟩
    rw [hw.2.2.2 i hi]
    have := txB_gd hb hi
    omega
  · obtain ⟨o, e⟩ := x2; exact ⟨o, by rw [hcell 1332 (by omega) (by omega), mdPut_o (by omega)]; exact e⟩
  · obtain ⟨o, e⟩ := x4; exact ⟨o, by rw [hcell 1333 (by omega) (by omega), mdPut_o (by omega)]; exact e⟩
