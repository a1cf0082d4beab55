/-! ===== the law's steps that only read (printed by wip/gen/genst.py) ===== -/
theorem rcP_2 (C : tCl) (f : Int) : rcP C f ≤ 2 := by
  unfold rcP
  repeat' split
  all_goals omega
theorem rcK_2 (C : tCl) (f k : Int) : rcK C f k ≤ 2 := by
  unfold rcK
  have := rcP_2 C f
  repeat' split
  all_goals omega
theorem rcK_i {C : tCl} {f k : Int} (h : rcK C f k = 0) : ((k.toNat : Nat) : Int) < (cph C (cAp C f.toNat)).1 7 := by
  obtain ⟨h0, h1, h2⟩ := rcK_0 h
  omega
/-- what every step needs of the heap beside class and reference -/
def gI (g : am_H) (L : Nat) (xs : Nat → Int32) : Prop := g.1 1 = some (.inl (10, L, .inl xs)) ∧ (∃ o, g.1 1332 = some (ouC o)) ∧ 1334 ≤ g.2.1 ∧ ∃ o, g.1 1333 = some (ouD o)
theorem gI_on {g g' : am_H} {L c s : Nat} {xs : Nat → Int32} (h : gI g L xs) (h2 : gOn g g' c s) : gI g' L xs := by
  obtain ⟨a, b, d, e⟩ := h
  obtain ⟨k1, k2, k3, k4, k5, k6⟩ := h2
  exact ⟨by rw [k1 1 (by omega) (by omega) (by omega), a], k2, by omega, k3 e⟩
theorem gI_x {g : am_H} {L : Nat} {xs : Nat → Int32} {C : tCl} {M : tMd} (h : gI g L xs) : (clPut (mdPut g M) C).1 1 = some (.inl (10, L, .inl xs)) := by
  rw [clPut_o (by omega), mdPut_o (by omega), h.1]
theorem gOn_refl {g : am_H} {L c s : Nat} {xs : Nat → Int32} (h : gI g L xs) : gOn g g c s := ⟨fun _ _ _ _ => rfl, h.2.1, fun h => h, Nat.le_refl _, Nat.le_add_right _ _, Nat.le_add_right _ _⟩
theorem gOn_mono {g g' : am_H} {c s c' s' : Nat} (h : gOn g g' c s) (h1 : c ≤ c') (h2 : s ≤ s') : gOn g g' c' s' := by
  obtain ⟨k1, k2, k3, k4, k5, k6⟩ := h
  exact ⟨k1, k2, k3, k4, by omega, by omega⟩
theorem gOn_trans {g g' g'' : am_H} {c s c' s' : Nat} (h : gOn g g' c s) (h' : gOn g' g'' c' s') : gOn g g'' (c + c') (s + s') := by
  obtain ⟨k1, k2, k3, k4, k5, k6⟩ := h
  obtain ⟨l1, l2, l3, l4, l5, l6⟩ := h'
  exact ⟨fun q h1 h2 h3 => by rw [l1 q (by omega) h2 h3, k1 q h1 h2 h3], l2, fun h => l3 (k3 h), by omega, by omega, by omega⟩
/-- the law's step from a case's row to the loop's head, where only the heap's counters, the answer's row and the reference's code change -/
def stRO (z : Bool) (pc : Nat) (g : am_H) (C : tCl) (M : tMd) (i : Nat) : Prop := ∀ l6 l7 : Option Value, ∃ (g' : am_H) (t : Nat) (m6 m7 : Option Value),
  ru_n z 0 pc [some (.ref 1), some (.ref 1000), some (.ref 1315), some (.ref 1332), some (.ref 1333), some (.int (wI i)), l6, l7] [] (clPut (mdPut g M) C) =
  ru_n z 0 28 [some (.ref 1), some (.ref 1000), some (.ref 1315), some (.ref 1332), some (.ref 1333), some (.int (wI (i + 6))), m6, m7] [] (clPut (mdPut g' (mdT M t)) C) ∧ gOn g g' 1 6 ∧ t ≤ 9
theorem oR_congr {t : Nat} {v v' : Option Value} {g g' : am_H} (h : t = 0 → v = v') : oR t v g g' = oR t v' g g' := by
  unfold oR
  split
  · rw [h (by assumption)]
  · rfl
theorem cq170 {z : Bool} {h : am_H} {C : tCl} (hR : clR C) {f : Int} (g : -2147483648 ≤ f ∧ f < 2147483648) : ru_ev z 170 [.ref 1000, .int (wI f)] (clPut h C) = oR (rcP C f) (some (.int (wI (if rcP C f = 0 then (cph C (cAp C f.toNat)).1 6 else 0)))) (clPut h C) (clPut (thr h) C) := by
  rw [c170 hR g]
  exact oR_congr fun e => by rw [if_pos e]
theorem z9171 {M : tMd} {C : tCl} (hM : mdR M) (_hr : relA C M) (f : Int) : (if rfP M f = 0 then (mph M f.toNat).1 6 else 0) = 0 ∨ (if rfP M f = 0 then (mph M f.toNat).1 6 else 0) = 1 := by
  have h9 := hM.2.2.2.2.2.2
  split
  · rename_i e
    have h5 : f.toNat < 5 := by
      have r := hM.2.2.2.2.1
      unfold rfP at e
      split at e
      · omega
      · split at e <;> omega
    have h6 := (h9 _ h5).1 6
    have h7 := (h9 _ h5).2.1
    omega
  · exact Or.inl rfl
theorem z9170 {M : tMd} {C : tCl} (hM : mdR M) (hr : relA C M) (f : Int) : (if rcP C f = 0 then (cph C (cAp C f.toNat)).1 6 else 0) = 0 ∨ (if rcP C f = 0 then (cph C (cAp C f.toNat)).1 6 else 0) = 1 := by
  have h := z9171 hM hr f
  have e := rel_rcP hM hr f
  by_cases e1 : rcP C f = 0
  · have e2 : rfP M f = 0 := by rw [← e, e1]; rfl
    rw [if_pos e2] at h
    rw [if_pos e1, (rel_ph hr e1).1 6 (by decide)]
    exact h
  · rw [if_neg e1]; exact Or.inl rfl
section ST
variable {z : Bool} {g : am_H} {C : tCl} {M : tMd} {xs : Nat → Int32} {L i : Nat}
theorem st_3 (hR : clR C) (hM : mdR M) (hr : relA C M) (hg : gI g L xs) (hi : i + 6 ≤ L) (hL : L ≤ 3072) : stRO z 461 g C M i := by
  intro l6 l7
  have e1 : ru_ev z 155 [.ref 1315] (clPut (mdPut g M) C) = some (.inl (some (.int (wI (C.1 1001 2)))), clPut (mdPut g (mdT M 0)) C) := by
    rw [clPM, p155, ← clPM, hr.2.2.2.2.2.1]
  exact ⟨g, 0, _, _, lw_3 (gI_x hg) (gI_x hg) hi hL c154 e1, gOn_refl hg, Nat.zero_le _⟩
theorem st_4 (hR : clR C) (hM : mdR M) (hr : relA C M) (hg : gI g L xs) (hi : i + 6 ≤ L) (hL : L ≤ 3072) : stRO z 474 g C M i := by
  intro l6 l7
  have e1 : ru_ev z 157 [.ref 1315] (clPut (mdPut g M) C) = some (.inl (some (.int (wI (C.1 1001 3)))), clPut (mdPut g (mdT M 0)) C) := by
    rw [clPM, p157, ← clPM, hr.2.2.2.2.2.2.1]
  exact ⟨g, 0, _, _, lw_4 (gI_x hg) (gI_x hg) hi hL c156 e1, gOn_refl hg, Nat.zero_le _⟩
theorem st_5 (hR : clR C) (hM : mdR M) (hr : relA C M) (hg : gI g L xs) (hi : i + 6 ≤ L) (hL : L ≤ 3072) : stRO z 487 g C M i := by
  intro l6 l7
  have e1 : ru_ev z 159 [.ref 1315] (clPut (mdPut g M) C) = some (.inl (some (.int (wI (C.1 1001 1)))), clPut (mdPut g (mdT M 0)) C) := by
    rw [clPM, p159, ← clPM, hr.2.2.2.2.1]
  exact ⟨g, 0, _, _, lw_5 (gI_x hg) (gI_x hg) hi hL c158 e1, gOn_refl hg, Nat.zero_le _⟩
theorem st_6 (hR : clR C) (hM : mdR M) (hr : relA C M) (hg : gI g L xs) (hi : i + 6 ≤ L) (hL : L ≤ 3072) : stRO z 500 g C M i := by
  intro l6 l7
  have e1 : ru_ev z 161 [.ref 1315] (clPut (mdPut g M) C) = some (.inl (some (.int (wI (cPm C)))), clPut (mdPut g (mdT M 0)) C) := by
    rw [clPM, p161 hM, ← clPM, hr.1]
  exact ⟨g, 0, _, _, lw_6 (gI_x hg) (gI_x hg) hi hL (c160 hR.1) e1, gOn_refl hg, Nat.zero_le _⟩
theorem st_20 (hR : clR C) (hM : mdR M) (hr : relA C M) (hg : gI g L xs) (hi : i + 6 ≤ L) (hL : L ≤ 3072) : stRO z 1399 g C M i := by
  intro l6 l7
  have e1 : ru_ev z 211 [.ref 1315] (clPut (mdPut g M) C) = some (.inl (some (.int (wI (cNm C)))), clPut (mdPut g (mdT M 0)) C) := by
    rw [clPM, p211 hM, ← clPM, hr.2.1]
  exact ⟨g, 0, _, _, lw_20 (gI_x hg) (gI_x hg) hi hL (c210 hR.1) e1, gOn_refl hg, Nat.zero_le _⟩
theorem st_48 (hR : clR C) (hM : mdR M) (hr : relA C M) (hg : gI g L xs) (hi : i + 6 ≤ L) (hL : L ≤ 3072) : stRO z 3293 g C M i := by
  intro l6 l7
  have e1 : ru_ev z 375 [.ref 1315] (clPut (mdPut g M) C) = some (.inl (some (.int (wI (C.1 1092 0)))), clPut (mdPut g (mdT M 0)) C) := by
    rw [clPM, p375 hM, ← clPM, hr.2.2.2.2.2.2.2]
  exact ⟨g, 0, _, _, lw_48 (gI_x hg) (gI_x hg) hi hL c374 e1, gOn_refl hg, Nat.zero_le _⟩
theorem st_7 (hR : clR C) (hM : mdR M) (hr : relA C M) (hg : gI g L xs) (hi : i + 6 ≤ L) (hL : L ≤ 3072) : stRO z 513 g C M i := by
  intro l6 l7
  obtain ⟨f, ef, gf⟩ := wI_ex (xs (i + 1))
  obtain ⟨o, ho⟩ := hg.2.1
  have er : ((rcP C f : Nat) : Int) = rfP M f := rel_rcP hM hr f
  have tb : rcP C f ≤ 2 := rcP_2 C f
  obtain ⟨g', h1, h2, h3, h4, h5⟩ := ro_step (z := z) (g := g) (jc := 164) (jh := 163) (jm := 165) (cargs := [.ref 1000, .int (wI f)]) (margs := [.ref 1315, .int (wI f)]) (t := rcP C f) (v := (cph C (cAp C f.toNat)).1 7) (b := if rfP M f = 0 then (mph M f.toNat).1 7 else 0) (o := o)
    (fun h => c164 hR gf) (fun h => by rw [er]; exact p165 hM gf) (fun e => by rw [if_pos (show rfP M f = 0 by rw [← er, e]; rfl)]; exact (rel_ph hr e).1 7 (by decide))
    (fun H G o hc ho => hp163 hc ho)
    (fun H G E hE hc => by
      have e9 : E = 0 ∨ E = 1 := by omega
      rcases e9 with rfl | rfl
      · rw [← hE]; exact hx163_0 hc
      · rw [← hE]; exact hx163_1 hc) ho
  simp only [List.cons_append, List.nil_append] at h1
  rw [← ef] at h1 h2
  exact ⟨g', rcP C f, _, _, lw_7 (gI_x hg) (gI_x (gI_on hg h5)) hi hL (by omega) h1 h2 h3 (fun e => h4 (by omega)), gOn_mono h5 (by omega) (by omega), Nat.le_trans tb (by decide)⟩
theorem st_9 (hR : clR C) (hM : mdR M) (hr : relA C M) (hg : gI g L xs) (hi : i + 6 ≤ L) (hL : L ≤ 3072) : stRO z 637 g C M i := by
  intro l6 l7
  obtain ⟨f, ef, gf⟩ := wI_ex (xs (i + 1))
  obtain ⟨o, ho⟩ := hg.2.1
  have er : ((rcP C f : Nat) : Int) = rfP M f := rel_rcP hM hr f
  have tb : rcP C f ≤ 2 := rcP_2 C f
  obtain ⟨g', h1, h2, h3, h4, h5⟩ := ro_step (z := z) (g := g) (jc := 170) (jh := 169) (jm := 171) (cargs := [.ref 1000, .int (wI f)]) (margs := [.ref 1315, .int (wI f)]) (t := rcP C f) (v := if rcP C f = 0 then (cph C (cAp C f.toNat)).1 6 else 0) (b := if rfP M f = 0 then (mph M f.toNat).1 6 else 0) (o := o)
    (fun h => cq170 hR gf) (fun h => by rw [er]; exact p171 hM gf) (fun e => by rw [if_pos e, if_pos (show rfP M f = 0 by rw [← er, e]; rfl)]; exact (rel_ph hr e).1 6 (by decide))
    (fun H G o hc ho => hp169 (z9170 hM hr f) hc ho)
    (fun H G E hE hc => by
      have e9 : E = 0 ∨ E = 1 := by omega
      rcases e9 with rfl | rfl
      · rw [← hE]; exact hx169_0 hc
      · rw [← hE]; exact hx169_1 hc) ho
  simp only [List.cons_append, List.nil_append] at h1
  rw [← ef] at h1 h2
  exact ⟨g', rcP C f, _, _, lw_9 (gI_x hg) (gI_x (gI_on hg h5)) hi hL (by omega) (z9171 hM hr f) h1 h2 h3 (fun e => h4 (by omega)), gOn_mono h5 (by omega) (by omega), Nat.le_trans tb (by decide)⟩
theorem st_10 (hR : clR C) (hM : mdR M) (hr : relA C M) (hg : gI g L xs) (hi : i + 6 ≤ L) (hL : L ≤ 3072) : stRO z 700 g C M i := by
  intro l6 l7
  obtain ⟨f, ef, gf⟩ := wI_ex (xs (i + 1))
  obtain ⟨k, ek, gk⟩ := wI_ex (xs (i + 2))
  obtain ⟨o, ho⟩ := hg.2.1
  have er : ((rcK C f k : Nat) : Int) = rfK M f k := rel_rcK hM hr f k
  have tb : rcK C f k ≤ 2 := rcK_2 C f k
  obtain ⟨g', h1, h2, h3, h4, h5⟩ := ro_step (z := z) (g := g) (jc := 173) (jh := 172) (jm := 175) (cargs := [.ref 1000, .int (wI f), .int (wI k)]) (margs := [.ref 1315, .int (wI f), .int (wI k)]) (t := rcK C f k) (v := if shw (cph C (cAp C f.toNat)) k.toNat = true then 1 else 0) (b := if rfK M f k = 0 ∧ shw (mph M f.toNat) k.toNat = true then 1 else 0) (o := o)
    (fun h => c173 hR gf gk) (fun h => by rw [er]; exact p175 hM gf gk) (fun e => by have e5 := (show rfK M f k = 0 by rw [← er, e]; rfl); simp only [e5, true_and, ← pheq_shw (rel_ph hr (rcK_0 e).1) (rcK_i e)])
    (fun H G o hc ho => hp172 (by split <;> first | exact Or.inl rfl | exact Or.inr rfl) hc ho)
    (fun H G E hE hc => by
      have e9 : E = 0 ∨ E = 1 := by omega
      rcases e9 with rfl | rfl
      · rw [← hE]; exact hx172_0 hc
      · rw [← hE]; exact hx172_1 hc) ho
  simp only [List.cons_append, List.nil_append] at h1
  rw [← ef, ← ek] at h1 h2
  exact ⟨g', rcK C f k, _, _, lw_10 (gI_x hg) (gI_x (gI_on hg h5)) hi hL (by omega) (by split <;> first | exact Or.inl rfl | exact Or.inr rfl) h1 h2 h3 (fun e => h4 (by omega)), gOn_mono h5 (by omega) (by omega), Nat.le_trans tb (by decide)⟩
theorem st_11 (hR : clR C) (hM : mdR M) (hr : relA C M) (hg : gI g L xs) (hi : i + 6 ≤ L) (hL : L ≤ 3072) : stRO z 775 g C M i := by
  intro l6 l7
  obtain ⟨f, ef, gf⟩ := wI_ex (xs (i + 1))
  obtain ⟨k, ek, gk⟩ := wI_ex (xs (i + 2))
  obtain ⟨o, ho⟩ := hg.2.1
  have er : ((rcK C f k : Nat) : Int) = rfK M f k := rel_rcK hM hr f k
  have tb : rcK C f k ≤ 2 := rcK_2 C f k
  obtain ⟨g', h1, h2, h3, h4, h5⟩ := ro_step (z := z) (g := g) (jc := 178) (jh := 177) (jm := 179) (cargs := [.ref 1000, .int (wI f), .int (wI k)]) (margs := [.ref 1315, .int (wI f), .int (wI k)]) (t := rcK C f k) (v := if shw (cph C (cAp C f.toNat)) k.toNat = true then 1000 * shX (cph C (cAp C f.toNat)) k.toNat + shY (cph C (cAp C f.toNat)) k.toNat else -1) (b := if rfK M f k = 0 then (if shw (mph M f.toNat) k.toNat = true then 1000 * shX (mph M f.toNat) k.toNat + shY (mph M f.toNat) k.toNat else -1) else 0) (o := o)
    (fun h => c178 hR gf gk) (fun h => by rw [er]; exact p179 hM gf gk) (fun e => by have e5 := (show rfK M f k = 0 by rw [← er, e]; rfl); rw [if_pos e5, pheq_shw (rel_ph hr (rcK_0 e).1) (rcK_i e), pheq_shX (rel_ph hr (rcK_0 e).1) (rcK_i e), pheq_shY (rel_ph hr (rcK_0 e).1) (rcK_i e)])
    (fun H G o hc ho => hp177 hc ho)
    (fun H G E hE hc => by
      have e9 : E = 0 ∨ E = 1 := by omega
      rcases e9 with rfl | rfl
      · rw [← hE]; exact hx177_0 hc
      · rw [← hE]; exact hx177_1 hc) ho
  simp only [List.cons_append, List.nil_append] at h1
  rw [← ef, ← ek] at h1 h2
  exact ⟨g', rcK C f k, _, _, lw_11 (gI_x hg) (gI_x (gI_on hg h5)) hi hL (by omega) h1 h2 h3 (fun e => h4 (by omega)), gOn_mono h5 (by omega) (by omega), Nat.le_trans tb (by decide)⟩
theorem st_12 (hR : clR C) (hM : mdR M) (hr : relA C M) (hg : gI g L xs) (hi : i + 6 ≤ L) (hL : L ≤ 3072) : stRO z 843 g C M i := by
  intro l6 l7
  obtain ⟨f, ef, gf⟩ := wI_ex (xs (i + 1))
  obtain ⟨o, ho⟩ := hg.2.1
  have er : ((rcP C f : Nat) : Int) = rfP M f := rel_rcP hM hr f
  have tb : rcP C f ≤ 2 := rcP_2 C f
  obtain ⟨g', h1, h2, h3, h4, h5⟩ := ro_step (z := z) (g := g) (jc := 181) (jh := 180) (jm := 184) (cargs := [.ref 1000, .int (wI f)]) (margs := [.ref 1315, .int (wI f)]) (t := rcP C f) (v := (bsN (shw (cph C (cAp C f.toNat))) ((cph C (cAp C f.toNat)).1 7).toNat : Nat)) (b := if rfP M f = 0 then (bsN (shw (mph M f.toNat)) ((mph M f.toNat).1 7).toNat : Nat) else 0) (o := o)
    (fun h => c181 hR gf) (fun h => by rw [er]; exact p184 hM gf) (fun e => by rw [if_pos (show rfP M f = 0 by rw [← er, e]; rfl), pheq_set (rel_ph hr e) ((dph (h := g) hR e).2.1 7).1])
    (fun H G o hc ho => hp180 hc ho)
    (fun H G E hE hc => by
      have e9 : E = 0 ∨ E = 1 := by omega
      rcases e9 with rfl | rfl
      · rw [← hE]; exact hx180_0 hc
      · rw [← hE]; exact hx180_1 hc) ho
  simp only [List.cons_append, List.nil_append] at h1
  rw [← ef] at h1 h2
  exact ⟨g', rcP C f, _, _, lw_12 (gI_x hg) (gI_x (gI_on hg h5)) hi hL (by omega) h1 h2 h3 (fun e => h4 (by omega)), gOn_mono h5 (by omega) (by omega), Nat.le_trans tb (by decide)⟩
theorem st_22 (hR : clR C) (hM : mdR M) (hr : relA C M) (hg : gI g L xs) (hi : i + 6 ≤ L) (hL : L ≤ 3072) : stRO z 1468 g C M i := by
  intro l6 l7
  obtain ⟨f, ef, gf⟩ := wI_ex (xs (i + 1))
  obtain ⟨k, ek, gk⟩ := wI_ex (xs (i + 2))
  obtain ⟨o, ho⟩ := hg.2.1
  have er : ((rcK C f k : Nat) : Int) = rfK M f k := rel_rcK hM hr f k
  have tb : rcK C f k ≤ 2 := rcK_2 C f k
  obtain ⟨g', h1, h2, h3, h4, h5⟩ := ro_step (z := z) (g := g) (jc := 221) (jh := 220) (jm := 222) (cargs := [.ref 1000, .int (wI f), .int (wI k)]) (margs := [.ref 1315, .int (wI f), .int (wI k)]) (t := rcK C f k) (v := (cph C (cAp C f.toNat)).2 3 k.toNat) (b := if rfK M f k = 0 then (mph M f.toNat).2 3 k.toNat else 0) (o := o)
    (fun h => c221 hR gf gk) (fun h => by rw [er]; exact p222 hM gf gk) (fun e => by have e5 := (show rfK M f k = 0 by rw [← er, e]; rfl); rw [if_pos e5]; exact (rel_ph hr (rcK_0 e).1).2 3 _ (by decide) (rcK_i e))
    (fun H G o hc ho => hp220 hc ho)
    (fun H G E hE hc => by
      have e9 : E = 0 ∨ E = 1 := by omega
      rcases e9 with rfl | rfl
      · rw [← hE]; exact hx220_0 hc
      · rw [← hE]; exact hx220_1 hc) ho
  simp only [List.cons_append, List.nil_append] at h1
  rw [← ef, ← ek] at h1 h2
  exact ⟨g', rcK C f k, _, _, lw_22 (gI_x hg) (gI_x (gI_on hg h5)) hi hL (by omega) h1 h2 h3 (fun e => h4 (by omega)), gOn_mono h5 (by omega) (by omega), Nat.le_trans tb (by decide)⟩
end ST
