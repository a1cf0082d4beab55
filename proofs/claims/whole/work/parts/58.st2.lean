/-! ===== the law's steps that only read, 2 (printed by wip/gen/genst.py) ===== -/
section ST2
variable {z : Bool} {g : am_H} {C : tCl} {M : tMd} {xs : Nat → Int32} {L i : Nat}
theorem st_8 (hR : clR C) (hM : mdR M) (hr : relA C M) (hn : relN M) (hg : gI g L xs) (hi : i + 6 ≤ L) (hL : L ≤ 3072) : stRO z 569 g C M i := by
  intro l6 l7
  obtain ⟨f, ef, gf⟩ := wI_ex (xs (i + 1))
  obtain ⟨k, ek, gk⟩ := wI_ex (xs (i + 2))
  obtain ⟨o, ho⟩ := hg.2.1
  have er : (((if rcP C f = 0 then (if 0 ≤ k ∧ k ≤ 3 then 0 else 3) else rcP C f) : Nat) : Int) = (if rfP M f = 0 then (if 0 ≤ k ∧ k ≤ 3 then 0 else 3) else rfP M f) := rel_rcW hM hr f k
  have tb : (if rcP C f = 0 then (if 0 ≤ k ∧ k ≤ 3 then 0 else 3) else rcP C f) ≤ 3 := by have := rcP_2 C f; (repeat' split) <;> omega
  obtain ⟨g', h1, h2, h3, h4, h5⟩ := ro_step (z := z) (g := g) (jc := 167) (jh := 166) (jm := 168) (cargs := [.ref 1000, .int (wI f), .int (wI k)]) (margs := [.ref 1315, .int (wI f), .int (wI k)]) (t := (if rcP C f = 0 then (if 0 ≤ k ∧ k ≤ 3 then 0 else 3) else rcP C f)) (v := (cph C (cAp C f.toNat)).1 (k.toNat + 2)) (b := if rfP M f = 0 ∧ 0 ≤ k ∧ k ≤ 3 then (mph M f.toNat).1 (k.toNat + 2) else 0) (o := o)
    (fun h => c167 hR gf gk) (fun h => by rw [er]; exact p168 hM gf gk) (fun e => st8 hM hr e)
    (fun H G o hc ho => hp166 hc ho)
    (fun H G E hE hc => by
      have e9 : E = 0 ∨ E = 1 ∨ E = 2 := by omega
      rcases e9 with rfl | rfl | rfl
      · rw [← hE]; exact hx166_0 hc
      · rw [← hE]; exact hx166_1 hc
      · rw [← hE]; exact hx166_2 hc) ho
  simp only [List.cons_append, List.nil_append] at h1
  rw [← ef, ← ek] at h1 h2
  exact ⟨g', (if rcP C f = 0 then (if 0 ≤ k ∧ k ≤ 3 then 0 else 3) else rcP C f), _, _, lw_8 (gI_x hg) (gI_x (gI_on hg h5)) hi hL (by omega) h1 h2 h3 (fun e => h4 (by omega)), gOn_mono h5 (by omega) (by omega), Nat.le_trans tb (by decide)⟩
theorem st_23 (hR : clR C) (hM : mdR M) (hr : relA C M) (hn : relN M) (hg : gI g L xs) (hi : i + 6 ≤ L) (hL : L ≤ 3072) : stRO z 1536 g C M i := by
  intro l6 l7
  obtain ⟨f, ef, gf⟩ := wI_ex (xs (i + 1))
  obtain ⟨k, ek, gk⟩ := wI_ex (xs (i + 2))
  obtain ⟨o, ho⟩ := hg.2.1
  have er : (((if rcP C f = 0 then rcN C k else rcP C f) : Nat) : Int) = rfN M f k := rel_rcN hM hr f k
  have tb : (if rcP C f = 0 then rcN C k else rcP C f) ≤ 2 := by have := rcP_2 C f; have := rcN_2 C k; split <;> omega
  obtain ⟨g', h1, h2, h3, h4, h5⟩ := ro_step (z := z) (g := g) (jc := 224) (jh := 223) (jm := 225) (cargs := [.ref 1000, .int (wI f), .int (wI k)]) (margs := [.ref 1315, .int (wI f), .int (wI k)]) (t := (if rcP C f = 0 then rcN C k else rcP C f)) (v := hofF ((cph C (cAp C f.toNat)).2 3) k ((cph C (cAp C f.toNat)).1 7).toNat 0) (b := if rfN M f k = 0 then hofF ((mph M f.toNat).2 3) k ((mph M f.toNat).1 7).toNat 0 else 0) (o := o)
    (fun h => c224 hR gf gk) (fun h => by rw [er]; exact p225 hM gf gk) (fun e => st23 (h := g) hR hr er e)
    (fun H G o hc ho => hp223 hc ho)
    (fun H G E hE hc => by
      have e9 : E = 0 ∨ E = 1 := by omega
      rcases e9 with rfl | rfl
      · rw [← hE]; exact hx223_0 hc
      · rw [← hE]; exact hx223_1 hc) ho
  simp only [List.cons_append, List.nil_append] at h1
  rw [← ef, ← ek] at h1 h2
  exact ⟨g', (if rcP C f = 0 then rcN C k else rcP C f), _, _, lw_23 (gI_x hg) (gI_x (gI_on hg h5)) hi hL (by omega) h1 h2 h3 (fun e => h4 (by omega)), gOn_mono h5 (by omega) (by omega), Nat.le_trans tb (by decide)⟩
theorem st_27 (hR : clR C) (hM : mdR M) (hr : relA C M) (hn : relN M) (hg : gI g L xs) (hi : i + 6 ≤ L) (hL : L ≤ 3072) : stRO z 1772 g C M i := by
  intro l6 l7
  obtain ⟨f, ef, gf⟩ := wI_ex (xs (i + 1))
  obtain ⟨k, ek, gk⟩ := wI_ex (xs (i + 2))
  obtain ⟨o, ho⟩ := hg.2.1
  have er : (((if rcP C f = 0 then rcP C k else rcP C f) : Nat) : Int) = rfPP M f k := rel_rcPP hM hr f k
  have tb : (if rcP C f = 0 then rcP C k else rcP C f) ≤ 2 := by have := rcP_2 C f; have := rcP_2 C k; split <;> omega
  obtain ⟨g', h1, h2, h3, h4, h5⟩ := ro_step (z := z) (g := g) (jc := 244) (jh := 243) (jm := 245) (cargs := [.ref 1000, .int (wI f), .int (wI k)]) (margs := [.ref 1315, .int (wI f), .int (wI k)]) (t := (if rcP C f = 0 then rcP C k else rcP C f)) (v := ((nmN (cph C (cAp C f.toNat)) ((cph C (cAp C f.toNat)).1 7).toNat &&& nmN (cph C (cAp C k.toNat)) ((cph C (cAp C k.toNat)).1 7).toNat : Nat) : Int)) (b := if rfPP M f k = 0 then ((bsN (nmB (mph M f.toNat)) (M.1 20).toNat &&& bsN (nmB (mph M k.toNat)) (M.1 20).toNat : Nat) : Int) else 0) (o := o)
    (fun h => c244 hR gf gk) (fun h => by rw [er]; exact p245 hM gf gk) (fun e => st27 hR hM hr hn er e)
    (fun H G o hc ho => hp243 hc ho)
    (fun H G E hE hc => by
      have e9 : E = 0 ∨ E = 1 := by omega
      rcases e9 with rfl | rfl
      · rw [← hE]; exact hx243_0 hc
      · rw [← hE]; exact hx243_1 hc) ho
  simp only [List.cons_append, List.nil_append] at h1
  rw [← ef, ← ek] at h1 h2
  exact ⟨g', (if rcP C f = 0 then rcP C k else rcP C f), _, _, lw_27 (gI_x hg) (gI_x (gI_on hg h5)) hi hL (by omega) h1 h2 h3 (fun e => h4 (by omega)), gOn_mono h5 (by omega) (by omega), Nat.le_trans tb (by decide)⟩
theorem st_34 (hR : clR C) (hM : mdR M) (hr : relA C M) (hn : relN M) (hg : gI g L xs) (hi : i + 6 ≤ L) (hL : L ≤ 3072) : stRO z 2275 g C M i := by
  intro l6 l7
  obtain ⟨f, ef, gf⟩ := wI_ex (xs (i + 1))
  obtain ⟨x1, ex1, gx1⟩ := wI_ex (xs (i + 2))
  obtain ⟨y1, ey1, gy1⟩ := wI_ex (xs (i + 3))
  obtain ⟨x2, ex2, gx2⟩ := wI_ex (xs (i + 4))
  obtain ⟨y2, ey2, gy2⟩ := wI_ex (xs (i + 5))
  obtain ⟨o, ho⟩ := hg.2.1
  have er : (((if rcP C f = 0 then (if isCr (cph C (cAp C f.toNat)) x1 y1 x2 y2 = true then 0 else 3) else rcP C f) : Nat) : Int) = rfC M f x1 y1 x2 y2 := rel_rcC hM hr f x1 y1 x2 y2
  have tb : (if rcP C f = 0 then (if isCr (cph C (cAp C f.toNat)) x1 y1 x2 y2 = true then 0 else 3) else rcP C f) ≤ 3 := by have := rcP_2 C f; (repeat' split) <;> omega
  obtain ⟨g', h1, h2, h3, h4, h5⟩ := ro_step (z := z) (g := g) (jc := 284) (jh := 283) (jm := 286) (cargs := [.ref 1000, .int (wI f), .int (wI x1), .int (wI y1), .int (wI x2), .int (wI y2)]) (margs := [.ref 1315, .int (wI f), .int (wI x1), .int (wI y1), .int (wI x2), .int (wI y2)]) (t := (if rcP C f = 0 then (if isCr (cph C (cAp C f.toNat)) x1 y1 x2 y2 = true then 0 else 3) else rcP C f)) (v := (bsN (inR (cph C (cAp C f.toNat)) x1 y1 x2 y2) ((cph C (cAp C f.toNat)).1 7).toNat : Nat)) (b := if rfC M f x1 y1 x2 y2 = 0 then (bsN (inR (mph M f.toNat) x1 y1 x2 y2) ((mph M f.toNat).1 7).toNat : Nat) else 0) (o := o)
    (fun h => c284 hR gf gx1 gy1 gx2 gy2) (fun h => by rw [er]; exact p286 hM gf gx1 gy1 gx2 gy2) (fun e => st34 (h := g) hR hr er e)
    (fun H G o hc ho => hp283 hc ho)
    (fun H G E hE hc => by
      have e9 : E = 0 ∨ E = 1 ∨ E = 2 := by omega
      rcases e9 with rfl | rfl | rfl
      · rw [← hE]; exact hx283_0 hc
      · rw [← hE]; exact hx283_1 hc
      · rw [← hE]; exact hx283_2 hc) ho
  simp only [List.cons_append, List.nil_append] at h1
  rw [← ef, ← ex1, ← ey1, ← ex2, ← ey2] at h1 h2
  exact ⟨g', (if rcP C f = 0 then (if isCr (cph C (cAp C f.toNat)) x1 y1 x2 y2 = true then 0 else 3) else rcP C f), _, _, lw_34 (gI_x hg) (gI_x (gI_on hg h5)) hi hL (by omega) h1 h2 h3 (fun e => h4 (by omega)), gOn_mono h5 (by omega) (by omega), Nat.le_trans tb (by decide)⟩
end ST2
