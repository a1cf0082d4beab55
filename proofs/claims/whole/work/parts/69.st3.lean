/-! ===== the law's steps that only read, 3 (printed by wip/gen/genst.py) ===== -/
section ST3
variable {z : Bool} {g : am_H} {C : tCl} {M : tMd} {xs : Nat → Int32} {L i : Nat}
theorem st_24 (hR : clR C) (hM : mdR M) (hr : relA C M) (hn : relN M) (hg : gI g L xs) (hi : i + 6 ≤ L) (hL : L ≤ 3072) : stRO z 1604 g C M i := by
  intro l6 l7
  obtain ⟨n, en, gn⟩ := wI_ex (xs (i + 1))
  obtain ⟨o, ho⟩ := hg.2.1
  have er : (((rcN C n) : Nat) : Int) = rfN1 M n := rel_rcN1 hM hr n
  have tb : (rcN C n) ≤ 2 := rcN_2 C n
  obtain ⟨g', h1, h2, h3, h4, h5⟩ := ro_step (z := z) (g := g) (jc := 227) (jh := 226) (jm := 229) (cargs := [.ref 1000, .int (wI n)]) (margs := [.ref 1315, .int (wI n)]) (t := (rcN C n)) (v := (bsN (pwB C n.toNat) (cPm C).toNat : Nat)) (b := if rfN1 M n = 0 then (bsN (pwM M n.toNat) (M.1 25).toNat : Nat) else 0) (o := o)
    (fun h => c227 hR gn) (fun h => by rw [er]; exact p229 hM gn) (fun e => st24 hR hM hr hn e)
    (fun H G o hc ho => hp226 hc ho)
    (fun H G E hE hc => by
      have e9 : E = 0 ∨ E = 1 := by omega
      rcases e9 with rfl | rfl
      · rw [← hE]; exact hx226_0 hc
      · rw [← hE]; exact hx226_1 hc) ho
  simp only [List.cons_append, List.nil_append] at h1
  rw [← en] at h1 h2
  exact ⟨g', (rcN C n), _, _, lw_24 (gI_x hg) (gI_x (gI_on hg h5)) hi hL (by omega) h1 h2 h3 (fun e => h4 (by omega)), gOn_mono h5 (by omega) (by omega), Nat.le_trans tb (by decide)⟩
theorem st_25 (hR : clR C) (hM : mdR M) (hr : relA C M) (hn : relN M) (hg : gI g L xs) (hi : i + 6 ≤ L) (hL : L ≤ 3072) : stRO z 1660 g C M i := by
  intro l6 l7
  obtain ⟨f, ef, gf⟩ := wI_ex (xs (i + 1))
  obtain ⟨o, ho⟩ := hg.2.1
  have er : (((rcP C f) : Nat) : Int) = rfP M f := rel_rcP hM hr f
  have tb : (rcP C f) ≤ 2 := rcP_2 C f
  obtain ⟨g', h1, h2, h3, h4, h5⟩ := ro_step (z := z) (g := g) (jc := 232) (jh := 231) (jm := 234) (cargs := [.ref 1000, .int (wI f)]) (margs := [.ref 1315, .int (wI f)]) (t := (rcP C f)) (v := ((pcN (bsN (shw (cph C (cAp C f.toNat))) ((cph C (cAp C f.toNat)).1 7).toNat) 20 : Nat) : Int) - (pcN (nmN (cph C (cAp C f.toNat)) ((cph C (cAp C f.toNat)).1 7).toNat) 20 : Nat)) (b := if rfP M f = 0 then ((cnB (unB (mph M f.toNat)) ((mph M f.toNat).1 7).toNat : Nat) : Int) else 0) (o := o)
    (fun h => c232 hR gf) (fun h => by rw [er]; exact p234 hM gf) (fun e => st25 hR hM hr hn e)
    (fun H G o hc ho => hp231 hc ho)
    (fun H G E hE hc => by
      have e9 : E = 0 ∨ E = 1 := by omega
      rcases e9 with rfl | rfl
      · rw [← hE]; exact hx231_0 hc
      · rw [← hE]; exact hx231_1 hc) ho
  simp only [List.cons_append, List.nil_append] at h1
  rw [← ef] at h1 h2
  exact ⟨g', (rcP C f), _, _, lw_25 (gI_x hg) (gI_x (gI_on hg h5)) hi hL (by omega) h1 h2 h3 (fun e => h4 (by omega)), gOn_mono h5 (by omega) (by omega), Nat.le_trans tb (by decide)⟩
theorem st_35 (hR : clR C) (hM : mdR M) (hr : relA C M) (hn : relN M) (hg : gI g L xs) (hi : i + 6 ≤ L) (hL : L ≤ 3072) : stRO z 2379 g C M i := by
  intro l6 l7
  obtain ⟨f, ef, gf⟩ := wI_ex (xs (i + 1))
  obtain ⟨s, es, gs⟩ := wI_ex (xs (i + 2))
  obtain ⟨w, ew, gw⟩ := wI_ex (xs (i + 3))
  obtain ⟨o, ho⟩ := hg.2.1
  have er : (((if rcP C f = 0 then (if tgOk (bsN (shw (cph C (cAp C f.toNat))) ((cph C (cAp C f.toNat)).1 7).toNat) s w = true then 0 else 3) else rcP C f) : Nat) : Int) = rfG M f s w := rel_rcG hR hM hr f s w
  have tb : (if rcP C f = 0 then (if tgOk (bsN (shw (cph C (cAp C f.toNat))) ((cph C (cAp C f.toNat)).1 7).toNat) s w = true then 0 else 3) else rcP C f) ≤ 3 := by have := rcP_2 C f; (repeat' split) <;> omega
  obtain ⟨g', h1, h2, h3, h4, h5⟩ := ro_step (z := z) (g := g) (jc := 290) (jh := 289) (jm := 292) (cargs := [.ref 1000, .int (wI f), .int (wI s), .int (wI w)]) (margs := [.ref 1315, .int (wI f), .int (wI s), .int (wI w)]) (t := (if rcP C f = 0 then (if tgOk (bsN (shw (cph C (cAp C f.toNat))) ((cph C (cAp C f.toNat)).1 7).toNat) s w = true then 0 else 3) else rcP C f)) (v := tgF (decide (w < 2)) s.toNat.testBit (tgV (cph C (cAp C f.toNat)) w) (if w < 2 then 1000 else 0) ((cph C (cAp C f.toNat)).1 7).toNat) (b := if rfG M f s w = 0 then tgF (decide (w < 2)) s.toNat.testBit (tgV (mph M f.toNat) w) (if w < 2 then 1000000000 else -1) ((mph M f.toNat).1 7).toNat else 0) (o := o)
    (fun h => c290 hR gf gs gw) (fun h => by rw [er]; exact p292 hM gf gs gw) (fun e => st35 hR hM hr gs er e)
    (fun H G o hc ho => hp289 hc ho)
    (fun H G E hE hc => by
      have e9 : E = 0 ∨ E = 1 ∨ E = 2 := by omega
      rcases e9 with rfl | rfl | rfl
      · rw [← hE]; exact hx289_0 hc
      · rw [← hE]; exact hx289_1 hc
      · rw [← hE]; exact hx289_2 hc) ho
  simp only [List.cons_append, List.nil_append] at h1
  rw [← ef, ← es, ← ew] at h1 h2
  exact ⟨g', (if rcP C f = 0 then (if tgOk (bsN (shw (cph C (cAp C f.toNat))) ((cph C (cAp C f.toNat)).1 7).toNat) s w = true then 0 else 3) else rcP C f), _, _, lw_35 (gI_x hg) (gI_x (gI_on hg h5)) hi hL (by omega) h1 h2 h3 (fun e => h4 (by omega)), gOn_mono h5 (by omega) (by omega), Nat.le_trans tb (by decide)⟩
end ST3
