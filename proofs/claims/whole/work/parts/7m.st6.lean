/-! ===== the law's step of window (printed by wip/gen/genst2.py) ===== -/
theorem wcF_pheq {q p : tPh} (he : pheq q p) : wcF q = wcF p := by
  funext w x
  unfold wcF
  rw [shS_eq he]
  refine cnB_congr fun k _ => ?_
  by_cases hs : shS p k = true
  · rw [pheq_shX he (by rw [← shS_eq he] at hs; exact shS_lt hs)]
  · simp [hs]
theorem wn_pheq {q p : tPh} (he : pheq q p) {w b : Int} : wnS q w b = wnS p w b := by
  unfold wnS
  rw [wcF_pheq he, shS_eq he]
  have hx : ∀ k, shS p k = true → shX q k = shX p k := fun k hs => pheq_shX he (by rw [← shS_eq he] at hs; exact shS_lt hs)
  have e1 : (∃ k, shS p k = true ∧ b = shX q k - w + 1) = (∃ k, shS p k = true ∧ b = shX p k - w + 1) := propext ⟨fun ⟨k, a, c⟩ => ⟨k, a, by rw [← hx k a]; exact c⟩, fun ⟨k, a, c⟩ => ⟨k, a, by rw [hx k a]; exact c⟩⟩
  have e2 : (∀ k, shS p k = true → 0 ≤ shX q k - w + 1 → wcF p w (shX q k - w + 1) ≤ wcF p w b ∧ (wcF p w (shX q k - w + 1) = wcF p w b → b ≤ shX q k - w + 1)) = (∀ k, shS p k = true → 0 ≤ shX p k - w + 1 → wcF p w (shX p k - w + 1) ≤ wcF p w b ∧ (wcF p w (shX p k - w + 1) = wcF p w b → b ≤ shX p k - w + 1)) := propext ⟨fun h k a => by have := h k a; rw [hx k a] at this; exact this, fun h k a => by have := h k a; rw [← hx k a] at this; exact this⟩
  rw [e1, e2]
section ST6
variable {z : Bool} {g : am_H} {C : tCl} {M : tMd} {xs : Nat → Int32} {L i : Nat}
theorem st_36 (hR : clR C) (hM : mdR M) (hr : relA C M) (hn : relN M) (hG : C.1 (alb C) 0 = M.1 24) (hg : gI g L xs) (hi : i + 6 ≤ L) (hL : L ≤ 3072) : stE z 2459 g C M i := by
  intro l6 l7
  obtain ⟨f, ef, gf⟩ := wI_ex (xs (i + 1))
  obtain ⟨w, ew, gw⟩ := wI_ex (xs (i + 2))
  obtain ⟨o, ho⟩ := hg.2.1
  obtain ⟨g', C', M', t, v, b, hRt, hQ, hn9, h0, hv, h1, h2, h3, h4, h5⟩ := gn_step (z := z) (g := g) (M := M) (jc := 294) (jh := 293) (jm := 297) (cargs := [.ref 1000, .int (wI f), .int (wI w)]) (margs := [.ref 1315, .int (wI f), .int (wI w)]) (nE := 3) (o := o)
    (fun h => c294 hR gf gw) (fun h => p297 hM gf gw)
    (fun t v C' b M' k1 k2 => by
      have er := rel_rcP hM hr f
      have e2 := rcP_2 C f
      rcases k1 with ⟨a1, rfl, rfl⟩ | ⟨a1, p, rfl, a2, a3⟩
      · rcases k2 with ⟨b1, rfl⟩ | ⟨b1, -⟩ | ⟨b1, -⟩
        · exact ⟨by omega, by rw [mdT_1, er], fun c => absurd c a1⟩
        · omega
        · omega
      · obtain ⟨c1, c2, c3, c4⟩ := rel_rf hM hr a1
        have s := phR_s c3
        have hq := (dph (h := (fun _ => none, 0, 0)) hR a1).2
        rw [c4.1 4 (by decide), c4.1 2 (by decide)] at a3
        rcases k2 with ⟨b1, rfl⟩ | ⟨b1, b2, rfl⟩ | ⟨b1, b2, rfl, b3⟩
        · exact absurd c1 b1
        · rcases a3 with ⟨d1, d2, d3⟩ | ⟨d1, d2⟩
          · exact absurd ⟨d1, d2⟩ b2
          · exact ⟨by omega, by rw [mdT_1, d2]; rfl, fun c => by omega⟩
        · rcases a3 with ⟨d1, d2, d3, d4⟩ | ⟨d1, d2⟩
          · refine ⟨by omega, by rw [mdT_1, d3]; rfl, fun _ => ?_⟩
            rw [wn_pheq c4] at d4
            refine wn_eq (fun k hk => ?_) (by omega) d4 b3
            have k2 := (shS_rng c3 hk).2.2.2.2
            simp only [shw, decide_eq_true_eq] at k2
            unfold shX
            split <;> omega
          · exact absurd b2 d1)
    (fun H G o t v C' k1 k2 hc ho => hp293 hc ho)
    (fun H G E hE hc => by
      have e9 : E = 0 ∨ E = 1 ∨ E = 2 := by omega
      rcases e9 with rfl | rfl | rfl
      · exact hx293_0 hc
      · exact hx293_1 hc
      · exact hx293_2 hc) ho
  simp only [List.cons_append, List.nil_append] at h1
  rw [← ef, ← ew] at h1 h2
  exact ⟨g', C', M', _, _, lw_36 (gI_x hg) (gI_x (gI_on hg h5)) hi hL (by omega) h1 h2 h3 (fun e => h4 (by omega)), h5, rp_clE hRt, (by
      rcases hQ with ⟨-, rfl⟩ | ⟨-, -, rfl⟩ | ⟨-, -, rfl, -⟩
      · rw [mdT_1] at h0; exact mdE_T (by omega)
      · exact mdE_T (by omega)
      · exact mdE_T (by omega))⟩
end ST6
