/-! ===== names given by the law and by the class ===== -/
def lgv (p : tPh) (k : Nat) (nm : Int) : tPh := (p.1, upC p.2 3 (up1 (hgF (p.2 3) nm (p.1 7).toNat) k nm))
theorem hgF_gv {p : tPh} {N nm : Int} (hr : phR p) (hN : phN p N) (hnm : 0 ≤ nm) {i : Nat} (hi : (i : Int) < p.1 7) : hgF (p.2 3) nm (p.1 7).toNat i = gvF (p.2 3) nm (p.1 7).toNat i := by
  have s := (phR_s hr).2.2.2.2.2.2.2
  unfold hgF gvF
  rcases hofF_sp (p.2 3) nm (p.1 7).toNat 0 with ⟨h1, h2⟩ | ⟨j, h1, h2, h3, h4⟩
  · rw [if_pos h1, if_neg (fun h => h2 i (by omega) (by omega) h.2)]
  · rw [if_neg (by omega), h1, Int.toNat_natCast]
    unfold up1
    by_cases c : i = j
    · rw [if_pos c, if_pos ⟨by omega, by rw [c]; exact h4⟩]
    · rw [if_neg c, if_neg (fun h => c (hN.2.1 i j hi (by omega) (by rw [h.2, h4]) (by rw [h.2]; omega)))]
theorem lgv_3 {p : tPh} {k : Nat} {nm : Int} : (lgv p k nm).2 3 = up1 (hgF (p.2 3) nm (p.1 7).toNat) k nm := by
  unfold lgv
  dsimp only
  rw [upC_e]
theorem lgv_c {p : tPh} {k c : Nat} {nm : Int} (h : c ≠ 3) : (lgv p k nm).2 c = p.2 c := upC_n h
theorem hgF_b {f : Nat → Int} {nm : Int} {n i : Nat} : hgF f nm n i = f i ∨ hgF f nm n i = -1 := by
  unfold hgF up1
  by_cases c : hofF f nm n 0 = -1
  · rw [if_pos c]; exact Or.inl rfl
  · rw [if_neg c]
    by_cases c2 : i = (hofF f nm n 0).toNat
    · exact Or.inr (if_pos c2)
    · exact Or.inl (if_neg c2)
theorem lgv_R {p : tPh} {k : Nat} {nm : Int} (hr : phR p) (g : -1 ≤ nm ∧ nm ≤ 19) : phR (lgv p k nm) := by
  have h3 : ∀ i, -1 ≤ (lgv p k nm).2 3 i ∧ (lgv p k nm).2 3 i ≤ 19 := fun i => by
    rw [lgv_3]
    have a := phR_i hr i
    rcases hgF_b (f := p.2 3) (nm := nm) (n := (p.1 7).toNat) (i := i) with e | e
    · unfold up1; rw [e]; split <;> omega
    · unfold up1; rw [e]; split <;> omega
  refine ⟨hr.1, hr.2.1, hr.2.2.1, fun c i => ?_, fun i => ?_, fun i => (h3 i).2⟩
  · by_cases c3 : c = 3
    · rw [c3]; have := h3 i; omega
    · rw [lgv_c c3]; exact hr.2.2.2.1 c i
  · rw [lgv_c (by decide)]; exact hr.2.2.2.2.1 i
theorem lgv_E {p : tPh} {k : Nat} {nm : Int} : psE (lgv p k nm) p := ⟨fun _ _ => rfl, fun c hc => lgv_c (by omega)⟩
theorem lgv_v {p : tPh} {N nm : Int} (hr : phR p) (hN : phN p N) (hnm : 0 ≤ nm) {k i : Nat} (hi : (i : Int) < p.1 7) : (lgv p k nm).2 3 i = if i = k then nm else if p.2 3 i = nm then -1 else p.2 3 i := by
  have s := (phR_s hr).2.2.2.2.2.2.2
  rw [lgv_3]
  unfold up1
  by_cases c : i = k
  · rw [if_pos c, if_pos c]
  · rw [if_neg c, if_neg c, hgF_gv hr hN hnm hi]
    unfold gvF
    by_cases c2 : p.2 3 i = nm
    · rw [if_pos ⟨by omega, c2⟩, if_pos c2]
    · rw [if_neg (fun h => c2 h.2), if_neg c2]
theorem lgv_N {p : tPh} {N nm : Int} (hr : phR p) (hN : phN p N) (hnm : 0 ≤ nm ∧ nm < N) {k : Nat} : phN (lgv p k nm) N := by
  refine ⟨fun i hi => ?_, fun i j hi hj => ?_, hN.2.2⟩
  · have hi : (i : Int) < p.1 7 := hi
    rw [lgv_v hr hN hnm.1 hi]
    have := hN.1 i hi
    split
    · omega
    · split <;> omega
  · have hi : (i : Int) < p.1 7 := hi
    have hj : (j : Int) < p.1 7 := hj
    rw [lgv_v hr hN hnm.1 hi, lgv_v hr hN hnm.1 hj]
    have h2 := hN.2.1 i j hi hj
    intro he hne
    by_cases c1 : i = k
    · by_cases c2 : j = k
      · omega
      · rw [if_pos c1, if_neg c2] at he
        split at he <;> omega
    · rw [if_neg c1] at he hne
      by_cases c2 : j = k
      · rw [if_pos c2] at he
        split at he <;> omega
      · rw [if_neg c2] at he
        by_cases c3 : p.2 3 i = nm
        · rw [if_pos c3] at hne; omega
        · rw [if_neg c3] at he hne
          by_cases c4 : p.2 3 j = nm
          · rw [if_pos c4] at he; omega
          · rw [if_neg c4] at he
            exact h2 he hne
theorem lgv_q {q p : tPh} {N nm : Int} (h : pheq q p) (hr : phR p) (hN : phN p N) (hnm : 0 ≤ nm) {k : Nat} : pheq (gvQ q k nm) (lgv p k nm) := by
  refine ⟨h.1, fun c i hc hi => ?_⟩
  have hi : (i : Int) < q.1 7 := hi
  have e7 := h.1 7 (by decide)
  have s := (phR_s hr).2.2.2.2.2.2.2
  by_cases c3 : c = 3
  · rw [c3, lgv_v hr hN hnm (by omega)]
    show upC q.2 3 (am_up (gvF (q.2 3) nm (q.1 7).toNat) k nm) 3 i = _
    rw [upC_e]
    unfold am_up gvF
    have e := h.2 3 i (by decide) hi
    by_cases c1 : i = k
    · rw [if_pos c1, if_pos c1]
    · rw [if_neg c1, if_neg c1, e]
      by_cases c2 : p.2 3 i = nm
      · rw [if_pos ⟨by omega, c2⟩, if_pos c2]
      · rw [if_neg (fun h => c2 h.2), if_neg c2]
  · rw [lgv_c c3]
    show upC q.2 3 _ c i = _
    rw [upC_n c3]
    exact h.2 c i hc hi
