/-! ===== places where nobody stands; the placing is one ===== -/
theorem lr_none {M : tMd} {f : Nat} {rc : Int} {R L Q : Nat → Int} (hl : lrOK M f rc R L Q) {m : Nat} (hm : m ≤ 12) {r j : Nat} (hr : r < 12) (hn : ¬ ((r : Int) < rc ∧ (j : Int) < Q r)) : fnF (stP R L r j) m 0 = -1 := by
  obtain ⟨l1, l2, l3⟩ := hl
  rcases fnF_sp (stP R L r j) m 0 with ⟨c, -⟩ | ⟨i, c, -, i2, i3⟩
  · exact c
  · exfalso
    unfold stP at i3
    obtain ⟨b1, b2, b3⟩ := of_decide_eq_true i3
    have hi : i < 12 := by omega
    have hs : shS (mph M f) i = true := by
      by_cases hs : shS (mph M f) i = true
      · exact hs
      · have := l2 i hi
        unfold plF at this
        rw [if_neg hs] at this
        omega
    have a1 := rwOK_rng l1 hi hs
    have a2 := lfN_lt (shS (mph M f)) R (shX (mph M f)) hi hs
    have a3 := l2 i hi
    unfold plF at a3
    rw [if_pos hs] at a3
    have a4 := l3 r hr
    rw [b1] at a2
    exact hn ⟨by omega, by omega⟩
theorem fnF_congr {P Q : Nat → Bool} : ∀ d k, (∀ i, k ≤ i → i < k + d → P i = Q i) → fnF P d k = fnF Q d k
  | 0, _, _ => rfl
  | d + 1, k, h => by
    unfold fnF
    rw [h k (by omega) (by omega), fnF_congr d (k + 1) (fun i h1 h2 => h i (by omega) (by omega))]
theorem lr_uni {M : tMd} {f : Nat} {rc rc' : Int} {R L Q R' L' Q' : Nat → Int} (hl : lrOK M f rc R L Q) (hl' : lrOK M f rc' R' L' Q') {m : Nat} (hm : m ≤ 12) (r j : Int) : fnF (stP R L r j) m 0 = fnF (stP R' L' r j) m 0 := by
  obtain ⟨l1, l2, l3⟩ := hl
  obtain ⟨m1, m2, m3⟩ := hl'
  obtain ⟨-, u2⟩ := rwOK_uni l1 m1 (fun k _ => rfl) (fun k _ _ => rfl)
  refine fnF_congr m 0 (fun i _ hi => ?_)
  have hi12 : i < 12 := by omega
  unfold stP
  rw [u2 i hi12, l2 i hi12, m2 i hi12]
  unfold plF
  by_cases hs : shS (mph M f) i = true
  · rw [if_pos hs, if_pos hs, lfN_congr hi12 hs u2 (fun o _ _ => rfl)]
  · rw [if_neg hs, if_neg hs]
