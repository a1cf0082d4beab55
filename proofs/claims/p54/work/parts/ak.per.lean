/-! ===== a line that tells a person ===== -/
/-- the reference's read photos with one more person -/
def pnM (M : tMd) (F m : Nat) (x y : Int) : tMd := (M.1, upC M.2 10 (up1 (up1 (up1 (M.2 10) (54 * F + 6 + 4 * m) x) (54 * F + 6 + 4 * m + 1) y) (54 * F + 5) ((m : Int) + 1)))
theorem pnM_n {M : tMd} {F m c : Nat} {x y : Int} (h : c ≠ 10) : (pnM M F m x y).2 c = M.2 c := upC_n h
section PEN
variable {z : Bool} {M M0 : tMd} {C C0 : tCl} {n s B : Nat}
theorem rd_pnM (hB : B = 1003 ∨ B = 1034) (hr : rdI B C0 M0 C M) {F m : Nat} (hF : (F : Int) < M.1 29) (hm : M.2 10 (54 * F + 5) = (m : Int)) (h12 : m < 12) {x y : Int} (hx : 0 ≤ x ∧ x ≤ 998) (hy : 0 ≤ y ∧ y ≤ 998) : rdI B C0 M0 (phP C (B + 6 + 5 * F) (adQ (cph C (B + 6 + 5 * F)) x y)) (pnM M F m x y) := by
  obtain ⟨a1, a2, a3, a4, a5, a6, a7⟩ := hr
  obtain ⟨p1, p2, ⟨p3, p4⟩, p5⟩ := a7
  have hF5 : F < 5 := by omega
  have o1 : ∀ q, q ≠ B + 6 + 5 * F → (phP C (B + 6 + 5 * F) (adQ (cph C (B + 6 + 5 * F)) x y)).1 q = C.1 q := fun q h1 => phP_1 h1
  have o2 : ∀ q, (q < B + 6 + 5 * F + 1 ∨ B + 6 + 5 * F + 4 < q) → (phP C (B + 6 + 5 * F) (adQ (cph C (B + 6 + 5 * F)) x y)).2.1 q = C.2.1 q := fun q h1 => phP_2 h1
  have n10 : ∀ c, c ≠ 10 → (pnM M F m x y).2 c = M.2 c := fun c hc => upC_n hc
  have s10 : ∀ j, (pnM M F m x y).2 10 j = if j = 54 * F + 5 then (m : Int) + 1 else if j = 54 * F + 6 + 4 * m + 1 then y else if j = 54 * F + 6 + 4 * m then x else M.2 10 j := fun j => rfl
  have cne : ∀ f, f < 5 → f ≠ F → cph (phP C (B + 6 + 5 * F) (adQ (cph C (B + 6 + 5 * F)) x y)) (B + 6 + 5 * f) = cph C (B + 6 + 5 * f) := fun f hf hne => phP_ph (by omega)
  have x7 := p5 F hF
  have e7 : (cph C (B + 6 + 5 * F)).1 7 = (m : Int) := by rw [x7.1 7 (by decide), ← hm]; rfl
  obtain ⟨y1, y2⟩ := phP_self (C := C) (a := B + 6 + 5 * F) (q := adQ (cph C (B + 6 + 5 * F)) x y)
  obtain ⟨c0, c1, c2, c3, c4, f7, fk⟩ := adQ_c (q := cph C (B + 6 + 5 * F)) (px := x) (py := y)
  rw [e7, Int.toNat_natCast] at c0 c1 c2 c3
  refine ⟨ldC_trans a1 ⟨fun q h1 h2 => o1 q (by omega), fun q h1 => o2 q (by omega), fun _ _ _ _ _ => rfl, fun _ _ _ => rfl⟩, fun i hi => by rw [o1 _ (by omega)]; exact a2 i hi, ldM_trans a3 ⟨fun k _ _ _ => rfl, fun c _ _ _ h => n10 c h⟩, a4, ?_, ?_, ?_, p2, ⟨fun j hj => ?_, fun f hf => ?_⟩, fun f hf => ?_⟩
  · intro i hi
    by_cases e : i = F
    · subst e
      have hR := adQ_R (px := x) (py := y) (a5 i hi) (by omega) (by omega) (by omega)
      refine ⟨fun k => by rw [y1]; exact hR.1 k, by rw [y1]; exact hR.2.1, by rw [y1]; exact hR.2.2.1, fun c j => ?_, fun j => by rw [y2 2 (by decide)]; exact hR.2.2.2.2.1 j, fun j => by rw [y2 3 (by decide)]; exact hR.2.2.2.2.2 j⟩
      by_cases hc : c < 4
      · rw [y2 c hc]; exact hR.2.2.2.1 c j
      · show -1 ≤ (if c < 4 then _ else fun _ => (0 : Int)) j ∧ (if c < 4 then _ else fun _ => (0 : Int)) j ≤ 999
        rw [if_neg hc]; omega
    · rw [cne i hi e]; exact a5 i hi
  · exact rdN_of a6 (by rw [o1 _ (by omega)]) rfl rfl rfl (n10 6 (by decide))
  · rw [o1 _ (by omega)]; exact p1
  · rw [s10]
    have := p3 j hj
    repeat' split
    all_goals omega
  · obtain ⟨b1, b2, b3, b4, b5, b6⟩ := p4 f hf
    rw [s10 (54 * f), if_neg (by omega), if_neg (by omega), if_neg (by omega), s10 (54 * f + 1), if_neg (by omega), if_neg (by omega), if_neg (by omega), s10 (54 * f + 4), if_neg (by omega), if_neg (by omega), if_neg (by omega)]
    refine ⟨b1, b2, b3, ?_, fun h => ?_, fun i hi => ?_⟩
    · rw [s10]
      by_cases e : f = F
      · subst e; rw [if_pos rfl]; omega
      · rw [if_neg (by omega), if_neg (by omega), if_neg (by omega)]; exact b4
    · have h : M.1 29 ≤ (f : Int) := h
      rw [s10, if_neg (by omega), if_neg (by omega), if_neg (by omega)]; exact b5 h
    · rw [s10, if_neg (by omega), if_neg (by omega), if_neg (by omega), s10, if_neg (by omega), if_neg (by omega), if_neg (by omega)]; exact b6 i hi
  · have hf : (f : Int) < M.1 29 := hf
    by_cases e : f = F
    · subst e
      have b6 := (p4 f hF5).2.2.2.2.2
      refine ⟨fun k hk => ?_, fun c i hc hi => ?_⟩
      · rw [y1]
        by_cases e2 : k = 7
        · subst e2
          rw [f7, e7]
          show (m : Int) + 1 = (pnM M f m x y).2 10 (54 * f + 5)
          rw [s10, if_pos rfl]
        · rw [fk k e2, x7.1 k hk]
          unfold msf rdW
          dsimp only
          have sN : ∀ j, j ≠ 54 * f + 5 → j ≠ 54 * f + 6 + 4 * m + 1 → j ≠ 54 * f + 6 + 4 * m → (pnM M f m x y).2 10 j = M.2 10 j := fun j h1 h2 h3 => by rw [s10, if_neg h1, if_neg h2, if_neg h3]
          rw [sN (54 * f + 2) (by omega) (by omega) (by omega), sN (54 * f + 3) (by omega) (by omega) (by omega), sN (54 * f + (k - 2)) (by omega) (by omega) (by omega)]
      · rw [y1, f7, e7] at hi
        have i12 : i < 12 := by omega
        rw [y2 c hc]
        obtain ⟨x0, x1, x2, x3⟩ := msf_c (S := (pnM M f m x y).2 10) (W := rdW ((pnM M f m x y).2 10) 2) (H := rdW ((pnM M f m x y).2 10) 3) (f := f) i12
        obtain ⟨g0, g1, g2, g3⟩ := msf_c (S := M.2 10) (W := rdW (M.2 10) 2) (H := rdW (M.2 10) 3) (f := f) i12
        have hcc : c = 0 ∨ c = 1 ∨ c = 2 ∨ c = 3 := by omega
        by_cases e2 : i = m
        · subst e2
          rcases hcc with rfl | rfl | rfl | rfl
          · rw [c0, x0, up1_e, s10, if_neg (by omega), if_neg (by omega), if_pos (by omega)]
          · rw [c1, x1, up1_e, s10, if_neg (by omega), if_pos (by omega)]
          · rw [c2, x2, up1_e, s10, if_neg (by omega), if_neg (by omega), if_neg (by omega), (b6 i i12).1]
          · rw [c3, x3, up1_e, s10, if_neg (by omega), if_neg (by omega), if_neg (by omega), (b6 i i12).2]; rfl
        · have e9 := x7.2 c i hc (by omega)
          rcases hcc with rfl | rfl | rfl | rfl
          · rw [c0, x0, up1_n e2, s10, if_neg (by omega), if_neg (by omega), if_neg (by omega), e9, g0]
          · rw [c1, x1, up1_n e2, s10, if_neg (by omega), if_neg (by omega), if_neg (by omega), e9, g1]
          · rw [c2, x2, up1_n e2, s10, if_neg (by omega), if_neg (by omega), if_neg (by omega), e9, g2]
          · rw [c3, x3, up1_n e2, s10, if_neg (by omega), if_neg (by omega), if_neg (by omega), e9, g3]
    · rw [cne f (by omega) e]
      have x8 := p5 f hf
      have b4 := (p4 f (by omega)).2.2.2.1
      refine pheq_S x8 (msfB (fun j h1 h2 => by rw [s10, if_neg (by omega), if_neg (by omega), if_neg (by omega)])) ?_
      rw [x8.1 7 (by decide)]; exact b4
end PEN
