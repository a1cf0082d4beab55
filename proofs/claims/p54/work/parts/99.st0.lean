/-! ===== the law's step of append ===== -/
section ST0
variable {z : Bool} {g : am_H} {C : tCl} {M : tMd} {xs : Nat → Int32} {L i cap : Nat}
theorem ap_fu {a b c d e : Int32} {F : Nat → Int} (h : fuI g C M cap) (hg : gI g L xs) (cc : M.1 7 + 20 ≤ 1200) (f1 : ∀ j : Nat, (j : Int) < C.1 1001 1 → F j = C.2.1 1002 j) (f2 : ∀ k : Nat, k < 20 → F ((C.1 1001 1).toNat + k) = byB (x5 a b c d e (k / 4)) (k % 4)) : fuI g (ibP C (C.1 1001 1 + 20) F) (up1 (mdT M 0).1 7 (M.1 7 + 20), (apM M (M.1 7).toNat (x5 a b c d e) 20).2) cap := by
  obtain ⟨h1, h2, h3, h4, h5⟩ := h
  obtain ⟨b1, b2, b3, b4⟩ := h3
  have hr := h1.2.2.2.1
  have e7 : C.1 1001 1 = M.1 7 := hr.2.2.2.2.1
  have n1 : ∀ k, k ≠ 0 → k ≠ 7 → up1 (mdT M 0).1 7 (M.1 7 + 20) k = M.1 k := fun k k0 k7 => by
    rw [up1_n k7]; exact up1_n k0
  have n2 : ∀ c', c' ≠ 3 → (apM M (M.1 7).toNat (x5 a b c d e) 20).2 c' = M.2 c' := fun c' hc => upC_n hc
  have d1 : ∀ x, x ≠ 1001 → (ibP C (C.1 1001 1 + 20) F).1 x = C.1 x := fun x hx => by
    funext j
    show (if x = 1001 then _ else C.1 x j) = C.1 x j
    rw [if_neg hx]
  have d2 : ∀ j, j ≠ 1 → (ibP C (C.1 1001 1 + 20) F).1 1001 j = C.1 1001 j := fun j hj => by
    show (if j = 1 then C.1 1001 1 + 20 else C.1 1001 j) = _
    rw [if_neg hj]
  have d3 : ∀ x, x ≠ 1002 → (ibP C (C.1 1001 1 + 20) F).2.1 x = C.2.1 x := fun x hx => if_neg hx
  have d4 : (ibP C (C.1 1001 1 + 20) F).2.1 1002 = F := rfl
  have u1 : (ibP C (C.1 1001 1 + 20) F).1 1001 1 = up1 (mdT M 0).1 7 (M.1 7 + 20) 7 := by
    rw [up1_e, ← e7]; rfl
  refine ⟨coI_G h1 rfl rfl rfl (fun x h1 _ _ _ => d1 x h1) (fun x h1 _ _ => d3 x h1) (n1 1 (by decide) (by decide)) (n1 4 (by decide) (by decide)) (n1 20 (by decide) (by decide)) (n1 24 (by decide) (by decide)) (n1 25 (by decide) (by decide)) (n2 0 (by decide)) (n2 1 (by decide)) (n2 2 (by decide)) (n2 8 (by decide)) (n2 9 (by decide)) ?_ u1 ?_ ?_,
    nmI_of h2 (n1 1 (by decide) (by decide)) (n1 20 (by decide) (by decide)) (n2 5 (by decide)) rfl rfl, ⟨?_, ?_, ?_, fun j hj => ?_⟩, wrI_of h4 (gOn_refl (c := 0) (s := 0) hg) (n1 38 (by decide) (by decide)) (n2 15 (by decide)) (d1 _ (by decide)) rfl, h5⟩
  · show 0 ≤ up1 (mdT M 0).1 7 (M.1 7 + 20) 0 ∧ up1 (mdT M 0).1 7 (M.1 7 + 20) 0 ≤ 9
    rw [up1_n (by decide), mdT_1]; omega
  · rw [d2 2 (by decide)]; exact (hr.2.2.2.2.2.1).trans (n1 8 (by decide) (by decide)).symm
  · rw [d2 3 (by decide)]; exact (hr.2.2.2.2.2.2.1).trans (n1 9 (by decide) (by decide)).symm
  · show 0 ≤ up1 (mdT M 0).1 7 (M.1 7 + 20) 7 ∧ up1 (mdT M 0).1 7 (M.1 7 + 20) 7 ≤ 1200
    rw [up1_e]; omega
  · show 0 ≤ up1 (mdT M 0).1 7 (M.1 7 + 20) 8 ∧ up1 (mdT M 0).1 7 (M.1 7 + 20) 8 ≤ 9
    rw [n1 8 (by decide) (by decide)]; exact b2
  · show -1 ≤ up1 (mdT M 0).1 7 (M.1 7 + 20) 9 ∧ up1 (mdT M 0).1 7 (M.1 7 + 20) 9 ≤ 1200
    rw [n1 9 (by decide) (by decide)]; exact b3
  · have hj : (j : Int) < up1 (mdT M 0).1 7 (M.1 7 + 20) 7 := hj
    rw [up1_e] at hj
    rw [d4]
    have eM : (apM M (M.1 7).toNat (x5 a b c d e) 20).2 3 j = if (M.1 7).toNat ≤ j ∧ j < (M.1 7).toNat + 20 then byM (x5 a b c d e ((j - (M.1 7).toNat) / 4)) ((j - (M.1 7).toNat) % 4) else M.2 3 j := rfl
    show _ ∧ (apM M (M.1 7).toNat (x5 a b c d e) 20).2 3 j = _
    rw [eM]
    by_cases ej : (j : Int) < M.1 7
    · rw [f1 j (by omega), if_neg (by omega)]
      exact b4 j ej
    · rw [if_pos (by omega)]
      have := f2 (j - (M.1 7).toNat) (by omega)
      rw [e7, show (M.1 7).toNat + (j - (M.1 7).toNat) = j by omega] at this
      rw [this]
      exact by_eq _ _
end ST0
