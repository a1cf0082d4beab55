theorem slot_k {s : Nat} (hs : s < 2) : isSt (1261 + 27 * s) ∧ clk 1256 = 106 ∧ cln 1256 = 2 := by
  refine ⟨?_, by decide +kernel, by decide +kernel⟩
  have : s = 0 ∨ s = 1 := by omega
  rcases this with rfl | rfl <;> (unfold isSt; decide)
section SAV
variable {z : Bool} {h : am_H} {C : tCl} {M : tMd}
end SAV
