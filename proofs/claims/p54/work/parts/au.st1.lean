/-! ===== the law's step of load ===== -/
theorem strs_mp {g : am_H} {M : tMd} (h : strs g) : strs (mdPut g M) := fun i hi => by
  obtain ⟨a1, ⟨f, a2, a3⟩, a4, a5⟩ := h i hi
  exact ⟨by rw [mdPut_o (by omega)]; exact a1, ⟨f, by rw [mdPut_o (by omega)]; exact a2, a3⟩, a4, a5⟩
theorem strs_cp {g : am_H} {C : tCl} (h : strs g) : strs (clPut g C) := fun i hi => by
  obtain ⟨a1, ⟨f, a2, a3⟩, a4, a5⟩ := h i hi
  exact ⟨by rw [clPut_o (by omega)]; exact a1, ⟨f, by rw [clPut_o (by omega)]; exact a2, a3⟩, a4, a5⟩
theorem strs_ov {g g' : am_H} (h : strs g) (e : ∀ q, q < 1000 → g'.1 q = g.1 q) : strs g' := fun i hi => by
  obtain ⟨a1, ⟨f, a2, a3⟩, a4, a5⟩ := h i hi
  exact ⟨by rw [e _ (by omega)]; exact a1, ⟨f, by rw [e _ (by omega)]; exact a2, a3⟩, a4, a5⟩
section ST1
variable {z : Bool} {g : am_H} {C : tCl} {M : tMd} {xs : Nat → Int32} {L i cap : Nat}
end ST1
