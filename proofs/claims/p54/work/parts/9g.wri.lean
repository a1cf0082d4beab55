/-! ===== the class's writer: words, items ===== -/
def strs (H : am_H) : Prop := ∀ i, i < 85 → stAt H (300 + i) (400 + i) (sbT i)
theorem strs_of {g : am_H} (h : gS g) : strs g := fun i hi => by
  obtain ⟨a1, a2⟩ := h.1 i hi
  exact ⟨a1, a2, by omega, by omega⟩
theorem sbT_ok : ∀ i, i < 85 → (sbT i).length ≤ 40 ∧ ∀ j, j < (sbT i).length → (sbT i).getD j 0 ≤ 127 := by
  have key : ∀ i : Fin 85, (sbT i.val).length ≤ 40 ∧ (sbT i.val).all (fun c => decide (c ≤ 127)) = true := by decide +kernel
  intro i hi
  obtain ⟨a, b⟩ := key ⟨i, hi⟩
  refine ⟨a, fun j hj => ?_⟩
  rw [List.getD_eq_getElem?_getD, List.getElem?_eq_getElem hj]
  have := (List.all_eq_true.mp b) _ (List.getElem_mem hj)
  exact of_decide_eq_true this
section WRI
variable {z : Bool} {H : am_H} {C : tCl} {l : List Nat} {cap : Nat} {M : tMd}
/-- two names' persons form one item -/
def oneB (M : tMd) (n m : Int) : Bool := if n = -1 ∨ m = -1 then decide (n = m) else decide (agN (wl M n.toNat) (wl M m.toNat) 8 0 = 0)
end WRI
