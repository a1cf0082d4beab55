theorem piPut_comm {C : tCl} {p r : tPi} : piPut (piPut C 1070 p) 1081 r = piPut (piPut C 1081 r) 1070 p := by
  refine Prod.ext (funext fun q => ?_) (Prod.ext (funext fun q => ?_) rfl)
  · simp only [piPut]
    by_cases e1 : q = 1081
    · subst e1; rfl
    · rw [if_neg e1, if_neg e1]
  · simp only [piPut]
    by_cases e1 : 1081 + 1 ≤ q ∧ q ≤ 1081 + 10
    · rw [if_pos e1, if_neg (by omega), if_pos e1]
    · rw [if_neg e1, if_neg e1]
section INV
variable {z : Bool} {h : am_H} {C : tCl} {P : Nat}
end INV
