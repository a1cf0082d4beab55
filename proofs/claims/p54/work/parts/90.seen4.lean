theorem wdL_0 {f g : Nat → Int} (hf : ltR f) (hg : ltR g) : (wdL f = wdL g) = (agN f g 8 0 = 0) := by
  rw [wdL_eq hf hg]
  apply propext
  rw [(wdS_ag hf hg 8 0 (by omega)).2.2]
  exact ⟨fun h i _ hi => h i (by omega), fun h i hi => h i (Nat.zero_le _) (by omega)⟩
section SEEN4
variable {z : Bool} {h : am_H} {C : tCl} {M : tMd}
end SEEN4
