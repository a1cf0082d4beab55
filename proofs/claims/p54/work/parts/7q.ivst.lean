section IVST
variable {z : Bool} {h : am_H} {C : tCl} {M : tMd}
theorem rcP_5 {C : tCl} (hR : clR C) {f : Int} (e : rcP C f = 0) : f.toNat < 5 := by
  have := hR.2.1
  obtain ⟨-, b2, b3⟩ := rcP_0 e
  omega
end IVST
