/-! ===== the law's steps that only read (printed by wip/gen/genst.py) ===== -/
theorem rcP_2 (C : tCl) (f : Int) : rcP C f ≤ 2 := by
  unfold rcP
  repeat' split
  all_goals omega
theorem rcK_2 (C : tCl) (f k : Int) : rcK C f k ≤ 2 := by
  unfold rcK
  have := rcP_2 C f
  repeat' split
  all_goals omega
theorem rcK_i {C : tCl} {f k : Int} (h : rcK C f k = 0) : ((k.toNat : Nat) : Int) < (cph C (cAp C f.toNat)).1 7 := by
  obtain ⟨h0, h1, h2⟩ := rcK_0 h
  omega
/-- what every step needs of the heap beside class and reference -/
def gI (g : am_H) (L : Nat) (xs : Nat → Int32) : Prop := g.1 1 = some (.inl (10, L, .inl xs)) ∧ (∃ o, g.1 1332 = some (ouC o)) ∧ 1334 ≤ g.2.1 ∧ ∃ o, g.1 1333 = some (ouD o)
theorem gI_on {g g' : am_H} {L c s : Nat} {xs : Nat → Int32} (h : gI g L xs) (h2 : gOn g g' c s) : gI g' L xs := by
  obtain ⟨a, b, d, e⟩ := h
  obtain ⟨k1, k2, k3, k4, k5, k6⟩ := h2
  exact ⟨by rw [k1 1 (by omega) (by omega) (by omega), a], k2, by omega, k3 e⟩
theorem gI_x {g : am_H} {L : Nat} {xs : Nat → Int32} {C : tCl} {M : tMd} (h : gI g L xs) : (clPut (mdPut g M) C).1 1 = some (.inl (10, L, .inl xs)) := by
  rw [clPut_o (by omega), mdPut_o (by omega), h.1]
theorem gOn_refl {g : am_H} {L c s : Nat} {xs : Nat → Int32} (h : gI g L xs) : gOn g g c s := ⟨fun _ _ _ _ => rfl, h.2.1, fun h => h, Nat.le_refl _, Nat.le_add_right _ _, Nat.le_add_right _ _⟩
theorem gOn_mono {g g' : am_H} {c s c' s' : Nat} (h : gOn g g' c s) (h1 : c ≤ c') (h2 : s ≤ s') : gOn g g' c' s' := by
  obtain ⟨k1, k2, k3, k4, k5, k6⟩ := h
  exact ⟨k1, k2, k3, k4, by omega, by omega⟩
theorem gOn_trans {g g' g'' : am_H} {c s c' s' : Nat} (h : gOn g g' c s) (h' : gOn g' g'' c' s') : gOn g g'' (c + c') (s + s') := by
  obtain ⟨k1, k2, k3, k4, k5, k6⟩ := h
  obtain ⟨l1, l2, l3, l4, l5, l6⟩ := h'
  exact ⟨fun q h1 h2 h3 => by rw [l1 q (by omega) h2 h3, k1 q h1 h2 h3], l2, fun h => l3 (k3 h), by omega, by omega, by omega⟩
/-- the law's step from a case's row to the loop's head, where only the heap's counters, the answer's row and the reference's code change -/
def stRO (z : Bool) (pc : Nat) (g : am_H) (C : tCl) (M : tMd) (i : Nat) : Prop := ∀ l6 l7 : Option Value, ∃ (g' : am_H) (t : Nat) (m6 m7 : Option Value),
  ru_n z 0 pc [some (.ref 1), some (.ref 1000), some (.ref 1315), some (.ref 1332), some (.ref 1333), some (.int (wI i)), l6, l7] [] (clPut (mdPut g M) C) =
  ru_n z 0 28 [some (.ref 1), some (.ref 1000), some (.ref 1315), some (.ref 1332), some (.ref 1333), some (.int (wI (i + 6))), m6, m7] [] (clPut (mdPut g' (mdT M t)) C) ∧ gOn g g' 1 6 ∧ t ≤ 9
theorem oR_congr {t : Nat} {v v' : Option Value} {g g' : am_H} (h : t = 0 → v = v') : oR t v g g' = oR t v' g g' := by
  unfold oR
  split
  · rw [h (by assumption)]
  · rfl
theorem cq170 {z : Bool} {h : am_H} {C : tCl} (hR : clR C) {f : Int} (g : -2147483648 ≤ f ∧ f < 2147483648) : ru_ev z 170 [.ref 1000, .int (wI f)] (clPut h C) = oR (rcP C f) (some (.int (wI (if rcP C f = 0 then (cph C (cAp C f.toNat)).1 6 else 0)))) (clPut h C) (clPut (thr h) C) := by
  rw [c170 hR g]
  exact oR_congr fun e => by rw [if_pos e]
theorem z9171 {M : tMd} {C : tCl} (hM : mdR M) (_hr : relA C M) (f : Int) : (if rfP M f = 0 then (mph M f.toNat).1 6 else 0) = 0 ∨ (if rfP M f = 0 then (mph M f.toNat).1 6 else 0) = 1 := by
  have h9 := hM.2.2.2.2.2.2
  split
  · rename_i e
    have h5 : f.toNat < 5 := by
      have r := hM.2.2.2.2.1
      unfold rfP at e
      split at e
      · omega
      · split at e <;> omega
    have h6 := (h9 _ h5).1 6
    have h7 := (h9 _ h5).2.1
    omega
  · exact Or.inl rfl
theorem z9170 {M : tMd} {C : tCl} (hM : mdR M) (hr : relA C M) (f : Int) : (if rcP C f = 0 then (cph C (cAp C f.toNat)).1 6 else 0) = 0 ∨ (if rcP C f = 0 then (cph C (cAp C f.toNat)).1 6 else 0) = 1 := by
  have h := z9171 hM hr f
  have e := rel_rcP hM hr f
  by_cases e1 : rcP C f = 0
  · have e2 : rfP M f = 0 := by rw [← e, e1]; rfl
    rw [if_pos e2] at h
    rw [if_pos e1, (rel_ph hr e1).1 6 (by decide)]
    exact h
  · rw [if_neg e1]; exact Or.inl rfl
section ST
variable {z : Bool} {g : am_H} {C : tCl} {M : tMd} {xs : Nat → Int32} {L i : Nat}
end ST
