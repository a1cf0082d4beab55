/-! ===== the law, run from its start (behind wip/whole/later/85, 87; c8.tmp stands in for them in tries) ===== -/
theorem st_gS {L : Nat} {xs : Nat → Int32} : gS (st_h L xs) := by
  have k1 : ∀ i : Fin 85, st_by.getD i.val [] = (sbT i.val).map (fun c => wI ((c : Nat) : Int)) := by decide +kernel
  have k2 : ∀ j : Fin 100, st_on.getD j.val 0 = wI ((48 + j.val % 10 : Nat) : Int) ∧ st_te.getD j.val 0 = wI ((48 + j.val / 10 : Nat) : Int) := by decide +kernel
  refine ⟨fun i hi => ⟨?_, fun j => (st_by.getD i []).getD j 0, ?_, fun j hj => ?_⟩, ⟨fun j => st_on.getD j 0, ?_, fun j hj => (k2 ⟨j, hj⟩).1⟩, fun j => st_te.getD j 0, ?_, fun j hj => (k2 ⟨j, hj⟩).2⟩
  · show (if 300 + i = 1 then _ else if 300 + i = 10 then _ else if 300 + i = 11 then _ else if 300 ≤ 300 + i ∧ 300 + i < 385 then some (Sum.inr (50, [Value.ref (300 + i + 100), Value.int 0])) else _) = (_ : Option am_C)
    rw [if_neg (by omega), if_neg (by omega), if_neg (by omega), if_pos (by omega), show 300 + i + 100 = 400 + i by omega, wI_0]
  · show (if 400 + i = 1 then _ else if 400 + i = 10 then _ else if 400 + i = 11 then _ else if 300 ≤ 400 + i ∧ 400 + i < 385 then _ else if 400 ≤ 400 + i ∧ 400 + i < 485 then some (Sum.inl (11, (st_by.getD (400 + i - 400) []).length, Sum.inl (fun j => (st_by.getD (400 + i - 400) []).getD j 0))) else none) = (_ : Option am_C)
    rw [if_neg (by omega), if_neg (by omega), if_neg (by omega), if_neg (by omega), if_pos (by omega), show 400 + i - 400 = i by omega]
    have e : (st_by.getD i []).length = (sbT i).length := by rw [k1 ⟨i, hi⟩, List.length_map]
    rw [e]
  · show (st_by.getD i []).getD j 0 = _
    rw [k1 ⟨i, hi⟩, List.getD_eq_getElem?_getD, List.getElem?_map, List.getD_eq_getElem?_getD, List.getElem?_eq_getElem hj]
    rfl
  · rfl
  · rfl
theorem whole_runP {z : Bool} (h1 : stpP z 337) (h2 : stpP z 393) {L : Nat} {xs : Nat → Int32} (hL : L ≤ 3072) : ∃ n h', am_run (tb_P z) n 0 0 [some (.ref 1), none, none, none, none, none, none, none] [] (st_h L xs) = some (.inl (some (.int 1)), h') ∧ h'.2.1 ≤ 602024 ∧ h'.2.2 ≤ 7293034 := by
  obtain ⟨h', r1, r2, r3⟩ := run_go (z := z) (h := st_h L xs) (L := L) (xs := xs) h1 h2 hL rfl rfl rfl st_gS
  obtain ⟨n, hn⟩ := am_ru_iff.mp r1
  exact ⟨n, h', hn, r2, r3⟩
