/-! ===== the law, run from its start ===== -/
theorem st_tx : (∀ i : Fin 85, st_by.getD (st_ia.getD i.val 0) [] = (sbT i.val).map (fun c => wI ((c : Nat) : Int))) ∧ ∀ i : Fin 20, st_by.getD (st_ib.getD i.val 0) [] = (lwT i.val).map (fun c => wI ((c : Nat) : Int)) := by decide +kernel
theorem st_dgk : ∀ j : Fin 100, st_on.getD j.val 0 = wI ((48 + j.val % 10 : Nat) : Int) ∧ st_te.getD j.val 0 = wI ((48 + j.val / 10 : Nat) : Int) := by decide +kernel
theorem st_bI {n0 L : Nat} {xs : Nat → Int32} : bI (st_h n0 L xs) L xs := by
  refine ⟨rfl, fun i hi => ⟨?_, 11, fun j => (st_by.getD (st_ib.getD i 0) []).getD j 0, Or.inr rfl, ?_, fun j hj => ?_⟩, ⟨fun j => st_on.getD j 0, rfl, fun j hj => (st_dgk ⟨j, hj⟩).1⟩, fun j => st_te.getD j 0, rfl, fun j hj => (st_dgk ⟨j, hj⟩).2⟩
  · show (if 500 + i = 1 then _ else if 500 + i = 10 then _ else if 500 + i = 11 then _ else if 300 ≤ 500 + i ∧ 500 + i < 385 then _ else if 400 ≤ 500 + i ∧ 500 + i < 485 then _ else if 500 ≤ 500 + i ∧ 500 + i < 520 then some (Sum.inr (50, [Value.ref (500 + i + 20), Value.int 0])) else _) = (_ : Option am_C)
    rw [if_neg (by omega), if_neg (by omega), if_neg (by omega), if_neg (by omega), if_neg (by omega), if_pos (by omega), show 500 + i + 20 = 520 + i by omega, wI_0]
  · show (if 520 + i = 1 then _ else if 520 + i = 10 then _ else if 520 + i = 11 then _ else if 300 ≤ 520 + i ∧ 520 + i < 385 then _ else if 400 ≤ 520 + i ∧ 520 + i < 485 then _ else if 500 ≤ 520 + i ∧ 520 + i < 520 then _ else if 520 ≤ 520 + i ∧ 520 + i < 540 then some (Sum.inl (11, (st_by.getD (st_ib.getD (520 + i - 520) 0) []).length, Sum.inl (fun j => (st_by.getD (st_ib.getD (520 + i - 520) 0) []).getD j 0))) else none) = (_ : Option am_C)
    rw [if_neg (by omega), if_neg (by omega), if_neg (by omega), if_neg (by omega), if_neg (by omega), if_neg (by omega), if_pos (by omega), show 520 + i - 520 = i by omega]
    have e : (st_by.getD (st_ib.getD i 0) []).length = (lwT i).length := by rw [st_tx.2 ⟨i, hi⟩, List.length_map]
    rw [e]
  · show (st_by.getD (st_ib.getD i 0) []).getD j 0 = _
    rw [st_tx.2 ⟨i, hi⟩, List.getD_eq_getElem?_getD, List.getElem?_map, List.getD_eq_getElem?_getD, List.getElem?_eq_getElem hj]
    rfl
theorem st_sts {n0 L : Nat} {xs : Nat → Int32} : strs (st_h n0 L xs) := by
  refine fun i hi => ⟨?_, ⟨fun j => (st_by.getD (st_ia.getD i 0) []).getD j 0, ?_, fun j hj => ?_⟩, by omega, by omega⟩
  · show (if 300 + i = 1 then _ else if 300 + i = 10 then _ else if 300 + i = 11 then _ else if 300 ≤ 300 + i ∧ 300 + i < 385 then some (Sum.inr (50, [Value.ref (300 + i + 100), Value.int 0])) else _) = (_ : Option am_C)
    rw [if_neg (by omega), if_neg (by omega), if_neg (by omega), if_pos (by omega), show 300 + i + 100 = 400 + i by omega, wI_0]
  · show (if 400 + i = 1 then _ else if 400 + i = 10 then _ else if 400 + i = 11 then _ else if 300 ≤ 400 + i ∧ 400 + i < 385 then _ else if 400 ≤ 400 + i ∧ 400 + i < 485 then some (Sum.inl (11, (st_by.getD (st_ia.getD (400 + i - 400) 0) []).length, Sum.inl (fun j => (st_by.getD (st_ia.getD (400 + i - 400) 0) []).getD j 0))) else _) = (_ : Option am_C)
    rw [if_neg (by omega), if_neg (by omega), if_neg (by omega), if_neg (by omega), if_pos (by omega), show 400 + i - 400 = i by omega]
    have e : (st_by.getD (st_ia.getD i 0) []).length = (sbT i).length := by rw [st_tx.1 ⟨i, hi⟩, List.length_map]
    rw [e]
  · show (st_by.getD (st_ia.getD i 0) []).getD j 0 = _
    rw [st_tx.1 ⟨i, hi⟩, List.getD_eq_getElem?_getD, List.getElem?_map, List.getD_eq_getElem?_getD, List.getElem?_eq_getElem hj]
    rfl
theorem whole_run {L : Nat} (hL : L ≤ 260) (xs : Nat → Int32) : ∃ n0, (900 ≤ n0 ∧ n0 ≤ 1000) ∧ ∀ z, ∃ n h', am_run (tb_PP z) n 0 0 [some (.ref 1), none, none, none, none] [] (st_h n0 L xs) = some (.inl (some (.int 1)), h') ∧ h'.2.1 ≤ 460000 ∧ h'.2.2 ≤ 1460000 := by
  obtain ⟨K, hK, r⟩ := law_run (n := L) (by omega) xs
  refine ⟨1000 - K, by omega, fun z => ?_⟩
  obtain ⟨X', r1, r2, r3⟩ := r z (st_h (1000 - K) L xs) st_bI st_sts (by show 1000 - K + K = 1000; omega)
  have e1 : wI 1 = 1 := by decide +kernel
  rw [en0, e1] at r1
  obtain ⟨n, hn⟩ := am_ru_iff.mp r1
  refine ⟨n, X', gh_run n 0 0 _ _ _ _ (by decide) hn, r2, ?_⟩
  have : (st_h (1000 - K) L xs).2.2 = 0 := rfl
  omega
theorem whole_start {p : Program} {e : Env} {s : State} {m : MethodId} {below : List Frame} {meth : Method} {c : Code} (l : Launch) (hflags : l.flags = flags0) {b L : Nat} {xs : Nat → Int32} (hL : L ≤ 260) (C0 : lw_At p s m meth c b L xs) : W p l e room_1 s m #[Value.ref b] below meth c s.heap [] 0 0 (lw_Z below #[Value.ref b] s) (entryFrame m ([Value.ref b] : List Value).toArray 5) := by
  obtain ⟨n0, h0, r⟩ := whole_run hL xs
  exact st_go l hflags hL C0 h0 r
