/-! ===== the law's entry: from its first row to the loop ===== -/
theorem C0i_ph (a : Nat) (ha : a ≠ 1001) : phR (cph C0i a) := by
  have e1 : ∀ k, (cph C0i a).1 k = 0 := fun k => C0i_0 ha
  have e2 : ∀ c i, (cph C0i a).2 c i = 0 := fun c i => by
    show (if c < 4 then C0i.2.1 (a + 1 + c) else fun _ => 0) i = 0
    split <;> rfl
  unfold phR
  refine ⟨fun k => by rw [e1]; decide, by rw [e1]; decide, by rw [e1]; decide, fun c i => by rw [e2]; decide, fun i => by rw [e2]; decide, fun i => by rw [e2]; decide⟩
theorem M0i_ph (f : Nat) : phR (mph M0i f) := by
  have e1 : ∀ k, (mph M0i f).1 k = 0 := fun k => by
    show (if k = 0 then (0 : Int) else if k = 1 then 0 else 0) = 0
    by_cases c : k = 0
    · rw [if_pos c]
    · rw [if_neg c]; split <;> rfl
  have e2 : ∀ c i, -1 ≤ (mph M0i f).2 c i ∧ (mph M0i f).2 c i ≤ 0 := fun c i => by
    unfold mph M0i
    dsimp only
    repeat' split
    all_goals omega
  have e3 : ∀ i, (mph M0i f).2 2 i = 0 := fun i => by
    unfold mph M0i
    dsimp only
    repeat' split
    all_goals first | rfl | omega
  unfold phR
  refine ⟨fun k => by rw [e1]; decide, by rw [e1]; decide, by rw [e1]; decide, fun c i => by have := e2 c i; omega, fun i => by rw [e3]; decide, fun i => by have := e2 3 i; omega⟩
theorem C0i_z {q i : Nat} (h : q ≠ 1001) : C0i.1 q i = 0 := C0i_0 h
theorem M0i_z {k : Nat} (h : k ≠ 9) : M0i.1 k = 0 := if_neg h
theorem co_0 : coI C0i M0i := by
  have hal : alb C0i = 1003 := rfl
  have hcl : clA C0i := Or.inl ⟨rfl, rfl⟩
  have hst : ∀ t, isSt t → 1003 ≤ t := fun t ht => by have := isSt_k ht; omega
  have hP : cPm C0i = 0 := by unfold cPm; exact C0i_z (by rw [hal]; decide)
  have hN : cNm C0i = 0 := by unfold cNm; exact C0i_z (by rw [hal]; decide)
  have hg : C0i.1 (alb C0i) 0 = 0 := C0i_z (by rw [hal]; decide)
  refine ⟨⟨hcl, by rw [hP]; decide, by rw [hN]; decide, by rw [hg]; decide, fun i hi => C0i_ph _ (by unfold cAp; rw [hal]; omega)⟩, ⟨fun t ht i hi => C0i_ph _ (by have := hst t ht; omega), C0i_ph _ (by decide)⟩, ⟨by rw [M0i_z (by decide)]; decide, by rw [M0i_z (by decide)]; decide, by rw [M0i_z (by decide)]; decide, by rw [M0i_z (by decide)]; decide, by rw [M0i_z (by decide)]; decide, by rw [M0i_z (by decide)]; decide, fun f _ => M0i_ph f⟩, ?_, ?_, ?_, ?_, ?_, ?_⟩
  · refine ⟨by rw [hP, M0i_z (by decide), if_pos rfl], by rw [hN, M0i_z (by decide), if_pos rfl], fun h => by rw [M0i_z (by decide)] at h; exact absurd h (by decide), fun f hf => by rw [hP] at hf; omega, rfl, rfl, rfl, by rw [M0i_z (k := 1) (by decide), if_pos rfl]; rfl⟩
  · intro f hf
    rw [M0i_z (by decide)] at hf; omega
  · rw [hg, M0i_z (by decide)]
  · refine ⟨?_, fun _ => M0i_z (by decide), rfl, fun i hi => by rw [M0i_z (by decide)] at hi; omega⟩
    have key : ∀ i : Fin 6, 1094 + 27 * i.val ∈ stS := by decide +kernel
    refine ⟨fun i hi => ⟨key ⟨i, hi⟩, by show 1094 ≤ 1094 + 27 * i; omega, by show 1094 + 27 * i ≤ 1229; omega⟩, fun i j hi hj e => ?_, by rw [C0i_z (by decide)]; decide, by rw [C0i_z (by decide)]; decide⟩
    have e : 1094 + 27 * i = 1094 + 27 * j := e
    omega
  · intro s hs
    refine ⟨rfl, Or.inl rfl, fun _ => rfl, fun _ => C0i_z (by omega), fun h => absurd (show (0 : Int) = 1 from h) (by decide)⟩
  · refine ⟨fun j => ⟨Int.le_refl _, by show (0 : Int) ≤ 999; decide⟩, fun j => ⟨Int.le_refl _, by show (0 : Int) ≤ 999; decide⟩, fun j => ⟨Int.le_refl _, by show (0 : Int) ≤ 999; decide⟩, fun j => ⟨Int.le_refl _, by show (0 : Int) ≤ 999; decide⟩, fun f hf => by rw [M0i_z (by decide)] at hf; omega⟩
