/-! ===== the law's entry: from its first row to the loop ===== -/
theorem C0i_ph (a : Nat) (ha : a ≠ 1001) : phR (cph C0i a) := by
  have e1 : ∀ k, (cph C0i a).1 k = 0 := fun k => C0i_0 ha
  have e2 : ∀ c i, (cph C0i a).2 c i = 0 := fun c i => by
    show (if c < 4 then C0i.2.1 (a + 1 + c) else fun _ => 0) i = 0
    split <;> rfl
  unfold phR
  refine ⟨fun k => by rw [e1]; decide, by rw [e1]; decide, by rw [e1]; decide, fun c i => by rw [e2]; decide, fun i => by rw [e2]; decide, fun i => by rw [e2]; decide⟩
theorem M0i_ph (f : Nat) : phR (mph M0i f) := by
  have e1 : ∀ k, (mph M0i f).1 k = 0 := fun k => by
    show (if k = 0 then (0 : Int) else if k = 1 then 0 else 0) = 0
    by_cases c : k = 0
    · rw [if_pos c]
    · rw [if_neg c]; split <;> rfl
  have e2 : ∀ c i, -1 ≤ (mph M0i f).2 c i ∧ (mph M0i f).2 c i ≤ 0 := fun c i => by
    unfold mph M0i
    dsimp only
    repeat' split
    all_goals omega
  have e3 : ∀ i, (mph M0i f).2 2 i = 0 := fun i => by
    unfold mph M0i
    dsimp only
    repeat' split
    all_goals first | rfl | omega
  unfold phR
  refine ⟨fun k => by rw [e1]; decide, by rw [e1]; decide, by rw [e1]; decide, fun c i => by have := e2 c i; omega, fun i => by rw [e3]; decide, fun i => by have := e2 3 i; omega⟩
theorem C0i_z {q i : Nat} (h : q ≠ 1001) : C0i.1 q i = 0 := C0i_0 h
theorem M0i_z {k : Nat} (h : k ≠ 9) : M0i.1 k = 0 := if_neg h
theorem co_0 : coI C0i M0i := by
  have hal : alb C0i = 1003 := rfl
  have hcl : clA C0i := Or.inl ⟨rfl, rfl⟩
  have hst : ∀ t, isSt t → 1003 ≤ t := fun t ht => by have := isSt_k ht; omega
  have hP : cPm C0i = 0 := by unfold cPm; exact C0i_z (by rw [hal]; decide)
  have hN : cNm C0i = 0 := by unfold cNm; exact C0i_z (by rw [hal]; decide)
  have hg : C0i.1 (alb C0i) 0 = 0 := C0i_z (by rw [hal]; decide)
  refine ⟨⟨hcl, by rw [hP]; decide, by rw [hN]; decide, by rw [hg]; decide, fun i hi => C0i_ph _ (by unfold cAp; rw [hal]; omega)⟩, ⟨fun t ht i hi => C0i_ph _ (by have := hst t ht; omega), C0i_ph _ (by decide)⟩, ⟨by rw [M0i_z (by decide)]; decide, by rw [M0i_z (by decide)]; decide, by rw [M0i_z (by decide)]; decide, by rw [M0i_z (by decide)]; decide, by rw [M0i_z (by decide)]; decide, by rw [M0i_z (by decide)]; decide, fun f _ => M0i_ph f⟩, ?_, ?_, ?_, ?_, ?_, ?_⟩
  · refine ⟨by rw [hP, M0i_z (by decide), if_pos rfl], by rw [hN, M0i_z (by decide), if_pos rfl], fun h => by rw [M0i_z (by decide)] at h; exact absurd h (by decide), fun f hf => by rw [hP] at hf; omega, rfl, rfl, rfl, by rw [M0i_z (k := 1) (by decide), if_pos rfl]; rfl⟩
  · intro f hf
    rw [M0i_z (by decide)] at hf; omega
  · rw [hg, M0i_z (by decide)]
  · refine ⟨?_, fun _ => M0i_z (by decide), rfl, fun i hi => by rw [M0i_z (by decide)] at hi; omega⟩
    have key : ∀ i : Fin 6, 1094 + 27 * i.val ∈ stS := by decide +kernel
    refine ⟨fun i hi => ⟨key ⟨i, hi⟩, by show 1094 ≤ 1094 + 27 * i; omega, by show 1094 + 27 * i ≤ 1229; omega⟩, fun i j hi hj e => ?_, by rw [C0i_z (by decide)]; decide, by rw [C0i_z (by decide)]; decide⟩
    have e : 1094 + 27 * i = 1094 + 27 * j := e
    omega
  · intro s hs
    refine ⟨rfl, Or.inl rfl, fun _ => rfl, fun _ => C0i_z (by omega), fun h => absurd (show (0 : Int) = 1 from h) (by decide)⟩
  · refine ⟨fun j => ⟨Int.le_refl _, by show (0 : Int) ≤ 999; decide⟩, fun j => ⟨Int.le_refl _, by show (0 : Int) ≤ 999; decide⟩, fun j => ⟨Int.le_refl _, by show (0 : Int) ≤ 999; decide⟩, fun j => ⟨Int.le_refl _, by show (0 : Int) ≤ 999; decide⟩, fun f hf => by rw [M0i_z (by decide)] at hf; omega⟩
section ENTRY
variable {z : Bool} {h : am_H} {L : Nat} {xs : Nat → Int32}
/-- the heap at the loop's first turn -/
def enH (h : am_H) : am_H := am_new (am_new (blH h 332 10780) (.inl (3, 1, .inr (.inl (fun _ => 0)))) 1) (.inl (4, 1, .inr (.inr (.inr (.inl (fun _ => 0)))))) 1
theorem en_run (ha : h.2.1 = 1000) : ru_n z 0 0 [some (.ref 1), none, none, none, none, none, none, none] [] h = ru_n z 0 28 [some (.ref 1), some (.ref 1000), some (.ref 1315), some (.ref 1332), some (.ref 1333), some (.int (wI ((0 : Nat) : Int))), none, none] [] (enH h) := by
  have x1 := b1 (z := z) (h := h) ha
  have x2 := b12 (z := z) (h := blH h 315 4759) (by show h.2.1 + 315 = _; omega)
  rw [blH_bl] at x2
  have x3 : am_na (blH h 332 10780) 3 (wI 1) = some (am_new (blH h 332 10780) (.inl (3, 1, .inr (.inl (fun _ => 0)))) 1) := by
    have k := na_k (h := blH h 332 10780) (m := 1) (by omega) 3
    rw [if_neg (by omega), if_pos rfl] at k
    exact k
  have x4 : am_na (am_new (blH h 332 10780) (.inl (3, 1, .inr (.inl (fun _ => 0)))) 1) 4 (wI 1) = some (enH h) := by
    have k := na_k (h := am_new (blH h 332 10780) (.inl (3, 1, .inr (.inl (fun _ => 0)))) 1) (m := 1) (by omega) 4
    rw [if_neg (by omega), if_neg (by omega), if_pos rfl] at k
    exact k
  have y2 : (blH h 315 4759).2.1 = 1315 := by show h.2.1 + 315 = _; omega
  have y3 : (blH h 332 10780).2.1 = 1332 := by show h.2.1 + 332 = _; omega
  have y4 : (am_new (blH h 332 10780) (.inl (3, 1, .inr (.inl (fun _ => 0)))) 1).2.1 = 1333 := by show h.2.1 + 332 + 1 = _; omega
  simp (disch := omega) only [e0_0, e0_3, e0_4, e0_7, e0_8, e0_11, e0_12, e0_15, e0_16, e0_17, e0_19, e0_20, e0_21, e0_23, e0_25, e0_26, ↓reduceIte, Bool.false_eq_true, not_false_eq_true, not_true_eq_false, Nat.reduceLeDiff, Nat.reduceAdd, Nat.reduceEqDiff, Int.reduceToNat, Int.toNat_natCast, iB0, iB1, ru_klI, ru_klR, ru_klF, ru_klJ, ru_kl0, ru_cs0, ru_csI, ru_csR, ru_csF, ru_csJ, wI_add, wI_sub, wI_mul, wI_lt, wI_le, wI_inj, ru_fdE, ru_fdN, ru_iaN, ru_baN, ru_laN, ru_qaN, ru_pfN, ru_isN, ru_bsN, ru_jsN, ru_qsN, ru_set2, Nat.add_right_cancel_iff, if_true, if_false, ite_self, Int.reduceEq, and_self, Int.add_neg_cancel_right, Int.add_zero, Int.zero_add, ha, x1, x2, x3, x4, y2, y3, y4, ru_ctR, Int.natCast_zero]
theorem en_o {q : Nat} (ha : h.2.1 = 1000) (hq : q < 1000) : (enH h).1 q = h.1 q := by
  show (if q = h.2.1 + 332 + 1 then _ else if q = h.2.1 + 332 then _ else if h.2.1 ≤ q ∧ q < h.2.1 + 332 then HI.1 q else h.1 q) = _
  rw [if_neg (by omega), if_neg (by omega), if_neg (by omega)]
theorem en_i {q : Nat} (ha : h.2.1 = 1000) (h1 : 1000 ≤ q) (h2 : q < 1332) : (enH h).1 q = HI.1 q := by
  show (if q = h.2.1 + 332 + 1 then _ else if q = h.2.1 + 332 then _ else if h.2.1 ≤ q ∧ q < h.2.1 + 332 then HI.1 q else h.1 q) = _
  rw [if_neg (by omega), if_neg (by omega), if_pos (by omega)]
theorem en_put (ha : h.2.1 = 1000) : clPut (mdPut (enH h) M0i) C0i = enH h := by
  have hm : mdPut (enH h) M0i = enH h := by
    refine mdPut_self ?_
    have k := mdAt_put (fun q => if q = 1259 then some (.inl (1, 16, .inl (fun _ => wI 0))) else none, 0, 0) M0i
    have e : ∀ q, 1315 ≤ q → q ≤ 1331 → (enH h).1 q = (mdPut (fun q => if q = 1259 then some (.inl (1, 16, .inl (fun _ => wI 0))) else none, 0, 0) M0i).1 q := fun q q1 q2 => by
      rw [en_i ha (by omega) (by omega)]
      exact clPut_o (by omega)
    unfold mdAt at k ⊢
    rw [e 1315 (by decide) (by decide), e 1316 (by decide) (by decide), e 1317 (by decide) (by decide), e 1318 (by decide) (by decide), e 1319 (by decide) (by decide), e 1320 (by decide) (by decide), e 1321 (by decide) (by decide), e 1322 (by decide) (by decide), e 1323 (by decide) (by decide), e 1324 (by decide) (by decide), e 1325 (by decide) (by decide), e 1326 (by decide) (by decide), e 1327 (by decide) (by decide), e 1328 (by decide) (by decide), e 1329 (by decide) (by decide), e 1330 (by decide) (by decide), e 1331 (by decide) (by decide)]
    exact k
  rw [hm]
  refine am_ext (fun q => ?_) rfl
  by_cases c : 1000 ≤ q ∧ q ≤ 1314 ∧ q ≠ 1259
  · rw [clPut_i c, en_i ha (by omega) (by omega)]
    exact (clPut_i c).symm
  · rw [clPut_o c]
theorem en_fu (ha : h.2.1 = 1000) (hs : gS h) : fuI (enH h) C0i M0i 16 := by
  refine ⟨co_0, fun e => absurd e (by rw [M0i_z (by decide)]; decide), ⟨by rw [M0i_z (by decide)]; decide, by rw [M0i_z (by decide)]; decide, by decide, fun i hi => by rw [M0i_z (by decide)] at hi; omega⟩, ⟨0, M0i_z (by decide), by decide, ⟨C0i_z (by decide), C0i_z (by decide), by decide, by decide, Or.inl rfl, by show 1259 < h.2.1 + 332 + 1 + 1; omega, fun _ => 0, ?_, fun i hi => absurd hi (Nat.not_lt_zero _)⟩, fun i hi => absurd hi (Nat.not_lt_zero _)⟩, ?_⟩
  · show (enH h).1 1259 = _
    rw [en_i ha (by decide) (by decide)]
    exact (clPut_o (by omega)).trans ((mdPut_o (by omega)).trans rfl)
  · obtain ⟨a, ⟨f, b1, b2⟩, k, d1, d2⟩ := hs
    refine ⟨fun i hi => ?_, ⟨f, by rw [en_o ha (by decide)]; exact b1, b2⟩, k, by rw [en_o ha (by decide)]; exact d1, d2⟩
    obtain ⟨a1, f, a2, a3⟩ := a i hi
    exact ⟨by rw [en_o ha (by omega)]; exact a1, f, by rw [en_o ha (by omega)]; exact a2, a3⟩
theorem en_gI (ha : h.2.1 = 1000) (hx : h.1 1 = some (.inl (10, L, .inl xs))) : gI (enH h) L xs := by
  refine ⟨by rw [en_o ha (by decide)]; exact hx, ⟨fun _ => 0, ?_⟩, by show 1334 ≤ h.2.1 + 332 + 1 + 1; omega, ⟨fun _ => 0, ?_⟩⟩
  · show (if 1332 = h.2.1 + 332 + 1 then _ else if 1332 = h.2.1 + 332 then some (ouC fun _ => 0) else _) = _
    rw [if_neg (by omega), if_pos (by omega)]
  · show (if 1333 = h.2.1 + 332 + 1 then some (ouD fun _ => 0) else _) = _
    rw [if_pos (by omega)]
/-- the law, out of the two steps owed -/
theorem run_go (h1 : stpP z 337) (h2 : stpP z 393) (hL : L ≤ 3072) (ha : h.2.1 = 1000) (hb : h.2.2 = 0) (hx : h.1 1 = some (.inl (10, L, .inl xs))) (hs : gS h) : ∃ h' : am_H, ru_n z 0 0 [some (.ref 1), none, none, none, none, none, none, none] [] h = some (.inl (some (.int 1)), h') ∧ h'.2.1 ≤ 602024 ∧ h'.2.2 ≤ 7293034 := by
  obtain ⟨h', r1, r2, r3⟩ := lp_go (z := z) h1 h2 hL 512 0 (by omega) (by omega) (enH h) C0i M0i 16 none none (en_fu ha hs) (en_gI ha hx)
  rw [en_put ha] at r1
  have e1 : (enH h).2.1 = 1334 := by show h.2.1 + 332 + 1 + 1 = _; omega
  have e2 : (enH h).2.2 = 10782 := by show h.2.2 + 10780 + 1 + 1 = _; omega
  exact ⟨h', by rw [en_run ha, r1], by omega, by omega⟩
end ENTRY
