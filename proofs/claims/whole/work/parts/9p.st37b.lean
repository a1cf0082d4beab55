/-! ===== the law's step of write: names, rows, lengths of a picture ===== -/
theorem piGet_put {C : tCl} {P : Nat} {p : tPi} : (piGet (piPut C P p) P).1 = p.1 ∧ ∀ c, c < 10 → (piGet (piPut C P p) P).2 c = p.2 c := by
  refine ⟨?_, fun c hc => ?_⟩
  · show (if P = P then p.1 else C.1 P) = p.1
    rw [if_pos rfl]
  · show (if P + 1 ≤ P + 1 + c ∧ P + 1 + c ≤ P + 10 then p.2 (P + 1 + c - (P + 1)) else C.2.1 (P + 1 + c)) = p.2 c
    rw [if_pos (by omega), show P + 1 + c - (P + 1) = c by omega]
theorem sLN_tel {p : tPi} {LN : Nat → Nat} : ∀ d r, (∀ i, r ≤ i → i < r + d → p.2 6 (i + 1) - p.2 6 i = ((LN i : Nat) : Int)) → p.2 6 (r + d) - p.2 6 r = ((sLN LN d r : Nat) : Int)
  | 0, r, _ => by show p.2 6 r - p.2 6 r = 0; omega
  | d + 1, r, h => by
    have h1 := h r (Nat.le_refl _) (by omega)
    have h2 := sLN_tel d (r + 1) (fun i a b => h i (by omega) (by omega))
    show p.2 6 (r + (d + 1)) - p.2 6 r = ((LN r + sLN LN d (r + 1) : Nat) : Int)
    rw [show r + (d + 1) = r + 1 + d by omega]
    omega
theorem pi_rs6 {p : tPi} {q : tPh} {gap : Int} (hp : piOK p q gap) {rc : Nat} (hrc : p.1 1 = (rc : Int)) : (∀ r, r ≤ rc → 0 < rc → 0 ≤ p.2 6 r) ∧ (0 < rc → p.2 6 rc ≤ 12) := by
  refine ⟨fun r hr h0 => ?_, fun h0 => ?_⟩
  · by_cases c : r < rc
    · have := piOK_rs hp (r := r) (by omega); omega
    · obtain ⟨r', rfl⟩ : ∃ r', r = r' + 1 := ⟨r - 1, by omega⟩
      have := piOK_rs hp (r := r') (by omega); omega
  · obtain ⟨r', rfl⟩ : ∃ r', rc = r' + 1 := ⟨rc - 1, by omega⟩
    have := piOK_rs hp (r := r') (by omega); omega
theorem cap_ex {C : tCl} {M : tMd} (h : coI C M) (hnm : nmI C M) {f : Int} (g : -2147483648 ≤ f ∧ f < 2147483648) (e : rcP C f = 0) : ∃ (rc : Nat) (NM : Nat → Nat → Int) (LN : Nat → Nat), wcN C M (M.1 20).toNat ∧ rc ≤ 12 ∧ (∀ r, r < rc → LN r ≤ 12) ∧ (∀ r j, r < rc → j < LN r → nmOK (M.1 20).toNat (NM r j)) ∧ sLN LN rc 0 ≤ 12 ∧ (∀ p', piOK p' (cph C (cAp C f.toNat)) (C.1 (alb C) 0) → wcA (piPut C 1070 p') M (M.1 20).toNat (alb C) (cAp C f.toNat) rc NM LN) ∧ (∀ rc' R L Q, lrOK M f.toNat rc' R L Q → rc' = (rc : Int) ∧ ∀ r, r < rc → wmP (mdQ (mdT M 0) rc' R L Q) (M.1 20).toNat f.toNat r (LN r) (NM r)) := by
  obtain ⟨hR, hA, hM, hr, hn, hG, hH, hS, hrg⟩ := id h
  obtain ⟨c1, c2, c3, c4⟩ := rel_rf hM hr e
  have h1 := rf_has hM c1
  have hlt := (rfP_0 c1).2
  have hq := (dph (h := (fun _ => none, 0, 0)) hR e).2
  obtain ⟨w1, w2⟩ := nmI_W hnm h1
  have hN20 := hM.2.2.2.1
  have hph := hn f.toNat (by omega)
  obtain ⟨rc0, R0, L0, Q0, l0, -⟩ := p120 (z := true) (h := (fun _ => none, 0, 0)) (M := M) c2 c3 hM.2.2.2.2.2.1
  have hrc := rwOK_rc l0.1
  obtain ⟨rc, hrcN⟩ := Int.eq_ofNat_of_zero_le (show 0 ≤ rc0 by omega)
  have s := phR_s c3
  have hQ : ∀ r : Nat, r < rc → Q0 r = ((Q0 r).toNat : Int) ∧ (Q0 r).toNat ≤ 12 := fun r hr => by
    have l3 := l0.2.2 r (by omega)
    have a2 := cnB_le (fun o => shS (mph M f.toNat) o && decide (R0 o = (r : Int))) 12
    unfold rlN at l3
    omega
  have hb := dph (h := (fun _ => none, 0, 0)) hR e
  have hphb := cAp_ph hR.1 (rcP_5 hR e)
  obtain ⟨P, p0, -, hp0, -⟩ := c187 (z := true) (h := (fun _ => none, 0, 0)) hR g e
  have hp0' := hp0
  rw [hG] at hp0'
  obtain ⟨y1, y2, y3, y4, y5⟩ := pl_link hp0' l0 c4 hq c3
  have hNM : ∀ r j : Nat, r < rc → j < (Q0 r).toNat → ∃ k : Nat, k < 12 ∧ shS (cph C (cAp C f.toNat)) k = true ∧ fnF (stP R0 L0 (r : Int) (j : Int)) ((mph M f.toNat).1 7).toNat 0 = (k : Int) := fun r j hr hj => by
    obtain ⟨k, k1, k2, k3, k4, k5⟩ := y5 r j (by omega) (by have := hQ r hr; omega)
    exact ⟨k, k1, k2, k5⟩
  have hok : ∀ k : Nat, shS (cph C (cAp C f.toNat)) k = true → nmOK (M.1 20).toNat ((mph M f.toNat).2 3 k) := fun k hk => by
    have hl := shS_lt hk
    have e7 := c4.1 7 (by decide)
    have a1 := hph.1 k (by omega)
    have a2 := (phR_i c3 k).2.2.2
    unfold nmOK
    omega
  refine ⟨rc, fun r j => (mph M f.toNat).2 3 (fnF (stP R0 L0 (r : Int) (j : Int)) ((mph M f.toNat).1 7).toNat 0).toNat, fun r => (Q0 r).toNat, ⟨hR.1, by omega, w2, w1⟩, by omega, fun r hr => (hQ r hr).2, fun r j hr hj => ?_, ?_, fun p' hp' => ?_, fun rc' R L Q hl => ?_⟩
  · obtain ⟨k, k1, k2, k3⟩ := hNM r j hr hj
    dsimp only
    rw [k3, Int.toNat_natCast]
    exact hok k k2
  · have t := sLN_tel (p := p0) (LN := fun r => (Q0 r).toNat) rc 0 (fun i a b => by
      rw [y4 i (by omega)]; exact (hQ i (by omega)).1)
    rw [Nat.zero_add] at t
    obtain ⟨z1, z2⟩ := pi_rs6 hp0 (rc := rc) (by omega)
    by_cases c : 0 < rc
    · have := z1 0 (by omega) c
      have := z2 c
      omega
    · rw [show rc = 0 by omega]; exact Nat.zero_le _
  · have hp'' := hp'
    rw [hG] at hp''
    obtain ⟨x1, x2, x3, x4, x5⟩ := pl_link hp'' l0 c4 hq c3
    obtain ⟨gp1, gp2⟩ := piGet_put (C := C) (P := 1070) (p := p')
    obtain ⟨z1, z2⟩ := pi_rs6 hp' (rc := rc) (by omega)
    refine ⟨by rw [gp1, x1, hrcN], by omega, fun r hr => ⟨⟨hR.1, by omega, w2, w1⟩, rfl, hphb, by omega, (hQ r hr).2, ?_, fun j hj => ?_⟩, fun r a b => by rw [gp2 6 (by decide)]; exact z1 r a b, fun a => by rw [gp2 6 (by decide)]; exact z2 a⟩
    · unfold lenC
      rw [gp2 6 (by decide), x4 r (by omega)]
      exact (hQ r hr).1
    · have hj : j < (Q0 r).toNat := hj
      obtain ⟨k, k1, k2, k3, k4, k5⟩ := x5 r j (by omega) (by have := hQ r hr; omega)
      obtain ⟨q1, -⟩ := pi_at hp' hq (r := r) (j := j) (by omega) (by rw [x4 r (by omega)]; have := hQ r hr; omega)
      have ep : plC (piGet (piPut C 1070 p') 1070) r j = (k : Int) := by
        unfold plC
        rw [gp2 5 (by decide), gp2 6 (by decide)]; exact k4
      have ecp : cph (piPut C 1070 p') (cAp C f.toNat) = cph C (cAp C f.toNat) := by
        obtain ⟨-, -, -, -, -, -, -, a1, a2⟩ := clA_k hR.1
        exact piPut_ph (by unfold cAp; omega)
      rw [ep, gp2 6 (by decide), ecp]
      dsimp only
      rw [k5, Int.toNat_natCast]
      refine ⟨q1, by omega, ?_, hok k k2⟩
      exact (c4.2 3 k (by decide) (shS_lt k2)).symm
  · obtain ⟨u1, u2⟩ := rwOK_uni l0.1 hl.1 (fun k _ => rfl) (fun k _ _ => rfl)
    refine ⟨by omega, fun r hr => ?_⟩
    obtain ⟨b1, b2⟩ := lr_rng9 hl
    have eQ : Q r = Q0 r := by rw [hl.2.2 r (by omega), l0.2.2 r (by omega), rlN_congr (fun o ho => (u2 o ho).symm)]
    refine ⟨c2, c3, by omega, ?_, (hQ r hr).2, b1, b2, trivial, ⟨by omega, nmW_M rfl w1⟩, fun j hj => ?_⟩
    · show Q r = _
      rw [eQ]; exact (hQ r hr).1
    · obtain ⟨k, k1, k2, k3⟩ := hNM r j hr hj
      refine ⟨k, k1, ?_, ?_, ?_⟩
      · show fnF (stP R L (r : Int) (j : Int)) ((mph M f.toNat).1 7).toNat 0 = _
        rw [lr_uni hl l0 (by omega)]; exact k3
      · dsimp only
        rw [k3, Int.toNat_natCast]; rfl
      · dsimp only
        rw [k3, Int.toNat_natCast]; exact hok k k2
