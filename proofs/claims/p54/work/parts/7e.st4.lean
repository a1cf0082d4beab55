/-! ===== the law's steps that arrange a picture (printed by wip/gen/genst2.py) ===== -/
def plkD (p : tPi) (q : tPh) (M : tMd) (f : Nat) (rc : Int) (R L Q : Nat → Int) : Prop := p.1 1 = rc ∧ (∀ k, k < 12 → p.2 3 k = R k) ∧ (∀ k, k < 12 → p.2 4 k = L k) ∧ (∀ r : Nat, (r : Int) < rc → p.2 6 (r + 1) - p.2 6 r = Q r) ∧ ∀ r j : Nat, (r : Int) < rc → (j : Int) < Q r → ∃ k : Nat, k < 12 ∧ shS q k = true ∧ p.2 3 k = (r : Int) ∧ p.2 5 (p.2 6 r + (j : Int)).toNat = (k : Int) ∧ fnF (stP R L r j) ((mph M f).1 7).toNat 0 = (k : Int)
theorem rel_rf {C : tCl} {M : tMd} (hM : mdR M) (hr : relA C M) {f : Int} (e : rcP C f = 0) : rfP M f = 0 ∧ f.toNat < 5 ∧ phR (mph M f.toNat) ∧ pheq (cph C (cAp C f.toNat)) (mph M f.toNat) := by
  have e1 : rfP M f = 0 := by rw [← rel_rcP hM hr f, e]; rfl
  obtain ⟨n, hn, rfl, hq⟩ := mph_at hM e1
  exact ⟨e1, hn, hq, rel_ph hr e⟩
theorem rp_vb {C : tCl} {M : tMd} {f : Int} {T : tPi → Nat → Int → Prop} {T' : Int → (Nat → Int) → (Nat → Int) → (Nat → Int) → Int → Int → Prop} {nE : Nat} (hR : clR C) (hM : mdR M) (hr : relA C M) (hG : C.1 (alb C) 0 = M.1 24) (h2 : 2 ≤ nE)
    (hT : rcP C f = 0 → ∀ p rc R L Q t v t' b, piOK p (cph C (cAp C f.toNat)) (M.1 24) → lrOK M f.toNat rc R L Q → plkD p (cph C (cAp C f.toNat)) M f.toNat rc R L Q → T p t v → T' rc R L Q t' b → t ≤ nE ∧ t' = (t : Int) ∧ (t = 0 → v = b)) {t : Nat} {v b : Int} {C' : tCl} {M' : tMd} (k1 : rpC C f T t v C') (k2 : rpM M f T' b M') : t ≤ nE ∧ M'.1 0 = (t : Int) ∧ (t = 0 → v = b) := by
  have er := rel_rcP hM hr f
  have e2 := rcP_2 C f
  rcases k1 with ⟨a1, rfl, rfl⟩ | ⟨a1, p, rfl, a2, a3⟩
  · rcases k2 with ⟨b1, rfl⟩ | ⟨b1, -⟩
    · exact ⟨by omega, by rw [mdT_1, er], fun c => absurd c a1⟩
    · omega
  · obtain ⟨c1, c2, c3, c4⟩ := rel_rf hM hr a1
    rcases k2 with ⟨b1, rfl⟩ | ⟨b1, rc, R, L, Q, t', rfl, b2, b3⟩
    · exact absurd c1 b1
    · rw [hG] at a2
      obtain ⟨d1, d2, d3⟩ := hT a1 p rc R L Q t v t' b a2 b2 (pl_link a2 b2 c4 (dph (h := (fun _ => none, 0, 0)) hR a1).2 c3) a3 b3
      exact ⟨d1, by rw [mdT_1]; exact d2, d3⟩
theorem rp_vk {C : tCl} {M : tMd} {f k : Int} {T : tPi → Nat → Int → Prop} {T' : Int → (Nat → Int) → (Nat → Int) → (Nat → Int) → Int → Int → Prop} {nE : Nat} (hR : clR C) (hM : mdR M) (hr : relA C M) (hG : C.1 (alb C) 0 = M.1 24) (h2 : 2 ≤ nE)
    (hT : rcK C f k = 0 → ∀ p rc R L Q t v t' b, piOK p (cph C (cAp C f.toNat)) (M.1 24) → lrOK M f.toNat rc R L Q → plkD p (cph C (cAp C f.toNat)) M f.toNat rc R L Q → T p t v → T' rc R L Q t' b → t ≤ nE ∧ t' = (t : Int) ∧ (t = 0 → v = b)) {t : Nat} {v b : Int} {C' : tCl} {M' : tMd} (k1 : rpK C f k T t v C') (k2 : rpL M f k T' b M') : t ≤ nE ∧ M'.1 0 = (t : Int) ∧ (t = 0 → v = b) := by
  have er := rel_rcK hM hr f k
  have e2 := rcK_2 C f k
  rcases k1 with ⟨a1, rfl, rfl⟩ | ⟨a1, p, rfl, a2, a3⟩
  · rcases k2 with ⟨b1, rfl⟩ | ⟨b1, -⟩
    · exact ⟨by omega, by rw [mdT_1, er], fun c => absurd c a1⟩
    · omega
  · obtain ⟨a0, -⟩ := rcK_0 a1
    obtain ⟨c1, c2, c3, c4⟩ := rel_rf hM hr a0
    rcases k2 with ⟨b1, rfl⟩ | ⟨b1, rc, R, L, Q, t', rfl, b2, b3⟩
    · omega
    · rw [hG] at a2
      obtain ⟨d1, d2, d3⟩ := hT a1 p rc R L Q t v t' b a2 b2 (pl_link a2 b2 c4 (dph (h := (fun _ => none, 0, 0)) hR a0).2 c3) a3 b3
      exact ⟨d1, by rw [mdT_1]; exact d2, d3⟩
theorem rp_clE {C : tCl} {f : Int} {T : tPi → Nat → Int → Prop} {t : Nat} {v : Int} {C' : tCl} (k1 : rpC C f T t v C') : clE C C' := by
  rcases k1 with ⟨-, -, rfl⟩ | ⟨-, p, rfl, -⟩
  · exact clE_refl _
  · exact clE_1 _ _
theorem rp_clK {C : tCl} {f k : Int} {T : tPi → Nat → Int → Prop} {t : Nat} {v : Int} {C' : tCl} (k1 : rpK C f k T t v C') : clE C C' := by
  rcases k1 with ⟨-, -, rfl⟩ | ⟨-, p, rfl, -⟩
  · exact clE_refl _
  · exact clE_1 _ _
theorem rp_mdE {M : tMd} {f : Int} {T' : Int → (Nat → Int) → (Nat → Int) → (Nat → Int) → Int → Int → Prop} {b : Int} {M' : tMd} {t nE : Nat} (k2 : rpM M f T' b M') (h : M'.1 0 = (t : Int)) (ht : t ≤ nE) (h9 : nE ≤ 9) : mdE M M' := by
  rcases k2 with ⟨-, rfl⟩ | ⟨-, rc, R, L, Q, t', rfl, -⟩
  · rw [mdT_1] at h; exact mdE_T (by omega)
  · rw [mdT_1] at h; exact mdE_Q (by omega)
theorem rp_mdL {M : tMd} {f k : Int} {T' : Int → (Nat → Int) → (Nat → Int) → (Nat → Int) → Int → Int → Prop} {b : Int} {M' : tMd} {t nE : Nat} (k2 : rpL M f k T' b M') (h : M'.1 0 = (t : Int)) (ht : t ≤ nE) (h9 : nE ≤ 9) : mdE M M' := by
  rcases k2 with ⟨-, rfl⟩ | ⟨-, rc, R, L, Q, t', rfl, -⟩
  · rw [mdT_1] at h; exact mdE_T (by omega)
  · rw [mdT_1] at h; exact mdE_Q (by omega)
theorem rpM_T {M : tMd} {t b : Int} {M' : tMd} {nE n : Nat} (k2 : M' = mdT M t) (h : M'.1 0 = (n : Int)) (ht : n ≤ nE) (h9 : nE ≤ 9) : mdE M M' := by
  subst k2
  rw [mdT_1] at h; exact mdE_T (by omega)
/-- the order of all people: class against reference -/
theorem en_link {C : tCl} {M : tMd} (hR : clR C) (hM : mdR M) (hr : relA C M) {f : Int} (e : rcP C f = 0) {key key' : Nat → Int} (hk : ∀ k, k < 12 → shS (cph C (cAp C f.toNat)) k = true → key k = key' k) {n : Nat} {en : Nat → Nat} (h : enO (shS (cph C (cAp C f.toNat))) key n en) {j : Nat} (hj : j < n) :
    fnF (fun k => shw (mph M f.toNat) k && decide (rkN (shS (mph M f.toNat)) key' k = j)) ((mph M f.toNat).1 7).toNat 0 = (en j : Nat) := by
  obtain ⟨c1, c2, c3, c4⟩ := rel_rf hM hr e
  have s := phR_s c3
  obtain ⟨m, hm⟩ := Int.eq_ofNat_of_zero_le s.2.2.2.2.2.2.2.1
  rw [hm, Int.toNat_natCast, ← shS_eq c4]
  refine enO_fn (enO_key h (fun a b ha hb sa sb hab => by rw [← hk a ha sa, ← hk b hb sb]; exact hab)) hj (fun k hk2 => ?_) (fun k hk2 hs => ?_) (by omega)
  · rw [shS_eq c4, shS_of (by omega)]
  · have := shS_lt hs
    have := c4.1 7 (by decide)
    omega
/-- a reference's call whose answer and refusal are told at once -/
def mdX (M : tMd) (t0 b0 b : Int) (M' : tMd) : Prop := M' = mdT M t0 ∧ b = b0
theorem md_ex {z : Bool} {jm : Nat} {margs : List Value} {h : am_H} {M : tMd} {t0 b0 : Int} (e : ru_ev z jm margs (mdPut h M) = some (.inl (some (.int (wI b0))), mdPut h (mdT M t0))) : ∃ b M', ru_ev z jm margs (mdPut h M) = some (.inl (some (.int (wI b))), mdPut h M') ∧ mdX M t0 b0 b M' := ⟨b0, mdT M t0, e, rfl, rfl⟩
section ST4
variable {z : Bool} {g : am_H} {C : tCl} {M : tMd} {xs : Nat → Int32} {L i : Nat}
end ST4
