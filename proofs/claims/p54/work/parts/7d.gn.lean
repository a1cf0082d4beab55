/-! ===== a call that may arrange a picture: class, reference and law together ===== -/
def clE (C C' : tCl) : Prop := ∃ p r, C' = piPut (piPut C 1070 p) 1081 r
def mdE (M M' : tMd) : Prop := (∀ k, k ≠ 0 → k ≠ 34 → k ≠ 35 → M'.1 k = M.1 k) ∧ (∀ c, c ≠ 11 → c ≠ 12 → c ≠ 13 → c ≠ 14 → M'.2 c = M.2 c) ∧ 0 ≤ M'.1 0 ∧ M'.1 0 ≤ 9
theorem clE_refl (C : tCl) : clE C C := ⟨piGet C 1070, piGet C 1081, by rw [piPut_get, piPut_get]⟩
theorem clE_1 (C : tCl) (p : tPi) : clE C (piPut C 1070 p) := ⟨p, piGet (piPut C 1070 p) 1081, by rw [piPut_get]⟩
theorem mdE_T {M : tMd} {t : Int} (ht : 0 ≤ t ∧ t ≤ 9) : mdE M (mdT M t) := ⟨fun k h1 _ _ => up1_n h1, fun c _ _ _ _ => rfl, by rw [mdT_1]; exact ht⟩
theorem mdE_Q {M : tMd} {t rc : Int} {R L Q : Nat → Int} (ht : 0 ≤ t ∧ t ≤ 9) : mdE M (mdT (mdQ M rc R L Q) t) := ⟨fun k h1 h2 _ => by
    show up1 (up1 M.1 34 rc) 0 t k = _
    rw [up1_n h1, up1_n h2], fun c h1 h2 h3 _ => by
    show upC (upC (upC M.2 11 R) 12 L) 13 Q c = _
    rw [upC_n h3, upC_n h2, upC_n h1], by rw [mdT_1]; exact ht⟩
/-- the law's step from a case's row to the loop's head, where only pictures, rows that lie and counters change -/
def stE (z : Bool) (pc : Nat) (g : am_H) (C : tCl) (M : tMd) (i : Nat) : Prop := ∀ l6 l7 : Option Value, ∃ (g' : am_H) (C' : tCl) (M' : tMd) (m6 m7 : Option Value),
  ru_n z 0 pc [some (.ref 1), some (.ref 1000), some (.ref 1315), some (.ref 1332), some (.ref 1333), some (.int (wI i)), l6, l7] [] (clPut (mdPut g M) C) =
  ru_n z 0 28 [some (.ref 1), some (.ref 1000), some (.ref 1315), some (.ref 1332), some (.ref 1333), some (.int (wI (i + 6))), m6, m7] [] (clPut (mdPut g' M') C') ∧ gOn g g' 1 6 ∧ clE C C' ∧ mdE M M'
theorem gn_step {z : Bool} {g : am_H} {C : tCl} {M : tMd} {jc jh jm : Nat} {cargs margs : List Value} {R : Nat → Int → tCl → Prop} {Q : Int → tMd → Prop} {nE : Nat} {o : Nat → Int64}
    (hcl : ∀ h, ∃ t v C', ru_ev z jc cargs (clPut h C) = oR t (some (.int (wI v))) (clPut h C') (clPut (thr h) C') ∧ R t v C')
    (hmd : ∀ h, ∃ b M', ru_ev z jm margs (mdPut h M) = some (.inl (some (.int (wI b))), mdPut h M') ∧ Q b M')
    (hvb : ∀ t v C' b M', R t v C' → Q b M' → t ≤ nE ∧ M'.1 0 = (t : Int) ∧ (t = 0 → v = b))
    (hp : ∀ (H G : am_H) (o : Nat → Int64) (t : Nat) (v : Int) (C' : tCl), R t v C' → t = 0 → ru_ev z jc cargs H = some (.inl (some (.int (wI v))), G) → G.1 1332 = some (ouC o) → ru_ev z jh (cargs ++ [.ref 1332]) H = some (.inl (some (.int (wI 0))), am_set G 1332 (ouC (am_up o 0 (wI v).toInt64))))
    (hx : ∀ (H G : am_H) (E : Nat), E < nE → ru_ev z jc cargs H = some (.inr E, G) → ru_ev z jh (cargs ++ [.ref 1332]) H = some (.inl (some (.int (wI ((E + 1 : Nat) : Int)))), G))
    (ho : g.1 1332 = some (ouC o)) :
    ∃ g' C' M' t v b, R t v C' ∧ Q b M' ∧ t ≤ nE ∧ M'.1 0 = (t : Int) ∧ (t = 0 → v = b) ∧ ru_ev z jh (cargs ++ [.ref 1332]) (clPut (mdPut g M) C) = some (.inl (some (.int (wI t))), clPut (mdPut g' M) C') ∧ ru_ev z jm margs (clPut (mdPut g' M) C') = some (.inl (some (.int (wI b))), clPut (mdPut g' M') C') ∧
      ru_ev z 75 [.ref 1315] (clPut (mdPut g' M') C') = some (.inl (some (.int (wI t))), clPut (mdPut g' M') C') ∧ (t = 0 → am_la (clPut (mdPut g' M') C') 1332 (wI 0) = some (wI b).toInt64) ∧ gOn g g' 1 6 := by
  obtain ⟨t, v, C', h1, hR⟩ := hcl (mdPut g M)
  by_cases e : t = 0
  · rw [oR_0 e] at h1
    have hG : (clPut (mdPut g M) C').1 1332 = some (ouC o) := by rw [clPut_o (by omega), mdPut_o (by omega), ho]
    have h2 := hp _ _ o t v C' hR e h1 hG
    rw [cl_seto (by omega), md_seto (by omega)] at h2
    obtain ⟨b, M', m1, m2⟩ := hmd (clPut (am_set g 1332 (ouC (am_up o 0 (wI v).toInt64))) C')
    obtain ⟨k1, k2, k3⟩ := hvb t v C' b M' hR m2
    refine ⟨am_set g 1332 (ouC (am_up o 0 (wI v).toInt64)), C', M', t, v, b, hR, m2, k1, k2, k3, ?_, ?_, ?_, fun _ => ?_, ?_, ⟨_, ru_setE _ _ _⟩, fun h => by rw [ru_setN (by decide)]; exact h, Nat.le_refl _, Nat.le_succ _, Nat.le_add_right _ _⟩
    · rw [h2, e]; rfl
    · rw [clPM, m1, ← clPM]
    · rw [clPM, p75, k2]
    · rw [← k3 e]
      have e9 : (clPut (mdPut (am_set g 1332 (ouC (am_up o 0 (wI v).toInt64))) M') C').1 1332 = some (ouC (am_up o 0 (wI v).toInt64)) := by
        rw [clPut_o (by omega), mdPut_o (by omega)]; exact ru_setE _ _ _
      rw [ru_la e9 (by omega) (by omega) (by omega)]
      rfl
    · intro q _ hq _; exact ru_setN hq
  · rw [oR_n e, md_thr] at h1
    obtain ⟨b, M', m1, m2⟩ := hmd (clPut (thr g) C')
    obtain ⟨k1, k2, k3⟩ := hvb t v C' b M' hR m2
    have h2 := hx _ _ (t - 1) (by omega) h1
    rw [show t - 1 + 1 = t by omega] at h2
    refine ⟨thr g, C', M', t, v, b, hR, m2, k1, k2, k3, h2, ?_, ?_, fun h => absurd h e, fun q _ _ _ => rfl, ⟨o, ho⟩, fun h => h, Nat.le_succ _, Nat.le_refl _, Nat.le_refl _⟩
    · rw [clPM, m1, ← clPM]
    · rw [clPM, p75, k2]
theorem shS_eq {q p : tPh} (h : pheq q p) : shS q = shS p := by
  funext k
  by_cases e : (k : Int) < q.1 7
  · rw [shS_of e, shS_of (by rw [← h.1 7 (by decide)]; exact e), pheq_shw h e]
  · rw [shS_no e, shS_no (by rw [← h.1 7 (by decide)]; exact e)]
theorem shS_lt {q : tPh} {k : Nat} (h : shS q k = true) : (k : Int) < q.1 7 := by
  simp only [shS, Bool.and_eq_true, decide_eq_true_eq] at h
  exact h.1
theorem lfN_congr {S : Nat → Bool} {row row' x x' : Nat → Int} {k : Nat} (hk : k < 12) (hs : S k = true) (hr : ∀ o, o < 12 → row o = row' o) (hx : ∀ o, o < 12 → S o = true → x o = x' o) : lfN S row x k = lfN S row' x' k := by
  unfold lfN
  refine cnB_congr fun o ho => ?_
  by_cases hso : S o = true
  · unfold lfB; rw [hr o ho, hr k hk, hx o ho hso, hx k hk hs]
  · simp [hso]
theorem rlN_congr {S : Nat → Bool} {row row' : Nat → Int} {r : Int} (hr : ∀ o, o < 12 → row o = row' o) : rlN S row r = rlN S row' r := by
  unfold rlN
  exact cnB_congr fun o ho => by rw [hr o ho]
theorem pl_link {p : tPi} {q : tPh} {M : tMd} {f : Nat} {rc : Int} {R L Q : Nat → Int} (hp : piOK p q (M.1 24)) (hl : lrOK M f rc R L Q) (he : pheq q (mph M f)) (hq : phR q) (hm : phR (mph M f)) : p.1 1 = rc ∧ (∀ k, k < 12 → p.2 3 k = R k) ∧ (∀ k, k < 12 → p.2 4 k = L k) ∧ (∀ r : Nat, (r : Int) < rc → p.2 6 (r + 1) - p.2 6 r = Q r) ∧ ∀ r j : Nat, (r : Int) < rc → (j : Int) < Q r → ∃ k : Nat, k < 12 ∧ shS q k = true ∧ p.2 3 k = (r : Int) ∧ p.2 5 (p.2 6 r + (j : Int)).toNat = (k : Int) ∧ fnF (stP R L r j) ((mph M f).1 7).toNat 0 = (k : Int) := by
  have hS := shS_eq he
  obtain ⟨l1, l2, l3⟩ := hl
  rw [← hS] at l1 l2 l3
  have hrs := fun r => piOK_rs (r := r) hp
  obtain ⟨n, eo, er, h0, hx, w1, w2, h4, h5, h6, h7, h8⟩ := hp
  obtain ⟨u1, u2⟩ := rwOK_uni h4 l1 (fun k _ => rfl) (fun k _ hs => pheq_shY he (shS_lt hs))
  have hxx : ∀ o, o < 12 → shS q o = true → shX q o = shX (mph M f) o := fun o _ hs => pheq_shX he (shS_lt hs)
  have hL : ∀ k, k < 12 → p.2 4 k = L k := fun k hk => by
    rw [h5 k hk, l2 k hk]
    unfold plF
    by_cases hs : shS q k = true
    · rw [if_pos hs, if_pos hs, lfN_congr hk hs u2 hxx]
    · rw [if_neg hs, if_neg hs]
  have hrc := rwOK_rc h4
  have hQ : ∀ r : Nat, (r : Int) < rc → Q r = (rlN (shS q) (p.2 3) r : Nat) := fun r hr => by
    rw [l3 r (by omega), rlN_congr u2]
  refine ⟨u1, u2, hL, fun r hr => ?_, fun r j hr hj => ?_⟩
  · have := hrs r (by omega)
    rw [hQ r hr, this.1, this.2.1]; omega
  · have k1 := hrs r (by omega)
    rw [hQ r hr] at hj
    have hxr : ∀ k, k < 12 → shS q k = true → 0 ≤ shX q k ∧ shX q k ≤ 999 := fun k _ hs => (shS_rng hq hs).1
    obtain ⟨a1, a2, a3⟩ := er_at h6 hxr (r := (r : Int)) (j := j) (by omega)
    have a4 := h6.1 _ a1
    refine ⟨er (rsN (shS q) (p.2 3) r + j), a4.1, a4.2, a2, ?_, ?_⟩
    · rw [k1.1, show (((rsN (shS q) (p.2 3) r : Nat) : Int) + (j : Int)).toNat = rsN (shS q) (p.2 3) r + j by omega]
      exact h7 _ a1
    · have a5 := shS_lt a4.2
      have e7 := he.1 7 (by decide)
      refine fnF_is _ 0 (by omega) (by omega) ?_ ?_
      · unfold stP
        apply decide_eq_true
        refine ⟨by rw [← u2 _ a4.1]; exact a2, ?_, by omega⟩
        rw [← hL _ a4.1, h5 _ a4.1]
        unfold plF
        rw [if_pos a4.2, a3]
      · intro k' _ hk' hst
        have hk2 := (phR_s hm).2.2.2.2.2.2.2
        unfold stP at hst
        obtain ⟨b1, b2, b3⟩ := of_decide_eq_true hst
        have hk12 : k' < 12 := by omega
        rw [← u2 k' hk12] at b1
        have hs : shS q k' = true := by
          by_cases hs : shS q k' = true
          · exact hs
          · exfalso
            obtain ⟨n', e', -, -, g4, -⟩ := h4
            have := g4 k' hk12 hs
            omega
        rw [← hL k' hk12, h5 k' hk12] at b2
        unfold plF at b2
        rw [if_pos hs] at b2
        have c := er_of h6 hxr hk12 hs
        rw [b1, show lfN (shS q) (p.2 3) (shX q) k' = j by omega] at c
        exact c.2.symm
