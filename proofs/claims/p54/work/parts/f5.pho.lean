/-! ===== the class reads a phrase of one ===== -/
theorem rowAt_q {pi : tPi} {q p : tPh} {gap : Int} (c : pheq q p) (hq : phR q) (ok : piOK pi q gap) {r N : Nat} {e : Nat → Nat} (h : rowAt p gap r N e) : rowAt q gap r N e := by
  obtain ⟨RR, rc, h1, h2, h3⟩ := h
  obtain ⟨r1, r2⟩ := pk_row c hq ok h2
  obtain ⟨n0, eo, er, o1, o2, o3, o4, o5, -⟩ := ok
  have eS := shS_eq c
  refine ⟨pi.2 3, pi.1 1, by omega, o5, ?_⟩
  have h4 : enO (fun o => shS q o && decide (pi.2 3 o = (r : Int))) (kyX (shX p)) N e := enO_S h3 (fun k hk => by rw [eS, r2 k hk])
  refine enO_key h4 (fun a b ha hb sa sb hl => ?_)
  simp only [Bool.and_eq_true] at sa sb
  unfold kyX at hl ⊢
  rw [pheq_shX c (shS_rng hq sa.1).2.2.1, pheq_shX c (shS_rng hq sb.1).2.2.1]
  exact hl
theorem shH_q {q p : tPh} (c : pheq q p) (hq : phR q) (nm : Int) : shH q nm = shH p nm := by
  have s := (phR_s hq).2.2.2.2.2.2.2
  have e := pheq_hof c s.1 nm
  have kr := hofF_rng (q.2 3) nm (q.1 7).toNat 0
  unfold shH
  rw [← e]
  by_cases d : hofF (q.2 3) nm (q.1 7).toNat 0 = -1
  · rw [if_neg (fun h => h.1 d), if_neg (fun h => h.1 d)]
  · rw [pheq_shw c (by omega)]
theorem neS_q {q p : tPh} (c : pheq q p) (hq : phR q) (hp : phR p) {px py fr : Int} {km : Nat} (h : neS p px py (p.1 7).toNat (km : Int) fr) {n : Nat} {e : Nat → Nat} (he : enO (shS q) (kyD (shX q) (shY q) px py) n e) (hn : 0 < n) : e 0 = km := by
  have eS := shS_eq c
  have h2 : enO (shS p) (kyD (shX q) (shY q) px py) n e := enO_S he (fun k _ => by rw [eS])
  have h3 : enO (shS p) (kyD (shX p) (shY p) px py) n e := enO_key h2 (fun a b ha hb sa sb hl => by
    rw [← eS] at sa sb
    unfold kyD dqF at hl ⊢
    rw [← pheq_shX c (shS_rng hq sa).2.2.1, ← pheq_shX c (shS_rng hq sb).2.2.1, ← pheq_shY c (shS_rng hq sa).2.2.1, ← pheq_shY c (shS_rng hq sb).2.2.1]
    exact hl)
  have k := (neS_e hp h h3 hn).1
  omega
theorem lw15 : lwT 15 = sbT 26 ++ [32] := rfl
theorem lw16 : lwT 16 = sbT 25 ++ [32] := rfl
theorem lw17 : lwT 17 = [32] ++ sbT 20 ++ [32] := rfl
theorem lw18 : lwT 18 = [32] ++ sbT 19 ++ [32] := rfl
theorem lw19 : lwT 19 = sbT 24 ++ [32] := rfl
section PHO
variable {z : Bool} {C0 C : tCl} {n A N R : Nat} {F L : Nat → List Nat} {h : am_H} {q p : tPh}
theorem f91one (hR : 1315 ≤ R) (hst : strs h) (hs : nmS C0 A N F L) {q0 : tPh} {gap : Int} (hq : fpI C0 C q) (hpi : piOK (piGet C0 1070) q0 gap) (hE : psE q q0) (hp : phR p) (hpq : pheq q p) {w T : List Nat} {c km e : Nat} (ho : prOne p gap N F L c km w) (hpo : poR C n e (w ++ T)) (hT : enT T) (S : tRd) : ∃ C1 C2, (∀ h, ru_ev z 20 [.ref 1001] (clPut h C) = some (.inl none, clPut h C1)) ∧ ru_ev z 91 [.ref R] (clPut (rdH h R (A + 1) S) C1) = some (.inl none, clPut (rdH h R (A + 1) (S.1 + 1, S.2)) C2) ∧ tkT C2 n T ∧ fpI C0 C2 (gvQ q km c) := by
  obtain ⟨k12, ks, hc, ho⟩ := ho
  have eS := shS_eq hpq
  have kq : shS q km = true := by rw [eS]; exact ks
  have km7 := (shS_rng hq.2.2.2 kq).2.2.1
  have hne : ¬ cnB (shS q) 12 = 0 := fun h0 => by have := cnB_pos 12 k12 kq; omega
  have l32 : isL 32 = false := by decide
  have ok := fp_pi hq hpi hE
  rcases ho with ⟨a, b, ha, hb, r, M, ee, i, j, h1, h2, h3, h4, h5, h6, rfl, rfl⟩ | ⟨a, ha, r, M, ee, i, j, lf, h1, h2, h3, h4, h5, rfl, rfl⟩ | ⟨px, py, fr, h1, h2, h3, rfl⟩
  · have e0 : lwT 15 ++ pfT F L a ++ [32] ++ pfT F L b ++ [32] ++ pfT F L c ++ T = sbT 26 ++ ([32] ++ (F a ++ ([32] ++ (L a ++ ([32] ++ (F b ++ ([32] ++ (L b ++ ([32] ++ (F c ++ ([32] ++ (L c ++ T)))))))))))) := by rw [lw15]; unfold pfT; simp only [List.append_assoc]
    rw [e0] at hpo
    obtain ⟨C1, a1, a2, a3⟩ := av_w (z := z) (sp := []) hpo spK_0 (W := sbT 26) ⟨by decide, by decide, by decide⟩ (Or.inr l32)
    obtain ⟨C2, b1, b2, b3⟩ := f110 (z := z) hR hst hs (fpI_S hq a3) hpi hE ha hb hc (rowAt_q hpq hq.2.2.2 ok h1) h2 h3 (by rw [shH_q hpq hq.2.2.2]; exact h4) (by rw [shH_q hpq hq.2.2.2]; exact h5) h6 a2 hT S
    exact ⟨C1, C2, a1, f91b hR hst a2 b1, b2, b3⟩
  · have e0 : lwT 16 ++ pfT F L a ++ (if lf = 1 then lwT 17 else lwT 18) ++ pfT F L c ++ T = sbT 25 ++ ([32] ++ (F a ++ ([32] ++ (L a ++ ([32] ++ ((if lf = 1 then sbT 20 else sbT 19) ++ ([32] ++ (F c ++ ([32] ++ (L c ++ T)))))))))) := by
      rw [lw16, lw17, lw18]; unfold pfT
      split <;> simp only [List.append_assoc]
    rw [e0] at hpo
    obtain ⟨C1, a1, a2, a3⟩ := av_w (z := z) (sp := []) hpo spK_0 (W := sbT 25) ⟨by decide, by decide, by decide⟩ (Or.inr l32)
    obtain ⟨C2, b1, b2, b3⟩ := f106 (z := z) hR hst hs (fpI_S hq a3) hpi hE ha hc (rowAt_q hpq hq.2.2.2 ok h1) h2 h3 (by rw [shH_q hpq hq.2.2.2]; exact h4) h5 (by
      rcases h5 with ⟨rfl, -⟩ | ⟨rfl, -⟩
      · left; exact ⟨rfl, if_pos rfl⟩
      · right; exact ⟨rfl, if_neg (by decide)⟩) a2 hT S
    exact ⟨C1, C2, a1, f91s hR hst a2 b1, b2, b3⟩
  · have e0 : lwT 19 ++ numT px ++ [32] ++ numT py ++ [32] ++ pfT F L c ++ T = sbT 24 ++ ([32] ++ (numT px ++ ([32] ++ (numT py ++ ([32] ++ (F c ++ ([32] ++ (L c ++ T)))))))) := by rw [lw19]; unfold pfT; simp only [List.append_assoc]
    rw [e0] at hpo
    obtain ⟨C1, a1, a2, a3⟩ := av_w (z := z) (sp := []) hpo spK_0 (W := sbT 24) ⟨by decide, by decide, by decide⟩ (Or.inr l32)
    obtain ⟨C2, b1, b2, b3⟩ := f103 (z := z) hR hst hs (fpI_S hq a3) hpi hE h1 h2 hc km7 hne (fun n' e' u1 u2 => neS_q hpq hq.2.2.2 hp h3 u1 u2) a2 hT S
    exact ⟨C1, C2, a1, f91t hR hst a2 b1, b2, b3⟩
end PHO
