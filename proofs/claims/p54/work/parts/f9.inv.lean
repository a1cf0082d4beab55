/-! ===== the class between calls: what stays, whatever the law does ===== -/
/-- the class's album is sound: its gap, its names' words -/
def yqI (C : tCl) (gap : Int) (NN : Nat) (F L : Nat → List Nat) : Prop := clR C ∧ hiC C ∧ phA C ∧ nmS C (alb C) NN F L ∧ C.1 (alb C) 0 = gap
/-- the class's photos are these -/
def ypI (C : tCl) (P : Nat) (Q : Nat → tPh) : Prop := cPm C = (P : Int) ∧ P ≤ 5 ∧ ∀ f, f < P → pheq (cph C (cAp C f)) (Q f)
theorem stS_far {t : Nat} (ht : isSt t) {i : Nat} (hi : i < 5) : (t + 2 + 5 * i ≠ 1001 ∧ t + 2 + 5 * i ≠ 1258 ∧ t + 2 + 5 * i ≠ 1070 ∧ t + 2 + 5 * i ≠ 1081 ∧ t + 2 + 5 * i ≠ 1065) ∧ ∀ c, c < 4 → t + 2 + 5 * i + 1 + c ≠ 1002 ∧ t + 2 + 5 * i + 1 + c ≠ 1260 ∧ (t + 2 + 5 * i + 1 + c < 1065 ∨ 1091 < t + 2 + 5 * i + 1 + c) := by
  have hm : t ∈ stS := ht
  have key : ∀ t ∈ stS, ∀ i, i < 5 → (t + 2 + 5 * i ≠ 1001 ∧ t + 2 + 5 * i ≠ 1258 ∧ t + 2 + 5 * i ≠ 1070 ∧ t + 2 + 5 * i ≠ 1081 ∧ t + 2 + 5 * i ≠ 1065) ∧ ∀ c, c < 4 → t + 2 + 5 * i + 1 + c ≠ 1002 ∧ t + 2 + 5 * i + 1 + c ≠ 1260 ∧ (t + 2 + 5 * i + 1 + c < 1065 ∨ 1091 < t + 2 + 5 * i + 1 + c) := by decide +kernel
  exact key t hm i hi
section INV
variable {C C' : tCl} {gap : Int} {NN P : Nat} {F L : Nat → List Nat} {Q : Nat → tPh}
/-- cells beside the album change -/
theorem yc_fr (h : yqI C gap NN F L) (r1 : C'.2.2.2 1000 = C.2.2.2 1000) (r2 : C'.2.2.2 1093 = C.2.2.2 1093) (d1 : ∀ x, x ≠ 1001 → x ≠ 1258 → x ≠ 1070 → x ≠ 1081 → x ≠ 1065 → C'.1 x = C.1 x) (d3 : ∀ x, x ≠ 1002 → x ≠ 1260 → (x < 1065 ∨ 1091 < x) → C'.2.1 x = C.2.1 x) (dj : ∀ q j, q ≠ 1001 → C'.2.2.1 q j = C.2.2.1 q j) (h65 : phR (cph C' 1065)) : yqI C' gap NN F L ∧ (∀ P Q, ypI C P Q → ypI C' P Q) ∧ alb C' = alb C := by
  obtain ⟨hR, hH, hA, hS, hG⟩ := h
  obtain ⟨-, -, -, -, hst, -, -, a1, a2⟩ := clA_k hR.1
  have hal : alb C' = alb C := by unfold alb; rw [r1]
  have hc1 : ∀ x, x < 1065 → x ≠ 1001 → C'.1 x = C.1 x := fun x h1 h2 => d1 x h2 (by omega) (by omega) (by omega) (by omega)
  have hcP : cPm C' = cPm C := by unfold cPm; rw [hal, hc1 _ (by omega) (by omega)]
  have hcN : cNm C' = cNm C := by unfold cNm; rw [hal, hc1 _ (by omega) (by omega)]
  have hcA : ∀ i, cAp C' i = cAp C i := fun i => by unfold cAp; rw [hal]
  have hpA : ∀ i, i < 5 → cph C' (cAp C i) = cph C (cAp C i) := fun i hi => cph_eq (hc1 _ (by unfold cAp; omega) (by unfold cAp; omega)) (fun c hc => d3 _ (by unfold cAp; omega) (by unfold cAp; omega) (by unfold cAp; omega))
  refine ⟨⟨⟨?_, by rw [hcP]; exact hR.2.1, by rw [hcN]; exact hR.2.2.1, by rw [hal, hc1 _ (by omega) (by omega)]; exact hR.2.2.2.1, fun i hi => by rw [hcA, hpA i hi]; exact hR.2.2.2.2 i hi⟩, ⟨by rw [r2]; exact hH.1, by rw [r2]; exact hH.2.1, by rw [d1 1092 (by decide) (by decide) (by decide) (by decide) (by decide)]; exact hH.2.2⟩, ⟨fun t ht i hi => ?_, h65⟩, ?_, by rw [hal, hc1 _ (by omega) (by omega)]; exact hG⟩, fun P Q hp => ⟨by rw [hcP]; exact hp.1, hp.2.1, fun f hf => ?_⟩, hal⟩
  · have := hR.1
    unfold clA at this ⊢
    rw [r1]; exact this
  · obtain ⟨f1, f2⟩ := stS_far ht hi
    rw [cph_eq (d1 _ f1.1 f1.2.1 f1.2.2.1 f1.2.2.2.1 f1.2.2.2.2) (fun c hc => d3 _ (f2 c hc).1 (f2 c hc).2.1 (f2 c hc).2.2)]
    exact hA.1 t ht i hi
  · rw [hal]
    exact nmS_c hS (hc1 _ (by omega) (by omega)) (fun j => dj _ _ (by omega)) (fun j => dj _ _ (by omega))
  · rw [hcA, hpA f (by have := hp.2.1; omega)]; exact hp.2.2 f hf
theorem cph_pi65 {C : tCl} {P : Nat} {p : tPi} (hP : isPi P) : cph (piPut C P p) 1065 = cph C 1065 := piPut_ph (by rcases hP with rfl | rfl <;> omega)
theorem yc_pi {P1 : Nat} {p : tPi} (hP : isPi P1) (h : yqI C gap NN F L) : yqI (piPut C P1 p) gap NN F L ∧ (∀ P Q, ypI C P Q → ypI (piPut C P1 p) P Q) ∧ alb (piPut C P1 p) = alb C := by
  refine yc_fr h rfl rfl (fun x _ _ h1 h2 _ => piPut_1 (by rcases hP with rfl | rfl <;> omega)) (fun x _ _ h1 => piPut_2 (by rcases hP with rfl | rfl <;> omega)) (fun _ _ _ => rfl) ?_
  rw [cph_pi65 hP]; exact h.2.2.1.2
/-- a change is recorded -/
theorem yc_rec {C1 : tCl} (h : yqI C gap NN F L) (hs : hsOK C C1 (alb C + 4)) : yqI C1 gap NN F L ∧ (∀ P Q, ypI C P Q → ypI C1 P Q) ∧ alb C1 = alb C ∧ (∀ f, f < 5 → cph C1 (cAp C f) = cph C (cAp C f)) ∧ C1.1 1001 = C.1 1001 ∧ C1.2.1 1002 = C.2.1 1002 := by
  obtain ⟨hR, hH, hA, hS, hG⟩ := h
  obtain ⟨s1, s2, s3, s', t1, t2, t3, t4, t5, t6, t7⟩ := hs
  obtain ⟨-, -, -, -, hst, -, -, a1, a2⟩ := clA_k hR.1
  have ho : ∀ q, q ≠ 1093 → C1.2.2.2 q = C.2.2.2 q := fun q hq => by
    rw [s2]; split
    · exact rotR_o hq
    · rfl
  have hal : alb C1 = alb C := by unfold alb; rw [ho 1000 (by decide)]
  have hph : ∀ a, a + 4 < s' ∨ s' + 26 < a → a ≠ 1092 → cph C1 a = cph C a := fun a hx hne => cph_eq ((t7 a (by omega)).1 hne) (fun c hc => (t7 (a + 1 + c) (by omega)).2)
  have hpA : ∀ f, f < 5 → cph C1 (cAp C f) = cph C (cAp C f) := fun f hf => hph _ (by unfold cAp; omega) (by unfold cAp; omega)
  have hcA : ∀ f, cAp C1 f = cAp C f := fun f => by unfold cAp; rw [hal]
  have hc1 : ∀ x, x < 1065 → C1.1 x = C.1 x := fun x hx => (t7 x (by omega)).1 (by omega)
  have hcP : cPm C1 = cPm C := by unfold cPm; rw [hal, hc1 _ (by omega)]
  have hcN : cNm C1 = cNm C := by unfold cNm; rw [hal, hc1 _ (by omega)]
  have hlast : ∀ t, isSt t → t ≠ s' → t + 26 < s' ∨ s' + 26 < t := fun t ht hne => isSt_sep ht t1 hne
  have h6 := hH.2.2
  refine ⟨⟨⟨?_, by rw [hcP]; exact hR.2.1, by rw [hcN]; exact hR.2.2.1, by rw [hal, hc1 _ (by omega)]; exact hR.2.2.2.1, fun i hi => by rw [hcA, hpA i hi]; exact hR.2.2.2.2 i hi⟩, ⟨fun i hi => ?_, fun i j hi hj he => ?_, by rw [s1]; split <;> omega⟩, ⟨fun t ht i hi => ?_, ?_⟩, ?_, by rw [hal, hc1 _ (by omega)]; exact hG⟩, fun P Q hp => ⟨by rw [hcP]; exact hp.1, hp.2.1, fun f hf => ?_⟩, hal, hpA, hc1 _ (by omega), (t7 _ (by omega)).2⟩
  · have := hR.1
    unfold clA at this ⊢
    rw [ho 1000 (by decide)]; exact this
  · rw [s2]
    split
    · simp only [rotR, if_true]
      by_cases c : i < 5
      · rw [if_pos c]; exact hH.1 (i + 1) (by omega)
      · rw [if_neg c, if_pos (by omega)]; exact hH.1 0 (by omega)
    · exact hH.1 i hi
  · rw [s2] at he
    split at he
    · simp only [rotR, if_true] at he
      by_cases c : i < 5
      · by_cases c2 : j < 5
        · rw [if_pos c, if_pos c2] at he
          have := hH.2.1 _ _ (by omega) (by omega) he; omega
        · rw [if_pos c, if_neg c2, if_pos (by omega)] at he
          have := hH.2.1 _ _ (by omega) (by omega) he; omega
      · by_cases c2 : j < 5
        · rw [if_neg c, if_pos (by omega), if_pos c2] at he
          have := hH.2.1 _ _ (by omega) (by omega) he; omega
        · omega
    · exact hH.2.1 _ _ hi hj he
  · by_cases e : t = s'
    · subst e; exact (t6 i hi).2
    · have := hlast t ht e
      have := isSt_ne ht hi
      rw [hph _ (by omega) (by omega)]
      exact hA.1 t ht i hi
  · rw [hph 1065 (by omega) (by omega)]; exact hA.2
  · rw [hal]
    exact nmS_c hS (hc1 _ (by omega)) (fun j => by rw [s3]) (fun j => by rw [s3])
  · rw [hcA, hpA f (by have := hp.2.1; omega)]; exact hp.2.2 f hf
/-- a photo of the album changes -/
theorem yc_ph {n : Nat} {q' : tPh} (h : yqI C gap NN F L) (hn5 : n < 5) (hz : ∀ c, 4 ≤ c → q'.2 c = fun _ => 0) (hR' : phR q') : yqI (phP C (cAp C n) q') gap NN F L ∧ (∀ P Q p', ypI C P Q → pheq q' p' → ypI (phP C (cAp C n) q') P (fun f => if f = n then p' else Q f)) ∧ alb (phP C (cAp C n) q') = alb C ∧ (phP C (cAp C n) q').1 1001 = C.1 1001 ∧ (phP C (cAp C n) q').2.1 1002 = C.2.1 1002 := by
  obtain ⟨hR, hH, hA, hS, hG⟩ := h
  obtain ⟨-, -, -, -, hst, -, -, a1, a2⟩ := clA_k hR.1
  have hal : alb (phP C (cAp C n) q') = alb C := rfl
  have hcA : ∀ f, cAp (phP C (cAp C n) q') f = cAp C f := fun f => rfl
  have hcP : cPm (phP C (cAp C n) q') = cPm C := by unfold cPm; rw [hal, phP_1 (by unfold cAp; omega)]
  have hcN : cNm (phP C (cAp C n) q') = cNm C := by unfold cNm; rw [hal, phP_1 (by unfold cAp; omega)]
  have hgap : (phP C (cAp C n) q').1 (alb C) 0 = C.1 (alb C) 0 := by rw [phP_1 (by unfold cAp; omega)]
  have ho : ∀ f, f < 5 → f ≠ n → cph (phP C (cAp C n) q') (cAp C f) = cph C (cAp C f) := fun f hf hne => phP_ph (by unfold cAp; omega)
  have he : cph (phP C (cAp C n) q') (cAp C n) = q' := phP_eq hz
  have hphs : ∀ t, isSt t → t ≠ alb C + 4 → ∀ f, f < 5 → cph (phP C (cAp C n) q') (t + 2 + 5 * f) = cph C (t + 2 + 5 * f) := fun t ht hne f hf => by
    have := isSt_sep ht hst hne
    exact phP_ph (by unfold cAp; omega)
  refine ⟨⟨⟨hR.1, by rw [hcP]; exact hR.2.1, by rw [hcN]; exact hR.2.2.1, by rw [hal, hgap]; exact hR.2.2.2.1, fun i hi => ?_⟩, ⟨hH.1, hH.2.1, by rw [phP_1 (by unfold cAp; omega)]; exact hH.2.2⟩, ⟨fun t ht i hi => ?_, ?_⟩, ?_, by rw [hal, hgap]; exact hG⟩, fun P Q p' hp hE => ⟨by rw [hcP]; exact hp.1, hp.2.1, fun f hf => ?_⟩, hal, phP_1 (by unfold cAp; omega), phP_2 (by unfold cAp; omega)⟩
  · rw [hcA]
    by_cases e : i = n
    · subst e; rw [he]; exact hR'
    · rw [ho i hi e]; exact hR.2.2.2.2 i hi
  · by_cases e : t = alb C + 4
    · subst e
      by_cases e2 : i = n
      · subst e2
        have he9 : cph (phP C (cAp C i) q') (alb C + 4 + 2 + 5 * i) = q' := he
        rw [he9]; exact hR'
      · have h9 := hA.1 _ ht i hi
        show phR (cph (phP C (cAp C n) q') (cAp C i))
        rw [ho i hi e2]; exact h9
    · rw [hphs t ht e i hi]; exact hA.1 t ht i hi
  · rw [phP_ph (by unfold cAp; omega)]; exact hA.2
  · rw [hal]
    exact nmS_c hS (phP_1 (by unfold cAp; omega)) (fun j => rfl) (fun j => rfl)
  · rw [hcA]
    have h5 := hp.2.1
    by_cases e : f = n
    · subst e; dsimp only; rw [he, if_pos rfl]; exact hE
    · dsimp only; rw [ho f (by omega) e, if_neg e]; exact hp.2.2 f hf
/-- recorded and done -/
theorem yc_chg {C1 : tCl} {n : Nat} {q' p' : tPh} (h : yqI C gap NN F L) (hp : ypI C P Q) (hn : n < 5) (hs : hsOK C C1 (alb C + 4)) (hz : ∀ c, 4 ≤ c → q'.2 c = fun _ => 0) (hR' : phR q') (hE : pheq q' p') : yqI (phP C1 (cAp C n) q') gap NN F L ∧ ypI (phP C1 (cAp C n) q') P (fun f => if f = n then p' else Q f) ∧ (phP C1 (cAp C n) q').1 1001 = C.1 1001 ∧ (phP C1 (cAp C n) q').2.1 1002 = C.2.1 1002 := by
  obtain ⟨a1, a2, a3, a4, a5, a6⟩ := yc_rec h hs
  have ec : cAp C1 n = cAp C n := by unfold cAp; rw [a3]
  obtain ⟨b1, b2, b3, b4, b5⟩ := yc_ph (n := n) (q' := q') a1 hn hz hR'
  rw [ec] at b1 b2 b4 b5
  exact ⟨b1, b2 P Q p' (a2 P Q hp) hE, b4.trans a5, b5.trans a6⟩
end INV
