/-! ===== the class reads a phrase of a row ===== -/
theorem gf_q {q p : tPh} {NN : Int} {e : Nat → Nat} {ns : Nat → Int} (c : pheq q p) (hr : phR p) (hN : phN p NN) (hNN : NN ≤ 20) : ∀ k, (∀ i, i < k → ns i < NN) → pheq (gfC e ns k q) (gfL e ns k p) ∧ phN (gfL e ns k p) NN ∧ phR (gfL e ns k p)
  | 0, _ => ⟨c, hN, hr⟩
  | k + 1, h => by
    obtain ⟨a1, a2, a3⟩ := gf_q (e := e) c hr hN hNN k (fun i hi => h i (by omega))
    have hk := h k (by omega)
    rw [gfC, gfL]
    by_cases d : ns k < 0
    · rw [if_pos d, if_pos d]; exact ⟨a1, a2, a3⟩
    · rw [if_neg d, if_neg d]
      exact ⟨lgv_q a1 a3 a2 (by omega), lgv_N a3 a2 (by omega), lgv_R a3 (by omega)⟩
theorem lw7 : lwT 7 = sbT 23 := rfl
theorem lw8 : lwT 8 = sbT 18 ++ [32] := rfl
theorem lw9 : lwT 9 = [32] ++ sbT 20 := rfl
theorem lw10 : lwT 10 = [32] ++ sbT 19 := rfl
section PHW2
variable {z : Bool} {C0 C : tCl} {n A N R : Nat} {F L : Nat → List Nat} {h : am_H} {q p : tPh}
theorem itT_h {ns : Nat → Int} {most : Nat} (hm : 1 ≤ most) (T : List Nat) : isL ((itT F L ns most ++ T).getD 0 0) = false := by
  have e0 := itR_T (F := F) (L := L) (ns := ns) most 0
  rw [Nat.zero_add] at e0
  obtain ⟨m, rfl⟩ : ∃ m, most = m + 1 := ⟨most - 1, by omega⟩
  rw [← e0, itR, if_pos rfl]
  show isL 32 = false
  decide
theorem f91row {e0 : Nat} (hR : 1315 ≤ R) (hst : strs h) (hs : nmS C0 A N F L) {q0 : tPh} {gap : Int} (hq : fpI C0 C q) (hpi : piOK (piGet C0 1070) q0 gap) (hE : psE q q0) (hpq : pheq q p) {hd T : List Nat} {M most : Nat} {e : Nat → Nat} {lf : Int} {ns : Nat → Int} (ho : prRow p gap N hd M e lf ns most) (hpo : poR C n e0 (prT F L hd lf ns most ++ T)) (hT : enS T) (gv Tq cl : Int) (Q : Nat → Int) (fi : Nat → Int64) : ∃ (C1 C2 : tCl) (T2 cl2 : Int) (Q2 : Nat → Int) (fi2 : Nat → Int64), (∀ h, ru_ev z 20 [.ref 1001] (clPut h C) = some (.inl none, clPut h C1)) ∧ ru_ev z 91 [.ref R] (clPut (rdH h R (A + 1) (gv, Tq, cl, Q, fi)) C1) = some (.inl none, clPut (rdH h R (A + 1) (gv + (gfN ns most : Nat), T2, cl2, Q2, fi2)) C2) ∧ tkT C2 n T ∧ fpI C0 C2 (gfC (sdE e M lf) ns most q) := by
  obtain ⟨h0, h1, ⟨h2, h2'⟩, h3⟩ := ho
  have eS := shS_eq hpq
  have l32 : isL 32 = false := by decide
  have ok := fp_pi hq hpi hE
  obtain ⟨sd, hsde⟩ : ∃ sd, sd = if lf = 1 then sbT 20 else sbT 19 := ⟨_, rfl⟩
  have hsd : (lf = 1 ∧ sd = sbT 20) ∨ (lf = 0 ∧ sd = sbT 19) := by
    rcases h1 with rfl | rfl
    · right; exact ⟨rfl, by rw [hsde]; exact if_neg (by decide)⟩
    · left; exact ⟨rfl, by rw [hsde]; exact if_pos rfl⟩
  have esd : (if lf = 1 then lwT 9 else lwT 10) = [32] ++ sd := by
    rw [hsde, lw9, lw10]
    split <;> rfl
  have eT : prT F L hd lf ns most ++ T = hd ++ ([32] ++ (sd ++ (itT F L ns most ++ T))) := by
    unfold prT
    rw [esd]
    simp only [List.append_assoc]
  rw [eT] at hpo
  have hX := itT_h (F := F) (L := L) (ns := ns) h2 T
  have fin : ∀ (C1 : tCl) (i : Nat), (∀ h, ru_ev z 20 [.ref 1001] (clPut h C) = some (.inl none, clPut h C1)) → (∃ (C3 : tCl) (Q3 : Nat → Int), (∀ k, k < M → Q3 k = (e k : Int)) ∧ M ≤ 12 ∧ (∀ k, k < M → shS q (e k) = true) ∧ tkw C3 n sd (itT F L ns most ++ T) ∧ fpI C0 C3 q ∧ ∀ G, ru_ev z 95 [.ref R] (clPut (rdH h R (A + 1) (gv, (M : Int), cl, Q3, fi)) C3) = some (.inl none, G) → ru_ev z 91 [.ref R] (clPut (rdH h R (A + 1) (gv, Tq, cl, Q, fi)) C1) = some (.inl none, G)) → ∃ (C1 C2 : tCl) (T2 cl2 : Int) (Q2 : Nat → Int) (fi2 : Nat → Int64), (∀ h, ru_ev z 20 [.ref 1001] (clPut h C) = some (.inl none, clPut h C1)) ∧ ru_ev z 91 [.ref R] (clPut (rdH h R (A + 1) (gv, Tq, cl, Q, fi)) C1) = some (.inl none, clPut (rdH h R (A + 1) (gv + (gfN ns most : Nat), T2, cl2, Q2, fi2)) C2) ∧ tkT C2 n T ∧ fpI C0 C2 (gfC (sdE e M lf) ns most q) := fun C1 _ a1 hh => by
    obtain ⟨C3, Q3, b1, b2, b3, b4, b5, b6⟩ := hh
    obtain ⟨C4, Q4, fi4, c1, c2, c3⟩ := f95 (z := z) (h := h) (R := R) hR hst hs (e := e) (ns := ns) (T0 := M) (most := most) (lf := lf) (sd := sd) (T := T) (gv := gv) (cl := cl) (Q := Q3) (fi := fi) b2 ⟨h2, h2'⟩ (fun k hk => ⟨b1 k hk, (shS_rng hq.2.2.2 (b3 k hk)).2.2.1⟩) (fun k hk => (h3 k hk).2) hT hsd b5 b4
    exact ⟨C1, C4, _, _, Q4, fi4, a1, b6 _ c1, c2, c3⟩
  rcases h0 with ⟨rfl, h5⟩ | ⟨r, RR, rc, h5, h6, rfl, h7⟩
  · rw [lw7] at hpo
    obtain ⟨C1, a1, a2, a3⟩ := av_w (z := z) (sp := []) hpo spK_0 (W := sbT 23) ⟨by decide, by decide, by decide⟩ (Or.inr l32)
    have he : enO (shS q) (kyO (shX q) (shY q)) M e := by
      have h8 : enO (shS q) (kyO (shX p) (shY p)) M e := enO_S h5 (fun k _ => by rw [eS])
      refine enO_key h8 (fun a b ha hb sa sb hl => ?_)
      unfold kyO at hl ⊢
      rw [pheq_shX hpq (shS_rng hq.2.2.2 sa).2.2.1, pheq_shX hpq (shS_rng hq.2.2.2 sb).2.2.1, pheq_shY hpq (shS_rng hq.2.2.2 sa).2.2.1, pheq_shY hpq (shS_rng hq.2.2.2 sb).2.2.1]
      exact hl
    obtain ⟨C3, Q3, b1, b2, b3, b4⟩ := f102 (z := z) (h := h) (A := A) hR (fpI_S hq a3) hpi hE he (sd_wd hsd) (Or.inr hX) a2 (gv := gv) (Tq := Tq) (cl := cl) (Q := Q) (fi := fi)
    exact fin C1 0 a1 ⟨C3, Q3, b2, enO_12 he, fun k hk => (he.1 k hk).2, b3, b4, fun G hG => f91a hR hst a2 (W := 0) b1 hG⟩
  · have e1 : lwT 8 ++ numT r ++ ([32] ++ (sd ++ (itT F L ns most ++ T))) = sbT 18 ++ ([32] ++ (numT r ++ ([32] ++ (sd ++ (itT F L ns most ++ T))))) := by rw [lw8]; simp only [List.append_assoc]
    rw [e1] at hpo
    obtain ⟨C1, a1, a2, a3⟩ := av_w (z := z) (sp := []) hpo spK_0 (W := sbT 18) ⟨by decide, by decide, by decide⟩ (Or.inr l32)
    have hrow : rowAt q gap r M e := rowAt_q hpq hq.2.2.2 ok ⟨RR, rc, h5, h6, h7⟩
    have rc12 := (rwOK_rc h6).2.2.1
    obtain ⟨C3, Q3, b1, b2, b3, b4⟩ := f92 (z := z) (h := h) (A := A) hR (fpI_S hq a3) hpi hE (by omega) hrow (sd_wd hsd) (Or.inr hX) a2 (gv := gv) (Tq := Tq) (cl := cl) (Q := Q) (fi := fi)
    exact fin C1 0 a1 ⟨C3, Q3, b2, enO_12 h7, fun k hk => by
      have := (h7.1 k hk).2
      simp only [Bool.and_eq_true] at this
      rw [eS]; exact this.1, b3, b4, fun G hG => f91r hR hst a2 (W := 0) b1 hG⟩
end PHW2
