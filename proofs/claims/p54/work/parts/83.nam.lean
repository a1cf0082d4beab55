/-! ===== a name given: both sides ===== -/
def gvA (S : Nat → Int) (q : tPh) (n k : Nat) (nm : Int) : Nat → Int := if nm = -1 then up1 S (54 * n + 6 + 4 * k + 3) 0 else gvS S n k (hofF (q.2 3) nm (q.1 7).toNat 0) nm
section NAM
variable {z : Bool} {h : am_H} {C : tCl} {M : tMd} {a : Nat} {q : tPh}
/-- the names behind a gift -/
theorem gvA_at {S : Nat → Int} {p : tPh} {n k : Nat} {nm N : Int} (hp : ∀ i, i < 12 → p.2 3 i = S (54 * n + 6 + 4 * i + 3) - 1) (hN : phN p N) (h7 : 0 ≤ p.1 7 ∧ p.1 7 ≤ 12) (hk : (k : Int) < p.1 7) (hnm : -1 ≤ nm) : (∀ i : Nat, (i : Int) < p.1 7 → gvA S p n k nm (54 * n + 6 + 4 * i + 3) - 1 = if i = k then nm else if p.2 3 i = nm ∧ ¬ nm = -1 then -1 else p.2 3 i) ∧ ∀ j, (∀ i : Nat, (i : Int) < p.1 7 → j ≠ 54 * n + 6 + 4 * i + 3) → gvA S p n k nm j = S j := by
  unfold gvA
  by_cases c : nm = -1
  · rw [if_pos c]
    refine ⟨fun i hi => ?_, fun j hj => up1_n (hj k hk)⟩
    unfold up1
    by_cases e : i = k
    · rw [if_pos (by omega), if_pos e, c]; rfl
    · rw [if_neg (by omega), if_neg e, if_neg (fun h => h.2 c), hp i (by omega)]
  · rw [if_neg c]
    unfold gvS
    rcases hofF_sp (p.2 3) nm (p.1 7).toNat 0 with ⟨c1, c2⟩ | ⟨o, c1, -, c2, c3⟩
    · rw [c1, if_pos rfl]
      refine ⟨fun i hi => ?_, fun j hj => up1_n (hj k hk)⟩
      unfold up1
      by_cases e : i = k
      · rw [if_pos (by omega), if_pos e, Int.add_sub_cancel]
      · rw [if_neg (by omega), if_neg e, if_neg (fun h => c2 i (by omega) (by omega) h.1), hp i (by omega)]
    · rw [c1, if_neg (by omega), Int.toNat_natCast]
      refine ⟨fun i hi => ?_, fun j hj => ?_⟩
      · unfold up1
        by_cases e : i = k
        · rw [if_pos (by omega), if_pos e, Int.add_sub_cancel]
        · rw [if_neg (by omega), if_neg e]
          by_cases e2 : i = o
          · subst e2
            rw [if_pos rfl, if_pos ⟨c3, c⟩]; rfl
          · rw [if_neg (by omega), if_neg (fun h => e2 (hN.2.1 i o hi (by omega) (by rw [h.1, c3]) (by rw [h.1]; exact c))), hp i (by omega)]
      · rw [up1_n (hj k hk), up1_n (hj o (by omega))]
theorem nm_ch {n k : Nat} {nm : Int} (hM : mdR M) (hg : rgI M) (hN : phN (mph M n) (M.1 20)) (hn : n < 5) (hk : (k : Int) < q.1 7) (hz : ∀ c, 4 ≤ c → q.2 c = fun _ => 0) (hr : phR q) (he : pheq q (mph M n)) (hnm : -1 ≤ nm ∧ nm < M.1 20) : phCh M n (q.1, upC q.2 3 (am_up (gvF (q.2 3) nm (q.1 7).toNat) k nm)) (gvA (M.2 0) (mph M n) n k nm) := by
  have h20 := hM.2.2.2.1
  have hm := hM.2.2.2.2.2.2 n hn
  have s := phR_s hr
  have sm := phR_s hm
  have e7 := he.1 7 (by decide)
  obtain ⟨g1, g2⟩ := gvA_at (S := M.2 0) (p := mph M n) (n := n) (k := k) (nm := nm) (fun i hi => (mph_x hi).2.2.2.symm) hN (by omega) (by omega) hnm.1
  have hnew : ∀ i : Nat, (i : Int) < q.1 7 → am_up (gvF (q.2 3) nm (q.1 7).toNat) k nm i = gvA (M.2 0) (mph M n) n k nm (54 * n + 6 + 4 * i + 3) - 1 := fun i hi => by
    rw [g1 i (by omega)]
    have e3 := he.2 3 i (by decide) hi
    unfold am_up gvF
    by_cases e : i = k
    · rw [if_pos e, if_pos e]
    · rw [if_neg e, if_neg e, e3]
      by_cases c : (mph M n).2 3 i = nm
      · rw [if_pos ⟨by omega, c⟩]
        by_cases c2 : nm = -1
        · rw [if_neg (fun h => h.2 c2), c, c2]
        · rw [if_pos ⟨c, c2⟩]
      · rw [if_neg (fun h => c h.2), if_neg (fun h => c h.1)]
  have hcell : ∀ i : Nat, (i : Int) < q.1 7 → -1 ≤ gvA (M.2 0) (mph M n) n k nm (54 * n + 6 + 4 * i + 3) - 1 ∧ gvA (M.2 0) (mph M n) n k nm (54 * n + 6 + 4 * i + 3) - 1 < M.1 20 := fun i hi => by
    rw [g1 i (by omega)]
    have a1 := hN.1 i (by omega)
    have a2 := (phR_i hm i).2.2.2
    split
    · omega
    · split <;> omega
  have hall : ∀ j, (∃ i : Nat, (i : Int) < q.1 7 ∧ j = 54 * n + 6 + 4 * i + 3) ∨ gvA (M.2 0) (mph M n) n k nm j = M.2 0 j := fun j => by
    by_cases c : ∃ i : Nat, (i : Int) < q.1 7 ∧ j = 54 * n + 6 + 4 * i + 3
    · exact Or.inl c
    · exact Or.inr (g2 j (fun i hi hj => c ⟨i, by omega, hj⟩))
  have hsr0 := srR_of hM
  have hold : ∀ j, (∀ i : Nat, i < 12 → j ≠ 54 * n + 6 + 4 * i + 3) → gvA (M.2 0) (mph M n) n k nm j = M.2 0 j := fun j hj => g2 j (fun i hi => hj i (by omega))
  refine ⟨fun c hc => ?_, ⟨hr.1, hr.2.1, hr.2.2.1, fun c i => ?_, fun i => ?_, fun i => ?_⟩, fun j => ?_, fun f hf => ?_, ⟨fun x hx => ?_, fun c i hc hi => ?_⟩, ⟨fun i hi => ?_, fun i j hi hj hij hne => ?_, phN_f (fun j hj => hold _ (fun i hi => by omega)) hN.2.2⟩, fun f hf hne j h1 h2 => ?_⟩
  · show upC q.2 3 (am_up (gvF (q.2 3) nm (q.1 7).toNat) k nm) c = _
    rw [upC_n (by omega)]; exact hz c hc
  · have a1 := hr.2.2.2.1 c i
    show -1 ≤ upC q.2 3 (am_up (gvF (q.2 3) nm (q.1 7).toNat) k nm) c i ∧ upC q.2 3 (am_up (gvF (q.2 3) nm (q.1 7).toNat) k nm) c i ≤ 999
    by_cases e : c = 3
    · subst e
      rw [upC_e]
      unfold am_up gvF
      split
      · omega
      · split <;> omega
    · rw [upC_n e]; exact a1
  · show 0 ≤ upC q.2 3 (am_up (gvF (q.2 3) nm (q.1 7).toNat) k nm) 2 i ∧ upC q.2 3 (am_up (gvF (q.2 3) nm (q.1 7).toNat) k nm) 2 i ≤ 1
    rw [upC_n (by decide)]; exact hr.2.2.2.2.1 i
  · have a1 := hr.2.2.2.2.2 i
    show upC q.2 3 (am_up (gvF (q.2 3) nm (q.1 7).toNat) k nm) 3 i ≤ 19
    rw [upC_e]
    unfold am_up gvF
    split
    · omega
    · split <;> omega
  · rcases hall j with ⟨i, i1, i2⟩ | c
    · have := hcell i i1
      rw [i2]; omega
    · rw [c]; exact hg.1 j
  · obtain ⟨a1, a2, a3⟩ := hsr0 f hf
    refine ⟨by rw [hold _ (fun i hi => by omega)]; exact a1, by rw [hold _ (fun i hi => by omega)]; exact a2, fun i hi => ⟨by rw [hold _ (fun i hi => by omega)]; exact (a3 i hi).1, ?_⟩⟩
    rcases hall (54 * f + 6 + 4 * i + 3) with ⟨i', i1, i2⟩ | c
    · have := hcell i' i1
      rw [i2]; omega
    · rw [c]; exact (a3 i hi).2
  · have e := he.1 x hx
    rw [mph_f] at e
    unfold msf at e ⊢
    dsimp only at e ⊢
    rw [e, hold _ (fun i hi => by omega)]
  · have hi9 : (i : Int) < q.1 7 := hi
    have hi12 : i < 12 := by omega
    have e := he.2 c i hc hi
    rw [mph_f] at e
    have hcc : c = 0 ∨ c = 1 ∨ c = 2 ∨ c = 3 := by omega
    rcases hcc with rfl | rfl | rfl | rfl
    · show upC q.2 3 (am_up (gvF (q.2 3) nm (q.1 7).toNat) k nm) 0 i = (msf _ _ _ n).2 0 i
      rw [upC_n (by decide), e]
      unfold msf
      dsimp only
      simp only [Nat.reduceEqDiff, if_false, Nat.reduceLT, if_true, if_pos hi12]
      rw [hold _ (fun i hi => by omega)]
    · show upC q.2 3 (am_up (gvF (q.2 3) nm (q.1 7).toNat) k nm) 1 i = (msf _ _ _ n).2 1 i
      rw [upC_n (by decide), e]
      unfold msf
      dsimp only
      simp only [Nat.reduceEqDiff, if_false, Nat.reduceLT, if_true, if_pos hi12]
      rw [hold _ (fun i hi => by omega)]
    · show upC q.2 3 (am_up (gvF (q.2 3) nm (q.1 7).toNat) k nm) 2 i = (msf _ _ _ n).2 2 i
      rw [upC_n (by decide), e]
      unfold msf
      dsimp only
      simp only [Nat.reduceEqDiff, if_false, Nat.reduceLT, if_true, if_pos hi12]
      rw [hold _ (fun i hi => by omega)]
    · show upC q.2 3 (am_up (gvF (q.2 3) nm (q.1 7).toNat) k nm) 3 i = (msf _ _ _ n).2 3 i
      rw [upC_e, hnew i hi9]
      unfold msf
      dsimp only
      rw [if_pos hi12, if_pos rfl]
  · have e7' : (msf (gvA (M.2 0) (mph M n) n k nm) (M.2 8) (M.2 9) n).1 7 = (mph M n).1 7 := hold (54 * n + 5) (fun i hi => by omega)
    rw [e7'] at hi
    have := hcell i (by omega)
    unfold msf
    dsimp only
    rw [if_pos (by omega), if_pos rfl]
    omega
  · have e7' : (msf (gvA (M.2 0) (mph M n) n k nm) (M.2 8) (M.2 9) n).1 7 = (mph M n).1 7 := hold (54 * n + 5) (fun i hi => by omega)
    rw [e7'] at hi hj
    have v : ∀ x : Nat, (x : Int) < (mph M n).1 7 → (msf (gvA (M.2 0) (mph M n) n k nm) (M.2 8) (M.2 9) n).2 3 x = if x = k then nm else if (mph M n).2 3 x = nm ∧ ¬ nm = -1 then -1 else (mph M n).2 3 x := fun x hx => by
      rw [← g1 x hx]
      unfold msf
      dsimp only
      rw [if_pos (by omega), if_pos rfl]
    rw [v i hi, v j hj] at hij
    rw [v i hi] at hne
    by_cases ei : i = k
    · by_cases ej : j = k
      · omega
      · rw [if_pos ei] at hne
        rw [if_pos ei, if_neg ej] at hij
        split at hij
        · exact absurd hij hne
        · rename_i h9; exact absurd ⟨hij.symm, hne⟩ h9
    · rw [if_neg ei] at hij hne
      by_cases ej : j = k
      · rw [if_pos ej] at hij
        split at hij
        · rename_i h9; exact absurd hij.symm h9.2
        · rename_i h9
          rw [if_neg h9] at hne
          exact absurd ⟨hij, by rw [← hij]; exact hne⟩ h9
      · rw [if_neg ej] at hij
        split at hij
        · rename_i h9
          rw [if_pos h9] at hne
          exact absurd rfl hne
        · rename_i h9
          rw [if_neg h9] at hne
          split at hij
          · exact absurd hij hne
          · exact hN.2.1 i j hi hj hij hne
  · exact hold j (fun i hi => by omega)
def rcG (C : tCl) (f k nm : Int) : Nat := if rcK C f k = 0 then (if nm = -1 then 0 else rcN C nm) else rcK C f k
def rfGv (M : tMd) (f k nm : Int) : Int := if rfK M f k = 0 then (if nm = -1 then 0 else if 0 ≤ nm ∧ nm ≤ M.1 20 - 1 then 0 else 2) else rfK M f k
theorem c364 (hR : clR C) (hH : hiC C) (hA : phA C) {f k nm : Int} (g : -2147483648 ≤ f ∧ f < 2147483648) (g2 : -2147483648 ≤ k ∧ k < 2147483648) (g3 : -2147483648 ≤ nm ∧ nm < 2147483648) : ∃ t v C', ru_ev z 364 [.ref 1000, .int (wI f), .int (wI k), .int (wI nm)] (clPut h C) = oR t (some (.int (wI v))) (clPut h C') (clPut (thr h) C') ∧ chG C f.toNat (rcG C f k nm) (fun q' v => q' = ((cph C (cAp C f.toNat)).1, upC (cph C (cAp C f.toNat)).2 3 (am_up (gvF ((cph C (cAp C f.toNat)).2 3) nm ((cph C (cAp C f.toNat)).1 7).toNat) k.toNat nm)) ∧ v = (cph C (cAp C f.toNat)).2 3 k.toNat) t v C' := by
  have e1 := d174 (z := z) (h := h) hR g g2
  unfold rcG
  by_cases e : rcK C f k = 0
  · rw [oR_0 e] at e1
    rw [if_pos e]
    obtain ⟨e0, b1, b2⟩ := rcK_0 e
    have hf := rcP_5 hR e0
    have ha := cAp_ph hR.1 hf
    have hq := (dph (h := h) hR e0).2
    have s := phR_s hq
    have si := phR_i hq k.toNat
    obtain ⟨C1, k1, k2⟩ := c113p (z := z) (h := h) hR hH hA hf
    have hz : ∀ c, 4 ≤ c → (cph C (cAp C f.toNat)).2 c = fun _ => 0 := fun c hc => cph_hi _ _ c hc
    have hpa := ph_at (h := h) (C := C1) (q := cph C (cAp C f.toNat)) ha hz
    by_cases cn : nm = -1
    · have m1 := m101 (z := z) hpa hq (p := k) (by omega) (nm := nm) (by omega)
      rw [ph_set3 ha] at m1
      rw [if_pos cn]
      have d1 : (nm = -1) = True := eq_true cn
      refine ⟨0, _, phP C1 (cAp C f.toNat) _, ?_, Or.inr ⟨rfl, rfl, C1, _, k1, rfl, rfl, rfl⟩⟩
      rw [oR_0 rfl]
      simp (disch := omega) only [en364, e364_0, e364_1, e364_2, e364_3, e364_6, e364_8, e364_9, e364_10, e364_13, e364_14, e364_15, e364_18, e364_19, e364_22, e364_23, e364_26, e364_29, e364_32, e364_34, e364_37, e364_38, e364_39, e364_41, e364_43, e364_44, e364_45, e364_48, e364_50, ↓reduceIte, Bool.false_eq_true, not_false_eq_true, not_true_eq_false, Nat.reduceLeDiff, Nat.reduceAdd, Nat.reduceEqDiff, Int.reduceToNat, Int.toNat_natCast, iB0, iB1, ru_klI, ru_klR, ru_klF, ru_klJ, ru_kl0, ru_cs0, ru_csI, ru_csR, ru_csF, ru_csJ, wI_add, wI_sub, wI_mul, wI_lt, wI_le, wI_inj, ru_fdE, ru_fdN, ru_iaN, ru_baN, ru_laN, ru_qaN, ru_pfN, ru_isN, ru_bsN, ru_jsN, ru_qsN, ru_set2, Nat.add_right_cancel_iff, if_true, if_false, ite_self, Int.reduceEq, and_self, Int.add_neg_cancel_right, Int.add_zero, Int.zero_add, ph_e ha, ph_f0 ha, ph_s0 ha, ph_f1 ha, ph_s1 ha, ph_f2 ha, ph_s2 ha, ph_f3 ha, ph_s3 ha, ph_f4 ha, ph_s4 ha, ph_f5 ha, ph_s5 ha, ph_f6 ha, ph_s6 ha, ph_f7 ha, ph_s7 ha, ph_f8 ha, ph_a0 ha, ph_w0 ha, ph_f9 ha, ph_a1 ha, ph_w1 ha, ph_f10 ha, ph_a2 ha, ph_w2 ha, ph_f11 ha, ph_a3 ha, ph_w3 ha, Int.reduceEq, ru_ctR, ru_ctI, upC_e, upC_n, upC_up, up1_e, up1_n, cl_e0, cl_g0_6, clF hR.1, e1, k2, d1, m1]
    · rw [if_neg cn]
      have d1 : (nm = -1) = False := eq_false cn
      have e2 := c214 (z := z) (h := h) hR g3
      by_cases cr : rcN C nm = 0
      · rw [oR_0 cr] at e2
        have hb : 0 ≤ nm ∧ nm < cNm C := by
          unfold rcN at cr
          split at cr
          · omega
          · split at cr
            · assumption
            · omega
        have h20 := hR.2.2.1
        have m1 := m101 (z := z) hpa hq (p := k) (by omega) (nm := nm) (by omega)
        rw [ph_set3 ha] at m1
        refine ⟨0, _, phP C1 (cAp C f.toNat) _, ?_, Or.inr ⟨cr, rfl, C1, _, k1, rfl, rfl, rfl⟩⟩
        rw [oR_0 rfl]
        simp (disch := omega) only [en364, e364_0, e364_1, e364_2, e364_3, e364_6, e364_8, e364_9, e364_10, e364_13, e364_14, e364_15, e364_18, e364_19, e364_22, e364_23, e364_26, e364_29, e364_32, e364_34, e364_37, e364_38, e364_39, e364_41, e364_43, e364_44, e364_45, e364_48, e364_50, ↓reduceIte, Bool.false_eq_true, not_false_eq_true, not_true_eq_false, Nat.reduceLeDiff, Nat.reduceAdd, Nat.reduceEqDiff, Int.reduceToNat, Int.toNat_natCast, iB0, iB1, ru_klI, ru_klR, ru_klF, ru_klJ, ru_kl0, ru_cs0, ru_csI, ru_csR, ru_csF, ru_csJ, wI_add, wI_sub, wI_mul, wI_lt, wI_le, wI_inj, ru_fdE, ru_fdN, ru_iaN, ru_baN, ru_laN, ru_qaN, ru_pfN, ru_isN, ru_bsN, ru_jsN, ru_qsN, ru_set2, Nat.add_right_cancel_iff, if_true, if_false, ite_self, Int.reduceEq, and_self, Int.add_neg_cancel_right, Int.add_zero, Int.zero_add, ph_e ha, ph_f0 ha, ph_s0 ha, ph_f1 ha, ph_s1 ha, ph_f2 ha, ph_s2 ha, ph_f3 ha, ph_s3 ha, ph_f4 ha, ph_s4 ha, ph_f5 ha, ph_s5 ha, ph_f6 ha, ph_s6 ha, ph_f7 ha, ph_s7 ha, ph_f8 ha, ph_a0 ha, ph_w0 ha, ph_f9 ha, ph_a1 ha, ph_w1 ha, ph_f10 ha, ph_a2 ha, ph_w2 ha, ph_f11 ha, ph_a3 ha, ph_w3 ha, Int.reduceEq, ru_ctR, ru_ctI, upC_e, upC_n, upC_up, up1_e, up1_n, cl_e0, cl_g0_6, clF hR.1, e1, e2, k2, d1, m1]
      · rw [oR_n cr] at e2
        refine ⟨rcN C nm, 0, C, ?_, Or.inl ⟨cr, rfl, rfl⟩⟩
        rw [oR_n cr]
        simp (disch := omega) only [en364, e364_0, e364_1, e364_2, e364_3, e364_6, e364_8, e364_9, e364_10, e364_13, e364_14, e364_15, e364_18, e364_19, e364_22, e364_23, e364_26, e364_29, e364_32, e364_34, e364_37, e364_38, e364_39, e364_41, e364_43, e364_44, e364_45, e364_48, e364_50, ↓reduceIte, Bool.false_eq_true, not_false_eq_true, not_true_eq_false, Nat.reduceLeDiff, Nat.reduceAdd, Nat.reduceEqDiff, Int.reduceToNat, Int.toNat_natCast, iB0, iB1, ru_klI, ru_klR, ru_klF, ru_klJ, ru_kl0, ru_cs0, ru_csI, ru_csR, ru_csF, ru_csJ, wI_add, wI_sub, wI_mul, wI_lt, wI_le, wI_inj, ru_fdE, ru_fdN, ru_iaN, ru_baN, ru_laN, ru_qaN, ru_pfN, ru_isN, ru_bsN, ru_jsN, ru_qsN, ru_set2, Nat.add_right_cancel_iff, if_true, if_false, ite_self, Int.reduceEq, and_self, Int.add_neg_cancel_right, Int.add_zero, Int.zero_add, cl_e0, e1, e2, d1]
  · rw [oR_n e] at e1
    rw [if_neg e]
    refine ⟨rcK C f k, 0, C, ?_, Or.inl ⟨e, rfl, rfl⟩⟩
    rw [oR_n e]
    simp (disch := omega) only [en364, e364_0, e364_1, e364_2, e364_3, e364_6, e364_8, e364_9, e364_10, e364_13, e364_14, e364_15, e364_18, e364_19, e364_22, e364_23, e364_26, e364_29, e364_32, e364_34, e364_37, e364_38, e364_39, e364_41, e364_43, e364_44, e364_45, e364_48, e364_50, ↓reduceIte, Bool.false_eq_true, not_false_eq_true, not_true_eq_false, Nat.reduceLeDiff, Nat.reduceAdd, Nat.reduceEqDiff, Int.reduceToNat, Int.toNat_natCast, iB0, iB1, ru_klI, ru_klR, ru_klF, ru_klJ, ru_kl0, ru_cs0, ru_csI, ru_csR, ru_csF, ru_csJ, wI_add, wI_sub, wI_mul, wI_lt, wI_le, wI_inj, ru_fdE, ru_fdN, ru_iaN, ru_baN, ru_laN, ru_qaN, ru_pfN, ru_isN, ru_bsN, ru_jsN, ru_qsN, ru_set2, Nat.add_right_cancel_iff, if_true, if_false, ite_self, Int.reduceEq, and_self, Int.add_neg_cancel_right, Int.add_zero, Int.zero_add, cl_e0, e1]
theorem p365 (hM : mdR M) {f k nm : Int} (g : -2147483648 ≤ f ∧ f < 2147483648) (g2 : -2147483648 ≤ k ∧ k < 2147483648) (g3 : -2147483648 ≤ nm ∧ nm < 2147483648) : ∃ b M', ru_ev z 365 [.ref 1315, .int (wI f), .int (wI k), .int (wI nm)] (mdPut h M) = some (.inl (some (.int (wI b))), mdPut h M') ∧ chH M (rfGv M f k nm) (fun S' b => S' = gvA (M.2 0) (mph M f.toNat) f.toNat k.toNat nm ∧ b = (mph M f.toNat).2 3 k.toNat) b M' := by
  have e := p176 (z := z) (h := h) hM g g2
  unfold rfGv
  by_cases e1 : rfK M f k = 0
  · obtain ⟨e0, c1, c2⟩ := rfK_0 e1
    obtain ⟨n, hn, rfl, hq⟩ := mph_at hM e0
    obtain ⟨x, rfl⟩ := Int.eq_ofNat_of_zero_le c1
    have s := phR_s hq
    simp only [Int.toNat_natCast] at c2 ⊢
    have hx : x < 12 := by omega
    have ex := (mph_x (M := M) (f := n) hx).2.2.2
    simp only [e1, if_true] at e ⊢
    obtain ⟨n', G', k1, k2⟩ := p350 (z := z) (h := h) (M := mdT M 0) hM.2.2.1
    have q0 : upC (mdT M 0).2 1 G' 0 = M.2 0 := upC_n (by decide)
    have hmp : mph (up1 (mdT M 0).1 4 n', upC (mdT M 0).2 1 G') n = mph M n := rfl
    have r1 := p125 (z := z) (h := h) (M := (up1 (mdT M 0).1 4 n', upC (mdT M 0).2 1 G')) (f := n) (k := x) hn hx (w := 3) (by omega) (by omega)
    rw [show 54 * n + 6 + 4 * x + (3 : Int).toNat = 54 * n + 6 + 4 * x + 3 by omega] at r1
    dsimp only at r1
    rw [q0] at r1
    by_cases cn : nm = -1
    · have d1 : (nm = -1) = True := eq_true cn
      have eg : gvA (M.2 0) (mph M n) n x nm = up1 (M.2 0) (54 * n + 6 + 4 * x + 3) 0 := by unfold gvA; rw [if_pos cn]
      have w1 := p141 (z := z) (h := h) (N := (up1 (mdT M 0).1 4 n', upC (mdT M 0).2 1 G')) (n := n) (k := x) (w := 3) hn hx (by decide) (v := 0)
      dsimp only at w1
      rw [q0] at w1
      rw [show ((3 : Nat) : Int) = 3 from rfl] at w1
      rw [if_pos cn, eg]
      refine ⟨_, _, ?_, Or.inr ⟨rfl, n', G', _, k1, rfl, rfl, rfl⟩⟩
      simp (disch := omega) only [en365, e365_0, e365_1, e365_2, e365_3, e365_6, e365_9, e365_10, e365_11, e365_14, e365_15, e365_16, e365_19, e365_22, e365_23, e365_24, e365_25, e365_28, e365_29, e365_30, e365_31, e365_32, e365_35, e365_36, e365_37, e365_39, e365_40, e365_41, e365_44, e365_45, e365_46, e365_47, e365_48, e365_49, e365_52, e365_55, e365_56, e365_57, e365_58, e365_59, e365_62, e365_64, ↓reduceIte, Bool.false_eq_true, not_false_eq_true, not_true_eq_false, Nat.reduceLeDiff, Nat.reduceAdd, Nat.reduceEqDiff, Int.reduceToNat, Int.toNat_natCast, iB0, iB1, ru_klI, ru_klR, ru_klF, ru_klJ, ru_kl0, ru_cs0, ru_csI, ru_csR, ru_csF, ru_csJ, wI_add, wI_sub, wI_mul, wI_lt, wI_le, wI_inj, ru_fdE, ru_fdN, ru_iaN, ru_baN, ru_laN, ru_qaN, ru_pfN, ru_isN, ru_bsN, ru_jsN, ru_qsN, ru_set2, Nat.add_right_cancel_iff, if_true, if_false, ite_self, Int.reduceEq, and_self, Int.add_neg_cancel_right, Int.add_zero, Int.zero_add, md_e, e, d1, k2, r1, w1, ex]
      rfl
    · have d1 : (nm = -1) = False := eq_false cn
      rw [if_neg cn]
      have e2 := p218 (z := z) (h := h) hM g3
      by_cases cr : 0 ≤ nm ∧ nm ≤ M.1 20 - 1
      · simp only [if_pos cr] at e2 ⊢
        have h20 := hM.2.2.2.1
        have eg : gvA (M.2 0) (mph M n) n x nm = gvS (M.2 0) n x (hofF ((mph M n).2 3) nm ((mph M n).1 7).toNat 0) nm := by unfold gvA; rw [if_neg cn]
        have w1 := p139 (z := z) (h := h) (N := (up1 (mdT M 0).1 4 n', upC (mdT M 0).2 1 G')) (n := n) (k := x) hn hx (by rw [hmp]; exact hq) (nm := nm) (by omega)
        rw [hmp] at w1
        dsimp only at w1
        rw [q0] at w1
        rw [eg]
        refine ⟨_, _, ?_, Or.inr ⟨rfl, n', G', _, k1, rfl, rfl, rfl⟩⟩
        simp (disch := omega) only [en365, e365_0, e365_1, e365_2, e365_3, e365_6, e365_9, e365_10, e365_11, e365_14, e365_15, e365_16, e365_19, e365_22, e365_23, e365_24, e365_25, e365_28, e365_29, e365_30, e365_31, e365_32, e365_35, e365_36, e365_37, e365_39, e365_40, e365_41, e365_44, e365_45, e365_46, e365_47, e365_48, e365_49, e365_52, e365_55, e365_56, e365_57, e365_58, e365_59, e365_62, e365_64, ↓reduceIte, Bool.false_eq_true, not_false_eq_true, not_true_eq_false, Nat.reduceLeDiff, Nat.reduceAdd, Nat.reduceEqDiff, Int.reduceToNat, Int.toNat_natCast, iB0, iB1, ru_klI, ru_klR, ru_klF, ru_klJ, ru_kl0, ru_cs0, ru_csI, ru_csR, ru_csF, ru_csJ, wI_add, wI_sub, wI_mul, wI_lt, wI_le, wI_inj, ru_fdE, ru_fdN, ru_iaN, ru_baN, ru_laN, ru_qaN, ru_pfN, ru_isN, ru_bsN, ru_jsN, ru_qsN, ru_set2, Nat.add_right_cancel_iff, if_true, if_false, ite_self, Int.reduceEq, and_self, Int.add_neg_cancel_right, Int.add_zero, Int.zero_add, md_e, e, d1, e2, k2, r1, w1, ex]
        rfl
      · simp only [if_neg cr] at e2 ⊢
        refine ⟨0, mdT M 2, ?_, Or.inl ⟨by decide, rfl⟩⟩
        simp (disch := omega) only [en365, e365_0, e365_1, e365_2, e365_3, e365_6, e365_9, e365_10, e365_11, e365_14, e365_15, e365_16, e365_19, e365_22, e365_23, e365_24, e365_25, e365_28, e365_29, e365_30, e365_31, e365_32, e365_35, e365_36, e365_37, e365_39, e365_40, e365_41, e365_44, e365_45, e365_46, e365_47, e365_48, e365_49, e365_52, e365_55, e365_56, e365_57, e365_58, e365_59, e365_62, e365_64, ↓reduceIte, Bool.false_eq_true, not_false_eq_true, not_true_eq_false, Nat.reduceLeDiff, Nat.reduceAdd, Nat.reduceEqDiff, Int.reduceToNat, Int.toNat_natCast, iB0, iB1, ru_klI, ru_klR, ru_klF, ru_klJ, ru_kl0, ru_cs0, ru_csI, ru_csR, ru_csF, ru_csJ, wI_add, wI_sub, wI_mul, wI_lt, wI_le, wI_inj, ru_fdE, ru_fdN, ru_iaN, ru_baN, ru_laN, ru_qaN, ru_pfN, ru_isN, ru_bsN, ru_jsN, ru_qsN, ru_set2, Nat.add_right_cancel_iff, if_true, if_false, ite_self, Int.reduceEq, and_self, Int.add_neg_cancel_right, Int.add_zero, Int.zero_add, md_e, e, d1, e2]
  · simp only [e1, if_false] at e ⊢
    refine ⟨0, mdT M (rfK M f k), ?_, Or.inl ⟨e1, rfl⟩⟩
    simp (disch := omega) only [en365, e365_0, e365_1, e365_2, e365_3, e365_6, e365_9, e365_10, e365_11, e365_14, e365_15, e365_16, e365_19, e365_22, e365_23, e365_24, e365_25, e365_28, e365_29, e365_30, e365_31, e365_32, e365_35, e365_36, e365_37, e365_39, e365_40, e365_41, e365_44, e365_45, e365_46, e365_47, e365_48, e365_49, e365_52, e365_55, e365_56, e365_57, e365_58, e365_59, e365_62, e365_64, ↓reduceIte, Bool.false_eq_true, not_false_eq_true, not_true_eq_false, Nat.reduceLeDiff, Nat.reduceAdd, Nat.reduceEqDiff, Int.reduceToNat, Int.toNat_natCast, iB0, iB1, ru_klI, ru_klR, ru_klF, ru_klJ, ru_kl0, ru_cs0, ru_csI, ru_csR, ru_csF, ru_csJ, wI_add, wI_sub, wI_mul, wI_lt, wI_le, wI_inj, ru_fdE, ru_fdN, ru_iaN, ru_baN, ru_laN, ru_qaN, ru_pfN, ru_isN, ru_bsN, ru_jsN, ru_qsN, ru_set2, Nat.add_right_cancel_iff, if_true, if_false, ite_self, Int.reduceEq, and_self, Int.add_neg_cancel_right, Int.add_zero, Int.zero_add, md_e, e, not_false_iff]
end NAM
