/-! ===== a step that tells more of what is left behind ===== -/
theorem gn_stepX {z : Bool} {g : am_H} {C : tCl} {M : tMd} {jc jh jm : Nat} {cargs margs : List Value} {R : Nat → Int → tCl → Prop} {Q : Int → tMd → Prop} {X : tCl → tMd → Prop} {nE : Nat} {o : Nat → Int64}
    (hcl : ∀ h, ∃ t v C', ru_ev z jc cargs (clPut h C) = oR t (some (.int (wI v))) (clPut h C') (clPut (thr h) C') ∧ R t v C')
    (hmd : ∀ h, ∃ b M', ru_ev z jm margs (mdPut h M) = some (.inl (some (.int (wI b))), mdPut h M') ∧ Q b M')
    (hvb : ∀ t v C' b M', R t v C' → Q b M' → t ≤ nE ∧ M'.1 0 = (t : Int) ∧ (t = 0 → v = b) ∧ X C' M')
    (hp : ∀ (H G : am_H) (o : Nat → Int64) (t : Nat) (v : Int) (C' : tCl), R t v C' → t = 0 → ru_ev z jc cargs H = some (.inl (some (.int (wI v))), G) → G.1 1332 = some (ouC o) → ru_ev z jh (cargs ++ [.ref 1332]) H = some (.inl (some (.int (wI 0))), am_set G 1332 (ouC (am_up o 0 (wI v).toInt64))))
    (hx : ∀ (H G : am_H) (E : Nat), E < nE → ru_ev z jc cargs H = some (.inr E, G) → ru_ev z jh (cargs ++ [.ref 1332]) H = some (.inl (some (.int (wI ((E + 1 : Nat) : Int)))), G))
    (ho : g.1 1332 = some (ouC o)) :
    ∃ g' C' M' t v b, R t v C' ∧ Q b M' ∧ t ≤ nE ∧ X C' M' ∧ ru_ev z jh (cargs ++ [.ref 1332]) (clPut (mdPut g M) C) = some (.inl (some (.int (wI t))), clPut (mdPut g' M) C') ∧ ru_ev z jm margs (clPut (mdPut g' M) C') = some (.inl (some (.int (wI b))), clPut (mdPut g' M') C') ∧
      ru_ev z 75 [.ref 1315] (clPut (mdPut g' M') C') = some (.inl (some (.int (wI t))), clPut (mdPut g' M') C') ∧ (t = 0 → am_la (clPut (mdPut g' M') C') 1332 (wI 0) = some (wI b).toInt64) ∧ gOn g g' 1 6 := by
  obtain ⟨g', C', M', t, v, b, k1, k2, k3, -, -, k6, k7, k8, k9, k10⟩ := gn_step (z := z) (g := g) (M := M) (C := C) (jh := jh) (nE := nE) (o := o) hcl hmd (fun t v C' b M' a1 a2 => ⟨(hvb t v C' b M' a1 a2).1, (hvb t v C' b M' a1 a2).2.1, (hvb t v C' b M' a1 a2).2.2.1⟩) hp hx ho
  exact ⟨g', C', M', t, v, b, k1, k2, k3, (hvb t v C' b M' k1 k2).2.2.2, k6, k7, k8, k9, k10⟩
/-! ===== changes of a photo's frame, of a person: both sides ===== -/
/-- what the photo and the reference's state must be then -/
def phCh (M : tMd) (n : Nat) (q' : tPh) (S' : Nat → Int) : Prop := (∀ c, 4 ≤ c → q'.2 c = fun _ => 0) ∧ phR q' ∧ (∀ j, 0 ≤ S' j ∧ S' j ≤ 999) ∧ srR S' ∧ pheq q' (msf S' (M.2 8) (M.2 9) n) ∧ phN (msf S' (M.2 8) (M.2 9) n) (M.1 20) ∧ ∀ f, f < 5 → f ≠ n → ∀ j, 54 * f ≤ j → j < 54 * f + 54 → S' j = M.2 0 j
theorem ck_fin {C : tCl} {M : tMd} {n tc nE : Nat} {tm : Int} {T : tPh → Int → Prop} {T' : (Nat → Int) → Int → Prop} {t : Nat} {v b : Int} {C' : tCl} {M' : tMd} (h : coI C M) (er : (tc : Int) = tm) (hE : tc ≤ nE) (h9 : nE ≤ 9) (htm : tc = 0 → M.1 1 = 1 ∧ (n : Int) < M.1 25) (hT : tc = 0 → ∀ q' S' v b, T q' v → T' S' b → v = b ∧ phCh M n q' S') (k1 : chG C n tc T t v C') (k2 : chH M tm T' b M') : t ≤ nE ∧ M'.1 0 = (t : Int) ∧ (t = 0 → v = b) ∧ coI C' M' ∧ chC C C' ∧ chM M M' := by
  rcases k1 with ⟨a1, a2, rfl⟩ | ⟨a1, a2, C1, q', a3, rfl, a4⟩
  · rcases k2 with ⟨b1, rfl⟩ | ⟨b1, -⟩
    · exact ⟨by omega, by rw [mdT_1]; omega, fun c => by omega, coI_T h (by omega), chC_refl _, chM_T _ _⟩
    · omega
  · rcases k2 with ⟨b1, rfl⟩ | ⟨b1, n', G', S', b2, rfl, b3⟩
    · omega
    · obtain ⟨c1, c2, c3, c4, c5, c6, c7, c8⟩ := hT a1 q' S' v b a4 b3
      obtain ⟨d1, d2⟩ := htm a1
      obtain ⟨f1, f2, f3⟩ := ch_fin h d1 a3 b2 d2 c2 c3 c4 c5 c6 c7 c8
      exact ⟨by omega, by rw [a2]; rfl, fun _ => c1, f1, f2, f3⟩
/-- all but a frame, a flag stays: the names too -/
theorem phN_1 {q p : tPh} {N : Int} (h7 : p.1 7 = q.1 7) (h3 : ∀ i : Nat, (i : Int) < q.1 7 → p.2 3 i = q.2 3 i) (hf : p.1 2 ≤ p.1 4 ∧ p.1 3 ≤ p.1 5) (hn : phN q N) : phN p N :=
  ⟨fun i hi => by rw [h7] at hi; rw [h3 i hi]; exact hn.1 i hi, fun i j hi hj he hne => by rw [h7] at hi hj; rw [h3 i hi, h3 j hj] at he; rw [h3 i hi] at hne; exact hn.2.1 i j hi hj he hne, hf⟩
theorem phN_f {S T W H : Nat → Int} {n : Nat} (h : ∀ j, j < 4 → S (54 * n + j) = T (54 * n + j)) (hf : (msf T W H n).1 2 ≤ (msf T W H n).1 4 ∧ (msf T W H n).1 3 ≤ (msf T W H n).1 5) : (msf S W H n).1 2 ≤ (msf S W H n).1 4 ∧ (msf S W H n).1 3 ≤ (msf S W H n).1 5 := by
  show S (54 * n + 0) ≤ S (54 * n + 2) ∧ S (54 * n + 1) ≤ S (54 * n + 3)
  rw [h 0 (by decide), h 1 (by decide), h 2 (by decide), h 3 (by decide)]
  exact hf
section CHG2
variable {z : Bool} {h : am_H} {C : tCl} {M : tMd} {a : Nat} {q : tPh}
theorem ph_at (ha : isPh a) (hz : ∀ c, 4 ≤ c → q.2 c = fun _ => 0) : phAt (clPut h (phP C a q)) a q := by
  have := cl_ph (h := h) (C := phP C a q) ha
  rw [phP_eq hz] at this
  exact this
theorem k_cnt (hp : phAt h a q) (hr : phR q) : ru_ev z 182 [.ref a] h = some (.inl (some (.int (wI (bsN (shw q) (q.1 7).toNat : Nat)))), h) ∧ ∀ H, ru_ev z 233 [.int (wI (bsN (shw q) (q.1 7).toNat : Nat))] H = some (.inl (some (.int (wI (cnB (shw q) (q.1 7).toNat : Nat)))), H) := by
  have s := phR_s hr
  have b := bsN_b (P := shw q) (k := (q.1 7).toNat) (by omega)
  refine ⟨m182 hp hr, fun H => ?_⟩
  have e := m233 (z := z) (h := H) (s := bsN (shw q) (q.1 7).toNat) (by omega)
  rw [pcN_bs _ 20 _ (by omega)] at e
  exact e
/-- the class records, and has photo n ready to change -/
theorem c113p (hR : clR C) (hH : hiC C) (hA : phA C) {n : Nat} (hn : n < 5) : ∃ C1, hsOK C C1 (alb C + 4) ∧ ru_ev z 113 [.ref 1092, .ref (alb C + 4)] (clPut h C) = some (.inl none, clPut h (phP C1 (cAp C n) (cph C (cAp C n)))) := by
  obtain ⟨-, -, -, -, hst, -, -, a1, a2⟩ := clA_k hR.1
  obtain ⟨C1, k1, k2⟩ := c113 (z := z) (h := h) hH hA hst (by omega)
  obtain ⟨p1, p2⟩ := hs_ph hR k1 hn
  exact ⟨C1, k1, by rw [p1]; exact k2⟩
/-- frames -/
def frQ (q : tPh) (l t r b : Int) : tPh := (up1 (up1 (up1 (up1 q.1 2 l) 3 t) 4 r) 5 b, q.2)
def frS (S : Nat → Int) (n : Nat) (l t r b : Int) : Nat → Int := up1 (up1 (up1 (up1 S (54 * n) l) (54 * n + 1) t) (54 * n + 2) r) (54 * n + 3) b
theorem frQ_R {l t r b : Int} (hr : phR q) (hl : 0 ≤ l ∧ l ≤ 999) (ht : 0 ≤ t ∧ t ≤ 999) (hrr : 0 ≤ r ∧ r ≤ 999) (hb : 0 ≤ b ∧ b ≤ 999) : phR (frQ q l t r b) := by
  refine ⟨fun k => ?_, hr.2.1, hr.2.2.1, hr.2.2.2.1, hr.2.2.2.2.1, hr.2.2.2.2.2⟩
  have := hr.1 k
  show 0 ≤ up1 (up1 (up1 (up1 q.1 2 l) 3 t) 4 r) 5 b k ∧ up1 (up1 (up1 (up1 q.1 2 l) 3 t) 4 r) 5 b k ≤ 999
  unfold up1
  repeat' split
  all_goals omega
theorem fr_ch {n : Nat} {l t r b : Int} (hM : mdR M) (hg : rgI M) (hN : phN (mph M n) (M.1 20)) (hn : n < 5) (hz : ∀ c, 4 ≤ c → q.2 c = fun _ => 0) (hr : phR q) (he : pheq q (mph M n)) (hl : 0 ≤ l ∧ l ≤ 999) (ht : 0 ≤ t ∧ t ≤ 999) (hrr : 0 ≤ r ∧ r ≤ 999) (hb : 0 ≤ b ∧ b ≤ 999) (hlr : l ≤ r) (htb : t ≤ b) : phCh M n (frQ q l t r b) (frS (M.2 0) n l t r b) := by
  refine ⟨hz, frQ_R hr hl ht hrr hb, fun j => ?_, ?_, ⟨fun k hk => ?_, fun c i hc hi => ?_⟩, ?_, fun f hf hne j h1 h2 => ?_⟩
  · have := hg.1 j
    unfold frS up1
    repeat' split
    all_goals omega
  · have e := srR_of hM
    unfold frS
    refine srR_up (srR_up (srR_up (srR_up e (fun f hf => ⟨fun c => by omega, fun c => by omega, fun i hi => ⟨fun c => by omega, fun c => by omega⟩⟩)) (fun f hf => ⟨fun c => by omega, fun c => by omega, fun i hi => ⟨fun c => by omega, fun c => by omega⟩⟩)) (fun f hf => ⟨fun c => by omega, fun c => by omega, fun i hi => ⟨fun c => by omega, fun c => by omega⟩⟩)) (fun f hf => ⟨fun c => by omega, fun c => by omega, fun i hi => ⟨fun c => by omega, fun c => by omega⟩⟩)
  · have hk8 : k = 0 ∨ k = 1 ∨ k = 2 ∨ k = 3 ∨ k = 4 ∨ k = 5 ∨ k = 6 ∨ k = 7 := by omega
    have e := he.1 k hk
    rw [mph_f] at e
    unfold msf at e ⊢
    unfold frQ frS
    rcases hk8 with rfl | rfl | rfl | rfl | rfl | rfl | rfl | rfl <;> simp [up1] at e ⊢ <;> exact e
  · have e := he.2 c i hc hi
    have s := phR_s hr
    rw [mph_f] at e
    unfold msf at e ⊢
    unfold frQ frS
    dsimp only at e ⊢
    rw [e]
    have f1 : ∀ x, 54 * n + 6 ≤ x → up1 (up1 (up1 (up1 (M.2 0) (54 * n) l) (54 * n + 1) t) (54 * n + 2) r) (54 * n + 3) b x = M.2 0 x := fun x hx => by
      unfold up1
      rw [if_neg (by omega), if_neg (by omega), if_neg (by omega), if_neg (by omega)]
    rw [f1 _ (by omega), f1 _ (by omega)]
  · have f1 : ∀ x, 54 * n + 5 ≤ x → frS (M.2 0) n l t r b x = M.2 0 x := fun x hx => by
      unfold frS up1
      rw [if_neg (by omega), if_neg (by omega), if_neg (by omega), if_neg (by omega)]
    refine phN_1 (q := mph M n) ?_ (fun i hi => ?_) ?_ hN
    · show frS (M.2 0) n l t r b (54 * n + 5) = M.2 0 (54 * n + 5)
      exact f1 _ (by omega)
    · rw [mph_f]
      unfold msf
      dsimp only
      rw [f1 _ (by omega)]
    · show frS (M.2 0) n l t r b (54 * n + 0) ≤ frS (M.2 0) n l t r b (54 * n + 2) ∧ frS (M.2 0) n l t r b (54 * n + 1) ≤ frS (M.2 0) n l t r b (54 * n + 3)
      simp [frS, up1]
      exact ⟨hlr, htb⟩
  · unfold frS up1
    rw [if_neg (by omega), if_neg (by omega), if_neg (by omega), if_neg (by omega)]
theorem frS_ph {n : Nat} {l t r b : Int} {N : tMd} (h0 : N.2 0 = M.2 0) (h8 : N.2 8 = M.2 8) (h9 : N.2 9 = M.2 9) : mph (N.1, upC N.2 0 (frS (M.2 0) n l t r b)) n = msf (frS (M.2 0) n l t r b) (M.2 8) (M.2 9) n := by
  rw [mph_f]
  show msf (upC N.2 0 (frS (M.2 0) n l t r b) 0) (N.2 8) (N.2 9) n = _
  rw [upC_e, h8, h9]
/-! uncrop -/
theorem c355 (hR : clR C) (hH : hiC C) (hA : phA C) {f : Int} (g : -2147483648 ≤ f ∧ f < 2147483648) (hw : rcP C f = 0 → 1 ≤ (cph C (cAp C f.toNat)).1 0 ∧ 1 ≤ (cph C (cAp C f.toNat)).1 1) : ∃ t v C', ru_ev z 355 [.ref 1000, .int (wI f)] (clPut h C) = oR t (some (.int (wI v))) (clPut h C') (clPut (thr h) C') ∧ chG C f.toNat (rcP C f) (fun q' v => q' = frQ (cph C (cAp C f.toNat)) 0 0 ((cph C (cAp C f.toNat)).1 0 - 1) ((cph C (cAp C f.toNat)).1 1 - 1) ∧ v = (cnB (shw q') ((cph C (cAp C f.toNat)).1 7).toNat : Nat) - (cnB (shw (cph C (cAp C f.toNat))) ((cph C (cAp C f.toNat)).1 7).toNat : Nat)) t v C' := by
  have e1 := d78 (z := z) (h := h) hR g
  by_cases e : rcP C f = 0
  · rw [oR_0 e] at e1
    have hf := rcP_5 hR e
    have ha := cAp_ph hR.1 hf
    have hq := (dph (h := h) hR e).2
    have hw2 := hw e
    obtain ⟨C1, k1, k2⟩ := c113p (z := z) (h := h) hR hH hA hf
    generalize hqq : cph C (cAp C f.toNat) = q at *
    have hz : ∀ c, 4 ≤ c → q.2 c = fun _ => 0 := fun c hc => by rw [← hqq]; exact cph_hi _ _ c hc
    have s := phR_s hq
    have hqR := frQ_R (l := 0) (t := 0) (r := q.1 0 - 1) (b := q.1 1 - 1) hq (by omega) (by omega) (by omega) (by omega)
    obtain ⟨m1, m2⟩ := k_cnt (z := z) (h := clPut h (phP C1 (cAp C f.toNat) q)) (ph_at ha hz) hq
    obtain ⟨m3, m4⟩ := k_cnt (z := z) (h := clPut h (phP C1 (cAp C f.toNat) (frQ q 0 0 (q.1 0 - 1) (q.1 1 - 1)))) (ph_at ha hz) hqR
    have m5 : ru_ev z 48 [.ref (cAp C f.toNat)] (clPut h (phP C1 (cAp C f.toNat) q)) = some (.inl none, clPut h (phP C1 (cAp C f.toNat) (frQ q 0 0 (q.1 0 - 1) (q.1 1 - 1)))) := by
      simp (disch := omega) only [en48, e48_0, e48_1, e48_2, e48_5, e48_6, e48_7, e48_10, e48_11, e48_12, e48_15, e48_16, e48_17, e48_20, e48_21, e48_22, e48_25, e48_26, e48_27, e48_30, ↓reduceIte, Bool.false_eq_true, not_false_eq_true, not_true_eq_false, Nat.reduceLeDiff, Nat.reduceAdd, Nat.reduceEqDiff, Int.reduceToNat, Int.toNat_natCast, iB0, iB1, ru_klI, ru_klR, ru_klF, ru_klJ, ru_kl0, ru_cs0, ru_csI, ru_csR, ru_csF, ru_csJ, wI_add, wI_sub, wI_mul, wI_lt, wI_le, wI_inj, ru_fdE, ru_fdN, ru_iaN, ru_baN, ru_laN, ru_qaN, ru_pfN, ru_isN, ru_bsN, ru_jsN, ru_qsN, ru_set2, Nat.add_right_cancel_iff, if_true, if_false, ite_self, Int.reduceEq, and_self, Int.add_neg_cancel_right, Int.add_zero, Int.zero_add, ph_e ha, ph_f0 ha, ph_s0 ha, ph_f1 ha, ph_s1 ha, ph_f2 ha, ph_s2 ha, ph_f3 ha, ph_s3 ha, ph_f4 ha, ph_s4 ha, ph_f5 ha, ph_s5 ha, ph_f6 ha, ph_s6 ha, ph_f7 ha, ph_s7 ha, ph_f8 ha, ph_a0 ha, ph_w0 ha, ph_f9 ha, ph_a1 ha, ph_w1 ha, ph_f10 ha, ph_a2 ha, ph_w2 ha, ph_f11 ha, ph_a3 ha, ph_w3 ha, Int.reduceEq, ru_ctR, ru_ctI, upC_e, upC_n, upC_up, up1_e, up1_n]
      rfl
    have e7 : (frQ q 0 0 (q.1 0 - 1) (q.1 1 - 1)).1 7 = q.1 7 := rfl
    rw [e7] at m3 m4
    refine ⟨0, _, phP C1 (cAp C f.toNat) (frQ q 0 0 (q.1 0 - 1) (q.1 1 - 1)), ?_, Or.inr ⟨e, rfl, C1, _, k1, rfl, rfl, rfl⟩⟩
    rw [oR_0 rfl]
    simp (disch := omega) only [en355, e355_0, e355_1, e355_2, e355_5, e355_6, e355_7, e355_10, e355_11, e355_14, e355_17, e355_20, e355_21, e355_24, e355_27, e355_28, e355_29, e355_32, e355_33, e355_36, e355_39, e355_40, e355_41, ↓reduceIte, Bool.false_eq_true, not_false_eq_true, not_true_eq_false, Nat.reduceLeDiff, Nat.reduceAdd, Nat.reduceEqDiff, Int.reduceToNat, Int.toNat_natCast, iB0, iB1, ru_klI, ru_klR, ru_klF, ru_klJ, ru_kl0, ru_cs0, ru_csI, ru_csR, ru_csF, ru_csJ, wI_add, wI_sub, wI_mul, wI_lt, wI_le, wI_inj, ru_fdE, ru_fdN, ru_iaN, ru_baN, ru_laN, ru_qaN, ru_pfN, ru_isN, ru_bsN, ru_jsN, ru_qsN, ru_set2, Nat.add_right_cancel_iff, if_true, if_false, ite_self, Int.reduceEq, and_self, Int.add_neg_cancel_right, Int.add_zero, Int.zero_add, cl_e0, cl_g0_6, clF hR.1, e1, k2, m1, m2, m3, m4, m5]
  · rw [oR_n e] at e1
    refine ⟨rcP C f, 0, C, ?_, Or.inl ⟨e, rfl, rfl⟩⟩
    rw [oR_n e]
    simp (disch := omega) only [en355, e355_0, e355_1, e355_2, e355_5, e355_6, e355_7, e355_10, e355_11, e355_14, e355_17, e355_20, e355_21, e355_24, e355_27, e355_28, e355_29, e355_32, e355_33, e355_36, e355_39, e355_40, e355_41, ↓reduceIte, Bool.false_eq_true, not_false_eq_true, not_true_eq_false, Nat.reduceLeDiff, Nat.reduceAdd, Nat.reduceEqDiff, Int.reduceToNat, Int.toNat_natCast, iB0, iB1, ru_klI, ru_klR, ru_klF, ru_klJ, ru_kl0, ru_cs0, ru_csI, ru_csR, ru_csF, ru_csJ, wI_add, wI_sub, wI_mul, wI_lt, wI_le, wI_inj, ru_fdE, ru_fdN, ru_iaN, ru_baN, ru_laN, ru_qaN, ru_pfN, ru_isN, ru_bsN, ru_jsN, ru_qsN, ru_set2, Nat.add_right_cancel_iff, if_true, if_false, ite_self, Int.reduceEq, and_self, Int.add_neg_cancel_right, Int.add_zero, Int.zero_add, cl_e0, e1]
theorem p_cn2 {n : Nat} (hf : n < 5) (hr : phR (mph M n)) : ru_ev z 121 [.ref 1315, .int (wI n)] (mdPut h M) = some (.inl (some (.int (wI (bsN (shw (mph M n)) ((mph M n).1 7).toNat : Nat)))), mdPut h M) ∧ ∀ H, ru_ev z 126 [.int (wI (bsN (shw (mph M n)) ((mph M n).1 7).toNat : Nat))] H = some (.inl (some (.int (wI (cnB (shw (mph M n)) ((mph M n).1 7).toNat : Nat)))), H) := by
  have s := phR_s hr
  refine ⟨p121 hf hr, fun H => ?_⟩
  have b := bsN_b (P := shw (mph M n)) (k := ((mph M n).1 7).toNat) (by omega)
  have e := p126 (z := z) (h := H) (s := bsN (shw (mph M n)) ((mph M n).1 7).toNat) (by omega)
  rw [pcN_bs _ 12 _ (by omega)] at e
  exact e
theorem fr_w {N : tMd} {n : Nat} (hn : n < 5) {S0 : Nat → Int} {i : Nat} (hi : i < 4) {v : Int} : am_is (mdPut h (N.1, upC N.2 0 S0)) 1316 (wI (54 * (n : Int) + (i : Int))) (wI v) = some (mdPut h (N.1, upC N.2 0 (up1 S0 (54 * n + i) v))) := by
  rw [ly_w0 (by omega) (by omega), show (54 * (n : Int) + (i : Int)).toNat = 54 * n + i by omega]
theorem p356 (hM : mdR M) (hg : rgI M) {f : Int} (g : -2147483648 ≤ f ∧ f < 2147483648) (hw : rfP M f = 0 → 1 ≤ (mph M f.toNat).1 0 ∧ 1 ≤ (mph M f.toNat).1 1) : ∃ b M', ru_ev z 356 [.ref 1315, .int (wI f)] (mdPut h M) = some (.inl (some (.int (wI b))), mdPut h M') ∧ chH M (rfP M f) (fun S' b => S' = frS (M.2 0) f.toNat 0 0 ((mph M f.toNat).1 0 - 1) ((mph M f.toNat).1 1 - 1) ∧ b = (cnB (shw (msf S' (M.2 8) (M.2 9) f.toNat)) ((mph M f.toNat).1 7).toNat : Nat) - (cnB (shw (mph M f.toNat)) ((mph M f.toNat).1 7).toNat : Nat)) b M' := by
  have e := p117 (z := z) (h := h) hM g
  by_cases e1 : rfP M f = 0
  · have hw2 := hw e1
    obtain ⟨n, hn, rfl, hq⟩ := mph_at hM e1
    have s := phR_s hq
    simp only [e1, if_true] at e
    obtain ⟨n', G', k1, k2⟩ := p350 (z := z) (h := h) (M := mdT M 0) hM.2.2.1
    simp only [Int.toNat_natCast] at hw2 ⊢
    have q0 : upC (mdT M 0).2 1 G' 0 = M.2 0 := upC_n (by decide)
    have eN : (up1 (mdT M 0).1 4 n', upC (mdT M 0).2 1 G') = ((up1 (mdT M 0).1 4 n', upC (mdT M 0).2 1 G').1, upC (up1 (mdT M 0).1 4 n', upC (mdT M 0).2 1 G').2 0 (M.2 0)) := by
      dsimp only
      rw [← q0, upC_self]
    generalize hNN : (up1 (mdT M 0).1 4 n', upC (mdT M 0).2 1 G') = N at *
    have n8 : N.2 8 = M.2 8 := by rw [← hNN]; rfl
    have n9 : N.2 9 = M.2 9 := by rw [← hNN]; rfl
    have n0 : N.2 0 = M.2 0 := by rw [← hNN]; exact q0
    have hmp : mph N n = mph M n := by rw [mph_f, mph_f, n8, n9, n0]
    obtain ⟨m1, m2⟩ := p_cn2 (z := z) (h := h) (M := N) hn (by rw [hmp]; exact hq)
    rw [hmp] at m1 m2
    have hsr : srR (frS (M.2 0) n 0 0 ((mph M n).1 0 - 1) ((mph M n).1 1 - 1)) := by
      unfold frS
      exact srR_up (srR_up (srR_up (srR_up (srR_of hM) (fun f hf => ⟨fun c => by omega, fun c => by omega, fun i hi => ⟨fun c => by omega, fun c => by omega⟩⟩)) (fun f hf => ⟨fun c => by omega, fun c => by omega, fun i hi => ⟨fun c => by omega, fun c => by omega⟩⟩)) (fun f hf => ⟨fun c => by omega, fun c => by omega, fun i hi => ⟨fun c => by omega, fun c => by omega⟩⟩)) (fun f hf => ⟨fun c => by omega, fun c => by omega, fun i hi => ⟨fun c => by omega, fun c => by omega⟩⟩)
    have hrg : ∀ j, 0 ≤ frS (M.2 0) n 0 0 ((mph M n).1 0 - 1) ((mph M n).1 1 - 1) j ∧ frS (M.2 0) n 0 0 ((mph M n).1 0 - 1) ((mph M n).1 1 - 1) j ≤ 999 := fun j => by
      have := hg.1 j
      unfold frS up1
      repeat' split
      all_goals omega
    have hpm := frS_ph (M := M) (n := n) (l := 0) (t := 0) (r := (mph M n).1 0 - 1) (b := (mph M n).1 1 - 1) (N := N) n0 n8 n9
    obtain ⟨m3, m4⟩ := p_cn2 (z := z) (h := h) (M := (N.1, upC N.2 0 (frS (M.2 0) n 0 0 ((mph M n).1 0 - 1) ((mph M n).1 1 - 1)))) hn (by rw [hpm]; exact phR_msf hrg hg.2.2.1 hg.2.2.2.1 hsr hn)
    rw [hpm] at m3 m4
    have e7 : (msf (frS (M.2 0) n 0 0 ((mph M n).1 0 - 1) ((mph M n).1 1 - 1)) (M.2 8) (M.2 9) n).1 7 = (mph M n).1 7 := by
      show frS (M.2 0) n 0 0 ((mph M n).1 0 - 1) ((mph M n).1 1 - 1) (54 * n + 5) = M.2 0 (54 * n + 5)
      unfold frS up1
      rw [if_neg (by omega), if_neg (by omega), if_neg (by omega), if_neg (by omega)]
    rw [e7] at m3 m4
    have w0 := fr_w (h := h) (N := N) hn (S0 := M.2 0) (i := 0) (by decide) (v := 0)
    have w1 := fr_w (h := h) (N := N) hn (S0 := up1 (M.2 0) (54 * n) 0) (i := 1) (by decide) (v := 0)
    have w2 := fr_w (h := h) (N := N) hn (S0 := up1 (up1 (M.2 0) (54 * n) 0) (54 * n + 1) 0) (i := 2) (by decide) (v := (mph M n).1 0 - 1)
    have w3 := fr_w (h := h) (N := N) hn (S0 := up1 (up1 (up1 (M.2 0) (54 * n) 0) (54 * n + 1) 0) (54 * n + 2) ((mph M n).1 0 - 1)) (i := 3) (by decide) (v := (mph M n).1 1 - 1)
    rw [← eN] at w0
    have a8 : ∀ S0, am_ia (mdPut h (N.1, upC N.2 0 S0)) 1324 (wI (n : Nat)) = some (wI ((mph M n).1 0)) := fun S0 => by
      rw [md_a8 (by omega) (by omega)]
      show some (wI (N.2 8 ((n : Int).toNat))) = some (wI (M.2 8 n))
      rw [n8]; rfl
    have a9 : ∀ S0, am_ia (mdPut h (N.1, upC N.2 0 S0)) 1325 (wI (n : Nat)) = some (wI ((mph M n).1 1)) := fun S0 => by
      rw [md_a9 (by omega) (by omega)]
      show some (wI (N.2 9 ((n : Int).toNat))) = some (wI (M.2 9 n))
      rw [n9]; rfl
    simp only [Int.natCast_zero, Int.add_zero, Int.natCast_one, Nat.add_zero] at w0 w1
    rw [show ((2 : Nat) : Int) = 2 from rfl] at w2
    rw [show ((3 : Nat) : Int) = 3 from rfl] at w3
    refine ⟨_, (N.1, upC N.2 0 (frS (M.2 0) n 0 0 ((mph M n).1 0 - 1) ((mph M n).1 1 - 1))), ?_, Or.inr ⟨e1, n', G', frS (M.2 0) n 0 0 ((mph M n).1 0 - 1) ((mph M n).1 1 - 1), k1, by rw [← hNN]; rfl, rfl, rfl⟩⟩
    have eF : up1 (up1 (up1 (up1 (M.2 0) (54 * n) 0) (54 * n + 1) 0) (54 * n + 2) ((mph M n).1 0 - 1)) (54 * n + 3) ((mph M n).1 1 - 1) = frS (M.2 0) n 0 0 ((mph M n).1 0 - 1) ((mph M n).1 1 - 1) := rfl
    rw [eF] at w3
    simp (disch := omega) only [en356, e356_0, e356_1, e356_2, e356_5, e356_8, e356_9, e356_10, e356_11, e356_14, e356_15, e356_16, e356_19, e356_22, e356_23, e356_24, e356_27, e356_29, e356_30, e356_31, e356_32, e356_33, e356_34, e356_35, e356_36, e356_39, e356_41, e356_42, e356_43, e356_44, e356_45, e356_46, e356_47, e356_48, e356_51, e356_53, e356_54, e356_55, e356_56, e356_57, e356_58, e356_61, e356_62, e356_63, e356_64, e356_65, e356_66, e356_67, e356_70, e356_72, e356_73, e356_74, e356_75, e356_76, e356_77, e356_80, e356_81, e356_82, e356_83, e356_84, e356_85, e356_86, e356_87, e356_90, e356_93, e356_94, e356_95, ↓reduceIte, Bool.false_eq_true, not_false_eq_true, not_true_eq_false, Nat.reduceLeDiff, Nat.reduceAdd, Nat.reduceEqDiff, Int.reduceToNat, Int.toNat_natCast, iB0, iB1, ru_klI, ru_klR, ru_klF, ru_klJ, ru_kl0, ru_cs0, ru_csI, ru_csR, ru_csF, ru_csJ, wI_add, wI_sub, wI_mul, wI_lt, wI_le, wI_inj, ru_fdE, ru_fdN, ru_iaN, ru_baN, ru_laN, ru_qaN, ru_pfN, ru_isN, ru_bsN, ru_jsN, ru_qsN, ru_set2, Nat.add_right_cancel_iff, if_true, if_false, ite_self, Int.reduceEq, and_self, Int.add_neg_cancel_right, Int.add_zero, Int.zero_add, md_e, md_f2, md_f26, md_f27, e, k2, m1, m2, m3, m4, w0, w1, w2, w3, a8, a9]
  · refine ⟨0, mdT M (rfP M f), ?_, Or.inl ⟨e1, rfl⟩⟩
    simp only [e1, if_false] at e
    simp (disch := omega) only [en356, e356_0, e356_1, e356_2, e356_5, e356_8, e356_9, e356_10, e356_11, e356_14, e356_15, e356_16, e356_19, e356_22, e356_23, e356_24, e356_27, e356_29, e356_30, e356_31, e356_32, e356_33, e356_34, e356_35, e356_36, e356_39, e356_41, e356_42, e356_43, e356_44, e356_45, e356_46, e356_47, e356_48, e356_51, e356_53, e356_54, e356_55, e356_56, e356_57, e356_58, e356_61, e356_62, e356_63, e356_64, e356_65, e356_66, e356_67, e356_70, e356_72, e356_73, e356_74, e356_75, e356_76, e356_77, e356_80, e356_81, e356_82, e356_83, e356_84, e356_85, e356_86, e356_87, e356_90, e356_93, e356_94, e356_95, ↓reduceIte, Bool.false_eq_true, not_false_eq_true, not_true_eq_false, Nat.reduceLeDiff, Nat.reduceAdd, Nat.reduceEqDiff, Int.reduceToNat, Int.toNat_natCast, iB0, iB1, ru_klI, ru_klR, ru_klF, ru_klJ, ru_kl0, ru_cs0, ru_csI, ru_csR, ru_csF, ru_csJ, wI_add, wI_sub, wI_mul, wI_lt, wI_le, wI_inj, ru_fdE, ru_fdN, ru_iaN, ru_baN, ru_laN, ru_qaN, ru_pfN, ru_isN, ru_bsN, ru_jsN, ru_qsN, ru_set2, Nat.add_right_cancel_iff, if_true, if_false, ite_self, Int.reduceEq, and_self, Int.add_neg_cancel_right, Int.add_zero, Int.zero_add, md_e, e]
end CHG2
