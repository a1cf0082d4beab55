/-! ===== phrases: at ===== -/
theorem en_lk {q p : tPh} (c4 : pheq q p) (c3 : phR p) {key key' : Nat → Int} (hk : ∀ k, k < 12 → shS q k = true → key k = key' k) {n : Nat} {en : Nat → Nat} (h : enO (shS q) key n en) {j : Nat} (hj : j < n) : fnF (fun k => shw p k && decide (rkN (shS p) key' k = j)) (p.1 7).toNat 0 = (en j : Nat) := by
  have s := phR_s c3
  obtain ⟨m, hm⟩ := Int.eq_ofNat_of_zero_le s.2.2.2.2.2.2.2.1
  rw [hm, Int.toNat_natCast, ← shS_eq c4]
  refine enO_fn (enO_key h (fun a b ha hb sa sb hab => by rw [← hk a ha sa, ← hk b hb sb]; exact hab)) hj (fun k hk2 => ?_) (fun k hk2 hs => ?_) (by omega)
  · rw [shS_eq c4, shS_of (by omega)]
  · have := shS_lt hs
    have := c4.1 7 (by decide)
    omega
def pOK (z : Bool) (H : am_H) (jc R A n l : Nat) (C0 : tCl) (M0 : tMd) (C : tCl) (S : tRd) (ms : tMd → Prop) (s : Nat) : Prop := ∃ C' S' M' s' gv', ru_ev z jc [.ref R] (clPut (rdH H R (A + 1) S) C) = some (.inl none, clPut (rdH H R (A + 1) S') C') ∧ ms M' ∧ tkR C' M' l s' ∧ prI n C0 M0 C' M' gv' ∧ S'.1 = gv' ∧ s < s'
def pER (z : Bool) (H : am_H) (jc R A n : Nat) (C0 : tCl) (M0 : tMd) (C : tCl) (S : tRd) (ms : tMd → Prop) : Prop := ∃ C' S' M', ru_ev z jc [.ref R] (clPut (rdH H R (A + 1) S) C) = some (.inr 2, clPut (rdH (thr H) R (A + 1) S') C') ∧ ms M' ∧ epI n C0 M0 C' M'
def rfV (z : Bool) (jm n : Nat) (M M' : tMd) : Prop := ∀ h, strs h → ru_ev z jm [.ref 1315, .int (wI n)] (mdPut h M) = some (.inl none, mdPut h M')
theorem gvM_1 {M : tMd} {n k k' : Nat} {nm : Int} (h : k' ≠ 35) : (gvM M n k nm).1 k' = M.1 k' := up1_n h
/-- keys of the picture may change -/
theorem pr_78 {n : Nat} {C0 C C' : tCl} {M0 M : tMd} {gv : Int} (h : prI n C0 M0 C M gv) (e1 : C'.1 = C.1) (e2 : ∀ q, q ≠ 1078 → C'.2.1 q = C.2.1 q) (e3 : C'.2.2 = C.2.2) : prI n C0 M0 C' M gv := by
  obtain ⟨a1, a2, a3, a4, a5, a6, a7, a8, a9, b1, b2, b3, b4⟩ := h
  have ec : cph C' 1065 = cph C 1065 := cph_eq (by rw [e1]) (fun c hc => e2 _ (by omega))
  exact ⟨⟨fun q h1 => by rw [e1]; exact a1.1 q h1, fun q h1 h2 => (e2 q h2).trans (a1.2.1 q h1 h2), by rw [e3]; exact a1.2.2.1, by rw [e3]; exact a1.2.2.2⟩, fun i hi => by rw [e1]; exact a2 i hi, a3, a4, a5, a6, a7, a8, by rw [ec]; exact a9, by rw [ec]; exact b1, b2, by rw [ec]; exact b3, b4⟩
theorem piPut_in {C : tCl} {P q : Nat} {p : tPi} (h : P + 1 ≤ q ∧ q ≤ P + 10) : (piPut C P p).2.1 q = p.2 (q - (P + 1)) := if_pos h
theorem piGet_in {C : tCl} {P q : Nat} (h : P + 1 ≤ q) : (piGet C P).2 (q - (P + 1)) = C.2.1 q := by
  show C.2.1 (P + 1 + (q - (P + 1))) = _
  rw [show P + 1 + (q - (P + 1)) = q by omega]
section ATP
variable {z : Bool} {M M0 : tMd} {C C0 : tCl} {n l s A N R : Nat} {gv rc : Int}
def gfO (z : Bool) (R A n l : Nat) (C0 : tCl) (M0 : tMd) (C : tCl) (M : tMd) (s : Nat) (gv : Int) (k : Nat) : Prop :=
  (∃ C1 nm C2 C3 M3 s3, (∀ h S, strs h → ru_ev z 105 [.ref R] (clPut (rdH h R (A + 1) S) C) = some (.inl (some (.int (wI ((nm : Nat) : Int)))), clPut (rdH h R (A + 1) S) C1)) ∧ (∀ h S, ru_ev z 100 [.ref R, .int (wI k), .int (wI ((nm : Nat) : Int))] (clPut (rdH h R (A + 1) S) C1) = some (.inl none, clPut (rdH h R (A + 1) (S.1 + 1, S.2)) C2)) ∧ (∀ h, ru_ev z 20 [.ref 1001] (clPut h C2) = some (.inl none, clPut h C3)) ∧ (∀ h, strs h → ru_ev z 145 [.ref 1315, .int (wI n), .int (wI k)] (mdPut h M) = some (.inl none, mdPut h M3)) ∧ tkR C3 M3 l s3 ∧ prI n C0 M0 C3 M3 (gv + 1) ∧ s < s3) ∨
  ∃ C' M', (∀ h S, strs h → ru_ev z 105 [.ref R] (clPut (rdH h R (A + 1) S) C) = some (.inr 2, clPut (rdH (thr h) R (A + 1) S) C')) ∧ (∀ h, strs h → ru_ev z 145 [.ref 1315, .int (wI n), .int (wI k)] (mdPut h M) = some (.inl none, mdPut h M')) ∧ epI n C0 M0 C' M'
theorem gf_j (hR : 1315 ≤ R) (hs : prS A N n C0 M0) (hr : prI n C0 M0 C M gv) (ht : tkR C M l s) (hb0 : byI C0 M0 l) {k : Nat} (hk : shS (mph M0 n) k = true) (hq0 : phR (mph M0 n)) : gfO z R A n l C0 M0 C M s gv k := by
  have hn5 := hs.2.2.2.2.1
  have N20 := hs.2.2.2.1
  have hn := hb0.1
  have hk12 := (shS_rng hq0 hk).2.2.2.1
  have d0 : ((0 : Int) = 0) = True := eq_true rfl
  rcases fl_j (z := z) hR hs hr ht hb0 with ⟨C1, M1, s1, nm, k1, k2, k3, k4, k5, k6, k7⟩ | ⟨C1, M1, k1, k2, k3⟩
  rotate_left
  · right
    have hm := k3.2.2.2.2.2.2.2.2
    refine ⟨C1, M1, k1, fun h hS => ?_, k3⟩
    have r17 := hm.1
    have d9 : (M1.1 17 = 0) = False := eq_false (by omega)
    have u1 := u66 (z := z) (h := h) hm
    simp (disch := omega) only [en145, e145_0, e145_1, e145_4, e145_5, e145_6, e145_9, e145_12, e145_13, e145_14, e145_15, e145_16, e145_19, e145_20, e145_21, e145_24, e145_25, e145_26, e145_29, e145_30, e145_33, ↓reduceIte, Bool.false_eq_true, not_false_eq_true, not_true_eq_false, Nat.reduceLeDiff, Nat.reduceAdd, Nat.reduceEqDiff, Int.reduceToNat, Int.toNat_natCast, iB0, iB1, ru_klI, ru_klR, ru_klF, ru_klJ, ru_kl0, ru_cs0, ru_csI, ru_csR, ru_csF, ru_csJ, wI_add, wI_sub, wI_mul, wI_lt, wI_le, wI_inj, ru_fdE, ru_fdN, ru_iaN, ru_baN, ru_laN, ru_qaN, ru_pfN, ru_isN, ru_bsN, ru_jsN, ru_qsN, ru_set2, Nat.add_right_cancel_iff, if_true, if_false, ite_self, Int.reduceEq, and_self, Int.add_neg_cancel_right, Int.add_zero, Int.zero_add, md_e, md_f17, k2 h hS, d9, u1, not_true, not_false_iff]
  left
  obtain ⟨a1, a2, a3, a4, a5, a6, a7, a8, a9, b1, b2, b3, b4⟩ := id k4
  have e20 : M1.1 20 = (N : Int) := by rw [a3.1 20 (by omega) (by decide)]; exact hs.2.2.1
  have hkc : (k : Int) < (cph C1 1065).1 7 := by
    rw [b1.1 7 (by decide), b2.1 7 (by decide)]; exact shS_lt hk
  have p1 := gv_pr hn5 k4 hkc (nm := (nm : Int)) (by omega)
  have t1 := gv_tk (n := n) k3 (k := k) (nm := (nm : Int))
  have e13 : (gvM M1 n k (nm : Int)).1 13 = M1.1 13 := gvM_1 (by decide)
  obtain ⟨C3, M3, s3, q1, q2, q3, q4, q5, q6⟩ := tk_adv (z := z) t1 (by rw [e13]; omega) (pr_byI hb0 p1)
  refine ⟨C1, nm, gvC C1 k nm, C3, M3, s3, k1, fun h S => gv_cl hR k4 hkc (by omega), q1, fun h hS => ?_, q3, prI_tok p1 q4 q5, by omega⟩
  have x := gv_md (z := z) (h := h) hn5 k4 hk12 (nm := (nm : Int)) (by omega)
  have g17 : am_fd (mdPut h M1) 1315 10 17 = some (.int (wI 0)) := by rw [md_f17, a4]
  have g35 : am_fd (mdPut h (M1.1, upC M1.2 0 (gvA (M1.2 0) (mph M1 n) n k nm))) 1315 10 35 = some (.int (wI (M1.1 35))) := md_f35
  have s35 : am_pf (mdPut h (M1.1, upC M1.2 0 (gvA (M1.2 0) (mph M1 n) n k nm))) 1315 10 35 0 (.int (wI (M1.1 35 + 1))) = some (mdPut h (gvM M1 n k nm)) := md_s35
  have y := p66 (z := z) (h := h) (M := gvM M1 n k nm) p1.2.2.2.1 (q2 h)
  simp (disch := omega) only [en145, e145_0, e145_1, e145_4, e145_5, e145_6, e145_9, e145_12, e145_13, e145_14, e145_15, e145_16, e145_19, e145_20, e145_21, e145_24, e145_25, e145_26, e145_29, e145_30, e145_33, ↓reduceIte, Bool.false_eq_true, not_false_eq_true, not_true_eq_false, Nat.reduceLeDiff, Nat.reduceAdd, Nat.reduceEqDiff, Int.reduceToNat, Int.toNat_natCast, iB0, iB1, ru_klI, ru_klR, ru_klF, ru_klJ, ru_kl0, ru_cs0, ru_csI, ru_csR, ru_csF, ru_csJ, wI_add, wI_sub, wI_mul, wI_lt, wI_le, wI_inj, ru_fdE, ru_fdN, ru_iaN, ru_baN, ru_laN, ru_qaN, ru_pfN, ru_isN, ru_bsN, ru_jsN, ru_qsN, ru_set2, Nat.add_right_cancel_iff, if_true, if_false, ite_self, Int.reduceEq, and_self, Int.add_neg_cancel_right, Int.add_zero, Int.zero_add, ru_ctR, ru_ctI, md_e, k2 h hS, g17, x, g35, s35, y, d0, not_true, not_false_iff]
theorem at_j (hR : 1315 ≤ R) {H : am_H} (hH : strs H) (hs : prS A N n C0 M0) (hp : prR n C0 M0 rc) (hb0 : byI C0 M0 l) {C1 : tCl} {S : tRd} (hk1 : ∀ h, ru_ev z 20 [.ref 1001] (clPut h C) = some (.inl none, clPut h C1)) (ht : tkR C1 M l s) (hr : prI n C0 M0 C1 M gv) (hS : S.1 = gv) : pOK z H 103 R A n l C0 M0 C S (rfV z 142 n M) s ∨ pER z H 103 R A n C0 M0 C S (rfV z 142 n M) := by
  have hn5 := hs.2.2.2.2.1
  have hn := hb0.1
  have h17 := hr.2.2.2.1
  have d0 : ((0 : Int) = 0) = True := eq_true rfl
  have dm : ((-1 : Int) = -1) = True := eq_true rfl
  have hb1 := pr_byI hb0 hr
  rcases ps_num (z := z) ht h17 hb1 (lo := 0) (hi := 999) (by decide) (by decide) with ⟨e2, C2, M2, s2, l1, l2, l3, l4, l5, l6⟩ | ⟨e2, l1, l2⟩
  rotate_left
  · right
    have hm := mut_er ht (nbT_b e2)
    refine ⟨_, S, _, ?_, fun h hh => ?_, ep_of hr ht hn (nbT_b e2)⟩
    · have x := l1 (rdH H R (A + 1) S)
      simp (disch := omega) only [en103, e103_0, e103_1, e103_4, e103_7, e103_8, e103_11, e103_12, e103_15, e103_18, e103_19, e103_20, e103_23, e103_24, e103_27, e103_30, e103_31, e103_32, e103_35, e103_36, e103_39, e103_42, e103_45, e103_46, e103_49, e103_50, e103_52, e103_55, e103_56, e103_59, e103_62, e103_63, e103_64, e103_67, e103_68, e103_69, e103_70, e103_73, e103_74, e103_77, e103_80, e103_81, e103_84, e103_87, ↓reduceIte, Bool.false_eq_true, not_false_eq_true, not_true_eq_false, Nat.reduceLeDiff, Nat.reduceAdd, Nat.reduceEqDiff, Int.reduceToNat, Int.toNat_natCast, iB0, iB1, ru_klI, ru_klR, ru_klF, ru_klJ, ru_kl0, ru_cs0, ru_csI, ru_csR, ru_csF, ru_csJ, wI_add, wI_sub, wI_mul, wI_lt, wI_le, wI_inj, ru_fdE, ru_fdN, ru_iaN, ru_baN, ru_laN, ru_qaN, ru_pfN, ru_isN, ru_bsN, ru_jsN, ru_qsN, ru_set2, Nat.add_right_cancel_iff, if_true, if_false, ite_self, Int.reduceEq, and_self, Int.add_neg_cancel_right, Int.add_zero, Int.zero_add, rd_e hR, rd_f0 hR, cl_e1, hk1, x]
      rfl
    · obtain ⟨t, htt⟩ : ∃ t, t = nbT M 0 999 := ⟨_, rfl⟩
      have bb := nbT_b e2
      have l2h := l2 h
      rw [← htt] at l2h hm bb e2
      have g17 : am_fd (mdPut h (erM M t)) 1315 10 17 = some (.int (wI t)) := by rw [md_f17]; rfl
      have d9 : (t = 0) = False := eq_false e2
      have u1 := u66 (z := z) (h := h) hm
      have u3 := u65 (z := z) (h := h) hm (lo := 0) (hi := 999) (by decide) (by decide)
      have u5 := u63 (z := z) (h := h) (c := 7) hm
      have u7 := u145 (z := z) (h := h) (f := wI n) (k := wI (-1)) hm
      rw [← htt]
      simp (disch := omega) only [en142, e142_0, e142_1, e142_2, e142_5, e142_8, e142_9, e142_10, e142_11, e142_14, e142_17, e142_18, e142_19, e142_22, e142_25, e142_26, e142_27, e142_28, e142_29, e142_30, e142_33, e142_36, e142_37, e142_39, e142_41, e142_42, e142_45, e142_46, e142_48, e142_51, e142_52, e142_55, e142_56, e142_57, e142_59, e142_62, ↓reduceIte, Bool.false_eq_true, not_false_eq_true, not_true_eq_false, Nat.reduceLeDiff, Nat.reduceAdd, Nat.reduceEqDiff, Int.reduceToNat, Int.toNat_natCast, iB0, iB1, ru_klI, ru_klR, ru_klF, ru_klJ, ru_kl0, ru_cs0, ru_csI, ru_csR, ru_csF, ru_csJ, wI_add, wI_sub, wI_mul, wI_lt, wI_le, wI_inj, ru_fdE, ru_fdN, ru_iaN, ru_baN, ru_laN, ru_qaN, ru_pfN, ru_isN, ru_bsN, ru_jsN, ru_qsN, ru_set2, Nat.add_right_cancel_iff, if_true, if_false, ite_self, Int.reduceEq, and_self, Int.add_neg_cancel_right, Int.add_zero, Int.zero_add, md_e, l2h, g17, d9, u1, u3, u5, u7, dm, not_true, not_false_iff]
  have r2 := prI_tok hr l4 l5
  have h172 := r2.2.2.2.1
  have b2 := pr_byI hb0 r2
  obtain ⟨-, x1, x2⟩ := nbT_ok e2
  have x38 : ∀ h, ru_ev z 38 [.ref 1001, .int (wI 0), .int (wI 999)] (clPut h C2) = _ := fun h => c38 (z := z) (h := h) l3 (by decide) (by decide)
  have x65 : ∀ h, ru_ev z 65 [.ref 1315, .int (wI 0), .int (wI 999)] (mdPut h M2) = _ := fun h => p65 (z := z) (h := h) l3 h172 (by decide) (by decide)
  by_cases e3 : nbT M2 0 999 = 0
  rotate_left
  · right
    have hm := mut_er l3 (nbT_b e3)
    refine ⟨_, S, _, ?_, fun h hh => ?_, ep_of r2 l3 hn (nbT_b e3)⟩
    · have x := l1 (rdH H R (A + 1) S)
      have y := x38 (rdH H R (A + 1) S)
      rw [if_neg e3] at y
      simp (disch := omega) only [en103, e103_0, e103_1, e103_4, e103_7, e103_8, e103_11, e103_12, e103_15, e103_18, e103_19, e103_20, e103_23, e103_24, e103_27, e103_30, e103_31, e103_32, e103_35, e103_36, e103_39, e103_42, e103_45, e103_46, e103_49, e103_50, e103_52, e103_55, e103_56, e103_59, e103_62, e103_63, e103_64, e103_67, e103_68, e103_69, e103_70, e103_73, e103_74, e103_77, e103_80, e103_81, e103_84, e103_87, ↓reduceIte, Bool.false_eq_true, not_false_eq_true, not_true_eq_false, Nat.reduceLeDiff, Nat.reduceAdd, Nat.reduceEqDiff, Int.reduceToNat, Int.toNat_natCast, iB0, iB1, ru_klI, ru_klR, ru_klF, ru_klJ, ru_kl0, ru_cs0, ru_csI, ru_csR, ru_csF, ru_csJ, wI_add, wI_sub, wI_mul, wI_lt, wI_le, wI_inj, ru_fdE, ru_fdN, ru_iaN, ru_baN, ru_laN, ru_qaN, ru_pfN, ru_isN, ru_bsN, ru_jsN, ru_qsN, ru_set2, Nat.add_right_cancel_iff, if_true, if_false, ite_self, Int.reduceEq, and_self, Int.add_neg_cancel_right, Int.add_zero, Int.zero_add, rd_e hR, rd_f0 hR, cl_e1, hk1, x, y]
      rfl
    · obtain ⟨t, htt⟩ : ∃ t, t = nbT M2 0 999 := ⟨_, rfl⟩
      have bb := nbT_b e3
      have y := x65 h
      rw [if_neg e3, ← htt] at y
      rw [← htt] at hm bb e3
      have g17 : am_fd (mdPut h (erM M2 t)) 1315 10 17 = some (.int (wI t)) := by rw [md_f17]; rfl
      have d9 : (t = 0) = False := eq_false e3
      have u1 := u66 (z := z) (h := h) hm
      have u5 := u63 (z := z) (h := h) (c := 7) hm
      have u7 := u145 (z := z) (h := h) (f := wI n) (k := wI (-1)) hm
      rw [← htt]
      simp (disch := omega) only [en142, e142_0, e142_1, e142_2, e142_5, e142_8, e142_9, e142_10, e142_11, e142_14, e142_17, e142_18, e142_19, e142_22, e142_25, e142_26, e142_27, e142_28, e142_29, e142_30, e142_33, e142_36, e142_37, e142_39, e142_41, e142_42, e142_45, e142_46, e142_48, e142_51, e142_52, e142_55, e142_56, e142_57, e142_59, e142_62, ↓reduceIte, Bool.false_eq_true, not_false_eq_true, not_true_eq_false, Nat.reduceLeDiff, Nat.reduceAdd, Nat.reduceEqDiff, Int.reduceToNat, Int.toNat_natCast, iB0, iB1, ru_klI, ru_klR, ru_klF, ru_klJ, ru_kl0, ru_cs0, ru_csI, ru_csR, ru_csF, ru_csJ, wI_add, wI_sub, wI_mul, wI_lt, wI_le, wI_inj, ru_fdE, ru_fdN, ru_iaN, ru_baN, ru_laN, ru_qaN, ru_pfN, ru_isN, ru_bsN, ru_jsN, ru_qsN, ru_set2, Nat.add_right_cancel_iff, if_true, if_false, ite_self, Int.reduceEq, and_self, Int.add_neg_cancel_right, Int.add_zero, Int.zero_add, md_e, l2 h, y, g17, d9, u1, u5, u7, dm, not_true, not_false_iff]
  obtain ⟨y13, y1, y2⟩ := nbT_ok e3
  have z38 : ∀ h, ru_ev z 38 [.ref 1001, .int (wI 0), .int (wI 999)] (clPut h C2) = some (.inl (some (.int (wI (M2.1 16)))), clPut h C2) := fun h => by rw [x38 h, if_pos e3]
  have z65 : ∀ h, ru_ev z 65 [.ref 1315, .int (wI 0), .int (wI 999)] (mdPut h M2) = some (.inl (some (.int (wI (M2.1 16)))), mdPut h M2) := fun h => by rw [x65 h, if_pos e3]
  obtain ⟨a1, a2, a3, a4, a5, a6, a7, a8, a9, b1, c2, c3, c4⟩ := id r2
  have hpi := pr_pi r2 hp
  obtain ⟨cn1, cn2, cn3⟩ := piOK_n hpi
  have hq0 := hp.2.2.2.2.1
  have hqe := hp.2.2.2.2.2
  have hqM := a6.2.2.2.2.2.2 n hn5
  obtain ⟨sh1, sh2, sh3, sh4⟩ := ps_sh c2
  have e7 := c2.1 7 (by decide)
  obtain ⟨m, hmm⟩ := Int.eq_ofNat_of_zero_le (phR_s hqM).2.2.2.2.2.2.2.1
  have p143' : ∀ h, ru_ev z 143 [.ref 1315, .int (wI n), .int (wI (M.1 16)), .int (wI (M2.1 16)), .int (wI 0)] (mdPut h M2) = some (.inl (some (.int (wI (fnF (fun k => shw (mph M0 n) k && decide (rkN (shS (mph M0 n)) (kyD (shX (mph M0 n)) (shY (mph M0 n)) (M.1 16) (M2.1 16)) k = 0)) ((mph M0 n).1 7).toNat 0)))), mdPut h M2) := fun h => by
    have k := p143 (z := z) (h := h) (M := M2) hn5 hqM (px := M.1 16) (py := M2.1 16) (by omega) (by omega) hmm (j := 0) (by decide)
    rw [sh1, sh2, sh3, sh4] at k
    rw [← e7, hmm, Int.toNat_natCast]
    exact k
  have g17 : ∀ h, am_fd (mdPut h M2) 1315 10 17 = some (.int (wI 0)) := fun h => by rw [md_f17, h172]
  have eC : piPut C2 1070 (piGet C2 1070) = C2 := piPut_get C2 1070
  have fP : ∀ h : am_H, (clPut h C2).1 1070 = some (.inr (4, clL4 C2 1070)) := fun h => clP4 (by decide +kernel) (by decide)
  have gP : ∀ h : am_H, am_fd (clPut h C2) 1070 4 0 = some (.int (wI (C2.1 1070 0))) := fun h => cl_f4_0 (by decide +kernel) (by decide)
  have cn1' : 0 ≤ C2.1 1070 0 := cn1
  by_cases c0 : C2.1 1070 0 = 0
  · right
    have hm := mut_er l3 (t := 7) (by decide)
    refine ⟨_, S, _, ?_, fun h hh => ?_, ep_of r2 l3 hn (t := 7) (by decide)⟩
    · have x := l1 (rdH H R (A + 1) S)
      have y := c36 (z := z) (h := rdH H R (A + 1) S) (C := C2) (b := 0) (Or.inl rfl) (c := 7)
      rw [if_neg (by decide)] at y
      have g := gP (rdH H R (A + 1) S)
      rw [c0] at g
      simp (disch := omega) only [en103, e103_0, e103_1, e103_4, e103_7, e103_8, e103_11, e103_12, e103_15, e103_18, e103_19, e103_20, e103_23, e103_24, e103_27, e103_30, e103_31, e103_32, e103_35, e103_36, e103_39, e103_42, e103_45, e103_46, e103_49, e103_50, e103_52, e103_55, e103_56, e103_59, e103_62, e103_63, e103_64, e103_67, e103_68, e103_69, e103_70, e103_73, e103_74, e103_77, e103_80, e103_81, e103_84, e103_87, ↓reduceIte, Bool.false_eq_true, not_false_eq_true, not_true_eq_false, Nat.reduceLeDiff, Nat.reduceAdd, Nat.reduceEqDiff, Int.reduceToNat, Int.toNat_natCast, iB0, iB1, ru_klI, ru_klR, ru_klF, ru_klJ, ru_kl0, ru_cs0, ru_csI, ru_csR, ru_csF, ru_csJ, wI_add, wI_sub, wI_mul, wI_lt, wI_le, wI_inj, ru_fdE, ru_fdN, ru_iaN, ru_baN, ru_laN, ru_qaN, ru_pfN, ru_isN, ru_bsN, ru_jsN, ru_qsN, ru_set2, Nat.add_right_cancel_iff, if_true, if_false, ite_self, Int.reduceEq, and_self, Int.add_neg_cancel_right, Int.add_zero, Int.zero_add, rd_e hR, rd_f0 hR, rd_f3 hR, cl_e1, fP, hk1, x, z38, g, y, Int.le_refl]
      rfl
    · have v : fnF (fun k => shw (mph M0 n) k && decide (rkN (shS (mph M0 n)) (kyD (shX (mph M0 n)) (shY (mph M0 n)) (M.1 16) (M2.1 16)) k = 0)) ((mph M0 n).1 7).toNat 0 = -1 := by
        refine fnF_no _ _ (fun k _ hk hst => ?_)
        have k1 : shw (mph M0 n) k = true := by
          rw [Bool.and_eq_true] at hst; exact hst.1
        have sm := phR_s hq0
        have k2 : shS (mph M0 n) k = true := by rw [shS_of (by omega)]; exact k1
        have k3 : 0 < cnB (shS (mph M0 n)) 12 := cnB_pos 12 (by omega) k2
        have k4 : (piGet C2 1070).1 0 = C2.1 1070 0 := rfl
        rw [shS_eq hqe] at cn3
        omega
      have y := p143' h
      rw [v] at y
      have u1 := u66 (z := z) (h := h) hm
      have u7 := u145 (z := z) (h := h) (f := wI n) (k := wI (-1)) hm
      simp (disch := omega) only [en142, e142_0, e142_1, e142_2, e142_5, e142_8, e142_9, e142_10, e142_11, e142_14, e142_17, e142_18, e142_19, e142_22, e142_25, e142_26, e142_27, e142_28, e142_29, e142_30, e142_33, e142_36, e142_37, e142_39, e142_41, e142_42, e142_45, e142_46, e142_48, e142_51, e142_52, e142_55, e142_56, e142_57, e142_59, e142_62, ↓reduceIte, Bool.false_eq_true, not_false_eq_true, not_true_eq_false, Nat.reduceLeDiff, Nat.reduceAdd, Nat.reduceEqDiff, Int.reduceToNat, Int.toNat_natCast, iB0, iB1, ru_klI, ru_klR, ru_klF, ru_klJ, ru_kl0, ru_cs0, ru_csI, ru_csR, ru_csF, ru_csJ, wI_add, wI_sub, wI_mul, wI_lt, wI_le, wI_inj, ru_fdE, ru_fdN, ru_iaN, ru_baN, ru_laN, ru_qaN, ru_pfN, ru_isN, ru_bsN, ru_jsN, ru_qsN, ru_set2, Nat.add_right_cancel_iff, if_true, if_false, ite_self, Int.reduceEq, and_self, Int.add_neg_cancel_right, Int.add_zero, Int.zero_add, md_e, l2 h, z65, g17, y, f63 h172, u1, u7, d0, dm, not_true, not_false_iff]
  obtain ⟨C3, M3, s3, q1, q2, q3, q4, q5, q6⟩ := tk_adv (z := z) l3 (by omega) b2
  have r3 := prI_tok r2 q4 q5
  have hpi3 := pr_pi r3 hp
  have e30 : (piGet C3 1070).1 0 = C2.1 1070 0 := by
    show C3.1 1070 0 = _
    rw [q4.1 1070 (by decide)]
  obtain ⟨g, n', e, w0, w1, w2⟩ := k104 (z := z) (h := rdH H R (A + 1) S) (C := C3) (P := 1070) (Or.inl rfl) (p := piGet C3 1070) (q := cph C0 1065) hp.2.2.2.1 hpi3 (px := M.1 16) (py := M2.1 16) (by omega) (by omega) (j := 0) (by rw [e30]; show (0 : Int) < _; omega)
  rw [piPut_get] at w2
  obtain ⟨C4, hC4⟩ : ∃ C4, C4 = piPut C3 1070 ((piGet C3 1070).1, upC (piGet C3 1070).2 7 g) := ⟨_, rfl⟩
  rw [← hC4] at w2
  have n0 : 0 < n' := by omega
  have f1 : C4.1 = C3.1 := by
    rw [hC4]
    funext q
    show (if q = 1070 then C3.1 1070 else C3.1 q) = C3.1 q
    by_cases e : q = 1070
    · rw [if_pos e, e]
    · rw [if_neg e]
  have f2 : ∀ q, q ≠ 1078 → C4.2.1 q = C3.2.1 q := fun q hq => by
    rw [hC4]
    by_cases e : 1071 ≤ q ∧ q ≤ 1080
    · rw [piPut_in (by omega)]
      dsimp only
      rw [upC_n (by omega)]
      exact piGet_in (by omega)
    · exact piPut_2 (by omega)
  have f3 : C4.2.2 = C3.2.2 := by rw [hC4]; rfl
  have r4 := pr_78 r3 f1 f2 f3
  have t4 : tkR C4 M3 l s3 := tkR_of q3 (by rw [f1]) (f2 _ (by decide)) (by rw [f3]) (by rw [f3]) (fun _ _ _ => rfl) rfl
  have hke : shS (mph M0 n) (e 0) = true := by rw [← shS_eq hqe]; exact (w1.1 0 n0).2
  have v : fnF (fun k => shw (mph M0 n) k && decide (rkN (shS (mph M0 n)) (kyD (shX (mph M0 n)) (shY (mph M0 n)) (M.1 16) (M2.1 16)) k = 0)) ((mph M0 n).1 7).toNat 0 = ((e 0 : Nat) : Int) := en_lk hqe hq0 (fun k hk hs => by unfold kyD dqF; rw [pheq_shX hqe (shS_lt hs), pheq_shY hqe (shS_lt hs)]) w1 n0
  have y36 : ru_ev z 36 [.ref 1001, .int (wI 1), .int (wI 7)] (clPut (rdH H R (A + 1) S) C2) = some (.inl none, clPut (rdH H R (A + 1) S) C2) := by rw [c36 (Or.inr rfl), if_pos rfl]
  have x := l1 (rdH H R (A + 1) S)
  have gg := gP (rdH H R (A + 1) S)
  have dg : (C2.1 1070 0 ≤ 0) = False := eq_false (by omega)
  have r20 : -2147483648 ≤ C2.1 1070 0 ∧ C2.1 1070 0 < 2147483648 := by
    have k4 : (piGet C2 1070).1 0 = C2.1 1070 0 := rfl
    omega
  have fP3 : (clPut (rdH H R (A + 1) S) C3).1 1070 = some (.inr (4, clL4 C3 1070)) := clP4 (by decide +kernel) (by decide)
  have w2' : ru_ev z 104 [.ref 1070, .int (wI (M.1 16)), .int (wI (M2.1 16)), .int (wI 0)] (clPut (rdH H R (A + 1) S) C3) = some (.inl (some (.int (wI ((e 0 : Nat) : Int)))), clPut (rdH H R (A + 1) S) C4) := w2
  have dv : (((e 0 : Nat) : Int) = -1) = False := eq_false (by omega)
  have e12 := (shS_rng hq0 hke).2.2.2.1
  have y66 : ∀ h, ru_ev z 66 [.ref 1315] (mdPut h M2) = some (.inl none, mdPut h M3) := fun h => p66 (z := z) h172 (q2 h)
  rcases gf_j (z := z) hR hs r4 t4 hb0 hke hq0 with ⟨C5, nm, C6, C7, M7, s7, o1, o2, o3, o4, o5, o6, o7⟩ | ⟨C5, M5, o1, o2, o3⟩
  · left
    refine ⟨C7, (S.1 + 1, S.2), M7, s7, gv + 1, ?_, fun h hh => ?_, o5, o6, by rw [← hS], by omega⟩
    · have o1h := o1 H S hH
      have o2h := o2 H S
      have o3h := o3 (rdH H R (A + 1) (S.1 + 1, S.2))
      simp (disch := omega) only [en103, e103_0, e103_1, e103_4, e103_7, e103_8, e103_11, e103_12, e103_15, e103_18, e103_19, e103_20, e103_23, e103_24, e103_27, e103_30, e103_31, e103_32, e103_35, e103_36, e103_39, e103_42, e103_45, e103_46, e103_49, e103_50, e103_52, e103_55, e103_56, e103_59, e103_62, e103_63, e103_64, e103_67, e103_68, e103_69, e103_70, e103_73, e103_74, e103_77, e103_80, e103_81, e103_84, e103_87, ↓reduceIte, Bool.false_eq_true, not_false_eq_true, not_true_eq_false, Nat.reduceLeDiff, Nat.reduceAdd, Nat.reduceEqDiff, Int.reduceToNat, Int.toNat_natCast, iB0, iB1, ru_klI, ru_klR, ru_klF, ru_klJ, ru_kl0, ru_cs0, ru_csI, ru_csR, ru_csF, ru_csJ, wI_add, wI_sub, wI_mul, wI_lt, wI_le, wI_inj, ru_fdE, ru_fdN, ru_iaN, ru_baN, ru_laN, ru_qaN, ru_pfN, ru_isN, ru_bsN, ru_jsN, ru_qsN, ru_set2, Nat.add_right_cancel_iff, if_true, if_false, ite_self, Int.reduceEq, and_self, Int.add_neg_cancel_right, Int.add_zero, Int.zero_add, rd_e hR, rd_f0 hR, rd_f3 hR, cl_e1, fP, fP3, hk1, x, z38, gg, dg, y36, q1 (rdH H R (A + 1) S), w2', o1h, o2h, o3h]
    · have yv := p143' h
      rw [v] at yv
      simp (disch := omega) only [en142, e142_0, e142_1, e142_2, e142_5, e142_8, e142_9, e142_10, e142_11, e142_14, e142_17, e142_18, e142_19, e142_22, e142_25, e142_26, e142_27, e142_28, e142_29, e142_30, e142_33, e142_36, e142_37, e142_39, e142_41, e142_42, e142_45, e142_46, e142_48, e142_51, e142_52, e142_55, e142_56, e142_57, e142_59, e142_62, ↓reduceIte, Bool.false_eq_true, not_false_eq_true, not_true_eq_false, Nat.reduceLeDiff, Nat.reduceAdd, Nat.reduceEqDiff, Int.reduceToNat, Int.toNat_natCast, iB0, iB1, ru_klI, ru_klR, ru_klF, ru_klJ, ru_kl0, ru_cs0, ru_csI, ru_csR, ru_csF, ru_csJ, wI_add, wI_sub, wI_mul, wI_lt, wI_le, wI_inj, ru_fdE, ru_fdN, ru_iaN, ru_baN, ru_laN, ru_qaN, ru_pfN, ru_isN, ru_bsN, ru_jsN, ru_qsN, ru_set2, Nat.add_right_cancel_iff, if_true, if_false, ite_self, Int.reduceEq, and_self, Int.add_neg_cancel_right, Int.add_zero, Int.zero_add, md_e, l2 h, z65, g17, yv, y66, o4 h hh, d0, dv, not_true, not_false_iff]
  · right
    refine ⟨C5, S, M5, ?_, fun h hh => ?_, o3⟩
    · have o1h := o1 H S hH
      simp (disch := omega) only [en103, e103_0, e103_1, e103_4, e103_7, e103_8, e103_11, e103_12, e103_15, e103_18, e103_19, e103_20, e103_23, e103_24, e103_27, e103_30, e103_31, e103_32, e103_35, e103_36, e103_39, e103_42, e103_45, e103_46, e103_49, e103_50, e103_52, e103_55, e103_56, e103_59, e103_62, e103_63, e103_64, e103_67, e103_68, e103_69, e103_70, e103_73, e103_74, e103_77, e103_80, e103_81, e103_84, e103_87, ↓reduceIte, Bool.false_eq_true, not_false_eq_true, not_true_eq_false, Nat.reduceLeDiff, Nat.reduceAdd, Nat.reduceEqDiff, Int.reduceToNat, Int.toNat_natCast, iB0, iB1, ru_klI, ru_klR, ru_klF, ru_klJ, ru_kl0, ru_cs0, ru_csI, ru_csR, ru_csF, ru_csJ, wI_add, wI_sub, wI_mul, wI_lt, wI_le, wI_inj, ru_fdE, ru_fdN, ru_iaN, ru_baN, ru_laN, ru_qaN, ru_pfN, ru_isN, ru_bsN, ru_jsN, ru_qsN, ru_set2, Nat.add_right_cancel_iff, if_true, if_false, ite_self, Int.reduceEq, and_self, Int.add_neg_cancel_right, Int.add_zero, Int.zero_add, rd_e hR, rd_f0 hR, rd_f3 hR, cl_e1, fP, fP3, hk1, x, z38, gg, dg, y36, q1 (rdH H R (A + 1) S), w2', o1h]
    · have yv := p143' h
      rw [v] at yv
      simp (disch := omega) only [en142, e142_0, e142_1, e142_2, e142_5, e142_8, e142_9, e142_10, e142_11, e142_14, e142_17, e142_18, e142_19, e142_22, e142_25, e142_26, e142_27, e142_28, e142_29, e142_30, e142_33, e142_36, e142_37, e142_39, e142_41, e142_42, e142_45, e142_46, e142_48, e142_51, e142_52, e142_55, e142_56, e142_57, e142_59, e142_62, ↓reduceIte, Bool.false_eq_true, not_false_eq_true, not_true_eq_false, Nat.reduceLeDiff, Nat.reduceAdd, Nat.reduceEqDiff, Int.reduceToNat, Int.toNat_natCast, iB0, iB1, ru_klI, ru_klR, ru_klF, ru_klJ, ru_kl0, ru_cs0, ru_csI, ru_csR, ru_csF, ru_csJ, wI_add, wI_sub, wI_mul, wI_lt, wI_le, wI_inj, ru_fdE, ru_fdN, ru_iaN, ru_baN, ru_laN, ru_qaN, ru_pfN, ru_isN, ru_bsN, ru_jsN, ru_qsN, ru_set2, Nat.add_right_cancel_iff, if_true, if_false, ite_self, Int.reduceEq, and_self, Int.add_neg_cancel_right, Int.add_zero, Int.zero_add, md_e, l2 h, z65, g17, yv, y66, o2 h hh, d0, dv, not_true, not_false_iff]
end ATP
