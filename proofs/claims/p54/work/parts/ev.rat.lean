/-! ===== the class reads at ===== -/
section RAT
variable {z : Bool} {C0 C C' : tCl} {n A N R : Nat} {F L : Nat → List Nat} {h : am_H} {q : tPh}
theorem piOK_ps {p : tPi} {q q0 : tPh} {gap : Int} (h : piOK p q0 gap) (e : psE q q0) : piOK p q gap := by
  obtain ⟨s1, s2, s3, s4⟩ := ps_sh e
  unfold piOK at h ⊢
  rw [s2, s3, s4]; exact h
theorem fp_pi {q0 : tPh} {gap : Int} (hq : fpI C0 C q) (hpi : piOK (piGet C0 1070) q0 gap) (e : psE q q0) : piOK (piGet C 1070) q gap := by
  refine piOK_c (piOK_ps hpi e) (hq.1.1 1070 (by decide)) (fun c hc => ?_)
  show C.2.1 (1070 + 1 + c) = C0.2.1 (1070 + 1 + c)
  exact hq.1.2.1 _ (by omega) (by omega)
theorem fpI_78 (hq : fpI C0 C q) {g : Nat → Int} : fpI C0 (piPut C 1070 ((piGet C 1070).1, upC (piGet C 1070).2 7 g)) q := by
  obtain ⟨a1, a2, a3, a4⟩ := hq
  have e1 : (piPut C 1070 ((piGet C 1070).1, upC (piGet C 1070).2 7 g)).1 = C.1 := by
    funext b
    show (if b = 1070 then C.1 1070 else C.1 b) = C.1 b
    by_cases c : b = 1070
    · rw [if_pos c, c]
    · rw [if_neg c]
  have e2 : ∀ b, b ≠ 1078 → (piPut C 1070 ((piGet C 1070).1, upC (piGet C 1070).2 7 g)).2.1 b = C.2.1 b := fun b hb => by
    by_cases c : 1070 + 1 ≤ b ∧ b ≤ 1070 + 10
    · obtain ⟨j, rfl⟩ : ∃ j, b = 1070 + 1 + j := ⟨b - 1071, by omega⟩
      have hj : j ≠ 7 := by omega
      rw [piPut_in c, Nat.add_sub_cancel_left]
      have e3 : ((piGet C 1070).1, upC (piGet C 1070).2 7 g).2 j = (piGet C 1070).2 j := upC_n hj
      rw [e3]
      rfl
    · exact if_neg c
  refine ⟨⟨fun b hb => by rw [e1]; exact a1.1 b hb, fun b h1 h2 => by rw [e2 b h2]; exact a1.2.1 b h1 h2, a1.2.2.1, a1.2.2.2⟩, fun i hi => by rw [e1]; exact a2 i hi, ?_, a4⟩
  rw [cph_eq (by rw [e1]) (fun c hc => e2 _ (by omega))]
  exact a3
theorem tkw_c {n : Nat} {W T : List Nat} (h : tkw C n W T) (h1 : C'.1 1001 = C.1 1001) (h2 : C'.2.1 1002 = C.2.1 1002) (h3 : C'.2.2.1 1001 8 = C.2.2.1 1001 8) (h4 : C'.2.2.2 1001 7 = C.2.2.2 1001 7) : tkw C' n W T := by
  obtain ⟨s, p1, p2, p3, p4, p5, p6⟩ := h
  exact ⟨s, poR_c p1 h1 h2, by rw [h1]; exact p2, p3, by rw [h4]; exact p4, fun q hq => by rw [h2]; exact p5 q hq, by rw [h3]; exact p6⟩
theorem f103 (hR : 1315 ≤ R) (hst : strs h) (hs : nmS C0 A N F L) {q0 : tPh} {gap : Int} (hq : fpI C0 C q) (hpi : piOK (piGet C0 1070) q0 gap) (hE : psE q q0) {W T : List Nat} {c px py km : Nat} (hx : px ≤ 99) (hy : py ≤ 99) (hc : c < N) (hk : (km : Int) < q.1 7) (hne : ¬ cnB (shS q) 12 = 0) (hkm : ∀ n e, enO (shS q) (kyD (shX q) (shY q) px py) n e → 0 < n → e 0 = km) (ht : tkw C n W ([32] ++ (numT px ++ ([32] ++ (numT py ++ ([32] ++ (F c ++ ([32] ++ (L c ++ T))))))))) (hT : enT T) (S : tRd) : ∃ C', ru_ev z 103 [.ref R] (clPut (rdH h R (A + 1) S) C) = some (.inl none, clPut (rdH h R (A + 1) (S.1 + 1, S.2)) C') ∧ tkT C' n T ∧ fpI C0 C' (gvQ q km c) := by
  obtain ⟨s0, p0, -⟩ := ht
  have d32 : isD 32 = false := by decide
  have l32 : isL 32 = false := by decide
  obtain ⟨C1, a1, a2, a3⟩ := av_n (z := z) hx p0 spK_1 (Or.inr d32)
  obtain ⟨s1, e1, -, p1, -⟩ := id a2
  obtain ⟨C2, b1, b2, b3⟩ := av_n (z := z) hy p1 spK_1 (Or.inr d32)
  obtain ⟨s2, e2, -, p2, -⟩ := id b2
  have wk := (hs.2.2.2 c hc).1.1
  obtain ⟨C3, c1, c2, c3⟩ := av_w (z := z) p2 spK_1 wk (Or.inr l32)
  have q2 := fpI_S (fpI_S hq a3) b3
  have q3 := fpI_S q2 c3
  have pi3 := fp_pi q3 hpi hE
  obtain ⟨n0, eo, er, o1, o2, o3, -⟩ := id pi3
  have n1 := enO_n o3
  have pos : (0 : Int) < (piGet C3 1070).1 0 := by rw [o1]; omega
  obtain ⟨g, n', e', u1, u2, u3⟩ := k104 (z := z) (h := rdH h R (A + 1) S) (C := C3) (P := 1070) (Or.inl rfl) q3.2.2.2 pi3 (px := (px : Int)) (py := (py : Int)) (by omega) (by omega) (j := 0) pos
  rw [piPut_get, hkm n' e' u2 (by omega), show (((0 : Nat)) : Int) = 0 from rfl] at u3
  obtain ⟨C4, hC4⟩ : ∃ C4, C4 = piPut C3 1070 ((piGet C3 1070).1, upC (piGet C3 1070).2 7 g) := ⟨_, rfl⟩
  have q4 : fpI C0 C4 q := by rw [hC4]; exact fpI_78 q3
  have t4 : tkw C4 n (F c) ([32] ++ (L c ++ T)) := by rw [hC4]; exact tkw_c c2 (piPut_1 (by decide)) (piPut_2 (by decide)) rfl rfl
  rw [← hC4] at u3
  obtain ⟨C5, C6, v1, v2, v3, v4, v5, -⟩ := gvw (z := z) (h := h) hR hst hs q4 hc hk t4 hT
  refine ⟨C6, ?_, v4, v5⟩
  have x1 := a1 (rdH h R (A + 1) S)
  have x2 := fw37 (z := z) (h := rdH h R (A + 1) S) a2 (lo := 0) (hi := 999) (by omega) (by omega) (by omega) (by omega) b1
  have x3 := fw38 (z := z) (h := rdH h R (A + 1) S) b2 (lo := 0) (hi := 999) (by omega) (by omega) (by omega) (by omega)
  have x4 := c1 (rdH h R (A + 1) S)
  have gP : am_fd (clPut (rdH h R (A + 1) S) C2) 1070 4 0 = some (.int (wI (C2.1 1070 0))) := cl_f4_0 (by decide +kernel) (by decide)
  have fP : ∀ D : tCl, (clPut (rdH h R (A + 1) S) D).1 1070 = some (.inr (4, clL4 D 1070)) := fun D => clP4 (by decide +kernel) (by decide)
  have p70 : C2.1 1070 0 = (n0 : Int) := by
    have : C3.1 1070 = C2.1 1070 := c3.1 1070 (by decide)
    rw [← this]; exact o1
  have n12 := enO_12 o3
  have d1 : ((n0 : Int) ≤ 0) = False := eq_false (by omega)
  have y1 := v1 S
  have y2 := v2 S
  have y3 := v3 (rdH h R (A + 1) (S.1 + 1, S.2))
  simp (disch := omega) only [en103, e103_0, e103_1, e103_4, e103_7, e103_8, e103_11, e103_12, e103_15, e103_18, e103_19, e103_20, e103_23, e103_24, e103_27, e103_30, e103_31, e103_32, e103_35, e103_36, e103_39, e103_42, e103_45, e103_46, e103_49, e103_50, e103_52, e103_55, e103_56, e103_59, e103_62, e103_63, e103_64, e103_67, e103_68, e103_69, e103_70, e103_73, e103_74, e103_77, e103_80, e103_81, e103_84, e103_87, ↓reduceIte, Bool.false_eq_true, not_false_eq_true, not_true_eq_false, Nat.reduceLeDiff, Nat.reduceAdd, Nat.reduceEqDiff, Int.reduceToNat, Int.toNat_natCast, iB0, iB1, ru_klI, ru_klR, ru_klF, ru_klJ, ru_kl0, ru_cs0, ru_csI, ru_csR, ru_csF, ru_csJ, wI_add, wI_sub, wI_mul, wI_lt, wI_le, wI_inj, ru_fdE, ru_fdN, ru_iaN, ru_baN, ru_laN, ru_qaN, ru_pfN, ru_isN, ru_bsN, ru_jsN, ru_qsN, ru_set2, Nat.add_right_cancel_iff, if_true, if_false, ite_self, Int.reduceEq, and_self, Int.add_neg_cancel_right, Int.add_zero, Int.zero_add, rd_e hR, rd_f0 hR, rd_f3 hR, x1, x2, x3, gP, p70, d1, fw36, x4, fP, cl_e1, u3, y1, y2, y3]
end RAT
