/-! ===== the law's phrases are carried out ===== -/
section PHAA
variable {z : Bool} {B : Nat} {A : tLw} {n : Nat} {g : Nat → Int32} {F L : Nat → List Nat} {C : tCl} {NN P : Nat}
theorem gbS_ag {X Y : am_H} {S r : Nat} {m : Int} {f : Nat → Int} {l : List Nat} {cap : Nat} (h : gbS X S r m f l cap) (h1 : Y.1 S = X.1 S) (h2 : Y.1 r = X.1 r) (h3 : X.2.1 ≤ Y.2.1) : gbS Y S r m f l cap := by
  obtain ⟨a1, a2, a3, a4, a5, a6, a7, a8⟩ := h
  exact ⟨by rw [h1]; exact a1, by rw [h2]; exact a2, a3, a4, a5, by omega, by omega, a8⟩
theorem d417 (hk : txK B n) {X : am_H} {t f : Nat} (h : acI X B A n g t F L C NN P) (hf : f < P) (ht : t ≤ 600000) : ∃ X', acO B n g F L NN P X t X' 61 45000 140000 ∧ ru_ev z 417 [.ref 1000, .ref (B + 1), .ref B, .int (wI f)] X = some (.inl (some (.int (wI 1))), X') := by
  by_cases hz : NN = 0 ∨ cnB (shw (A.2.1 f)) ((A.2.1 f).1 7).toNat = 0
  · obtain ⟨X', ⟨A', C', t', a1, a2, a3, a4⟩, b⟩ := d417e (z := z) hk h hf hz
    exact ⟨X', ⟨A', C', t', a1, by omega, by omega, by omega⟩, b⟩
  obtain ⟨hl, hw, hc, hX, hI, hP, hb⟩ := h
  obtain ⟨w1, w2, w3, w4, w5, w6, w7⟩ := id hw
  obtain ⟨kB1, kB2, kB3⟩ := id hk
  have hf3 : f < 3 := by omega
  obtain ⟨l1, l2, l3, l4, l5, l6⟩ := id hl
  have hne : ¬ cnB (shS (A.2.1 f)) 12 = 0 := by
    rw [← cnS (w6 f)]
    exact fun e => hz (Or.inr e)
  have hN1 : 1 ≤ NN := by
    have : ¬ NN = 0 := fun e => hz (Or.inl e)
    omega
  -- the builder
  obtain ⟨X1, f1, k10, g1, g2, g3, g4⟩ := g10 (z := z) (X := X)
  have t1 : txS X1 B A n g t F L X.2.1 (X.2.1 + 1) [] 16 := by
    refine ⟨ylP_ag l1 (fun q _ h2 => g2 q (by omega)), dwP_ag l2 (g2 1 (by omega)) (g2 B (by omega)), lnS_ag l3 (fun q hq _ => g2 q (by omega)), lwS_ag l4 (fun q hq => g2 q (by omega)), dgI_ag l5 (fun q hq => g2 q (by omega)), ⟨0, f1, g1⟩, by omega, by omega⟩
  -- how many
  obtain ⟨v, X2, v1, v2, k390, t2, a2, e2, o2⟩ := tx_drw (z := z) hk t1 (by omega) (lo := 1) (hi := 3) (by omega) (by omega) (by omega)
  obtain ⟨m, rfl⟩ : ∃ m : Nat, v = (m : Int) := ⟨v.toNat, by omega⟩
  have t2' : txS X2 B (ylU A f (A.2.1 f)) n g (t + 1) F L X.2.1 (X.2.1 + 1) [] 16 := by rw [ylU_self]; exact t2
  obtain ⟨X3, r', cap', t', ct, l, p', x1, x2, x3, x4, x5, x6, x7, x8, run⟩ := d417l (z := z) hk w6 hf3 (by omega) w1 w2 hN1 hne (m := m) (by omega) m 0 (by omega) X2 (t + 1) (X.2.1 + 1) 16 0 [] (A.2.1 f) ⟨rfl, rfl, rfl⟩ (w6 f) (psE_refl _) t2' (Nat.le_refl _) (Or.inl ⟨rfl, rfl⟩) (by omega) (by omega)
  obtain ⟨u1, u2, u3, u4, u5, ⟨mm, ff, u6⟩, u7, u8⟩ := id x4
  have hcap : cap' ≤ 1002 := u6.2.2.2.2.1
  obtain ⟨ag1, ag2, ag3, ag4, ag5, ag6⟩ := x8
  have hx1 : X1.2.1 = X.2.1 + 2 := g3
  have hx2 : X2.2.1 = X.2.1 + 2 := by rw [e2, g3]
  have hr' : 1315 ≤ r' := by rcases ag5 with e | e <;> omega
  have hm3 : 1 ≤ m ∧ m ≤ 3 := by omega
  -- its text
  obtain ⟨X4, k391, y1, y2, y3, y4⟩ := g391 (z := z) u6
  have sm : ∀ q, q < X.2.1 → q ≠ B → (q < B ∨ B + 30 ≤ q) → X4.1 q = X.1 q := fun q h1 h2 h3 => by
    rw [y2 q (by omega), ag1 q (by omega) h3 (by omega) (by omega), o2 q h2, g2 q h1]
  have hc4 : clI X4 C := clI_same hc (fun q h1 h2 => sm q (by omega) (by omega) (by omega))
  have h7 := a7_all (nmS_a7 hI.2.2.2.1) m _ _ _ _ x1
  obtain ⟨Y, nn, fy, k402, z2, z3, z4, z5, z6⟩ := d402 (z := z) (Q := X3.2.1) (V := X3.2.1 + 1) (by omega) (by omega) (by omega) (fun j hj => a7_g h7 hj) hc4 hb y1 (by omega) (by omega) (by omega)
  have hY : X3.2.1 + 2 ≤ Y.2.1 := by have := z6.2.1; omega
  have gY : gbS Y X.2.1 r' mm ff l cap' := by
    have q1 := u6.2.2.2.2.2.1
    have q2 := u6.2.2.2.2.2.2.1
    exact gbS_ag u6 (by rw [z6.1 _ (by omega) (by omega), y2 _ (by omega)]) (by rw [z6.1 _ (by omega) (by omega), y2 _ (by omega)]) (by omega)
  have k324 := g324 (z := z) gY
  -- the class
  obtain ⟨iI, iP⟩ := yc_ib (n := (nn : Int)) (f := fy) hI hP
  obtain ⟨m', rfl⟩ : ∃ m', m = m' + 1 := ⟨m - 1, by omega⟩
  have sY : ∀ q, q < 1000 → q ≠ B → (q < B ∨ B + 30 ≤ q) → Y.1 q = X.1 q := fun q h1 h2 h3 => by
    rw [z6.1 q (by omega) (by omega), sm q (by omega) h2 h3]
  have stY : strs Y := strs_ag l6 (fun q hq => sY q (by omega) (by omega) (by omega))
  obtain ⟨C', H', k77, c1, c2, c3, c4, c5, c6, c7⟩ := c77 (z := z) (C := ibP C (nn : Int) fy) (H := Y) (k := nn) iI iP hf (w6 f) (w7 f hf).1 w2 (m := m') (by omega) x1 rfl ⟨z3, by omega⟩ (fun i hi => z5 i hi) (fun i hi => a7_g h7 hi) stY (by omega)
  rw [← z2] at k77
  have p1 := c154 (z := z) (h := H') (C := C')
  have p2 := c156 (z := z) (h := H') (C := C')
  rw [c5] at p1
  rw [c6] at p2
  have sE : ∀ q, q < 1000 → (clPut H' C').1 q = Y.1 q := fun q hq => by rw [clPut_o (by omega)]; exact c1.1 q (by omega)
  have sB : ∀ q, B ≤ q → q < B + 30 → (clPut H' C').1 q = X3.1 q := fun q h1 h2 => by rw [sE q (by omega), z6.1 q (by omega) (by omega), y2 q (by omega)]
  have e7 := (w7 f hf)
  refine ⟨clPut H' C', ⟨ylU A f p', C', t', ⟨?_, ⟨w1, w2, w3, w4, w5, ylU_R w6 x2, fun i hi => ?_⟩, clI_put _ _, ?_, c2, c3, c4⟩, by omega, ?_, ?_⟩, ?_⟩
  · refine laI_W hk hl (fun q h1 h2 => ?_) (ylP_ag u1 (fun q h1 h2 => sB q (by omega) h2)) ⟨?_, ?_⟩ rfl rfl
    · by_cases e : q = B
      · omega
      · rw [sE q h1, sY q h1 e h2]
    · have := u2.1
      rw [sE 1 (by omega), z6.1 1 (by omega) (by omega), y2 1 (by omega)]
      exact this
    · rw [sB B (by omega) (by omega)]; exact u2.2
  · by_cases e : i = f
    · subst e
      rw [ylU_s]
      exact ⟨c7, by rw [x3.1 0 (by decide)]; exact e7.2.1, by rw [x3.1 1 (by decide)]; exact e7.2.2.1, fun j hj => by rw [x3.2 2 (by decide)]; rw [x3.1 7 (by decide)] at hj; exact e7.2.2.2.1 j hj, by rw [x3.1 4 (by decide), x3.1 0 (by decide)]; exact e7.2.2.2.2⟩
    · rw [ylU_n e]; exact w7 i hi
  · show 1315 ≤ H'.2.1
    have := c1.2.1
    omega
  · have j1 := c1.2.2.1
    have j2 := z6.2.2.1
    show H'.2.1 ≤ _
    omega
  · have j1 := c1.2.2.2
    have j2 := z6.2.2.2
    have j3 : X2.2.2 = X.2.2 + 20 := by rw [e2, g4]
    show H'.2.2 ≤ _
    omega
  · have f2 := yl_f2 l1
    rw [w1] at f2
    have a1 : wI 1 &&& 1 = wI 1 := by decide +kernel
    have e0 : ((NN : Int) = 0) = False := eq_false (by omega)
    have k407 := d407 (z := z) l1 w6 (f := f) hf3
    have e1 : (((cnB (shw (A.2.1 f)) ((A.2.1 f).1 7).toNat : Nat) : Int) = 0) = False := eq_false (by have : ¬ cnB (shw (A.2.1 f)) ((A.2.1 f).1 7).toNat = 0 := fun e => hz (Or.inr e); omega)
    have e3 : ((1 : Int) = 0) = False := eq_false (by decide)
    have t0 : (am_new X (.inr (11, [.null, .int (wI 0), .int (wI 0), .int (wI 0)])) 4).2.1 = X.2.1 + 1 := rfl
    have bb := cnB_le (shw (A.2.1 f)) ((A.2.1 f).1 7).toNat
    have b12 := (phR_s (w6 f)).2.2.2.2.2.2.2
    have run' : ru_n z 417 69 [some (.ref 1000), some (.ref (B + 1)), some (.ref B), some (.int (wI f)), some (.ref X.2.1), some (.int (wI 0)), some (.int (wI ((m' + 1 : Nat) : Int)))] [] X2 = ru_n z 417 129 [some (.ref 1000), some (.ref (B + 1)), some (.ref B), some (.int (wI f)), some (.ref X.2.1), some (.int (wI ct)), some (.int (wI 0))] [] X3 := run
    simp (disch := omega) only [en417, e417_0, e417_1, e417_4, e417_7, e417_8, e417_9, e417_12, e417_49, e417_52, e417_53, e417_56, e417_58, e417_59, e417_61, e417_62, e417_63, e417_64, e417_67, e417_129, e417_130, e417_132, e417_135, e417_138, e417_141, e417_142, e417_143, e417_145, e417_148, e417_151, e417_153, e417_156, e417_157, e417_160, e417_163, e417_164, e417_167, e417_168, e417_171, e417_172, e417_175, e417_176, ↓reduceIte, Bool.false_eq_true, not_false_eq_true, not_true_eq_false, Nat.reduceLeDiff, Nat.reduceAdd, Nat.reduceEqDiff, Int.reduceToNat, Int.toNat_natCast, iB0, iB1, ru_klI, ru_klR, ru_klF, ru_klJ, ru_kl0, ru_cs0, ru_csI, ru_csR, ru_csF, ru_csJ, wI_add, wI_sub, wI_mul, wI_lt, wI_le, wI_inj, ru_fdE, ru_fdN, ru_iaN, ru_baN, ru_laN, ru_qaN, ru_pfN, ru_isN, ru_bsN, ru_jsN, ru_qsN, ru_set2, Nat.add_right_cancel_iff, if_true, if_false, ite_self, Int.reduceEq, and_self, Int.add_neg_cancel_right, Int.add_zero, Int.zero_add, ru_ctR, yl_o l1, f2, e0, e1, e3, k407, k10, k390, run', k391, k402, k324, k77, p1, p2, a1, not_true, not_false_iff]
end PHAA
