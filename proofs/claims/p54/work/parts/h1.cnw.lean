/-! ===== the law's constructor: a name made ===== -/
theorem i2c_k : ∀ k : Fin 6, ((wI 101 + wI ((k.val : Nat) : Int) / wI 2).toUInt32 % 65536).toInt32 = wI ((101 + k.val / 2 : Nat) : Int) ∧ ∀ b : Fin 2, ((wI (109 + ((b.val : Nat) : Int)) + (wI ((k.val : Nat) : Int) - wI ((k.val : Nat) : Int) / wI 2 * wI 2) * wI 2).toUInt32 % 65536).toInt32 = wI ((109 + b.val + 2 * (k.val % 2) : Nat) : Int) := by decide +kernel
section CNW
variable {z : Bool} {X0 X : am_H} {B n N t : Nat} {g : Nat → Int32} {d d' : tCd} {l : List Nat}
theorem cn_w (hb : bI X0 n g) (hn : n ≤ 1000) (hB : 600 ≤ B) (h : cI X0 X B d l t) (k : cdK d N l) (ht : t ≤ 1000000) (hN : N < 6) {l2 l4 l5 l6 : Option Value} : ∃ X', ru_n z 386 160 [some (.ref (B + 1)), some (.ref B), l2, some (.int (wI ((N : Nat) : Int))), l4, l5, l6] [.int (wI ((N : Nat) : Int)), .ref (B + 4)] X = ru_n z 386 204 [some (.ref (B + 1)), some (.ref B), l2, some (.int (wI ((N : Nat) : Int))), l4, l5, l6] [.ref (B + d.2.1 + 2), .int (wI ((N : Nat) : Int)), .ref (B + 4)] X' ∧ cI X0 X' B (d.1, d.2.1 + 4, d.2.2.1, d.2.2.2.1, d.2.2.2.2 + 30) l (t + 1) ∧ gT X' (B + d.2.1 + 2) (B + d.2.1 + 3) [101 + N / 2, 109 + dN n g t 0 1 + 2 * (N % 2)] ∧ ∀ q, q < B + d.2.1 → q ≠ B → X'.1 q = X.1 q := by
  obtain ⟨h1, h2, ⟨f0, h3⟩, h4, h5⟩ := id h
  obtain ⟨k1, k2, k3, -, -, -, k7⟩ := id k
  obtain ⟨X1, f1, r1, b1, c1, e1, s1⟩ := g10 (z := z) (X := X)
  have st1 : gT X1 501 521 [] := gT_ag (gT_ag (hb.2.1 1 (by decide)) h1 (by omega) (by omega)) c1 (by omega) (by omega)
  obtain ⟨X2, q2, f2, cap2, r2, b2, o2, g2⟩ := h307 (z := z) b1 st1 (by omega) (by omega) (by decide) (by decide)
  obtain ⟨p1, p2, p3⟩ := g2
  have z0 : ([] : List Nat).length + ([] : List Nat).length ≤ 16 := by decide
  unfold grC at p1; unfold grN at p2; unfold grR at p3
  rw [if_pos z0] at p1 p2 p3
  rw [p1, p3] at b2
  rw [p1] at o2
  obtain ⟨X3, q3, f3, cap3, r3, b3, o3, g3⟩ := h319 (z := z) b2 (c := 101 + N / 2) (by omega) (by decide)
  obtain ⟨m1, m2, m3⟩ := g3
  have z1 : ([] ++ [] : List Nat).length + 1 ≤ 16 := by decide
  unfold grC at m1; unfold grN at m2; unfold grR at m3
  rw [if_pos z1] at m1 m2 m3
  rw [m1, m3] at b3
  rw [m1] at o3
  have y1 : ∀ q, q < X.2.1 → X3.1 q = X.1 q := fun q hq => by
    rw [o3.1 q (by omega) (by omega) (by omega), o2.1 q (by omega) (by omega) (by omega)]
    exact c1 q hq
  have w : dwP X3 B n g t := ⟨by rw [y1 1 (by omega), h1 1 (by omega)]; exact hb.1, by rw [y1 B (by omega)]; exact h2⟩
  have kd := d390u (z := z) w hn ht (lo := 0) (hi := 1) (by omega) (by omega) (by omega)
  obtain ⟨v0, v1, v2⟩ := dN_b (n := n) (g := g) (t := t) (lo := 0) (hi := 1) (by omega)
  rw [show drw n g t 0 1 = ((dN n g t 0 1 : Nat) : Int) from v2] at kd
  obtain ⟨b, hbb⟩ : ∃ b, b = dN n g t 0 1 := ⟨_, rfl⟩
  rw [← hbb] at kd v0 v1 v2 ⊢
  obtain ⟨X4, hX4⟩ : ∃ X4, X4 = am_set X3 B (dwC (t + 1)) := ⟨_, rfl⟩
  rw [← hX4] at kd
  have b4 : gbS X4 X.2.1 (X.2.1 + 1) 0 f3 ([] ++ [] ++ [101 + N / 2]) 16 := gbS_ag b3 (by rw [hX4, ru_setN (by omega)]) (by rw [hX4, ru_setN (by omega)]) (by rw [hX4]; exact Nat.le_refl _)
  obtain ⟨X5, q5, f5, cap5, r5, b5, o5, g5⟩ := h319 (z := z) b4 (c := 109 + b + 2 * (N % 2)) (by omega) (by show 1 + 1 ≤ 500; decide)
  obtain ⟨n1, n2, n3⟩ := g5
  have z2 : ([] ++ [] ++ [101 + N / 2] : List Nat).length + 1 ≤ 16 := by show 1 + 1 ≤ 16; decide
  unfold grC at n1; unfold grN at n2; unfold grR at n3
  rw [if_pos z2] at n1 n2 n3
  rw [n1, n3] at b5
  rw [n1] at o5
  obtain ⟨X6, r6, u1, u2, u3, u4⟩ := g391 (z := z) b5
  have t4 : X4.2 = X3.2 := by rw [hX4]; rfl
  have s2 := o2.2.2.2.1
  have s3 := o3.2.2.2.1
  have s5 := o5.2.2.2.1
  have x4 : X4.2.1 = X3.2.1 := by rw [t4]
  have x42 : X4.2.2 = X3.2.2 := by rw [t4]
  have e5 : X5.2.1 = B + d.2.1 + 2 := by omega
  have l6' : ([] ++ [] ++ [101 + N / 2] ++ [109 + b + 2 * (N % 2)] : List Nat).length = 2 := rfl
  have s6 : X6.2.2 ≤ X.2.2 + 30 := by omega
  have y6 : ∀ q, q < B + d.2.1 → q ≠ B → X6.1 q = X.1 q := fun q hq hqB => by
    rw [u2 q (by omega), o5.1 q (by omega) (by omega) (by omega), hX4, ru_setN hqB]
    exact y1 q (by omega)
  have yB : X6.1 B = some (dwC (t + 1)) := by
    rw [u2 B (by omega), o5.1 B (by omega) (by omega) (by omega), hX4]
    exact ru_setE _ _ _
  refine ⟨X6, ?_, ⟨fun q hq => by rw [y6 q (by omega) (by omega)]; exact h1 q hq, yB, ⟨f0, gbS_ag h3 (y6 _ (by omega) (by omega)) (y6 _ (by show B + d.1 < _; omega) (by show B + d.1 ≠ _; omega)) (by omega)⟩, by show X6.2.1 = B + (d.2.1 + 4); omega, by show X6.2.2 ≤ X0.2.2 + (d.2.2.2.2 + 30); omega⟩, ?_, y6⟩
  · rw [h4] at r1 r2 r3 r5 r6
    rw [e5] at r6
    have hc1 := (i2c_k ⟨N, hN⟩).1
    have hc2 := (i2c_k ⟨N, hN⟩).2 ⟨b, by omega⟩
    have n0 := wI_ne0 (a := 2) (by decide) (by decide)
    have r2' : ru_ev z 307 [.ref (B + d.2.1), .ref 501] X1 = some (.inl (some (.ref (B + d.2.1))), X2) := r2
    have r6' : ru_ev z 391 [.ref (B + d.2.1)] X5 = some (.inl (some (.ref (B + d.2.1 + 2))), X6) := r6
    dsimp only at hc1 hc2
    simp (disch := omega) only [e386_160, e386_163, e386_164, e386_167, e386_169, e386_172, e386_174, e386_175, e386_176, e386_177, e386_178, e386_179, e386_182, e386_184, e386_185, e386_186, e386_187, e386_190, e386_191, e386_192, e386_193, e386_194, e386_195, e386_196, e386_197, e386_198, e386_201, ↓reduceIte, Bool.false_eq_true, not_false_eq_true, not_true_eq_false, Nat.reduceLeDiff, Nat.reduceAdd, Nat.reduceEqDiff, Int.reduceToNat, Int.toNat_natCast, iB0, iB1, ru_klI, ru_klR, ru_klF, ru_klJ, ru_kl0, ru_cs0, ru_csI, ru_csR, ru_csF, ru_csJ, wI_add, wI_sub, wI_mul, wI_lt, wI_le, wI_inj, ru_fdE, ru_fdN, ru_iaN, ru_baN, ru_laN, ru_qaN, ru_pfN, ru_isN, ru_bsN, ru_jsN, ru_qsN, ru_set2, Nat.add_right_cancel_iff, if_true, if_false, ite_self, Int.reduceEq, and_self, Int.add_neg_cancel_right, Int.add_zero, Int.zero_add, ru_ctR, ru_ctI, h4, r1, r2', n0, hc1, r3, kd, hc2, r5, r6']
  · rw [e5] at u1
    exact u1
end CNW
