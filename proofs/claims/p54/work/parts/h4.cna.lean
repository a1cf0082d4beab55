/-! ===== the law's constructor: all names ===== -/
section CNA
variable {n : Nat} {g : Nat → Int32}
theorem cn_nms (hn : n ≤ 1000) {gap nm : Nat} (h6 : nm ≤ 6) : ∀ (e N : Nat) (ls : List tLn) (d : tCd) (o a : Nat → Nat) (t : Nat), N + e = nm → cnK gap ls d N o a → ls.length = N → (lsZ s0L ls).2.2.2 = s0L.2.2.2 → (txG gap ls).length ≤ 12 + 12 * N → t + 2 * e ≤ 900000 → ∃ (d' : tCd) (ls' : List tLn) (o' a' : Nat → Nat), cnK gap ls' d' nm o' a' ∧ ls'.length = nm ∧ (lsZ s0L ls').2.2.2 = s0L.2.2.2 ∧ (txG gap ls').length ≤ 12 + 12 * nm ∧ ∀ (z : Bool) (X0 X : am_H) (B : Nat) (l4 l5 l6 : Option Value), bI X0 n g → 600 ≤ B → cI X0 X B d (txG gap ls) t → cnP X B (gap : Int) 0 0 N (fun i => B + o i) a → cnT X B N o (lsZ s0L ls).2.1 → ∃ X', ru_n z 386 150 [some (.ref (B + 1)), some (.ref B), some (.int (wI ((nm : Nat) : Int))), some (.int (wI ((N : Nat) : Int))), l4, l5, l6] [] X = ru_n z 386 266 [some (.ref (B + 1)), some (.ref B), some (.int (wI ((nm : Nat) : Int))), some (.int (wI ((nm : Nat) : Int))), l4, l5, l6] [] X' ∧ cI X0 X' B d' (txG gap ls') (t + 2 * e) ∧ cnP X' B (gap : Int) 0 0 nm (fun i => B + o' i) a' ∧ cnT X' B nm o' (lsZ s0L ls').2.1 := by
  intro e
  induction e with
  | zero =>
    intro N ls d o a t he hk hl hz hln ht
    have eN : N = nm := by omega
    subst eN
    refine ⟨d, ls, o, a, hk, hl, hz, hln, fun z X0 X B l4 l5 l6 hb hB h hp hT => ⟨X, ?_, h, hp, hT⟩⟩
    have d1 : ((N : Int) ≤ (N : Int)) = True := eq_true (by omega)
    simp (disch := omega) only [e386_150, e386_151, e386_152, ↓reduceIte, Bool.false_eq_true, not_false_eq_true, not_true_eq_false, Nat.reduceLeDiff, Nat.reduceAdd, Nat.reduceEqDiff, Int.reduceToNat, Int.toNat_natCast, iB0, iB1, ru_klI, ru_klR, ru_klF, ru_klJ, ru_kl0, ru_cs0, ru_csI, ru_csR, ru_csF, ru_csJ, wI_add, wI_sub, wI_mul, wI_lt, wI_le, wI_inj, ru_fdE, ru_fdN, ru_iaN, ru_baN, ru_laN, ru_qaN, ru_pfN, ru_isN, ru_bsN, ru_jsN, ru_qsN, ru_set2, Nat.add_right_cancel_iff, if_true, if_false, ite_self, Int.reduceEq, and_self, Int.add_neg_cancel_right, Int.add_zero, Int.zero_add, d1]
  | succ e ih =>
    intro N ls d o a t he hk hl hz hln ht
    obtain ⟨d1, x, o1, a1, k1, x0, m1, r1⟩ := cn_nm (n := n) (g := g) hk (by omega) (t := t) (by omega) hn hln
    have z1 : (lsZ s0L (ls ++ [x])).2.2.2 = s0L.2.2.2 := by
      rw [lsZ_s]
      unfold lst
      rw [if_pos x0]
      exact hz
    obtain ⟨d2, ls2, o2, a2, k2, p2, z2, m2, r2⟩ := ih (N + 1) (ls ++ [x]) d1 o1 a1 (t + 2) (by omega) k1 (by rw [List.length_append, hl]; rfl) z1 m1 (by omega)
    refine ⟨d2, ls2, o2, a2, k2, p2, z2, m2, fun z X0 X B l4 l5 l6 hb hB h hp hT => ?_⟩
    obtain ⟨X1, e1, i1, p1, t1⟩ := r1 z X0 X B nm l4 l5 l6 hb hB h hp hT (by omega) h6
    obtain ⟨X2, e2, i2, p2, t2⟩ := r2 z X0 X1 B l4 l5 l6 hb hB i1 p1 t1
    exact ⟨X2, e1.trans e2, by rw [show t + 2 * (e + 1) = t + 2 + 2 * e by omega]; exact i2, p2, t2⟩
theorem cn_A (hn : n ≤ 1000) (g : Nat → Int32) {t : Nat} (ht : t ≤ 1000) : ∃ (gap nm : Nat) (d : tCd) (ls : List tLn) (o a : Nat → Nat) (t' : Nat), gap ≤ 20 ∧ nm ≤ 6 ∧ cnK gap ls d nm o a ∧ ls.length = nm ∧ (lsZ s0L ls).2.2.2 = s0L.2.2.2 ∧ (txG gap ls).length ≤ 12 + 12 * nm ∧ t' ≤ t + 14 ∧ ∀ (z : Bool) (X0 X : am_H) (B : Nat) (l2 l3 l4 l5 l6 : Option Value) (f : Nat → Int), bI X0 n g → 600 ≤ B → (∀ q, q < B → X.1 q = X0.1 q) → X.1 B = some (dwC t) → cnP X B 0 0 0 0 (fun _ => 0) (fun _ => 0) → gbS X (B + 2) (B + 3) 0 f (lwT 0) 26 → X.2.1 = B + 30 → X.2.2 ≤ X0.2.2 + 600 → ∃ X', ru_n z 386 117 [some (.ref (B + 1)), some (.ref B), l2, l3, l4, l5, l6] [] X = ru_n z 386 266 [some (.ref (B + 1)), some (.ref B), some (.int (wI ((nm : Nat) : Int))), some (.int (wI ((nm : Nat) : Int))), l4, l5, l6] [] X' ∧ cI X0 X' B d (txG gap ls) t' ∧ cnP X' B (gap : Int) 0 0 nm (fun i => B + o i) a ∧ cnT X' B nm o (lsZ s0L ls).2.1 := by
  obtain ⟨gap, hgap⟩ : ∃ gap, gap = dN n g t 0 20 := ⟨_, rfl⟩
  have gb := dN_b (n := n) (g := g) (t := t) (lo := 0) (hi := 20) (by omega)
  rw [← hgap] at gb
  obtain ⟨nm, hnm⟩ : ∃ nm, nm = dN n g (t + 1) 0 6 := ⟨_, rfl⟩
  have nb := dN_b (n := n) (g := g) (t := t + 1) (lo := 0) (hi := 6) (by omega)
  rw [← hnm] at nb
  obtain ⟨d0, hd0⟩ : ∃ d0 : tCd, d0 = (3, 30, 0, 26, 600) := ⟨_, rfl⟩
  have k0 : cdK d0 0 (lwT 0) := by rw [hd0]; unfold cdK; decide
  have ng : (numT gap).length ≤ 2 := by rw [numT_len]; split <;> omega
  have l0 : (lwT 0).length = 10 := by decide
  obtain ⟨d1, k1, u1, r1⟩ := ci_num k0 (v := gap) (by omega) (by omega)
  have e0 : lwT 0 ++ numT gap = txG gap [] := by
    show _ = lwT 0 ++ (numT gap ++ [])
    rw [List.append_nil]
  rw [e0] at k1 r1
  have K1 : cnK gap [] d1 0 (fun _ => 0) (fun _ => 0) := ⟨⟨trivial, rfl, by omega⟩, k1, fun i hi => absurd hi (Nat.not_lt_zero _)⟩
  have m1 : (txG gap []).length ≤ 12 + 12 * 0 := by rw [← e0, List.length_append]; omega
  obtain ⟨d2, ls, o, a, k2, p2, z2, m2, r2⟩ := cn_nms (n := n) (g := g) hn (gap := gap) (nm := nm) (by omega) nm 0 [] d1 (fun _ => 0) (fun _ => 0) (t + 2) (by omega) K1 rfl rfl m1 (by omega)
  refine ⟨gap, nm, d2, ls, o, a, t + 2 + 2 * nm, by omega, by omega, k2, p2, z2, m2, by omega, fun z X0 X B l2 l3 l4 l5 l6 f hb hB hX hXB hp hg x1 x2 => ?_⟩
  have i0 : cI X0 X B d0 (lwT 0) t := by rw [hd0]; exact ⟨hX, hXB, ⟨f, hg⟩, x1, x2⟩
  obtain ⟨e1, i1, f1⟩ := ci_drw (z := z) hb hn hB i0 k0.1 (by omega) (lo := 0) (hi := 20) (by omega) (by omega)
  rw [← hgap] at e1
  obtain ⟨X1, hX1⟩ : ∃ X1, X1 = am_set X B (dwC (t + 1)) := ⟨_, rfl⟩
  rw [← hX1] at e1 i1 f1
  have b1 : X1.1 (B + 1) = some (.inr (13, [.ref (B + 2), .int (wI 0), .int (wI 0), .int (wI 0), .ref (B + 4), .ref (B + 5), .ref (B + 6), .ref (B + 7), .ref (B + 8), .ref (B + 9), .ref (B + 13), .ref (B + 17), .ref (B + 21), .ref (B + 25), .ref (B + 26)])) := by rw [hX1, ru_setN (by omega)]; exact hp.1
  obtain ⟨X2, hX2⟩ : ∃ X2, X2 = am_set X1 (B + 1) (.inr (13, [.ref (B + 2), .int (wI (gap : Int)), .int (wI 0), .int (wI 0), .ref (B + 4), .ref (B + 5), .ref (B + 6), .ref (B + 7), .ref (B + 8), .ref (B + 9), .ref (B + 13), .ref (B + 17), .ref (B + 21), .ref (B + 25), .ref (B + 26)])) := ⟨_, rfl⟩
  have w2 : am_pf X1 (B + 1) 13 1 0 (.int (wI ((gap : Nat) : Int))) = some X2 := by
    rw [hX2, ru_pf0 b1 ⟨by decide, by show 1 < 15; decide⟩]
    rfl
  have i2 : cI X0 X2 B d0 (lwT 0) (t + 1) := by rw [hX2]; exact ci_set i1 k0.1 (by omega)
  have c0 : d0.1 = 3 ∧ d0.2.1 = 30 := by rw [hd0]; exact ⟨rfl, rfl⟩
  have p2 : cnP X2 B (gap : Int) 0 0 0 (fun _ => B + 0) (fun _ => 0) := by
    refine ⟨by rw [hX2]; exact ru_setE _ _ _, ?_, ?_, fun j j1 j2 => ?_⟩
    · rw [hX2, ru_setN (by omega), hX1, ru_setN (by omega), hp.2.1]
      exact congrArg (fun w => some (ylQ 7 w 8)) (funext fun i => by unfold ylS; rw [if_neg (by omega), if_neg (by omega)])
    · rw [hX2, ru_setN (by omega), hX1, ru_setN (by omega)]; exact hp.2.2.1
    · rw [hX2, ru_setN (by omega), hX1, ru_setN (by omega)]; exact hp.2.2.2 j j1 j2
  obtain ⟨X3, e3, i3, f3⟩ := r1 z X0 X2 B (t + 1) n g hB hb i2
  have p3 : cnP X3 B (gap : Int) 0 0 0 (fun _ => B + 0) (fun _ => 0) := cn_ag p2 (fun q q1 q2 q3 q4 => f3 q (by omega) (by omega) q3 (by omega))
  obtain ⟨e4, i4, f4⟩ := ci_drw (z := z) hb hn hB i3 k1.1 (by omega) (lo := 0) (hi := 6) (by omega) (by omega)
  rw [← hnm] at e4
  obtain ⟨X4, hX4⟩ : ∃ X4, X4 = am_set X3 B (dwC (t + 1 + 1)) := ⟨_, rfl⟩
  rw [← hX4] at e4 i4 f4
  have p4 : cnP X4 B (gap : Int) 0 0 0 (fun _ => B + 0) (fun _ => 0) := cn_ag p3 (fun q q1 q2 q3 q4 => by rw [hX4]; exact ru_setN (by omega))
  obtain ⟨X5, e5, i5, p5, t5⟩ := r2 z X0 X4 B l4 l5 l6 hb hB i4 p4 (fun i hi => absurd hi (Nat.not_lt_zero _))
  refine ⟨X5, ?_, i5, p5, t5⟩
  rw [← e5]
  have g2 : am_fd X2 (B + 1) 13 0 = some (.ref (B + 2)) := ru_fd p2.1 rfl
  have g2' : am_fd X2 (B + 1) 13 1 = some (.int (wI ((gap : Nat) : Int))) := ru_fd p2.1 rfl
  have e1' : ru_ev z 390 [.ref B, .int (wI 0), .int (wI 20)] X = some (.inl (some (.int (wI ((gap : Nat) : Int)))), X1) := e1
  have e4' : ru_ev z 390 [.ref B, .int (wI 0), .int (wI 6)] X3 = some (.inl (some (.int (wI ((nm : Nat) : Int)))), X4) := e4
  have en : wI (((0 : Nat) : Int)) = wI 0 := rfl
  simp (disch := omega) only [e386_117, e386_118, e386_119, e386_120, e386_122, e386_125, e386_128, e386_129, e386_132, e386_133, e386_136, e386_139, e386_140, e386_141, e386_142, e386_144, e386_147, e386_148, e386_149, ↓reduceIte, Bool.false_eq_true, not_false_eq_true, not_true_eq_false, Nat.reduceLeDiff, Nat.reduceAdd, Nat.reduceEqDiff, Int.reduceToNat, Int.toNat_natCast, iB0, iB1, ru_klI, ru_klR, ru_klF, ru_klJ, ru_kl0, ru_cs0, ru_csI, ru_csR, ru_csF, ru_csJ, wI_add, wI_sub, wI_mul, wI_lt, wI_le, wI_inj, ru_fdE, ru_fdN, ru_iaN, ru_baN, ru_laN, ru_qaN, ru_pfN, ru_isN, ru_bsN, ru_jsN, ru_qsN, ru_set2, Nat.add_right_cancel_iff, if_true, if_false, ite_self, Int.reduceEq, and_self, Int.add_neg_cancel_right, Int.add_zero, Int.zero_add, ru_ctR, ru_ctI, e1', w2, g2, g2', e3, e4', en]
end CNA
