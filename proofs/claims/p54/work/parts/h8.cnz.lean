/-! ===== the law's constructor, whole ===== -/
section CNZ
variable {n N t : Nat} {g : Nat → Int32} {d d' : tCd} {o a : Nat → Nat} {gap : Nat} {ls : List tLn}
theorem cn_phs (hn : n ≤ 1000) (g : Nat → Int32) {P : Nat} (hP : P ≤ 3) : ∀ (e f : Nat) (ls : List tLn) (d : tCd) (t : Nat), f + e = P → cnQ gap ls d N o a f → (txG gap ls).length + 117 * e ≤ 500 → t + 17 * e ≤ 800000 → ∃ (d' : tCd) (ls' : List tLn) (t' : Nat), cnQ gap ls' d' N o a P ∧ ls'.length ≤ ls.length + 8 * e ∧ (txG gap ls').length ≤ 500 ∧ t' ≤ t + 17 * e ∧ ∀ (z : Bool) (X0 X : am_H) (B : Nat) (l4 l5 l6 : Option Value), bI X0 n g → 600 ≤ B → cnJ X0 X B d gap ls t N P o a → ∃ X', ru_n z 386 283 [some (.ref (B + 1)), some (.ref B), some (.int (wI ((N : Nat) : Int))), some (.int (wI ((f : Nat) : Int))), l4, l5, l6] [] X = some (.inl none, X') ∧ cnJ X0 X' B d' gap ls' t' N P o a := by
  intro e
  induction e with
  | zero =>
    intro f ls d t hf hk hl ht
    have ef : f = P := by omega
    subst ef
    refine ⟨d, ls, t, hk, by omega, by omega, by omega, fun z X0 X B l4 l5 l6 hb hB hJ => ⟨X, ?_, hJ⟩⟩
    have hY := hJ.2.1
    have gP : am_fd X (B + 1) 13 3 = some (.int (wI ((f : Nat) : Int))) := yl_f3 hY
    have d1 : ((f : Int) ≤ (f : Int)) = True := eq_true (by omega)
    simp (disch := omega) only [e386_283, e386_284, e386_285, e386_288, e386_481, ↓reduceIte, Bool.false_eq_true, not_false_eq_true, not_true_eq_false, Nat.reduceLeDiff, Nat.reduceAdd, Nat.reduceEqDiff, Int.reduceToNat, Int.toNat_natCast, iB0, iB1, ru_klI, ru_klR, ru_klF, ru_klJ, ru_kl0, ru_cs0, ru_csI, ru_csR, ru_csF, ru_csJ, wI_add, wI_sub, wI_mul, wI_lt, wI_le, wI_inj, ru_fdE, ru_fdN, ru_iaN, ru_baN, ru_laN, ru_qaN, ru_pfN, ru_isN, ru_bsN, ru_jsN, ru_qsN, ru_set2, Nat.add_right_cancel_iff, if_true, if_false, ite_self, Int.reduceEq, and_self, Int.add_neg_cancel_right, Int.add_zero, Int.zero_add, yl_o hY, gP, d1]
  | succ e ih =>
    intro f ls d t hf hk hl ht
    obtain ⟨d1, ls1, t1, k1, p1, m1, s1, r1⟩ := cn_ph hn g hk (by omega) (by omega) (t := t) (by omega)
    obtain ⟨d2, ls2, t2, k2, p2, m2, s2, r2⟩ := ih (f + 1) ls1 d1 t1 (by omega) k1 (by omega) (by omega)
    refine ⟨d2, ls2, t2, k2, by omega, m2, by omega, fun z X0 X B l4 l5 l6 hb hB hJ => ?_⟩
    obtain ⟨X1, y4, y5, y6, e1, j1⟩ := r1 z X0 X B P l4 l5 l6 hb hB (by omega) hP hJ
    obtain ⟨X2, e2, j2⟩ := r2 z X0 X1 B y4 y5 y6 hb hB j1
    exact ⟨X2, e1.trans e2, j2⟩
theorem c386 (hn : n ≤ 1000) (g : Nat → Int32) {t : Nat} (ht : t ≤ 100) : ∃ (gap N P : Nat) (d : tCd) (ls : List tLn) (o a : Nat → Nat) (t' : Nat), (gap ≤ 20 ∧ 1 ≤ P ∧ P ≤ 3) ∧ cnQ gap ls d N o a P ∧ ls.length ≤ 50 ∧ t' ≤ t + 100 ∧ ∀ (z : Bool) (X0 X : am_H) (B : Nat), bI X0 n g → 600 ≤ B → (∀ q, q < B → X.1 q = X0.1 q) → X.1 B = some (dwC t) → X.1 (B + 1) = some (.inr (13, [.null, .int (wI 0), .int (wI 0), .int (wI 0), .null, .null, .null, .null, .null, .null, .null, .null, .null, .null, .null])) → X.2.1 = B + 2 → X.2.2 ≤ X0.2.2 + 100 → ∃ X', ru_ev z 386 [.ref (B + 1), .ref B] X = some (.inl none, X') ∧ cnJ X0 X' B d gap ls t' N P o a := by
  obtain ⟨gap, N, d1, ls1, o, a, t1, g1, n1, k1, q1, z1, m1, s1, r1⟩ := cn_A (n := n) hn g (t := t) (by omega)
  obtain ⟨P, hP, k2, r2⟩ := cn_B (n := n) hn g k1 z1 (t := t1) (by omega)
  obtain ⟨d3, ls3, t3, k3, q3, m3, s3, r3⟩ := cn_phs (n := n) hn g hP.2 P 0 ls1 d1 (t1 + 1) (by omega) k2 (by omega) (by omega)
  refine ⟨gap, N, P, d3, ls3, o, a, t3, ⟨g1, hP⟩, k3, by omega, by omega, fun z X0 X B hb hB hX hXB hX1 hn1 hs1 => ?_⟩
  have hs : lwS X := lwS_ag hb.2.1 (fun q hq => hX q (by omega))
  obtain ⟨X1, f, p1, b1, c1, c2, c3, e1⟩ := c386a (z := z) (l1 := some (.ref B)) (l2 := none) (l3 := none) (l4 := none) (l5 := none) (l6 := none) hX1 hn1 hB hs
  obtain ⟨X2, e2, i2, p2, t2⟩ := r1 z X0 X1 B none none none none none f hb hB (fun q hq => by rw [c3 q (by omega)]; exact hX q hq) (by rw [c3 B (by omega)]; exact hXB) p1 b1 c1 (by omega)
  obtain ⟨X3, e3, j3⟩ := r2 z X0 X2 B _ none none none hb hB i2 p2 t2
  obtain ⟨X4, e4, j4⟩ := r3 z X0 X3 B none none none hb hB j3
  refine ⟨X4, ?_, j4⟩
  have hobj := hX1
  have en := en386 (z := z) (h := X) (a := B + 1) (x0 := B)
  rw [hX1] at en
  rw [en]
  show (if 13 = 13 then ru_n z 386 0 [some (.ref (B + 1)), some (.ref B), none, none, none, none, none] [] X else none) = _
  rw [if_pos rfl, e1, e2, e3]
  exact e4
end CNZ
section CNL
variable {n N t P B : Nat} {g : Nat → Int32} {d : tCd} {o a : Nat → Nat} {gap : Nat} {ls : List tLn} {X0 X : am_H}
theorem cn_law (hk : cnQ gap ls d N o a P) (hg : gap ≤ 20 ∧ 1 ≤ P ∧ P ≤ 3) (hb : bI X0 n g) (hst : strs X0) (hB : 600 ≤ B) (hd : B + d.2.1 = 1000) (h : cnJ X0 X B d gap ls t N P o a) : laI X B (vA gap N P, (lsZ s0L ls).2.2.2.2, (fun i => B + o i), a) n g t (lsZ s0L ls).2.1 (lsZ s0L ls).2.2.1 ∧ wlI (vA gap N P, (lsZ s0L ls).2.2.2.2, (fun i => B + o i), a) N P := by
  obtain ⟨⟨⟨ho, hz, h6⟩, k, hi⟩, hP, hgg, hz0⟩ := hk
  obtain ⟨hI, hY, hT⟩ := h
  have hl : lwS X := lwS_ag hb.2.1 (fun q hq => hI.1 q (by omega))
  have gR : ylR (vA gap N P, (lsZ s0L ls).2.2.2.2, (fun i => B + o i), a) := fun f => by
    show phR ((lsZ s0L ls).2.2.2.2 f)
    by_cases c : f < P
    · exact phg_R (hgg f c)
    · rw [hz0 f (by omega)]; exact z0P_R
  refine ⟨⟨hY, ⟨by rw [hI.1 1 (by omega)]; exact hb.1, hI.2.1⟩, fun i hiN => ?_, hl, dgI_ag hb.2.2 (fun q hq => hI.1 q (by omega)), strs_ag hst (fun q hq => hI.1 q (by omega))⟩, rfl, h6, rfl, ⟨by omega, by omega⟩, ⟨by show (0 : Int) ≤ (gap : Int); omega, by show (gap : Int) ≤ 20; omega⟩, gR, fun f hf => ?_⟩
  · have hiN' : i < N := by
      have e : ((i : Nat) : Int) < (N : Int) := hiN
      omega
    obtain ⟨⟨⟨s1, s2⟩, s3, s4⟩, ⟨ha, hL⟩, b, hb1, hF⟩ := hi i hiN'
    have e2 : lwT (a i - 500) = (lsZ s0L ls).2.2.1 i := hL.symm
    refine ⟨B + o i + 1, a i + 20, hT i hiN', ?_, ⟨by show B + o i < 1000; omega, by omega, by show a i < 1000; omega, by omega⟩, ⟨by show B + o i < B ∨ B + 30 ≤ B + o i; omega, by omega, by show a i < B ∨ B + 30 ≤ a i; omega, by omega⟩, by rw [hF]; exact Nat.le_refl 2, by rw [hL]; rcases ha with e | e <;> rw [e] <;> decide⟩
    rw [← e2]
    have := hl (a i - 500) (by omega)
    rw [show 500 + (a i - 500) = a i by omega, show 520 + (a i - 500) = a i + 20 by omega] at this
    exact this
  · obtain ⟨⟨a1, a2⟩, ⟨b1, b2, b3, b4⟩, c, dd, e, f0, g0, i0⟩ := hgg f hf
    show phN ((lsZ s0L ls).2.2.2.2 f) (N : Int) ∧ (1 ≤ ((lsZ s0L ls).2.2.2.2 f).1 0 ∧ ((lsZ s0L ls).2.2.2.2 f).1 0 ≤ 90) ∧ (1 ≤ ((lsZ s0L ls).2.2.2.2 f).1 1 ∧ ((lsZ s0L ls).2.2.2.2 f).1 1 ≤ 60) ∧ (∀ i : Nat, ((lsZ s0L ls).2.2.2.2 f).1 7 ≤ (i : Int) → ((lsZ s0L ls).2.2.2.2 f).2 2 i = 0) ∧ ((lsZ s0L ls).2.2.2.2 f).1 4 < ((lsZ s0L ls).2.2.2.2 f).1 0
    exact ⟨⟨fun i hi => by rw [i0 i hi]; omega, fun i j h1 h2 h3 h4 => absurd (i0 i h1) h4, by omega, by omega⟩, a1, a2, fun i _ => f0 i, by omega⟩
theorem llX_a7 {s : tSt} {x : tLn} (h : ok1 s x) (hP : s.2.2.2.1 ≤ 5) : a7 (llX x) := by
  unfold llX
  rcases h with ⟨k, -, kW, kV, -⟩ | ⟨k, -, kw, kh⟩ | ⟨k, kf, -, -, -, kx, ky⟩
  · rw [if_pos k]
    exact a7_a (a7_lw 4) (a7_a (a7_wd kW.1) (a7_a a7_32 (a7_wd kV.1)))
  · rw [if_neg (by omega), if_pos k]
    exact a7_a (a7_lw 5) (a7_a (a7_num kw.2) (a7_a a7_32 (a7_num kh.2)))
  · rw [if_neg (by omega), if_neg (by omega)]
    exact a7_a (a7_lw 6) (a7_a (a7_num (by omega)) (a7_a a7_32 (a7_a (a7_num kx) (a7_a a7_32 (a7_num ky)))))
theorem lst_5 {s : tSt} {x : tLn} (h : ok1 s x) (hP : s.2.2.2.1 ≤ 5) : (lst s x).2.2.2.1 ≤ 5 := by
  unfold lst
  rcases h with ⟨k, -⟩ | ⟨k, k5, -⟩ | ⟨k, -⟩
  · rw [if_pos k]; exact hP
  · rw [if_neg (by omega), if_pos k]; show s.2.2.2.1 + 1 ≤ 5; omega
  · rw [if_neg (by omega), if_neg (by omega)]; exact hP
theorem lsT_a7 : ∀ (l : List tLn) (s : tSt), lsO s l → s.2.2.2.1 ≤ 5 → a7 (lsT l)
  | [], _, _, _ => a7_n
  | x :: r, s, h, hP => a7_a (llX_a7 h.1 hP) (lsT_a7 r (lst s x) h.2 (lst_5 h.1 hP))
theorem txG_a7 (hg : gap ≤ 99) (h : lsO s0L ls) : a7 (txG gap ls) := a7_a (a7_lw 0) (a7_a (a7_num hg) (lsT_a7 ls s0L h (by decide)))
end CNL
