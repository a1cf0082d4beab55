/-! ===== the law's constructor: its photos begin ===== -/
def vA (gap N P : Nat) : Nat → Int := fun i => if i = 0 then (gap : Int) else if i = 1 then (N : Int) else (P : Int)
def phg (q : tPh) : Prop := ((1 ≤ q.1 0 ∧ q.1 0 ≤ 90) ∧ (1 ≤ q.1 1 ∧ q.1 1 ≤ 60)) ∧ (q.1 2 = 0 ∧ q.1 3 = 0 ∧ q.1 4 = q.1 0 - 1 ∧ q.1 5 = q.1 1 - 1) ∧ (0 ≤ q.1 7 ∧ q.1 7 ≤ 7) ∧ (∀ k, (k = 6 ∨ 8 ≤ k) → q.1 k = 0) ∧ (∀ c i, c ≠ 3 → 0 ≤ q.2 c i ∧ q.2 c i ≤ 90) ∧ (∀ i, q.2 2 i = 0) ∧ (∀ i, -1 ≤ q.2 3 i ∧ q.2 3 i ≤ 0) ∧ ∀ i : Nat, (i : Int) < q.1 7 → q.2 3 i = -1
theorem z0P_R : phR z0P := ⟨fun k => by show 0 ≤ (0 : Int) ∧ (0 : Int) ≤ 999; decide, by decide, by decide, fun c i => by show -1 ≤ (0 : Int) ∧ (0 : Int) ≤ 999; decide, fun i => by show 0 ≤ (0 : Int) ∧ (0 : Int) ≤ 1; decide, fun i => by show (0 : Int) ≤ 19; decide⟩
theorem phg_R {q : tPh} (h : phg q) : phR q := by
  obtain ⟨⟨a1, a2⟩, ⟨b1, b2, b3, b4⟩, c, d, e, f, g, i⟩ := h
  have d6 := d 6 (Or.inl rfl)
  refine ⟨fun k => ?_, by omega, by omega, fun c' j => ?_, fun j => by rw [f j]; decide, fun j => by have := g j; omega⟩
  · rcases (show k = 0 ∨ k = 1 ∨ k = 2 ∨ k = 3 ∨ k = 4 ∨ k = 5 ∨ k = 7 ∨ (k = 6 ∨ 8 ≤ k) by omega) with rfl | rfl | rfl | rfl | rfl | rfl | rfl | h
    · omega
    · omega
    · omega
    · omega
    · omega
    · omega
    · omega
    · rw [d k h]; decide
  · by_cases h3 : c' = 3
    · rw [h3]; have := g j; omega
    · have := e c' j h3; omega
theorem phg_new {w h : Nat} (hw : 1 ≤ w ∧ w ≤ 90) (hh : 1 ≤ h ∧ h ≤ 60) : phg (nph w h) := by
  have e0 : (nph w h).1 0 = (w : Int) := rfl
  have e1 : (nph w h).1 1 = (h : Int) := rfl
  have e2 : (nph w h).1 2 = 0 := rfl
  have e3 : (nph w h).1 3 = 0 := rfl
  have e4 : (nph w h).1 4 = (w : Int) - 1 := rfl
  have e5 : (nph w h).1 5 = (h : Int) - 1 := rfl
  have e7 : (nph w h).1 7 = 0 := rfl
  have ec : ∀ c i, (nph w h).2 c i = 0 := fun c i => rfl
  refine ⟨⟨by omega, by omega⟩, ⟨e2, e3, by omega, by omega⟩, by omega, fun k hk => ?_, fun c i _ => by rw [ec]; decide, fun i => ec 2 i, fun i => by rw [ec]; decide, fun i hi => by omega⟩
  unfold nph
  show up1 (up1 (up1 (up1 (fun _ => 0) 0 (w : Int)) 1 (h : Int)) 4 ((w : Int) - 1)) 5 ((h : Int) - 1) k = 0
  unfold up1
  rw [if_neg (by omega), if_neg (by omega), if_neg (by omega), if_neg (by omega)]
theorem phg_laQ {q : tPh} (h : phg q) {m : Nat} (hm : q.1 7 = (m : Int)) (h7 : m < 7) {px py : Int} (hx : 0 ≤ px ∧ px ≤ 90) (hy : 0 ≤ py ∧ py ≤ 90) : phg (laQ q m px py) := by
  obtain ⟨⟨a1, a2⟩, ⟨b1, b2, b3, b4⟩, c, d, e, f, g, i⟩ := h
  have n1 : ∀ k, k ≠ 7 → (laQ q m px py).1 k = q.1 k := fun k hk => if_neg hk
  have n7 : (laQ q m px py).1 7 = (m : Int) + 1 := rfl
  have c3 : ∀ i, (laQ q m px py).2 3 i = if i = m then -1 else q.2 3 i := fun i => rfl
  have c2 : ∀ i, (laQ q m px py).2 2 i = q.2 2 i := fun i => rfl
  have c1 : ∀ i, (laQ q m px py).2 1 i = if i = m then py else q.2 1 i := fun i => rfl
  have c0 : ∀ i, (laQ q m px py).2 0 i = if i = m then px else q.2 0 i := fun i => rfl
  refine ⟨⟨by rw [n1 0 (by decide)]; exact a1, by rw [n1 1 (by decide)]; exact a2⟩, ⟨by rw [n1 2 (by decide)]; exact b1, by rw [n1 3 (by decide)]; exact b2, by rw [n1 4 (by decide), n1 0 (by decide)]; exact b3, by rw [n1 5 (by decide), n1 1 (by decide)]; exact b4⟩, by omega, fun k hk => by rw [n1 k (by omega)]; exact d k hk, fun c' j h3 => ?_, fun j => by rw [c2]; exact f j, fun j => ?_, fun j hj => ?_⟩
  · by_cases k1 : c' = 1
    · rw [k1, c1]; split
      · exact hy
      · exact e 1 j (by decide)
    · by_cases k0 : c' = 0
      · rw [k0, c0]; split
        · exact hx
        · exact e 0 j (by decide)
      · have : (laQ q m px py).2 c' j = q.2 c' j := by
          unfold laQ upC
          show (if c' = 3 then _ else if c' = 1 then _ else if c' = 0 then _ else q.2 c') j = q.2 c' j
          rw [if_neg h3, if_neg k1, if_neg k0]
        rw [this]
        exact e c' j h3
  · rw [c3]; split
    · decide
    · exact g j
  · rw [c3]
    by_cases k : j = m
    · rw [if_pos k]
    · rw [if_neg k]
      exact i j (by omega)
def cnQ (gap : Nat) (ls : List tLn) (d : tCd) (N : Nat) (o a : Nat → Nat) (P : Nat) : Prop := cnK gap ls d N o a ∧ (lsZ s0L ls).2.2.2.1 = P ∧ (∀ f, f < P → phg ((lsZ s0L ls).2.2.2.2 f)) ∧ ∀ f, P ≤ f → (lsZ s0L ls).2.2.2.2 f = z0P
def cnJ (X0 X : am_H) (B : Nat) (d : tCd) (gap : Nat) (ls : List tLn) (t N P : Nat) (o a : Nat → Nat) : Prop := cI X0 X B d (txG gap ls) t ∧ ylP X B (vA gap N P, (lsZ s0L ls).2.2.2.2, (fun i => B + o i), a) ∧ cnT X B N o (lsZ s0L ls).2.1
section CNB
variable {z : Bool} {X0 X X' : am_H} {B n N P t : Nat} {g : Nat → Int32} {d d' : tCd} {o a : Nat → Nat} {gap : Nat} {ls : List tLn}
theorem yl_F {A : tLw} (h : ylP X B A) (k : ∀ q, B + 1 ≤ q → q < B + 30 → q ≠ B + 2 → q ≠ B + 3 → X'.1 q = X.1 q) : ylP X' B A := by
  obtain ⟨⟨a1, a2, a3, a4, a5, a6, a7⟩, ⟨b1, b2, b3, b4, b5⟩, c⟩ := h
  have e : ∀ j, 4 ≤ j → j < 30 → X'.1 (B + j) = X.1 (B + j) := fun j h1 h2 => k _ (by omega) (by omega) (by omega) (by omega)
  refine ⟨⟨by rw [k _ (by omega) (by omega) (by omega) (by omega)]; exact a1, by rw [e 4 (by decide) (by decide)]; exact a2, by rw [e 5 (by decide) (by decide)]; exact a3, by rw [e 6 (by decide) (by decide)]; exact a4, by rw [e 7 (by decide) (by decide)]; exact a5, by rw [e 8 (by decide) (by decide)]; exact a6, by rw [e 25 (by decide) (by decide)]; exact a7⟩, ⟨by rw [e 9 (by decide) (by decide)]; exact b1, by rw [e 13 (by decide) (by decide)]; exact b2, by rw [e 17 (by decide) (by decide)]; exact b3, by rw [e 21 (by decide) (by decide)]; exact b4, by rw [e 26 (by decide) (by decide)]; exact b5⟩, fun f hf => ?_⟩
  obtain ⟨c1, c2, c3, c4, c5⟩ := c f hf
  exact ⟨by rw [k _ (by omega) (by omega) (by omega) (by omega)]; exact c1, by rw [k _ (by omega) (by omega) (by omega) (by omega)]; exact c2, by rw [k _ (by omega) (by omega) (by omega) (by omega)]; exact c3, by rw [k _ (by omega) (by omega) (by omega) (by omega)]; exact c4, by rw [k _ (by omega) (by omega) (by omega) (by omega)]; exact c5⟩
theorem yl_cF {A : tLw} (h : ylP X B A) (k : cF X X' B d) (hd : (d.1 = 3 ∨ 30 ≤ d.1) ∧ 30 ≤ d.2.1) : ylP X' B A := yl_F h (fun q h1 h2 h3 h4 => k q (by omega) (by omega) h3 (by omega))
theorem cnT_cF {F : Nat → List Nat} (h : cnT X B N o F) (hk : ∀ i, i < N → (30 ≤ o i ∧ o i + 1 < d.2.1) ∧ (d.1 ≠ o i ∧ d.1 ≠ o i + 1)) (k : cF X X' B d) : cnT X' B N o F := fun i hi => by
  obtain ⟨⟨s1, s2⟩, s3, s4⟩ := hk i hi
  exact gT_F (h i hi) k ⟨by omega, by omega, by omega, by omega⟩ ⟨by omega, by omega, by omega, by omega⟩
theorem cn_yl (h : cnP X B (gap : Int) (N : Int) (P : Int) N (fun i => B + o i) a) : ylP X B (vA gap N P, (fun _ => z0P), (fun i => B + o i), a) := by
  obtain ⟨h1, h2, h3, h4⟩ := h
  refine ⟨⟨h1, h2, h3, h4 6 (by decide) (by decide), h4 7 (by decide) (by decide), h4 8 (by decide) (by decide), h4 25 (by decide) (by decide)⟩, ⟨h4 9 (by decide) (by decide), h4 13 (by decide) (by decide), h4 17 (by decide) (by decide), h4 21 (by decide) (by decide), h4 26 (by decide) (by decide)⟩, fun f hf => ?_⟩
  have e4 : (fun k : Nat => if k < 4 then z0P.1 (k + 2) else 0) = fun _ => (0 : Int) := funext fun k => by split <;> rfl
  rcases (show f = 0 ∨ f = 1 ∨ f = 2 by omega) with rfl | rfl | rfl
  · exact ⟨by rw [e4]; exact h4 10 (by decide) (by decide), h4 14 (by decide) (by decide), h4 18 (by decide) (by decide), h4 22 (by decide) (by decide), h4 27 (by decide) (by decide)⟩
  · exact ⟨by rw [e4]; exact h4 11 (by decide) (by decide), h4 15 (by decide) (by decide), h4 19 (by decide) (by decide), h4 23 (by decide) (by decide), h4 28 (by decide) (by decide)⟩
  · exact ⟨by rw [e4]; exact h4 12 (by decide) (by decide), h4 16 (by decide) (by decide), h4 20 (by decide) (by decide), h4 24 (by decide) (by decide), h4 29 (by decide) (by decide)⟩
theorem cn_B (hn : n ≤ 1000) (g : Nat → Int32) (hk : cnK gap ls d N o a) (hz : (lsZ s0L ls).2.2.2 = s0L.2.2.2) (ht : t ≤ 1000) : ∃ P, (1 ≤ P ∧ P ≤ 3) ∧ cnQ gap ls d N o a 0 ∧ ∀ (z : Bool) (X0 X : am_H) (B : Nat) (l3 l4 l5 l6 : Option Value), bI X0 n g → 600 ≤ B → cI X0 X B d (txG gap ls) t → cnP X B (gap : Int) 0 0 N (fun i => B + o i) a → cnT X B N o (lsZ s0L ls).2.1 → ∃ X', ru_n z 386 266 [some (.ref (B + 1)), some (.ref B), some (.int (wI ((N : Nat) : Int))), l3, l4, l5, l6] [] X = ru_n z 386 283 [some (.ref (B + 1)), some (.ref B), some (.int (wI ((N : Nat) : Int))), some (.int (wI 0)), l4, l5, l6] [] X' ∧ cnJ X0 X' B d gap ls (t + 1) N P o a := by
  obtain ⟨P, hP⟩ : ∃ P, P = dN n g t 1 3 := ⟨_, rfl⟩
  have pb := dN_b (n := n) (g := g) (t := t) (lo := 1) (hi := 3) (by omega)
  rw [← hP] at pb
  refine ⟨P, by omega, ⟨hk, by rw [hz]; rfl, fun f hf => absurd hf (Nat.not_lt_zero _), fun f _ => by rw [hz]; rfl⟩, fun z X0 X B l3 l4 l5 l6 hb hB h hp hT => ?_⟩
  obtain ⟨X1, hX1⟩ : ∃ X1, X1 = am_set X (B + 1) (.inr (13, [.ref (B + 2), .int (wI (gap : Int)), .int (wI (N : Int)), .int (wI 0), .ref (B + 4), .ref (B + 5), .ref (B + 6), .ref (B + 7), .ref (B + 8), .ref (B + 9), .ref (B + 13), .ref (B + 17), .ref (B + 21), .ref (B + 25), .ref (B + 26)])) := ⟨_, rfl⟩
  have w1 : am_pf X (B + 1) 13 2 0 (.int (wI ((N : Nat) : Int))) = some X1 := by
    rw [hX1, ru_pf0 hp.1 ⟨by decide, by show 2 < 15; decide⟩]
    rfl
  have k1 := hk.2.1
  have i1 : cI X0 X1 B d (txG gap ls) t := by rw [hX1]; exact ci_set h k1.1 (by omega)
  obtain ⟨e2, i2, f2⟩ := ci_drw (z := z) hb hn hB i1 k1.1 (by omega) (lo := 1) (hi := 3) (by omega) (by omega)
  rw [← hP] at e2
  obtain ⟨X2, hX2⟩ : ∃ X2, X2 = am_set X1 B (dwC (t + 1)) := ⟨_, rfl⟩
  rw [← hX2] at e2 i2 f2
  have b2 : X2.1 (B + 1) = some (.inr (13, [.ref (B + 2), .int (wI (gap : Int)), .int (wI (N : Int)), .int (wI 0), .ref (B + 4), .ref (B + 5), .ref (B + 6), .ref (B + 7), .ref (B + 8), .ref (B + 9), .ref (B + 13), .ref (B + 17), .ref (B + 21), .ref (B + 25), .ref (B + 26)])) := by rw [hX2, ru_setN (by omega), hX1]; exact ru_setE _ _ _
  obtain ⟨X3, hX3⟩ : ∃ X3, X3 = am_set X2 (B + 1) (.inr (13, [.ref (B + 2), .int (wI (gap : Int)), .int (wI (N : Int)), .int (wI (P : Int)), .ref (B + 4), .ref (B + 5), .ref (B + 6), .ref (B + 7), .ref (B + 8), .ref (B + 9), .ref (B + 13), .ref (B + 17), .ref (B + 21), .ref (B + 25), .ref (B + 26)])) := ⟨_, rfl⟩
  have w3 : am_pf X2 (B + 1) 13 3 0 (.int (wI ((P : Nat) : Int))) = some X3 := by
    rw [hX3, ru_pf0 b2 ⟨by decide, by show 3 < 15; decide⟩]
    rfl
  have i3 : cI X0 X3 B d (txG gap ls) (t + 1) := by rw [hX3]; exact ci_set i2 k1.1 (by omega)
  have o3 : ∀ q, q ≠ B → q ≠ B + 1 → X3.1 q = X.1 q := fun q h1 h2 => by rw [hX3, ru_setN h2, hX2, ru_setN h1, hX1, ru_setN h2]
  refine ⟨X3, ?_, i3, ?_, fun i hi => ?_⟩
  · have e2' : ru_ev z 390 [.ref B, .int (wI 1), .int (wI 3)] X1 = some (.inl (some (.int (wI ((P : Nat) : Int)))), X2) := e2
    simp (disch := omega) only [e386_266, e386_267, e386_268, e386_271, e386_272, e386_273, e386_274, e386_275, e386_278, e386_281, e386_282, ↓reduceIte, Bool.false_eq_true, not_false_eq_true, not_true_eq_false, Nat.reduceLeDiff, Nat.reduceAdd, Nat.reduceEqDiff, Int.reduceToNat, Int.toNat_natCast, iB0, iB1, ru_klI, ru_klR, ru_klF, ru_klJ, ru_kl0, ru_cs0, ru_csI, ru_csR, ru_csF, ru_csJ, wI_add, wI_sub, wI_mul, wI_lt, wI_le, wI_inj, ru_fdE, ru_fdN, ru_iaN, ru_baN, ru_laN, ru_qaN, ru_pfN, ru_isN, ru_bsN, ru_jsN, ru_qsN, ru_set2, Nat.add_right_cancel_iff, if_true, if_false, ite_self, Int.reduceEq, and_self, Int.add_neg_cancel_right, Int.add_zero, Int.zero_add, ru_ctR, ru_ctI, w1, e2', w3]
  · rw [hz]
    exact cn_yl ⟨by rw [hX3]; exact ru_setE _ _ _, by rw [o3 _ (by omega) (by omega)]; exact hp.2.1, by rw [o3 _ (by omega) (by omega)]; exact hp.2.2.1, fun j j1 j2 => by rw [o3 _ (by omega) (by omega)]; exact hp.2.2.2 j j1 j2⟩
  · obtain ⟨⟨s1, s2⟩, s3, s4⟩ := (hk.2.2 i hi).1
    obtain ⟨s5, kk, f, s6, s7, s8⟩ := hT i hi
    exact ⟨by rw [o3 _ (by omega) (by omega)]; exact s5, kk, f, s6, by rw [o3 _ (by omega) (by omega)]; exact s7, s8⟩
end CNB
