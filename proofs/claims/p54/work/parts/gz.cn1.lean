/-! ===== the law's constructor: its cells made (printed by wip/p54/gen/gencn.py) ===== -/
section CN1
variable {z : Bool} {X : am_H}
theorem h387 {i : Nat} (hi : i < 20) (hs : lwS X) (hX : 600 ≤ X.2.1) : ∃ (X' : am_H) (f : Nat → Int), ru_ev z 387 [.ref X.2.1, .ref (500 + i)] (am_new X (.inr (11, [.null, .int (wI 0), .int (wI 0), .int (wI 0)])) 4) = some (.inl none, X') ∧ gbS X' X.2.1 (X.2.1 + 1) 0 f (lwT i) ((lwT i).length + 16) ∧ (∀ q, q < X.2.1 → X'.1 q = X.1 q) ∧ X'.2.1 = X.2.1 + 2 ∧ X'.2.2 ≤ X.2.2 + 60 := by
  obtain ⟨X1, hX1⟩ : ∃ X1, X1 = am_new X (.inr (11, [.null, .int (wI 0), .int (wI 0), .int (wI 0)])) 4 := ⟨_, rfl⟩
  have p0 : X1.1 X.2.1 = some (.inr (11, [.null, .int (wI 0), .int (wI 0), .int (wI 0)])) := by rw [hX1]; exact nw_e
  have p1 : ∀ q, q < X.2.1 → X1.1 q = X.1 q := fun q hq => by rw [hX1]; exact nw_lo hq
  have p2 : X1.2.1 = X.2.1 + 1 := by rw [hX1]; rfl
  have p3 : X1.2.2 = X.2.2 + 4 := by rw [hX1]; rfl
  have l12 := lwT_12 i
  obtain ⟨m, hm⟩ : ∃ m : Nat, m = (lwT i).length + 16 := ⟨_, rfl⟩
  have gt1 : gT X1 (500 + i) (520 + i) (lwT i) := gT_ag (hs i hi) p1 (by omega) (by omega)
  have k29 := g29 (z := z) gt1 (by omega)
  have k30' := k30 (z := z) gt1.1
  have w1 : am_pf X1 X.2.1 11 1 4 (.int (wI 0)) = some X1 := by
    rw [ru_pf4 p0 ⟨by decide, by show 1 < 4; decide⟩ (by decide +kernel)]
    exact congrArg some (ru_setself (by rw [p0]; rfl))
  have na : am_na X1 1 (wI (m : Nat)) = some (am_new X1 (.inl (1, m, .inl (fun _ => wI 0))) m) := by
    rw [na_k (by omega), if_pos (by decide)]
  have q0 : (am_new X1 (.inl (1, m, .inl (fun _ => wI 0))) m).1 X.2.1 = some (.inr (11, [.null, .int (wI 0), .int (wI 0), .int (wI 0)])) := by rw [nw_lo (by omega)]; exact p0
  have w2 : am_pf (am_new X1 (.inl (1, m, .inl (fun _ => wI 0))) m) X.2.1 11 0 2 (.ref X1.2.1) = some (am_set (am_new X1 (.inl (1, m, .inl (fun _ => wI 0))) m) X.2.1 (.inr (11, [.ref X1.2.1, .int (wI 0), .int (wI 0), .int (wI 0)]))) := ru_pf2 q0 ⟨by decide, by show 0 < 4; decide⟩
  obtain ⟨X2, hX2⟩ : ∃ X2, X2 = am_set (am_new X1 (.inl (1, m, .inl (fun _ => wI 0))) m) X.2.1 (.inr (11, [.ref X1.2.1, .int (wI 0), .int (wI 0), .int (wI 0)])) := ⟨_, rfl⟩
  rw [← hX2] at w2
  have g2 : gbS X2 X.2.1 (X.2.1 + 1) 0 (fun _ => 0) [] m := by
    rw [hX2]
    refine ⟨?_, ?_, fun i hi => absurd hi (by show ¬ i < 0; omega), by show 0 ≤ m; omega, by omega, ?_, ?_, by omega⟩
    · rw [ru_setE, p2]; rfl
    · rw [ru_setN (by omega), ← p2]; exact nw_e
    · show X.2.1 < X1.2.1 + 1; omega
    · show X.2.1 + 1 < X1.2.1 + 1; omega
  have o2 : ∀ q, q < X.2.1 → X2.1 q = X.1 q := fun q hq => by rw [hX2, ru_setN (by omega), nw_lo (by omega)]; exact p1 q hq
  have z21 : X2.2.1 = X.2.1 + 2 := by rw [hX2]; show X1.2.1 + 1 = _; omega
  have z22 : X2.2.2 = X.2.2 + 4 + m := by rw [hX2]; show X1.2.2 + m = _; omega
  have gt2 : gT X2 (500 + i) (520 + i) (lwT i) := gT_ag (hs i hi) o2 (by omega) (by omega)
  obtain ⟨X3, r3, f3, cap3, k3, b1, b2, b3, b4, b5⟩ := h307 (z := z) g2 gt2 (by omega) (by omega) (by show 0 + (lwT i).length ≤ 500; omega) (by omega)
  have e0 : ([] : List Nat).length + (lwT i).length ≤ m := by show 0 + (lwT i).length ≤ m; omega
  have ec : cap3 = m := by rw [b3]; unfold grC; rw [if_pos e0]
  have er : r3 = X.2.1 + 1 := by rw [b5]; unfold grR; rw [if_pos e0]
  have en : X3.2.1 = X2.2.1 := by rw [b4]; unfold grN; rw [if_pos e0]; rfl
  rw [ec, er, hm, List.nil_append] at b1
  refine ⟨X3, f3, ?_, b1, fun q hq => ?_, by omega, ?_⟩
  · rw [← hX1]
    have d1 : ((2147483631 : Int) ≤ ((lwT i).length : Int)) = False := eq_false (by omega)
    have d0 : ((0 : Int) = 0) = True := eq_true rfl
    have em : ((lwT i).length : Int) + 16 = (m : Int) := by omega
    have c2 := g2.1
    have n0 : (am_na X1 1 (wI ((lwT i).length + 16))) = some (am_new X1 (.inl (1, m, .inl (fun _ => wI 0))) m) := by rw [em]; exact na
    simp (disch := omega) only [en387, e387_0, e387_1, e387_2, e387_5, en388, e388_0, e388_1, e388_4, e388_5, e388_8, e388_9, e388_10, e388_12, e388_15, e388_16, e388_18, e388_19, e388_24, e388_25, e388_26, e388_29, e388_31, e388_32, e388_34, e388_37, e388_38, e388_40, e388_43, e388_44, e388_46, e388_53, e388_56, e388_57, e388_58, e388_61, e388_62, en389, e389_0, e389_1, e389_2, e389_5, ↓reduceIte, Bool.false_eq_true, not_false_eq_true, not_true_eq_false, Nat.reduceLeDiff, Nat.reduceAdd, Nat.reduceEqDiff, Int.reduceToNat, Int.toNat_natCast, iB0, iB1, ru_klI, ru_klR, ru_klF, ru_klJ, ru_kl0, ru_cs0, ru_csI, ru_csR, ru_csF, ru_csJ, wI_add, wI_sub, wI_mul, wI_lt, wI_le, wI_inj, ru_fdE, ru_fdN, ru_iaN, ru_baN, ru_laN, ru_qaN, ru_pfN, ru_isN, ru_bsN, ru_jsN, ru_qsN, ru_set2, Nat.add_right_cancel_iff, if_true, if_false, ite_self, Int.reduceEq, and_self, Int.add_neg_cancel_right, Int.add_zero, Int.zero_add, p0, k29, k30', d1, w1, d0, n0, w2, c2, k3, ru_ctR, List.length_nil, List.length_cons, Nat.zero_le, not_true]
  · have hq2 := b2.1 q (by omega) (by omega) (by omega)
    rw [hq2]; exact o2 q hq
  · have := b2.2.2.2.1
    omega
end CN1
def alC (B j : Nat) : am_C := if j = 4 ∨ j = 5 then ylQ 7 (fun _ => none) 8 else if j = 6 ∨ j = 7 ∨ j = 8 then ylI 0 3 (fun _ => 0) else if j = 9 then ylQ 8 (fun i => some (B + 10 + i)) 3 else if j < 13 then ylI 0 4 (fun _ => 0) else if j = 13 then ylQ 8 (fun i => some (B + 14 + i)) 3 else if j < 17 then ylI 0 12 (fun _ => 0) else if j = 17 then ylQ 8 (fun i => some (B + 18 + i)) 3 else if j < 21 then ylI 0 12 (fun _ => 0) else if j = 21 then ylQ 8 (fun i => some (B + 22 + i)) 3 else if j < 25 then ylI 0 12 (fun _ => 0) else if j = 25 then ylI 2 3 (fun _ => 0) else if j = 26 then ylQ 9 (fun i => some (B + 27 + i)) 3 else ylI 2 12 (fun _ => 0)
def laX (X : am_H) (B k s : Nat) : am_H := (fun q => if X.2.1 ≤ q ∧ q < X.2.1 + k then some (alC B (q - B)) else X.1 q, X.2.1 + k, X.2.2 + s)
section CN2
variable {z : Bool} {X : am_H} {B k s : Nat}
theorem la_0 : laX X B 0 0 = X := Prod.ext (funext fun q => by show (if X.2.1 ≤ q ∧ q < X.2.1 + 0 then _ else X.1 q) = X.1 q; rw [if_neg (by omega)]) rfl
theorem la_nw {c : am_C} {m : Nat} {e : am_C} (hX : X.2.1 = B + 4) (hc : alC B (4 + k) = c) : am_new (am_set (laX X B k s) (B + 1) e) c m = am_set (laX X B (k + 1) (s + m)) (B + 1) e := by
  rw [nw_set (show B + 1 < (laX X B k s).2.1 by show B + 1 < X.2.1 + k; omega)]
  refine congrArg (fun h => am_set h (B + 1) e) (Prod.ext (funext fun q => ?_) (Prod.ext (by show X.2.1 + k + 1 = X.2.1 + (k + 1); omega) (by show X.2.2 + s + m = X.2.2 + (s + m); omega)))
  show (if q = X.2.1 + k then some c else if X.2.1 ≤ q ∧ q < X.2.1 + k then some (alC B (q - B)) else X.1 q) = if X.2.1 ≤ q ∧ q < X.2.1 + (k + 1) then some (alC B (q - B)) else X.1 q
  by_cases e1 : q = X.2.1 + k
  · rw [if_pos e1, if_pos (by omega), show q - B = 4 + k by omega, hc]
  · rw [if_neg e1]
    by_cases e2 : X.2.1 ≤ q ∧ q < X.2.1 + k
    · rw [if_pos e2, if_pos (by omega)]
    · rw [if_neg e2, if_neg (by omega)]
theorem la_na {kd m : Nat} {e : am_C} (hX : X.2.1 = B + 4) (hm : m ≤ 5000) (hc : alC B (4 + k) = if kd ≤ 2 then ylI kd m (fun _ => 0) else ylQ kd (fun _ => none) m) (hk : kd = 0 ∨ kd = 2 ∨ kd = 7) : am_na (am_set (laX X B k s) (B + 1) e) kd (wI ((m : Nat) : Int)) = some (am_set (laX X B (k + 1) (s + m)) (B + 1) e) := by
  rw [na_k hm]
  rcases hk with rfl | rfl | rfl
  · rw [if_pos (by decide)] at hc ⊢
    rw [← la_nw hX hc]; rfl
  · rw [if_pos (by decide)] at hc ⊢
    rw [← la_nw hX hc]; rfl
  · rw [if_neg (by decide)] at hc ⊢
    rw [if_neg (by decide), if_neg (by decide), if_pos (by decide), ← la_nw hX hc]; rfl
theorem la_mn {kd m : Nat} {e : am_C} (hX : X.2.1 = B + 4) (hm : m ≤ 12) (h0 : alC B (4 + k) = ylQ kd (fun i => some (B + 4 + k + 1 + i)) 3) (h1 : ∀ j, j < 3 → alC B (4 + k + 1 + j) = ylI (if kd = 8 then 0 else 2) m (fun _ => 0)) (hk : kd = 8 ∨ kd = 9) : am_mn (am_set (laX X B k s) (B + 1) e) kd (wI 3) (wI ((m : Nat) : Int)) = some (am_set (laX X B (k + 4) (s + (3 + 3 * m))) (B + 1) e) := by
  unfold am_mn
  have t3 : (wI 3).toNatClampNeg = 3 := by decide +kernel
  have tm : (wI ((m : Nat) : Int)).toNatClampNeg = m := by rw [wI_clamp (by omega) (by omega)]; exact Int.toNat_natCast m
  have l3 : ¬ wI 3 < 0 := by decide +kernel
  have lm : ¬ wI ((m : Nat) : Int) < 0 := by rw [wI_0, wI_lt (by omega) (by omega) (by omega) (by omega)]; omega
  rw [t3, tm, if_pos ⟨hk, ⟨l3, by omega⟩, lm, by omega⟩]
  refine congrArg some (Prod.ext (funext fun q => ?_) (Prod.ext (by show X.2.1 + k + (1 + 3) = X.2.1 + (k + 4); omega) (by show X.2.2 + s + (3 + 3 * m) = X.2.2 + (s + (3 + 3 * m)); omega)))
  show (if q = X.2.1 + k then some (ylQ kd (fun j => some (X.2.1 + k + 1 + j)) 3) else if X.2.1 + k < q ∧ q < X.2.1 + k + 1 + 3 then some (.inl (if kd = 8 then 0 else 2, m, .inl (fun _ => 0))) else if q = B + 1 then some e else if X.2.1 ≤ q ∧ q < X.2.1 + k then some (alC B (q - B)) else X.1 q) = if q = B + 1 then some e else if X.2.1 ≤ q ∧ q < X.2.1 + (k + 4) then some (alC B (q - B)) else X.1 q
  by_cases e1 : q = X.2.1 + k
  · rw [if_pos e1, if_neg (show ¬ q = B + 1 by omega), if_pos (show X.2.1 ≤ q ∧ q < X.2.1 + (k + 4) by omega), show q - B = 4 + k by omega, h0]
    exact congrArg (fun t => some (ylQ kd t 3)) (funext fun j => congrArg some (by omega))
  · rw [if_neg e1]
    by_cases e2 : X.2.1 + k < q ∧ q < X.2.1 + k + 1 + 3
    · rw [if_pos e2, if_neg (show ¬ q = B + 1 by omega), if_pos (show X.2.1 ≤ q ∧ q < X.2.1 + (k + 4) by omega), show q - B = 4 + k + 1 + (q - B - (4 + k + 1)) by omega, h1 _ (by omega)]
      rfl
    · rw [if_neg e2]
      by_cases e3 : q = B + 1
      · rw [if_pos e3, if_pos e3]
      · rw [if_neg e3, if_neg e3]
        by_cases e4 : X.2.1 ≤ q ∧ q < X.2.1 + k
        · rw [if_pos e4, if_pos (by omega)]
        · rw [if_neg e4, if_neg (by omega)]
theorem la_n (hX : X.2.1 = B + 4) : (laX X B k s).2.1 = B + (4 + k) := by show X.2.1 + k = _; omega
theorem la_pf {i v : Nat} {fs : List Value} (hi : i < fs.length) : am_pf (am_set (laX X B k s) (B + 1) (.inr (13, fs))) (B + 1) 13 i 2 (.ref v) = some (am_set (laX X B k s) (B + 1) (.inr (13, fs.set i (.ref v)))) := by
  rw [pf_2 (by decide), if_pos ⟨by decide, hi⟩]
end CN2

section CN3
variable {z : Bool} {X : am_H} {B : Nat}
def z0P : tPh := (fun _ => 0, fun _ _ => 0)
/-- the law's album while it is made: its numbers so far, N names in its rows, no photo -/
def cnP (X : am_H) (B : Nat) (gap nm ph : Int) (N : Nat) (a1 a2 : Nat → Nat) : Prop := X.1 (B + 1) = some (.inr (13, [.ref (B + 2), .int (wI gap), .int (wI nm), .int (wI ph), .ref (B + 4), .ref (B + 5), .ref (B + 6), .ref (B + 7), .ref (B + 8), .ref (B + 9), .ref (B + 13), .ref (B + 17), .ref (B + 21), .ref (B + 25), .ref (B + 26)])) ∧ X.1 (B + 4) = some (ylQ 7 (ylS (N : Int) a1) 8) ∧ X.1 (B + 5) = some (ylQ 7 (ylS (N : Int) a2) 8) ∧ ∀ j, 6 ≤ j → j < 30 → X.1 (B + j) = some (alC B j)

theorem c386a (h0 : X.1 (B + 1) = some (.inr (13, [.null, .int (wI 0), .int (wI 0), .int (wI 0), .null, .null, .null, .null, .null, .null, .null, .null, .null, .null, .null]))) (hX : X.2.1 = B + 2) (hB : 600 ≤ B) (hs : lwS X) {l1 l2 l3 l4 l5 l6 : Option Value} : ∃ (X' : am_H) (f : Nat → Int), cnP X' B 0 0 0 0 (fun _ => 0) (fun _ => 0) ∧ gbS X' (B + 2) (B + 3) 0 f (lwT 0) 26 ∧ X'.2.1 = B + 30 ∧ X'.2.2 ≤ X.2.2 + 60 + 199 ∧ (∀ q, q < B + 1 → X'.1 q = X.1 q) ∧ ru_n z 386 0 [some (.ref (B + 1)), l1, l2, l3, l4, l5, l6] [] X = ru_n z 386 117 [some (.ref (B + 1)), l1, l2, l3, l4, l5, l6] [] X' := by
  obtain ⟨X1, f1, k387, g1, g2, g3, g4⟩ := h387 (z := z) (X := X) (i := 0) (by decide) hs (by omega)
  have hX1 : X1.2.1 = B + 4 := by omega
  rw [hX] at k387 g1 g3
  have e1 : X1.1 (B + 1) = some (.inr (13, [.null, .int (wI 0), .int (wI 0), .int (wI 0), .null, .null, .null, .null, .null, .null, .null, .null, .null, .null, .null])) := by rw [g2 _ (by omega)]; exact h0
  have t0 : (am_new X (.inr (11, [.null, .int (wI 0), .int (wI 0), .int (wI 0)])) 4).2.1 = B + 2 + 1 := by show X.2.1 + 1 = _; omega
  have pt : am_pf X1 (B + 1) 13 0 2 (.ref (B + 2)) = some (am_set (laX X1 B 0 0) (B + 1) (.inr (13, [.ref (B + 2), .int (wI 0), .int (wI 0), .int (wI 0), .null, .null, .null, .null, .null, .null, .null, .null, .null, .null, .null]))) := by
    rw [la_0]
    exact ru_pf2 e1 ⟨by decide, by show 0 < 15; decide⟩
  refine ⟨(am_set (laX X1 B 26 199) (B + 1) (.inr (13, [.ref (B + 2), .int (wI 0), .int (wI 0), .int (wI 0), .ref (B + 4), .ref (B + 5), .ref (B + 6), .ref (B + 7), .ref (B + 8), .ref (B + 9), .ref (B + 13), .ref (B + 17), .ref (B + 21), .ref (B + 25), .ref (B + 26)]))), f1, ⟨ru_setE _ _ _, ?_, ?_, fun j h1 h2 => ?_⟩, gbS_ag g1 ?_ ?_ ?_, ?_, ?_, fun q hq => ?_, ?_⟩
  · rw [ru_setN (by omega)]
    show (if X1.2.1 ≤ B + 4 ∧ B + 4 < X1.2.1 + 26 then some (alC B (B + 4 - B)) else X1.1 (B + 4)) = _
    rw [if_pos (by omega), show B + 4 - B = 4 by omega]
    exact congrArg (fun t => some (ylQ 7 t 8)) (funext fun j => (if_neg (by show ¬ ((j : Nat) : Int) < 0; omega)).symm)
  · rw [ru_setN (by omega)]
    show (if X1.2.1 ≤ B + 5 ∧ B + 5 < X1.2.1 + 26 then some (alC B (B + 5 - B)) else X1.1 (B + 5)) = _
    rw [if_pos (by omega), show B + 5 - B = 5 by omega]
    exact congrArg (fun t => some (ylQ 7 t 8)) (funext fun j => (if_neg (by show ¬ ((j : Nat) : Int) < 0; omega)).symm)
  · rw [ru_setN (by omega)]
    show (if X1.2.1 ≤ B + j ∧ B + j < X1.2.1 + 26 then some (alC B (B + j - B)) else X1.1 (B + j)) = _
    rw [if_pos (by omega), show B + j - B = j by omega]
  · rw [ru_setN (by omega)]
    show (if X1.2.1 ≤ B + 2 ∧ B + 2 < X1.2.1 + 26 then _ else X1.1 (B + 2)) = _
    rw [if_neg (by omega)]
  · rw [ru_setN (by omega)]
    show (if X1.2.1 ≤ B + 3 ∧ B + 3 < X1.2.1 + 26 then _ else X1.1 (B + 3)) = _
    rw [if_neg (by omega)]
  · show X1.2.1 ≤ X1.2.1 + 26; omega
  · show X1.2.1 + 26 = _; omega
  · show X1.2.2 + 199 ≤ _; omega
  · rw [ru_setN (by omega)]
    show (if X1.2.1 ≤ q ∧ q < X1.2.1 + 26 then _ else X1.1 q) = _
    rw [if_neg (by omega)]
    exact g2 q (by omega)
  ·
    have n4 : am_na (am_set (laX X1 B 0 0) (B + 1) (.inr (13, [.ref (B + 2), .int (wI 0), .int (wI 0), .int (wI 0), .null, .null, .null, .null, .null, .null, .null, .null, .null, .null, .null]))) 7 (wI 8) = some (am_set (laX X1 B 1 8) (B + 1) (.inr (13, [.ref (B + 2), .int (wI 0), .int (wI 0), .int (wI 0), .null, .null, .null, .null, .null, .null, .null, .null, .null, .null, .null]))) := la_na (k := 0) (s := 0) (kd := 7) (m := 8) hX1 (by decide) rfl (by decide)
    have s4 : (laX X1 B 0 0).2.1 = B + 4 := la_n (k := 0) (s := 0) hX1
    have p4 : am_pf (am_set (laX X1 B 1 8) (B + 1) (.inr (13, [.ref (B + 2), .int (wI 0), .int (wI 0), .int (wI 0), .null, .null, .null, .null, .null, .null, .null, .null, .null, .null, .null]))) (B + 1) 13 4 2 (.ref (B + 4)) = some (am_set (laX X1 B 1 8) (B + 1) (.inr (13, [.ref (B + 2), .int (wI 0), .int (wI 0), .int (wI 0), .ref (B + 4), .null, .null, .null, .null, .null, .null, .null, .null, .null, .null])))   := la_pf (k := 1) (s := 8) (by show 4 < 15; decide)
    have n5 : am_na (am_set (laX X1 B 1 8) (B + 1) (.inr (13, [.ref (B + 2), .int (wI 0), .int (wI 0), .int (wI 0), .ref (B + 4), .null, .null, .null, .null, .null, .null, .null, .null, .null, .null]))) 7 (wI 8) = some (am_set (laX X1 B 2 16) (B + 1) (.inr (13, [.ref (B + 2), .int (wI 0), .int (wI 0), .int (wI 0), .ref (B + 4), .null, .null, .null, .null, .null, .null, .null, .null, .null, .null]))) := la_na (k := 1) (s := 8) (kd := 7) (m := 8) hX1 (by decide) rfl (by decide)
    have s5 : (laX X1 B 1 8).2.1 = B + 5 := la_n (k := 1) (s := 8) hX1
    have p5 : am_pf (am_set (laX X1 B 2 16) (B + 1) (.inr (13, [.ref (B + 2), .int (wI 0), .int (wI 0), .int (wI 0), .ref (B + 4), .null, .null, .null, .null, .null, .null, .null, .null, .null, .null]))) (B + 1) 13 5 2 (.ref (B + 5)) = some (am_set (laX X1 B 2 16) (B + 1) (.inr (13, [.ref (B + 2), .int (wI 0), .int (wI 0), .int (wI 0), .ref (B + 4), .ref (B + 5), .null, .null, .null, .null, .null, .null, .null, .null, .null])))   := la_pf (k := 2) (s := 16) (by show 5 < 15; decide)
    have n6 : am_na (am_set (laX X1 B 2 16) (B + 1) (.inr (13, [.ref (B + 2), .int (wI 0), .int (wI 0), .int (wI 0), .ref (B + 4), .ref (B + 5), .null, .null, .null, .null, .null, .null, .null, .null, .null]))) 0 (wI 3) = some (am_set (laX X1 B 3 19) (B + 1) (.inr (13, [.ref (B + 2), .int (wI 0), .int (wI 0), .int (wI 0), .ref (B + 4), .ref (B + 5), .null, .null, .null, .null, .null, .null, .null, .null, .null]))) := la_na (k := 2) (s := 16) (kd := 0) (m := 3) hX1 (by decide) rfl (by decide)
    have s6 : (laX X1 B 2 16).2.1 = B + 6 := la_n (k := 2) (s := 16) hX1
    have p6 : am_pf (am_set (laX X1 B 3 19) (B + 1) (.inr (13, [.ref (B + 2), .int (wI 0), .int (wI 0), .int (wI 0), .ref (B + 4), .ref (B + 5), .null, .null, .null, .null, .null, .null, .null, .null, .null]))) (B + 1) 13 6 2 (.ref (B + 6)) = some (am_set (laX X1 B 3 19) (B + 1) (.inr (13, [.ref (B + 2), .int (wI 0), .int (wI 0), .int (wI 0), .ref (B + 4), .ref (B + 5), .ref (B + 6), .null, .null, .null, .null, .null, .null, .null, .null])))   := la_pf (k := 3) (s := 19) (by show 6 < 15; decide)
    have n7 : am_na (am_set (laX X1 B 3 19) (B + 1) (.inr (13, [.ref (B + 2), .int (wI 0), .int (wI 0), .int (wI 0), .ref (B + 4), .ref (B + 5), .ref (B + 6), .null, .null, .null, .null, .null, .null, .null, .null]))) 0 (wI 3) = some (am_set (laX X1 B 4 22) (B + 1) (.inr (13, [.ref (B + 2), .int (wI 0), .int (wI 0), .int (wI 0), .ref (B + 4), .ref (B + 5), .ref (B + 6), .null, .null, .null, .null, .null, .null, .null, .null]))) := la_na (k := 3) (s := 19) (kd := 0) (m := 3) hX1 (by decide) rfl (by decide)
    have s7 : (laX X1 B 3 19).2.1 = B + 7 := la_n (k := 3) (s := 19) hX1
    have p7 : am_pf (am_set (laX X1 B 4 22) (B + 1) (.inr (13, [.ref (B + 2), .int (wI 0), .int (wI 0), .int (wI 0), .ref (B + 4), .ref (B + 5), .ref (B + 6), .null, .null, .null, .null, .null, .null, .null, .null]))) (B + 1) 13 7 2 (.ref (B + 7)) = some (am_set (laX X1 B 4 22) (B + 1) (.inr (13, [.ref (B + 2), .int (wI 0), .int (wI 0), .int (wI 0), .ref (B + 4), .ref (B + 5), .ref (B + 6), .ref (B + 7), .null, .null, .null, .null, .null, .null, .null])))   := la_pf (k := 4) (s := 22) (by show 7 < 15; decide)
    have n8 : am_na (am_set (laX X1 B 4 22) (B + 1) (.inr (13, [.ref (B + 2), .int (wI 0), .int (wI 0), .int (wI 0), .ref (B + 4), .ref (B + 5), .ref (B + 6), .ref (B + 7), .null, .null, .null, .null, .null, .null, .null]))) 0 (wI 3) = some (am_set (laX X1 B 5 25) (B + 1) (.inr (13, [.ref (B + 2), .int (wI 0), .int (wI 0), .int (wI 0), .ref (B + 4), .ref (B + 5), .ref (B + 6), .ref (B + 7), .null, .null, .null, .null, .null, .null, .null]))) := la_na (k := 4) (s := 22) (kd := 0) (m := 3) hX1 (by decide) rfl (by decide)
    have s8 : (laX X1 B 4 22).2.1 = B + 8 := la_n (k := 4) (s := 22) hX1
    have p8 : am_pf (am_set (laX X1 B 5 25) (B + 1) (.inr (13, [.ref (B + 2), .int (wI 0), .int (wI 0), .int (wI 0), .ref (B + 4), .ref (B + 5), .ref (B + 6), .ref (B + 7), .null, .null, .null, .null, .null, .null, .null]))) (B + 1) 13 8 2 (.ref (B + 8)) = some (am_set (laX X1 B 5 25) (B + 1) (.inr (13, [.ref (B + 2), .int (wI 0), .int (wI 0), .int (wI 0), .ref (B + 4), .ref (B + 5), .ref (B + 6), .ref (B + 7), .ref (B + 8), .null, .null, .null, .null, .null, .null])))   := la_pf (k := 5) (s := 25) (by show 8 < 15; decide)
    have n9 : am_mn (am_set (laX X1 B 5 25) (B + 1) (.inr (13, [.ref (B + 2), .int (wI 0), .int (wI 0), .int (wI 0), .ref (B + 4), .ref (B + 5), .ref (B + 6), .ref (B + 7), .ref (B + 8), .null, .null, .null, .null, .null, .null]))) 8 (wI 3) (wI 4) = some (am_set (laX X1 B 9 40) (B + 1) (.inr (13, [.ref (B + 2), .int (wI 0), .int (wI 0), .int (wI 0), .ref (B + 4), .ref (B + 5), .ref (B + 6), .ref (B + 7), .ref (B + 8), .null, .null, .null, .null, .null, .null]))) := la_mn (k := 5) (s := 25) (kd := 8) (m := 4) hX1 (by decide) rfl (fun j hj => by rcases (show j = 0 ∨ j = 1 ∨ j = 2 by omega) with rfl | rfl | rfl <;> rfl) (by decide)
    have s9 : (laX X1 B 5 25).2.1 = B + 9 := la_n (k := 5) (s := 25) hX1
    have p9 : am_pf (am_set (laX X1 B 9 40) (B + 1) (.inr (13, [.ref (B + 2), .int (wI 0), .int (wI 0), .int (wI 0), .ref (B + 4), .ref (B + 5), .ref (B + 6), .ref (B + 7), .ref (B + 8), .null, .null, .null, .null, .null, .null]))) (B + 1) 13 9 2 (.ref (B + 9)) = some (am_set (laX X1 B 9 40) (B + 1) (.inr (13, [.ref (B + 2), .int (wI 0), .int (wI 0), .int (wI 0), .ref (B + 4), .ref (B + 5), .ref (B + 6), .ref (B + 7), .ref (B + 8), .ref (B + 9), .null, .null, .null, .null, .null])))   := la_pf (k := 9) (s := 40) (by show 9 < 15; decide)
    have n10 : am_mn (am_set (laX X1 B 9 40) (B + 1) (.inr (13, [.ref (B + 2), .int (wI 0), .int (wI 0), .int (wI 0), .ref (B + 4), .ref (B + 5), .ref (B + 6), .ref (B + 7), .ref (B + 8), .ref (B + 9), .null, .null, .null, .null, .null]))) 8 (wI 3) (wI 12) = some (am_set (laX X1 B 13 79) (B + 1) (.inr (13, [.ref (B + 2), .int (wI 0), .int (wI 0), .int (wI 0), .ref (B + 4), .ref (B + 5), .ref (B + 6), .ref (B + 7), .ref (B + 8), .ref (B + 9), .null, .null, .null, .null, .null]))) := la_mn (k := 9) (s := 40) (kd := 8) (m := 12) hX1 (by decide) rfl (fun j hj => by rcases (show j = 0 ∨ j = 1 ∨ j = 2 by omega) with rfl | rfl | rfl <;> rfl) (by decide)
    have s10 : (laX X1 B 9 40).2.1 = B + 13 := la_n (k := 9) (s := 40) hX1
    have p10 : am_pf (am_set (laX X1 B 13 79) (B + 1) (.inr (13, [.ref (B + 2), .int (wI 0), .int (wI 0), .int (wI 0), .ref (B + 4), .ref (B + 5), .ref (B + 6), .ref (B + 7), .ref (B + 8), .ref (B + 9), .null, .null, .null, .null, .null]))) (B + 1) 13 10 2 (.ref (B + 13)) = some (am_set (laX X1 B 13 79) (B + 1) (.inr (13, [.ref (B + 2), .int (wI 0), .int (wI 0), .int (wI 0), .ref (B + 4), .ref (B + 5), .ref (B + 6), .ref (B + 7), .ref (B + 8), .ref (B + 9), .ref (B + 13), .null, .null, .null, .null])))   := la_pf (k := 13) (s := 79) (by show 10 < 15; decide)
    have n11 : am_mn (am_set (laX X1 B 13 79) (B + 1) (.inr (13, [.ref (B + 2), .int (wI 0), .int (wI 0), .int (wI 0), .ref (B + 4), .ref (B + 5), .ref (B + 6), .ref (B + 7), .ref (B + 8), .ref (B + 9), .ref (B + 13), .null, .null, .null, .null]))) 8 (wI 3) (wI 12) = some (am_set (laX X1 B 17 118) (B + 1) (.inr (13, [.ref (B + 2), .int (wI 0), .int (wI 0), .int (wI 0), .ref (B + 4), .ref (B + 5), .ref (B + 6), .ref (B + 7), .ref (B + 8), .ref (B + 9), .ref (B + 13), .null, .null, .null, .null]))) := la_mn (k := 13) (s := 79) (kd := 8) (m := 12) hX1 (by decide) rfl (fun j hj => by rcases (show j = 0 ∨ j = 1 ∨ j = 2 by omega) with rfl | rfl | rfl <;> rfl) (by decide)
    have s11 : (laX X1 B 13 79).2.1 = B + 17 := la_n (k := 13) (s := 79) hX1
    have p11 : am_pf (am_set (laX X1 B 17 118) (B + 1) (.inr (13, [.ref (B + 2), .int (wI 0), .int (wI 0), .int (wI 0), .ref (B + 4), .ref (B + 5), .ref (B + 6), .ref (B + 7), .ref (B + 8), .ref (B + 9), .ref (B + 13), .null, .null, .null, .null]))) (B + 1) 13 11 2 (.ref (B + 17)) = some (am_set (laX X1 B 17 118) (B + 1) (.inr (13, [.ref (B + 2), .int (wI 0), .int (wI 0), .int (wI 0), .ref (B + 4), .ref (B + 5), .ref (B + 6), .ref (B + 7), .ref (B + 8), .ref (B + 9), .ref (B + 13), .ref (B + 17), .null, .null, .null])))   := la_pf (k := 17) (s := 118) (by show 11 < 15; decide)
    have n12 : am_mn (am_set (laX X1 B 17 118) (B + 1) (.inr (13, [.ref (B + 2), .int (wI 0), .int (wI 0), .int (wI 0), .ref (B + 4), .ref (B + 5), .ref (B + 6), .ref (B + 7), .ref (B + 8), .ref (B + 9), .ref (B + 13), .ref (B + 17), .null, .null, .null]))) 8 (wI 3) (wI 12) = some (am_set (laX X1 B 21 157) (B + 1) (.inr (13, [.ref (B + 2), .int (wI 0), .int (wI 0), .int (wI 0), .ref (B + 4), .ref (B + 5), .ref (B + 6), .ref (B + 7), .ref (B + 8), .ref (B + 9), .ref (B + 13), .ref (B + 17), .null, .null, .null]))) := la_mn (k := 17) (s := 118) (kd := 8) (m := 12) hX1 (by decide) rfl (fun j hj => by rcases (show j = 0 ∨ j = 1 ∨ j = 2 by omega) with rfl | rfl | rfl <;> rfl) (by decide)
    have s12 : (laX X1 B 17 118).2.1 = B + 21 := la_n (k := 17) (s := 118) hX1
    have p12 : am_pf (am_set (laX X1 B 21 157) (B + 1) (.inr (13, [.ref (B + 2), .int (wI 0), .int (wI 0), .int (wI 0), .ref (B + 4), .ref (B + 5), .ref (B + 6), .ref (B + 7), .ref (B + 8), .ref (B + 9), .ref (B + 13), .ref (B + 17), .null, .null, .null]))) (B + 1) 13 12 2 (.ref (B + 21)) = some (am_set (laX X1 B 21 157) (B + 1) (.inr (13, [.ref (B + 2), .int (wI 0), .int (wI 0), .int (wI 0), .ref (B + 4), .ref (B + 5), .ref (B + 6), .ref (B + 7), .ref (B + 8), .ref (B + 9), .ref (B + 13), .ref (B + 17), .ref (B + 21), .null, .null])))   := la_pf (k := 21) (s := 157) (by show 12 < 15; decide)
    have n13 : am_na (am_set (laX X1 B 21 157) (B + 1) (.inr (13, [.ref (B + 2), .int (wI 0), .int (wI 0), .int (wI 0), .ref (B + 4), .ref (B + 5), .ref (B + 6), .ref (B + 7), .ref (B + 8), .ref (B + 9), .ref (B + 13), .ref (B + 17), .ref (B + 21), .null, .null]))) 2 (wI 3) = some (am_set (laX X1 B 22 160) (B + 1) (.inr (13, [.ref (B + 2), .int (wI 0), .int (wI 0), .int (wI 0), .ref (B + 4), .ref (B + 5), .ref (B + 6), .ref (B + 7), .ref (B + 8), .ref (B + 9), .ref (B + 13), .ref (B + 17), .ref (B + 21), .null, .null]))) := la_na (k := 21) (s := 157) (kd := 2) (m := 3) hX1 (by decide) rfl (by decide)
    have s13 : (laX X1 B 21 157).2.1 = B + 25 := la_n (k := 21) (s := 157) hX1
    have p13 : am_pf (am_set (laX X1 B 22 160) (B + 1) (.inr (13, [.ref (B + 2), .int (wI 0), .int (wI 0), .int (wI 0), .ref (B + 4), .ref (B + 5), .ref (B + 6), .ref (B + 7), .ref (B + 8), .ref (B + 9), .ref (B + 13), .ref (B + 17), .ref (B + 21), .null, .null]))) (B + 1) 13 13 2 (.ref (B + 25)) = some (am_set (laX X1 B 22 160) (B + 1) (.inr (13, [.ref (B + 2), .int (wI 0), .int (wI 0), .int (wI 0), .ref (B + 4), .ref (B + 5), .ref (B + 6), .ref (B + 7), .ref (B + 8), .ref (B + 9), .ref (B + 13), .ref (B + 17), .ref (B + 21), .ref (B + 25), .null])))   := la_pf (k := 22) (s := 160) (by show 13 < 15; decide)
    have n14 : am_mn (am_set (laX X1 B 22 160) (B + 1) (.inr (13, [.ref (B + 2), .int (wI 0), .int (wI 0), .int (wI 0), .ref (B + 4), .ref (B + 5), .ref (B + 6), .ref (B + 7), .ref (B + 8), .ref (B + 9), .ref (B + 13), .ref (B + 17), .ref (B + 21), .ref (B + 25), .null]))) 9 (wI 3) (wI 12) = some (am_set (laX X1 B 26 199) (B + 1) (.inr (13, [.ref (B + 2), .int (wI 0), .int (wI 0), .int (wI 0), .ref (B + 4), .ref (B + 5), .ref (B + 6), .ref (B + 7), .ref (B + 8), .ref (B + 9), .ref (B + 13), .ref (B + 17), .ref (B + 21), .ref (B + 25), .null]))) := la_mn (k := 22) (s := 160) (kd := 9) (m := 12) hX1 (by decide) rfl (fun j hj => by rcases (show j = 0 ∨ j = 1 ∨ j = 2 by omega) with rfl | rfl | rfl <;> rfl) (by decide)
    have s14 : (laX X1 B 22 160).2.1 = B + 26 := la_n (k := 22) (s := 160) hX1
    have p14 : am_pf (am_set (laX X1 B 26 199) (B + 1) (.inr (13, [.ref (B + 2), .int (wI 0), .int (wI 0), .int (wI 0), .ref (B + 4), .ref (B + 5), .ref (B + 6), .ref (B + 7), .ref (B + 8), .ref (B + 9), .ref (B + 13), .ref (B + 17), .ref (B + 21), .ref (B + 25), .null]))) (B + 1) 13 14 2 (.ref (B + 26)) = some (am_set (laX X1 B 26 199) (B + 1) (.inr (13, [.ref (B + 2), .int (wI 0), .int (wI 0), .int (wI 0), .ref (B + 4), .ref (B + 5), .ref (B + 6), .ref (B + 7), .ref (B + 8), .ref (B + 9), .ref (B + 13), .ref (B + 17), .ref (B + 21), .ref (B + 25), .ref (B + 26)])))   := la_pf (k := 26) (s := 199) (by show 14 < 15; decide)
    have k387' : ru_ev z 387 [.ref (B + 2), .ref 500] (am_new X (.inr (11, [.null, .int (wI 0), .int (wI 0), .int (wI 0)])) 4) = some (.inl none, X1) := k387
    simp (disch := omega) only [e386_0, e386_1, e386_4, e386_5, e386_8, e386_9, e386_11, e386_14, e386_17, e386_18, e386_20, e386_23, e386_26, e386_27, e386_29, e386_32, e386_35, e386_36, e386_37, e386_39, e386_42, e386_43, e386_44, e386_46, e386_49, e386_50, e386_51, e386_53, e386_56, e386_57, e386_58, e386_59, e386_63, e386_66, e386_67, e386_68, e386_70, e386_74, e386_77, e386_78, e386_79, e386_81, e386_85, e386_88, e386_89, e386_90, e386_92, e386_96, e386_99, e386_100, e386_101, e386_103, e386_106, e386_107, e386_108, e386_110, e386_114, ↓reduceIte, Bool.false_eq_true, not_false_eq_true, not_true_eq_false, Nat.reduceLeDiff, Nat.reduceAdd, Nat.reduceEqDiff, Int.reduceToNat, Int.toNat_natCast, iB0, iB1, ru_klI, ru_klR, ru_klF, ru_klJ, ru_kl0, ru_cs0, ru_csI, ru_csR, ru_csF, ru_csJ, wI_add, wI_sub, wI_mul, wI_lt, wI_le, wI_inj, ru_fdE, ru_fdN, ru_iaN, ru_baN, ru_laN, ru_qaN, ru_pfN, ru_isN, ru_bsN, ru_jsN, ru_qsN, ru_set2, Nat.add_right_cancel_iff, if_true, if_false, ite_self, Int.reduceEq, and_self, Int.add_neg_cancel_right, Int.add_zero, Int.zero_add, ru_ctR, hX, k387', pt, n4, s4, p4, n5, s5, p5, n6, s6, p6, n7, s7, p7, n8, s8, p8, n9, s9, p9, n10, s10, p10, n11, s11, p11, n12, s12, p12, n13, s13, p13, n14, s14, p14, List.length_nil, Nat.zero_le]
end CN3
