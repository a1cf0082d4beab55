/-! ===== a heap with the class's cells (1000 to 1314, but 1259) as C says: 'clPut h C'; C.1 its int fields, C.2.1 its rows of ints, C.2.2.1 its longs, C.2.2.2 its references that change ===== -/
abbrev tCl : Type := (Nat → Nat → Int) × (Nat → Nat → Int) × (Nat → Nat → Int64) × (Nat → Nat → Nat)
def clK : List Nat := [0, 1, 101, 2, 3, 103, 103, 9, 105, 6, 100, 100, 102, 100, 6, 100, 100, 102, 100, 6, 100, 100, 102, 100, 6, 100, 100, 102, 100, 6, 100, 100, 102, 100, 2, 3, 103, 103, 9, 105, 6, 100, 100, 102, 100, 6, 100, 100, 102, 100, 6, 100, 100, 102, 100, 6, 100, 100, 102, 100, 6, 100, 100, 102, 100, 6, 100, 100, 102, 100, 4, 100, 100, 100, 100, 100, 100, 100, 100, 100, 100, 4, 100, 100, 100, 100, 100, 100, 100, 100, 100, 100, 5, 106, 9, 105, 6, 100, 100, 102, 100, 6, 100, 100, 102, 100, 6, 100, 100, 102, 100, 6, 100, 100, 102, 100, 6, 100, 100, 102, 100, 9, 105, 6, 100, 100, 102, 100, 6, 100, 100, 102, 100, 6, 100, 100, 102, 100, 6, 100, 100, 102, 100, 6, 100, 100, 102, 100, 9, 105, 6, 100, 100, 102, 100, 6, 100, 100, 102, 100, 6, 100, 100, 102, 100, 6, 100, 100, 102, 100, 6, 100, 100, 102, 100, 9, 105, 6, 100, 100, 102, 100, 6, 100, 100, 102, 100, 6, 100, 100, 102, 100, 6, 100, 100, 102, 100, 6, 100, 100, 102, 100, 9, 105, 6, 100, 100, 102, 100, 6, 100, 100, 102, 100, 6, 100, 100, 102, 100, 6, 100, 100, 102, 100, 6, 100, 100, 102, 100, 9, 105, 6, 100, 100, 102, 100, 6, 100, 100, 102, 100, 6, 100, 100, 102, 100, 6, 100, 100, 102, 100, 6, 100, 100, 102, 100, 106, 7, 11, 99, 100, 9, 105, 6, 100, 100, 102, 100, 6, 100, 100, 102, 100, 6, 100, 100, 102, 100, 6, 100, 100, 102, 100, 6, 100, 100, 102, 100, 9, 105, 6, 100, 100, 102, 100, 6, 100, 100, 102, 100, 6, 100, 100, 102, 100, 6, 100, 100, 102, 100, 6, 100, 100, 102, 100]
def clN : List Nat := [0, 0, 1200, 0, 0, 20, 20, 0, 5, 0, 12, 12, 12, 12, 0, 12, 12, 12, 12, 0, 12, 12, 12, 12, 0, 12, 12, 12, 12, 0, 12, 12, 12, 12, 0, 0, 20, 20, 0, 5, 0, 12, 12, 12, 12, 0, 12, 12, 12, 12, 0, 12, 12, 12, 12, 0, 12, 12, 12, 12, 0, 12, 12, 12, 12, 0, 12, 12, 12, 12, 0, 12, 12, 12, 12, 12, 12, 13, 12, 12, 12, 0, 12, 12, 12, 12, 12, 12, 13, 12, 12, 12, 0, 6, 0, 5, 0, 12, 12, 12, 12, 0, 12, 12, 12, 12, 0, 12, 12, 12, 12, 0, 12, 12, 12, 12, 0, 12, 12, 12, 12, 0, 5, 0, 12, 12, 12, 12, 0, 12, 12, 12, 12, 0, 12, 12, 12, 12, 0, 12, 12, 12, 12, 0, 12, 12, 12, 12, 0, 5, 0, 12, 12, 12, 12, 0, 12, 12, 12, 12, 0, 12, 12, 12, 12, 0, 12, 12, 12, 12, 0, 12, 12, 12, 12, 0, 5, 0, 12, 12, 12, 12, 0, 12, 12, 12, 12, 0, 12, 12, 12, 12, 0, 12, 12, 12, 12, 0, 12, 12, 12, 12, 0, 5, 0, 12, 12, 12, 12, 0, 12, 12, 12, 12, 0, 12, 12, 12, 12, 0, 12, 12, 12, 12, 0, 12, 12, 12, 12, 0, 5, 0, 12, 12, 12, 12, 0, 12, 12, 12, 12, 0, 12, 12, 12, 12, 0, 12, 12, 12, 12, 0, 12, 12, 12, 12, 2, 0, 0, 0, 20, 0, 5, 0, 12, 12, 12, 12, 0, 12, 12, 12, 12, 0, 12, 12, 12, 12, 0, 12, 12, 12, 12, 0, 12, 12, 12, 12, 0, 5, 0, 12, 12, 12, 12, 0, 12, 12, 12, 12, 0, 12, 12, 12, 12, 0, 12, 12, 12, 12, 0, 12, 12, 12, 12]
def clk (q : Nat) : Nat := clK.getD (q - 1000) 99
def cln (q : Nat) : Nat := clN.getD (q - 1000) 0
def clL0 (C : tCl) (q : Nat) : List Value := [.ref 1001, .ref (C.2.2.2 q 1), .ref (C.2.2.2 q 2), .ref 1065, .ref 1070, .ref 1081, .ref 1092, .ref 1256, .ref 1257, .ref 1260]
def clL1 (C : tCl) (q : Nat) : List Value := [.ref 1002, .int (wI (C.1 q 1)), .int (wI (C.1 q 2)), .int (wI (C.1 q 3)), .int (wI (C.1 q 4)), .int (wI (C.1 q 5)), .int (wI (C.1 q 6)), .ref (C.2.2.2 q 7), .long (C.2.2.1 q 8), .int (wI (C.1 q 9))]
def clL2 (C : tCl) (q : Nat) : List Value := [.int (wI (C.1 q 0)), .ref (q + 1), .ref (q + 4)]
def clL3 (C : tCl) (q : Nat) : List Value := [.int (wI (C.1 q 0)), .ref (q + 1), .ref (q + 2)]
def clL4 (C : tCl) (q : Nat) : List Value := [.int (wI (C.1 q 0)), .int (wI (C.1 q 1)), .ref (q + 1), .ref (q + 2), .ref (q + 3), .ref (q + 4), .ref (q + 5), .ref (q + 6), .ref (q + 7), .ref (q + 8), .ref (q + 9), .ref (q + 10)]
def clL5 (C : tCl) (q : Nat) : List Value := [.int (wI (C.1 q 0)), .ref (q + 1)]
def clL6 (C : tCl) (q : Nat) : List Value := [.int (wI (C.1 q 0)), .int (wI (C.1 q 1)), .int (wI (C.1 q 2)), .int (wI (C.1 q 3)), .int (wI (C.1 q 4)), .int (wI (C.1 q 5)), .int (wI (C.1 q 6)), .int (wI (C.1 q 7)), .ref (q + 1), .ref (q + 2), .ref (q + 3), .ref (q + 4)]
def clL7 (C : tCl) (q : Nat) : List Value := [.ref (q + 1)]
def clL9 (C : tCl) (q : Nat) : List Value := [.int (wI (C.1 q 0)), .ref (q + 1)]
def clL11 (C : tCl) (q : Nat) : List Value := [.ref (C.2.2.2 q 0), .int (wI (C.1 q 1)), .int (wI (C.1 q 2)), .int (wI (C.1 q 3))]
def clCell (C : tCl) (q : Nat) : Option am_C :=
  if clk q = 0 then some (.inr (0, clL0 C q)) else
  if clk q = 1 then some (.inr (1, clL1 C q)) else
  if clk q = 2 then some (.inr (2, clL2 C q)) else
  if clk q = 3 then some (.inr (3, clL3 C q)) else
  if clk q = 4 then some (.inr (4, clL4 C q)) else
  if clk q = 5 then some (.inr (5, clL5 C q)) else
  if clk q = 6 then some (.inr (6, clL6 C q)) else
  if clk q = 7 then some (.inr (7, clL7 C q)) else
  if clk q = 9 then some (.inr (9, clL9 C q)) else
  if clk q = 11 then some (.inr (11, clL11 C q)) else
  if clk q = 100 then some (.inl (0, cln q, .inl (fun i => wI (C.2.1 q i)))) else
  if clk q = 101 then some (.inl (1, cln q, .inl (fun i => wI (C.2.1 q i)))) else
  if clk q = 102 then some (.inl (2, cln q, .inl (fun i => wI (C.2.1 q i)))) else
  if clk q = 103 then some (.inl (3, cln q, .inr (.inl (fun i => C.2.2.1 q i)))) else
  if clk q = 105 then some (.inl (5, 5, .inr (.inr (.inr (.inr (fun i => if i < 5 then some (q + 1 + 5 * i) else none)))))) else
  if clk q = 106 then some (.inl (6, cln q, .inr (.inr (.inr (.inr (fun i => if i < cln q then some (C.2.2.2 q i) else none)))))) else
  none
def clIn (q : Nat) : Prop := 1000 ≤ q ∧ q ≤ 1314 ∧ q ≠ 1259
def clPut (h : am_H) (C : tCl) : am_H := (fun q => if 1000 ≤ q ∧ q ≤ 1314 ∧ q ≠ 1259 then clCell C q else h.1 q, h.2)
theorem clPut_o {h : am_H} {C : tCl} {q : Nat} (hq : ¬ (1000 ≤ q ∧ q ≤ 1314 ∧ q ≠ 1259)) : (clPut h C).1 q = h.1 q := if_neg hq
theorem clPut_i {h : am_H} {C : tCl} {q : Nat} (hq : 1000 ≤ q ∧ q ≤ 1314 ∧ q ≠ 1259) : (clPut h C).1 q = clCell C q := if_pos hq
theorem clPut_2 (h : am_H) (C : tCl) : (clPut h C).2 = h.2 := rfl
theorem clPut_put (h : am_H) (C D : tCl) : clPut (clPut h C) D = clPut h D := by
  unfold clPut
  congr 1
  funext q
  dsimp only
  split <;> rfl
theorem clk_in {q : Nat} (h : clk q ≠ 99) (h2 : 1000 ≤ q) : 1000 ≤ q ∧ q ≤ 1314 ∧ q ≠ 1259 := by
  refine ⟨h2, ?_, fun e => ?_⟩
  · rcases Nat.lt_or_ge 1314 q with h3 | h3
    · exfalso
      apply h
      unfold clk
      have hl : clK.length = 315 := by decide +kernel
      rw [List.getD_eq_getElem?_getD, List.getElem?_eq_none (by rw [hl]; omega)]
      rfl
    · exact h3
  · subst e; exact h rfl
theorem clPM (h : am_H) (C : tCl) (M : tMd) : clPut (mdPut h M) C = mdPut (clPut h C) M := by
  unfold clPut mdPut
  congr 1
  funext q
  dsimp only
  by_cases h1 : 1000 ≤ q ∧ q ≤ 1314 ∧ q ≠ 1259
  · rw [if_pos h1, if_neg (by omega), if_neg (by omega), if_pos h1]
  · rw [if_neg h1, if_neg h1]
theorem clP0 {h : am_H} {C : tCl} {q : Nat} (hk : clk q = 0) (h2 : 1000 ≤ q) : (clPut h C).1 q = some (.inr (0, clL0 C q)) := by
  rw [clPut_i (clk_in (by rw [hk]; decide) h2)]
  unfold clCell
  rw [if_pos hk]
theorem clP1 {h : am_H} {C : tCl} {q : Nat} (hk : clk q = 1) (h2 : 1000 ≤ q) : (clPut h C).1 q = some (.inr (1, clL1 C q)) := by
  rw [clPut_i (clk_in (by rw [hk]; decide) h2)]
  unfold clCell
  rw [if_neg (by rw [hk]; decide), if_pos hk]
theorem clP2 {h : am_H} {C : tCl} {q : Nat} (hk : clk q = 2) (h2 : 1000 ≤ q) : (clPut h C).1 q = some (.inr (2, clL2 C q)) := by
  rw [clPut_i (clk_in (by rw [hk]; decide) h2)]
  unfold clCell
  rw [if_neg (by rw [hk]; decide), if_neg (by rw [hk]; decide), if_pos hk]
theorem clP3 {h : am_H} {C : tCl} {q : Nat} (hk : clk q = 3) (h2 : 1000 ≤ q) : (clPut h C).1 q = some (.inr (3, clL3 C q)) := by
  rw [clPut_i (clk_in (by rw [hk]; decide) h2)]
  unfold clCell
  rw [if_neg (by rw [hk]; decide), if_neg (by rw [hk]; decide), if_neg (by rw [hk]; decide), if_pos hk]
theorem clP4 {h : am_H} {C : tCl} {q : Nat} (hk : clk q = 4) (h2 : 1000 ≤ q) : (clPut h C).1 q = some (.inr (4, clL4 C q)) := by
  rw [clPut_i (clk_in (by rw [hk]; decide) h2)]
  unfold clCell
  rw [if_neg (by rw [hk]; decide), if_neg (by rw [hk]; decide), if_neg (by rw [hk]; decide), if_neg (by rw [hk]; decide), if_pos hk]
theorem clP5 {h : am_H} {C : tCl} {q : Nat} (hk : clk q = 5) (h2 : 1000 ≤ q) : (clPut h C).1 q = some (.inr (5, clL5 C q)) := by
  rw [clPut_i (clk_in (by rw [hk]; decide) h2)]
  unfold clCell
  rw [if_neg (by rw [hk]; decide), if_neg (by rw [hk]; decide), if_neg (by rw [hk]; decide), if_neg (by rw [hk]; decide), if_neg (by rw [hk]; decide), if_pos hk]
theorem clP6 {h : am_H} {C : tCl} {q : Nat} (hk : clk q = 6) (h2 : 1000 ≤ q) : (clPut h C).1 q = some (.inr (6, clL6 C q)) := by
  rw [clPut_i (clk_in (by rw [hk]; decide) h2)]
  unfold clCell
  rw [if_neg (by rw [hk]; decide), if_neg (by rw [hk]; decide), if_neg (by rw [hk]; decide), if_neg (by rw [hk]; decide), if_neg (by rw [hk]; decide), if_neg (by rw [hk]; decide), if_pos hk]
theorem clP7 {h : am_H} {C : tCl} {q : Nat} (hk : clk q = 7) (h2 : 1000 ≤ q) : (clPut h C).1 q = some (.inr (7, clL7 C q)) := by
  rw [clPut_i (clk_in (by rw [hk]; decide) h2)]
  unfold clCell
  rw [if_neg (by rw [hk]; decide), if_neg (by rw [hk]; decide), if_neg (by rw [hk]; decide), if_neg (by rw [hk]; decide), if_neg (by rw [hk]; decide), if_neg (by rw [hk]; decide), if_neg (by rw [hk]; decide), if_pos hk]
theorem clP9 {h : am_H} {C : tCl} {q : Nat} (hk : clk q = 9) (h2 : 1000 ≤ q) : (clPut h C).1 q = some (.inr (9, clL9 C q)) := by
  rw [clPut_i (clk_in (by rw [hk]; decide) h2)]
  unfold clCell
  rw [if_neg (by rw [hk]; decide), if_neg (by rw [hk]; decide), if_neg (by rw [hk]; decide), if_neg (by rw [hk]; decide), if_neg (by rw [hk]; decide), if_neg (by rw [hk]; decide), if_neg (by rw [hk]; decide), if_neg (by rw [hk]; decide), if_pos hk]
theorem clP11 {h : am_H} {C : tCl} {q : Nat} (hk : clk q = 11) (h2 : 1000 ≤ q) : (clPut h C).1 q = some (.inr (11, clL11 C q)) := by
  rw [clPut_i (clk_in (by rw [hk]; decide) h2)]
  unfold clCell
  rw [if_neg (by rw [hk]; decide), if_neg (by rw [hk]; decide), if_neg (by rw [hk]; decide), if_neg (by rw [hk]; decide), if_neg (by rw [hk]; decide), if_neg (by rw [hk]; decide), if_neg (by rw [hk]; decide), if_neg (by rw [hk]; decide), if_neg (by rw [hk]; decide), if_pos hk]
theorem clP100 {h : am_H} {C : tCl} {q : Nat} (hk : clk q = 100) (h2 : 1000 ≤ q) : (clPut h C).1 q = some (.inl (0, cln q, .inl (fun i => wI (C.2.1 q i)))) := by
  rw [clPut_i (clk_in (by rw [hk]; decide) h2)]
  unfold clCell
  rw [if_neg (by rw [hk]; decide), if_neg (by rw [hk]; decide), if_neg (by rw [hk]; decide), if_neg (by rw [hk]; decide), if_neg (by rw [hk]; decide), if_neg (by rw [hk]; decide), if_neg (by rw [hk]; decide), if_neg (by rw [hk]; decide), if_neg (by rw [hk]; decide), if_neg (by rw [hk]; decide), if_pos hk]
theorem clP101 {h : am_H} {C : tCl} {q : Nat} (hk : clk q = 101) (h2 : 1000 ≤ q) : (clPut h C).1 q = some (.inl (1, cln q, .inl (fun i => wI (C.2.1 q i)))) := by
  rw [clPut_i (clk_in (by rw [hk]; decide) h2)]
  unfold clCell
  rw [if_neg (by rw [hk]; decide), if_neg (by rw [hk]; decide), if_neg (by rw [hk]; decide), if_neg (by rw [hk]; decide), if_neg (by rw [hk]; decide), if_neg (by rw [hk]; decide), if_neg (by rw [hk]; decide), if_neg (by rw [hk]; decide), if_neg (by rw [hk]; decide), if_neg (by rw [hk]; decide), if_neg (by rw [hk]; decide), if_pos hk]
theorem clP102 {h : am_H} {C : tCl} {q : Nat} (hk : clk q = 102) (h2 : 1000 ≤ q) : (clPut h C).1 q = some (.inl (2, cln q, .inl (fun i => wI (C.2.1 q i)))) := by
  rw [clPut_i (clk_in (by rw [hk]; decide) h2)]
  unfold clCell
  rw [if_neg (by rw [hk]; decide), if_neg (by rw [hk]; decide), if_neg (by rw [hk]; decide), if_neg (by rw [hk]; decide), if_neg (by rw [hk]; decide), if_neg (by rw [hk]; decide), if_neg (by rw [hk]; decide), if_neg (by rw [hk]; decide), if_neg (by rw [hk]; decide), if_neg (by rw [hk]; decide), if_neg (by rw [hk]; decide), if_neg (by rw [hk]; decide), if_pos hk]
theorem clP103 {h : am_H} {C : tCl} {q : Nat} (hk : clk q = 103) (h2 : 1000 ≤ q) : (clPut h C).1 q = some (.inl (3, cln q, .inr (.inl (fun i => C.2.2.1 q i)))) := by
  rw [clPut_i (clk_in (by rw [hk]; decide) h2)]
  unfold clCell
  rw [if_neg (by rw [hk]; decide), if_neg (by rw [hk]; decide), if_neg (by rw [hk]; decide), if_neg (by rw [hk]; decide), if_neg (by rw [hk]; decide), if_neg (by rw [hk]; decide), if_neg (by rw [hk]; decide), if_neg (by rw [hk]; decide), if_neg (by rw [hk]; decide), if_neg (by rw [hk]; decide), if_neg (by rw [hk]; decide), if_neg (by rw [hk]; decide), if_neg (by rw [hk]; decide), if_pos hk]
theorem clP105 {h : am_H} {C : tCl} {q : Nat} (hk : clk q = 105) (h2 : 1000 ≤ q) : (clPut h C).1 q = some (.inl (5, 5, .inr (.inr (.inr (.inr (fun i => if i < 5 then some (q + 1 + 5 * i) else none)))))) := by
  rw [clPut_i (clk_in (by rw [hk]; decide) h2)]
  unfold clCell
  rw [if_neg (by rw [hk]; decide), if_neg (by rw [hk]; decide), if_neg (by rw [hk]; decide), if_neg (by rw [hk]; decide), if_neg (by rw [hk]; decide), if_neg (by rw [hk]; decide), if_neg (by rw [hk]; decide), if_neg (by rw [hk]; decide), if_neg (by rw [hk]; decide), if_neg (by rw [hk]; decide), if_neg (by rw [hk]; decide), if_neg (by rw [hk]; decide), if_neg (by rw [hk]; decide), if_neg (by rw [hk]; decide), if_pos hk]
theorem clP106 {h : am_H} {C : tCl} {q : Nat} (hk : clk q = 106) (h2 : 1000 ≤ q) : (clPut h C).1 q = some (.inl (6, cln q, .inr (.inr (.inr (.inr (fun i => if i < cln q then some (C.2.2.2 q i) else none)))))) := by
  rw [clPut_i (clk_in (by rw [hk]; decide) h2)]
  unfold clCell
  rw [if_neg (by rw [hk]; decide), if_neg (by rw [hk]; decide), if_neg (by rw [hk]; decide), if_neg (by rw [hk]; decide), if_neg (by rw [hk]; decide), if_neg (by rw [hk]; decide), if_neg (by rw [hk]; decide), if_neg (by rw [hk]; decide), if_neg (by rw [hk]; decide), if_neg (by rw [hk]; decide), if_neg (by rw [hk]; decide), if_neg (by rw [hk]; decide), if_neg (by rw [hk]; decide), if_neg (by rw [hk]; decide), if_neg (by rw [hk]; decide), if_pos hk]
/-- one int field, one row, one long, one reference anew -/
def upI (C : tCl) (a k : Nat) (v : Int) : tCl := (fun q j => if q = a then (if j = k then v else C.1 q j) else C.1 q j, C.2)
def upA (C : tCl) (a : Nat) (f : Nat → Int) : tCl := (C.1, fun q => if q = a then f else C.2.1 q, C.2.2)
def upJ (C : tCl) (a k : Nat) (v : Int64) : tCl := (C.1, C.2.1, fun q j => if q = a then (if j = k then v else C.2.2.1 q j) else C.2.2.1 q j, C.2.2.2)
def upR (C : tCl) (a k v : Nat) : tCl := (C.1, C.2.1, C.2.2.1, fun q j => if q = a then (if j = k then v else C.2.2.2 q j) else C.2.2.2 q j)
theorem cl_set {h : am_H} {C D : tCl} {a : Nat} {e : am_C} (ha : 1000 ≤ a ∧ a ≤ 1314 ∧ a ≠ 1259) (he : clCell D a = some e) (ho : ∀ q, q ≠ a → clCell D q = clCell C q) : am_set (clPut h C) a e = clPut h D := by
  refine Prod.ext (funext fun q => ?_) rfl
  show (if q = a then some e else (if 1000 ≤ q ∧ q ≤ 1314 ∧ q ≠ 1259 then clCell C q else h.1 q)) = (if 1000 ≤ q ∧ q ≤ 1314 ∧ q ≠ 1259 then clCell D q else h.1 q)
  by_cases hq : q = a
  · subst hq
    rw [if_pos rfl, if_pos ha, he]
  · rw [if_neg hq]
    split
    · exact (ho q hq).symm
    · rfl
theorem cl_setA {h : am_H} {C : tCl} {a n : Nat} {f : Nat → Int} (hk : clk a = 100) (h2 : 1000 ≤ a) (hn : cln a = n) : am_set (clPut h C) a (.inl (0, n, .inl (fun i => wI (f i)))) = clPut h (upA C a f) := by
  subst hn
  refine cl_set (clk_in (by rw [hk]; decide) h2) ?_ (fun q hq => ?_)
  · have e := clP100 (h := h) (C := upA C a f) hk h2
    rw [clPut_i (clk_in (by rw [hk]; decide) h2)] at e
    rw [e]
    simp only [upA, if_true]
  · unfold clCell clL0 clL1 clL2 clL3 clL4 clL5 clL6 clL7 clL9 clL11
    simp only [upA, hq, if_false]
theorem cl_setZ {h : am_H} {C : tCl} {a n : Nat} {f : Nat → Int} (hk : clk a = 102) (h2 : 1000 ≤ a) (hn : cln a = n) : am_set (clPut h C) a (.inl (2, n, .inl (fun i => wI (f i)))) = clPut h (upA C a f) := by
  subst hn
  refine cl_set (clk_in (by rw [hk]; decide) h2) ?_ (fun q hq => ?_)
  · have e := clP102 (h := h) (C := upA C a f) hk h2
    rw [clPut_i (clk_in (by rw [hk]; decide) h2)] at e
    rw [e]
    simp only [upA, if_true]
  · unfold clCell clL0 clL1 clL2 clL3 clL4 clL5 clL6 clL7 clL9 clL11
    simp only [upA, hq, if_false]
theorem cl_setB {h : am_H} {C : tCl} {a n : Nat} {f : Nat → Int} (hk : clk a = 101) (h2 : 1000 ≤ a) (hn : cln a = n) : am_set (clPut h C) a (.inl (1, n, .inl (fun i => wI (f i)))) = clPut h (upA C a f) := by
  subst hn
  refine cl_set (clk_in (by rw [hk]; decide) h2) ?_ (fun q hq => ?_)
  · have e := clP101 (h := h) (C := upA C a f) hk h2
    rw [clPut_i (clk_in (by rw [hk]; decide) h2)] at e
    rw [e]
    simp only [upA, if_true]
  · unfold clCell clL0 clL1 clL2 clL3 clL4 clL5 clL6 clL7 clL9 clL11
    simp only [upA, hq, if_false]
/-- an object of kind c anew, its int field k another -/
theorem cl_setI {h : am_H} {C : tCl} {a k c : Nat} {v : Int} {L : List Value} (hk : clk a ≠ 99) (h2 : 1000 ≤ a) (he : clCell (upI C a k v) a = some (.inr (c, L))) : am_set (clPut h C) a (.inr (c, L)) = clPut h (upI C a k v) := by
  refine cl_set (clk_in hk h2) he (fun q hq => ?_)
  unfold clCell clL0 clL1 clL2 clL3 clL4 clL5 clL6 clL7 clL9 clL11
  simp only [upI, hq, if_false]
theorem cl_setR {h : am_H} {C : tCl} {a k c v : Nat} {L : List Value} (hk : clk a ≠ 99) (h2 : 1000 ≤ a) (he : clCell (upR C a k v) a = some (.inr (c, L))) : am_set (clPut h C) a (.inr (c, L)) = clPut h (upR C a k v) := by
  refine cl_set (clk_in hk h2) he (fun q hq => ?_)
  unfold clCell clL0 clL1 clL2 clL3 clL4 clL5 clL6 clL7 clL9 clL11
  simp only [upR, hq, if_false]
theorem cl_setJ {h : am_H} {C : tCl} {a k c : Nat} {v : Int64} {L : List Value} (hk : clk a ≠ 99) (h2 : 1000 ≤ a) (he : clCell (upJ C a k v) a = some (.inr (c, L))) : am_set (clPut h C) a (.inr (c, L)) = clPut h (upJ C a k v) := by
  refine cl_set (clk_in hk h2) he (fun q hq => ?_)
  unfold clCell clL0 clL1 clL2 clL3 clL4 clL5 clL6 clL7 clL9 clL11
  simp only [upJ, hq, if_false]
/-- a photo of the class -/
def cph (C : tCl) (a : Nat) : tPh := (C.1 a, fun c => if c < 4 then C.2.1 (a + 1 + c) else fun _ => 0)
def isPh (a : Nat) : Prop := clk a = 6 ∧ clk (a + 1) = 100 ∧ clk (a + 2) = 100 ∧ clk (a + 3) = 102 ∧ clk (a + 4) = 100 ∧ cln (a + 1) = 12 ∧ cln (a + 2) = 12 ∧ cln (a + 3) = 12 ∧ cln (a + 4) = 12 ∧ 1000 ≤ a ∧ a + 4 ≤ 1314
theorem cl_ph {h : am_H} {C : tCl} {a : Nat} (ha : isPh a) : phAt (clPut h C) a (cph C a) := by
  obtain ⟨k0, k1, k2, k3, k4, n1, n2, n3, n4, h2, -⟩ := ha
  refine ⟨clP6 k0 h2, ?_, ?_, ?_, ?_⟩
  · rw [clP100 k1 (by omega), n1]; rfl
  · rw [clP100 k2 (by omega), n2]; rfl
  · rw [clP102 k3 (by omega), n3]; rfl
  · rw [clP100 k4 (by omega), n4]; rfl
/-- where the states lie -/
def stS : List Nat := [1007, 1038, 1094, 1121, 1148, 1175, 1202, 1229, 1261, 1288]
def isSt (s : Nat) : Prop := s ∈ stS
theorem isSt_ph {s : Nat} (hs : isSt s) {i : Nat} (hi : i < 5) : isPh (s + 2 + 5 * i) := by
  have key : ∀ s ∈ stS, ∀ i : Fin 5, (clk (s + 2 + 5 * i.val) = 6 ∧ clk (s + 2 + 5 * i.val + 1) = 100 ∧ clk (s + 2 + 5 * i.val + 2) = 100 ∧ clk (s + 2 + 5 * i.val + 3) = 102 ∧ clk (s + 2 + 5 * i.val + 4) = 100 ∧ cln (s + 2 + 5 * i.val + 1) = 12 ∧ cln (s + 2 + 5 * i.val + 2) = 12 ∧ cln (s + 2 + 5 * i.val + 3) = 12 ∧ cln (s + 2 + 5 * i.val + 4) = 12 ∧ 1000 ≤ s + 2 + 5 * i.val ∧ s + 2 + 5 * i.val + 4 ≤ 1314) := by decide +kernel
  exact key s hs ⟨i, hi⟩
theorem isSt_k {s : Nat} (hs : isSt s) : clk s = 9 ∧ clk (s + 1) = 105 ∧ 1007 ≤ s ∧ s ≤ 1288 := by
  have key : ∀ s ∈ stS, clk s = 9 ∧ clk (s + 1) = 105 ∧ 1007 ≤ s ∧ s ≤ 1288 := by decide +kernel
  exact key s hs
theorem isPh_draft : isPh 1065 := by unfold isPh; decide +kernel
