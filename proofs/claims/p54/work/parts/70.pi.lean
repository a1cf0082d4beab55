/-! ===== a picture of the class (P = 1070 or 1081; p.1 0 its people, p.1 1 its rows, p.2 0 .. 9 its rows of numbers: x, y, order, row, place, byRows, rowStart, keys, reach, links) (printed by wip/gen/genpi.py) ===== -/
abbrev tPi : Type := (Nat → Int) × (Nat → Nat → Int)
def piPut (C : tCl) (P : Nat) (p : tPi) : tCl := (fun q => if q = P then p.1 else C.1 q, fun q => if P + 1 ≤ q ∧ q ≤ P + 10 then p.2 (q - (P + 1)) else C.2.1 q, C.2.2)
def piGet (C : tCl) (P : Nat) : tPi := (C.1 P, fun c => C.2.1 (P + 1 + c))
def isPi (P : Nat) : Prop := P = 1070 ∨ P = 1081
theorem isPi_k {P : Nat} (hP : isPi P) : clk P = 4 ∧ 1000 ≤ P ∧ clk (P + 1) = 100 ∧ clk (P + 2) = 100 ∧ clk (P + 3) = 100 ∧ clk (P + 4) = 100 ∧ clk (P + 5) = 100 ∧ clk (P + 6) = 100 ∧ clk (P + 7) = 100 ∧ clk (P + 8) = 100 ∧ clk (P + 9) = 100 ∧ clk (P + 10) = 100 ∧ cln (P + 1) = 12 ∧ cln (P + 2) = 12 ∧ cln (P + 3) = 12 ∧ cln (P + 4) = 12 ∧ cln (P + 5) = 12 ∧ cln (P + 6) = 12 ∧ cln (P + 7) = 13 ∧ cln (P + 8) = 12 ∧ cln (P + 9) = 12 ∧ cln (P + 10) = 12 := by
  rcases hP with rfl | rfl <;> decide +kernel
theorem piPut_get (C : tCl) (P : Nat) : piPut C P (piGet C P) = C := by
  refine Prod.ext (funext fun q => ?_) (Prod.ext (funext fun q => ?_) rfl)
  · show (if q = P then C.1 P else C.1 q) = C.1 q
    split
    · rename_i h; rw [h]
    · rfl
  · show (if P + 1 ≤ q ∧ q ≤ P + 10 then C.2.1 (P + 1 + (q - (P + 1))) else C.2.1 q) = C.2.1 q
    split
    · rw [show P + 1 + (q - (P + 1)) = q by omega]
    · rfl
theorem piPut_put (C : tCl) (P : Nat) (p r : tPi) : piPut (piPut C P p) P r = piPut C P r := by
  refine Prod.ext (funext fun q => ?_) (Prod.ext (funext fun q => ?_) rfl)
  · simp only [piPut]; split <;> rfl
  · simp only [piPut]; split <;> rfl
theorem piPut_1 {C : tCl} {P q : Nat} {p : tPi} (h : q ≠ P) : (piPut C P p).1 q = C.1 q := if_neg h
theorem piPut_2 {C : tCl} {P q : Nat} {p : tPi} (h : q < P + 1 ∨ P + 10 < q) : (piPut C P p).2.1 q = C.2.1 q := if_neg (by omega)
theorem piPut_3 (C : tCl) (P : Nat) (p : tPi) : (piPut C P p).2.2 = C.2.2 := rfl
theorem piPut_ph {C : tCl} {P a : Nat} {p : tPi} (h : a + 4 < P ∨ P + 10 < a) : cph (piPut C P p) a = cph C a := by
  unfold cph
  rw [piPut_1 (by omega)]
  refine Prod.ext rfl (funext fun c => ?_)
  dsimp only
  by_cases e : c < 4
  · rw [if_pos e, if_pos e, piPut_2 (by omega)]
  · rw [if_neg e, if_neg e]
def upC (G : Nat → Nat → Int) (c : Nat) (f : Nat → Int) : Nat → Nat → Int := fun j => if j = c then f else G j
theorem upC_e (G : Nat → Nat → Int) (c : Nat) (f : Nat → Int) : upC G c f c = f := if_pos rfl
theorem upC_n {G : Nat → Nat → Int} {c j : Nat} {f : Nat → Int} (h : j ≠ c) : upC G c f j = G j := if_neg h
theorem upC_up (G : Nat → Nat → Int) (c : Nat) (f g : Nat → Int) : upC (upC G c f) c g = upC G c g := by
  funext j; unfold upC; split <;> rfl
theorem upC_self (G : Nat → Nat → Int) (c : Nat) : upC G c (G c) = G := by
  funext j; unfold upC; split
  · rename_i h; rw [h]
  · rfl
theorem cl_cg {h : am_H} {C D : tCl} (e : C = D) : some (clPut h C) = some (clPut h D) := by rw [e]
theorem ru_ctR {a : Nat} : ((Value.ref a).category = 1) = True := eq_true rfl
theorem ru_ctI {a : Int32} : ((Value.int a).category = 1) = True := eq_true rfl
section PIF
variable {h : am_H} {C : tCl} {P : Nat} {p : tPi}
theorem pi_e (hP : isPi P) : (clPut h (piPut C P p)).1 P = some (.inr (4, clL4 (piPut C P p) P)) := clP4 (isPi_k hP).1 (isPi_k hP).2.1
theorem pi_f0 (hP : isPi P) : am_fd (clPut h (piPut C P p)) P 4 0 = some (.int (wI (p.1 0))) := by
  rw [cl_f4_0 (isPi_k hP).1 (isPi_k hP).2.1]
  simp only [piPut, if_true]
theorem pi_s0 (hP : isPi P) {v : Int} : am_pf (clPut h (piPut C P p)) P 4 0 0 (.int (wI v)) = some (clPut h (piPut C P (up1 p.1 0 v, p.2))) := by
  rw [cl_p4_0 (isPi_k hP).1 (isPi_k hP).2.1]
  refine cl_cg (Prod.ext (funext fun q => funext fun j => ?_) rfl)
  simp only [piPut, upI, up1]
  by_cases e : q = P
  · simp only [e, if_true]; rfl
  · simp only [e, if_false]
theorem pi_f1 (hP : isPi P) : am_fd (clPut h (piPut C P p)) P 4 1 = some (.int (wI (p.1 1))) := by
  rw [cl_f4_1 (isPi_k hP).1 (isPi_k hP).2.1]
  simp only [piPut, if_true]
theorem pi_s1 (hP : isPi P) {v : Int} : am_pf (clPut h (piPut C P p)) P 4 1 0 (.int (wI v)) = some (clPut h (piPut C P (up1 p.1 1 v, p.2))) := by
  rw [cl_p4_1 (isPi_k hP).1 (isPi_k hP).2.1]
  refine cl_cg (Prod.ext (funext fun q => funext fun j => ?_) rfl)
  simp only [piPut, upI, up1]
  by_cases e : q = P
  · simp only [e, if_true]; rfl
  · simp only [e, if_false]
theorem pi_f2 (hP : isPi P) : am_fd (clPut h (piPut C P p)) P 4 2 = some (.ref (P + 1)) := cl_f4_2 (isPi_k hP).1 (isPi_k hP).2.1
theorem pi_a0 (hP : isPi P) {i : Int} (h1 : 0 ≤ i) (h2 : i < 12) : am_ia (clPut h (piPut C P p)) (P + 1) (wI i) = some (wI (p.2 0 i.toNat)) := by
  have k := (isPi_k hP).2.2.1
  have n := (isPi_k hP).2.2.2.2.2.2.2.2.2.2.2.2.1
  have hb : 1000 ≤ P := (isPi_k hP).2.1
  rw [cl_a k (by omega) h1 (by rw [n]; exact h2) (by omega)]
  simp only [piPut]
  rw [if_pos (by omega), show P + 1 - (P + 1) = 0 by omega]
theorem pi_w0 (hP : isPi P) {i v : Int} (h1 : 0 ≤ i) (h2 : i < 12) : am_is (clPut h (piPut C P p)) (P + 1) (wI i) (wI v) = some (clPut h (piPut C P (p.1, upC p.2 0 (up1 (p.2 0) i.toNat v)))) := by
  have k := (isPi_k hP).2.2.1
  have n := (isPi_k hP).2.2.2.2.2.2.2.2.2.2.2.2.1
  have hb : 1000 ≤ P := (isPi_k hP).2.1
  rw [cl_w k (by omega) h1 (by rw [n]; exact h2) (by omega)]
  refine cl_cg (Prod.ext rfl (Prod.ext (funext fun q => ?_) rfl))
  simp only [piPut, upA, upC]
  by_cases e : q = P + 1
  · subst e
    rw [if_pos rfl, if_pos (by omega), if_pos (by omega), if_pos (by omega), show P + 1 - (P + 1) = 0 by omega]
    rfl
  · rw [if_neg e]
    by_cases e2 : P + 1 ≤ q ∧ q ≤ P + 10
    · rw [if_pos e2, if_pos e2, if_neg (by omega)]
    · rw [if_neg e2, if_neg e2]
theorem pi_f3 (hP : isPi P) : am_fd (clPut h (piPut C P p)) P 4 3 = some (.ref (P + 2)) := cl_f4_3 (isPi_k hP).1 (isPi_k hP).2.1
theorem pi_a1 (hP : isPi P) {i : Int} (h1 : 0 ≤ i) (h2 : i < 12) : am_ia (clPut h (piPut C P p)) (P + 2) (wI i) = some (wI (p.2 1 i.toNat)) := by
  have k := (isPi_k hP).2.2.2.1
  have n := (isPi_k hP).2.2.2.2.2.2.2.2.2.2.2.2.2.1
  have hb : 1000 ≤ P := (isPi_k hP).2.1
  rw [cl_a k (by omega) h1 (by rw [n]; exact h2) (by omega)]
  simp only [piPut]
  rw [if_pos (by omega), show P + 2 - (P + 1) = 1 by omega]
theorem pi_w1 (hP : isPi P) {i v : Int} (h1 : 0 ≤ i) (h2 : i < 12) : am_is (clPut h (piPut C P p)) (P + 2) (wI i) (wI v) = some (clPut h (piPut C P (p.1, upC p.2 1 (up1 (p.2 1) i.toNat v)))) := by
  have k := (isPi_k hP).2.2.2.1
  have n := (isPi_k hP).2.2.2.2.2.2.2.2.2.2.2.2.2.1
  have hb : 1000 ≤ P := (isPi_k hP).2.1
  rw [cl_w k (by omega) h1 (by rw [n]; exact h2) (by omega)]
  refine cl_cg (Prod.ext rfl (Prod.ext (funext fun q => ?_) rfl))
  simp only [piPut, upA, upC]
  by_cases e : q = P + 2
  · subst e
    rw [if_pos rfl, if_pos (by omega), if_pos (by omega), if_pos (by omega), show P + 2 - (P + 1) = 1 by omega]
    rfl
  · rw [if_neg e]
    by_cases e2 : P + 1 ≤ q ∧ q ≤ P + 10
    · rw [if_pos e2, if_pos e2, if_neg (by omega)]
    · rw [if_neg e2, if_neg e2]
theorem pi_f4 (hP : isPi P) : am_fd (clPut h (piPut C P p)) P 4 4 = some (.ref (P + 3)) := cl_f4_4 (isPi_k hP).1 (isPi_k hP).2.1
theorem pi_a2 (hP : isPi P) {i : Int} (h1 : 0 ≤ i) (h2 : i < 12) : am_ia (clPut h (piPut C P p)) (P + 3) (wI i) = some (wI (p.2 2 i.toNat)) := by
  have k := (isPi_k hP).2.2.2.2.1
  have n := (isPi_k hP).2.2.2.2.2.2.2.2.2.2.2.2.2.2.1
  have hb : 1000 ≤ P := (isPi_k hP).2.1
  rw [cl_a k (by omega) h1 (by rw [n]; exact h2) (by omega)]
  simp only [piPut]
  rw [if_pos (by omega), show P + 3 - (P + 1) = 2 by omega]
theorem pi_w2 (hP : isPi P) {i v : Int} (h1 : 0 ≤ i) (h2 : i < 12) : am_is (clPut h (piPut C P p)) (P + 3) (wI i) (wI v) = some (clPut h (piPut C P (p.1, upC p.2 2 (up1 (p.2 2) i.toNat v)))) := by
  have k := (isPi_k hP).2.2.2.2.1
  have n := (isPi_k hP).2.2.2.2.2.2.2.2.2.2.2.2.2.2.1
  have hb : 1000 ≤ P := (isPi_k hP).2.1
  rw [cl_w k (by omega) h1 (by rw [n]; exact h2) (by omega)]
  refine cl_cg (Prod.ext rfl (Prod.ext (funext fun q => ?_) rfl))
  simp only [piPut, upA, upC]
  by_cases e : q = P + 3
  · subst e
    rw [if_pos rfl, if_pos (by omega), if_pos (by omega), if_pos (by omega), show P + 3 - (P + 1) = 2 by omega]
    rfl
  · rw [if_neg e]
    by_cases e2 : P + 1 ≤ q ∧ q ≤ P + 10
    · rw [if_pos e2, if_pos e2, if_neg (by omega)]
    · rw [if_neg e2, if_neg e2]
theorem pi_f5 (hP : isPi P) : am_fd (clPut h (piPut C P p)) P 4 5 = some (.ref (P + 4)) := cl_f4_5 (isPi_k hP).1 (isPi_k hP).2.1
theorem pi_a3 (hP : isPi P) {i : Int} (h1 : 0 ≤ i) (h2 : i < 12) : am_ia (clPut h (piPut C P p)) (P + 4) (wI i) = some (wI (p.2 3 i.toNat)) := by
  have k := (isPi_k hP).2.2.2.2.2.1
  have n := (isPi_k hP).2.2.2.2.2.2.2.2.2.2.2.2.2.2.2.1
  have hb : 1000 ≤ P := (isPi_k hP).2.1
  rw [cl_a k (by omega) h1 (by rw [n]; exact h2) (by omega)]
  simp only [piPut]
  rw [if_pos (by omega), show P + 4 - (P + 1) = 3 by omega]
theorem pi_w3 (hP : isPi P) {i v : Int} (h1 : 0 ≤ i) (h2 : i < 12) : am_is (clPut h (piPut C P p)) (P + 4) (wI i) (wI v) = some (clPut h (piPut C P (p.1, upC p.2 3 (up1 (p.2 3) i.toNat v)))) := by
  have k := (isPi_k hP).2.2.2.2.2.1
  have n := (isPi_k hP).2.2.2.2.2.2.2.2.2.2.2.2.2.2.2.1
  have hb : 1000 ≤ P := (isPi_k hP).2.1
  rw [cl_w k (by omega) h1 (by rw [n]; exact h2) (by omega)]
  refine cl_cg (Prod.ext rfl (Prod.ext (funext fun q => ?_) rfl))
  simp only [piPut, upA, upC]
  by_cases e : q = P + 4
  · subst e
    rw [if_pos rfl, if_pos (by omega), if_pos (by omega), if_pos (by omega), show P + 4 - (P + 1) = 3 by omega]
    rfl
  · rw [if_neg e]
    by_cases e2 : P + 1 ≤ q ∧ q ≤ P + 10
    · rw [if_pos e2, if_pos e2, if_neg (by omega)]
    · rw [if_neg e2, if_neg e2]
theorem pi_f6 (hP : isPi P) : am_fd (clPut h (piPut C P p)) P 4 6 = some (.ref (P + 5)) := cl_f4_6 (isPi_k hP).1 (isPi_k hP).2.1
theorem pi_a4 (hP : isPi P) {i : Int} (h1 : 0 ≤ i) (h2 : i < 12) : am_ia (clPut h (piPut C P p)) (P + 5) (wI i) = some (wI (p.2 4 i.toNat)) := by
  have k := (isPi_k hP).2.2.2.2.2.2.1
  have n := (isPi_k hP).2.2.2.2.2.2.2.2.2.2.2.2.2.2.2.2.1
  have hb : 1000 ≤ P := (isPi_k hP).2.1
  rw [cl_a k (by omega) h1 (by rw [n]; exact h2) (by omega)]
  simp only [piPut]
  rw [if_pos (by omega), show P + 5 - (P + 1) = 4 by omega]
theorem pi_w4 (hP : isPi P) {i v : Int} (h1 : 0 ≤ i) (h2 : i < 12) : am_is (clPut h (piPut C P p)) (P + 5) (wI i) (wI v) = some (clPut h (piPut C P (p.1, upC p.2 4 (up1 (p.2 4) i.toNat v)))) := by
  have k := (isPi_k hP).2.2.2.2.2.2.1
  have n := (isPi_k hP).2.2.2.2.2.2.2.2.2.2.2.2.2.2.2.2.1
  have hb : 1000 ≤ P := (isPi_k hP).2.1
  rw [cl_w k (by omega) h1 (by rw [n]; exact h2) (by omega)]
  refine cl_cg (Prod.ext rfl (Prod.ext (funext fun q => ?_) rfl))
  simp only [piPut, upA, upC]
  by_cases e : q = P + 5
  · subst e
    rw [if_pos rfl, if_pos (by omega), if_pos (by omega), if_pos (by omega), show P + 5 - (P + 1) = 4 by omega]
    rfl
  · rw [if_neg e]
    by_cases e2 : P + 1 ≤ q ∧ q ≤ P + 10
    · rw [if_pos e2, if_pos e2, if_neg (by omega)]
    · rw [if_neg e2, if_neg e2]
theorem pi_f7 (hP : isPi P) : am_fd (clPut h (piPut C P p)) P 4 7 = some (.ref (P + 6)) := cl_f4_7 (isPi_k hP).1 (isPi_k hP).2.1
theorem pi_a5 (hP : isPi P) {i : Int} (h1 : 0 ≤ i) (h2 : i < 12) : am_ia (clPut h (piPut C P p)) (P + 6) (wI i) = some (wI (p.2 5 i.toNat)) := by
  have k := (isPi_k hP).2.2.2.2.2.2.2.1
  have n := (isPi_k hP).2.2.2.2.2.2.2.2.2.2.2.2.2.2.2.2.2.1
  have hb : 1000 ≤ P := (isPi_k hP).2.1
  rw [cl_a k (by omega) h1 (by rw [n]; exact h2) (by omega)]
  simp only [piPut]
  rw [if_pos (by omega), show P + 6 - (P + 1) = 5 by omega]
theorem pi_w5 (hP : isPi P) {i v : Int} (h1 : 0 ≤ i) (h2 : i < 12) : am_is (clPut h (piPut C P p)) (P + 6) (wI i) (wI v) = some (clPut h (piPut C P (p.1, upC p.2 5 (up1 (p.2 5) i.toNat v)))) := by
  have k := (isPi_k hP).2.2.2.2.2.2.2.1
  have n := (isPi_k hP).2.2.2.2.2.2.2.2.2.2.2.2.2.2.2.2.2.1
  have hb : 1000 ≤ P := (isPi_k hP).2.1
  rw [cl_w k (by omega) h1 (by rw [n]; exact h2) (by omega)]
  refine cl_cg (Prod.ext rfl (Prod.ext (funext fun q => ?_) rfl))
  simp only [piPut, upA, upC]
  by_cases e : q = P + 6
  · subst e
    rw [if_pos rfl, if_pos (by omega), if_pos (by omega), if_pos (by omega), show P + 6 - (P + 1) = 5 by omega]
    rfl
  · rw [if_neg e]
    by_cases e2 : P + 1 ≤ q ∧ q ≤ P + 10
    · rw [if_pos e2, if_pos e2, if_neg (by omega)]
    · rw [if_neg e2, if_neg e2]
theorem pi_f8 (hP : isPi P) : am_fd (clPut h (piPut C P p)) P 4 8 = some (.ref (P + 7)) := cl_f4_8 (isPi_k hP).1 (isPi_k hP).2.1
theorem pi_a6 (hP : isPi P) {i : Int} (h1 : 0 ≤ i) (h2 : i < 13) : am_ia (clPut h (piPut C P p)) (P + 7) (wI i) = some (wI (p.2 6 i.toNat)) := by
  have k := (isPi_k hP).2.2.2.2.2.2.2.2.1
  have n := (isPi_k hP).2.2.2.2.2.2.2.2.2.2.2.2.2.2.2.2.2.2.1
  have hb : 1000 ≤ P := (isPi_k hP).2.1
  rw [cl_a k (by omega) h1 (by rw [n]; exact h2) (by omega)]
  simp only [piPut]
  rw [if_pos (by omega), show P + 7 - (P + 1) = 6 by omega]
theorem pi_w6 (hP : isPi P) {i v : Int} (h1 : 0 ≤ i) (h2 : i < 13) : am_is (clPut h (piPut C P p)) (P + 7) (wI i) (wI v) = some (clPut h (piPut C P (p.1, upC p.2 6 (up1 (p.2 6) i.toNat v)))) := by
  have k := (isPi_k hP).2.2.2.2.2.2.2.2.1
  have n := (isPi_k hP).2.2.2.2.2.2.2.2.2.2.2.2.2.2.2.2.2.2.1
  have hb : 1000 ≤ P := (isPi_k hP).2.1
  rw [cl_w k (by omega) h1 (by rw [n]; exact h2) (by omega)]
  refine cl_cg (Prod.ext rfl (Prod.ext (funext fun q => ?_) rfl))
  simp only [piPut, upA, upC]
  by_cases e : q = P + 7
  · subst e
    rw [if_pos rfl, if_pos (by omega), if_pos (by omega), if_pos (by omega), show P + 7 - (P + 1) = 6 by omega]
    rfl
  · rw [if_neg e]
    by_cases e2 : P + 1 ≤ q ∧ q ≤ P + 10
    · rw [if_pos e2, if_pos e2, if_neg (by omega)]
    · rw [if_neg e2, if_neg e2]
theorem pi_f9 (hP : isPi P) : am_fd (clPut h (piPut C P p)) P 4 9 = some (.ref (P + 8)) := cl_f4_9 (isPi_k hP).1 (isPi_k hP).2.1
theorem pi_a7 (hP : isPi P) {i : Int} (h1 : 0 ≤ i) (h2 : i < 12) : am_ia (clPut h (piPut C P p)) (P + 8) (wI i) = some (wI (p.2 7 i.toNat)) := by
  have k := (isPi_k hP).2.2.2.2.2.2.2.2.2.1
  have n := (isPi_k hP).2.2.2.2.2.2.2.2.2.2.2.2.2.2.2.2.2.2.2.1
  have hb : 1000 ≤ P := (isPi_k hP).2.1
  rw [cl_a k (by omega) h1 (by rw [n]; exact h2) (by omega)]
  simp only [piPut]
  rw [if_pos (by omega), show P + 8 - (P + 1) = 7 by omega]
theorem pi_w7 (hP : isPi P) {i v : Int} (h1 : 0 ≤ i) (h2 : i < 12) : am_is (clPut h (piPut C P p)) (P + 8) (wI i) (wI v) = some (clPut h (piPut C P (p.1, upC p.2 7 (up1 (p.2 7) i.toNat v)))) := by
  have k := (isPi_k hP).2.2.2.2.2.2.2.2.2.1
  have n := (isPi_k hP).2.2.2.2.2.2.2.2.2.2.2.2.2.2.2.2.2.2.2.1
  have hb : 1000 ≤ P := (isPi_k hP).2.1
  rw [cl_w k (by omega) h1 (by rw [n]; exact h2) (by omega)]
  refine cl_cg (Prod.ext rfl (Prod.ext (funext fun q => ?_) rfl))
  simp only [piPut, upA, upC]
  by_cases e : q = P + 8
  · subst e
    rw [if_pos rfl, if_pos (by omega), if_pos (by omega), if_pos (by omega), show P + 8 - (P + 1) = 7 by omega]
    rfl
  · rw [if_neg e]
    by_cases e2 : P + 1 ≤ q ∧ q ≤ P + 10
    · rw [if_pos e2, if_pos e2, if_neg (by omega)]
    · rw [if_neg e2, if_neg e2]
theorem pi_f10 (hP : isPi P) : am_fd (clPut h (piPut C P p)) P 4 10 = some (.ref (P + 9)) := cl_f4_10 (isPi_k hP).1 (isPi_k hP).2.1
theorem pi_a8 (hP : isPi P) {i : Int} (h1 : 0 ≤ i) (h2 : i < 12) : am_ia (clPut h (piPut C P p)) (P + 9) (wI i) = some (wI (p.2 8 i.toNat)) := by
  have k := (isPi_k hP).2.2.2.2.2.2.2.2.2.2.1
  have n := (isPi_k hP).2.2.2.2.2.2.2.2.2.2.2.2.2.2.2.2.2.2.2.2.1
  have hb : 1000 ≤ P := (isPi_k hP).2.1
  rw [cl_a k (by omega) h1 (by rw [n]; exact h2) (by omega)]
  simp only [piPut]
  rw [if_pos (by omega), show P + 9 - (P + 1) = 8 by omega]
theorem pi_w8 (hP : isPi P) {i v : Int} (h1 : 0 ≤ i) (h2 : i < 12) : am_is (clPut h (piPut C P p)) (P + 9) (wI i) (wI v) = some (clPut h (piPut C P (p.1, upC p.2 8 (up1 (p.2 8) i.toNat v)))) := by
  have k := (isPi_k hP).2.2.2.2.2.2.2.2.2.2.1
  have n := (isPi_k hP).2.2.2.2.2.2.2.2.2.2.2.2.2.2.2.2.2.2.2.2.1
  have hb : 1000 ≤ P := (isPi_k hP).2.1
  rw [cl_w k (by omega) h1 (by rw [n]; exact h2) (by omega)]
  refine cl_cg (Prod.ext rfl (Prod.ext (funext fun q => ?_) rfl))
  simp only [piPut, upA, upC]
  by_cases e : q = P + 9
  · subst e
    rw [if_pos rfl, if_pos (by omega), if_pos (by omega), if_pos (by omega), show P + 9 - (P + 1) = 8 by omega]
    rfl
  · rw [if_neg e]
    by_cases e2 : P + 1 ≤ q ∧ q ≤ P + 10
    · rw [if_pos e2, if_pos e2, if_neg (by omega)]
    · rw [if_neg e2, if_neg e2]
theorem pi_f11 (hP : isPi P) : am_fd (clPut h (piPut C P p)) P 4 11 = some (.ref (P + 10)) := cl_f4_11 (isPi_k hP).1 (isPi_k hP).2.1
theorem pi_a9 (hP : isPi P) {i : Int} (h1 : 0 ≤ i) (h2 : i < 12) : am_ia (clPut h (piPut C P p)) (P + 10) (wI i) = some (wI (p.2 9 i.toNat)) := by
  have k := (isPi_k hP).2.2.2.2.2.2.2.2.2.2.2.1
  have n := (isPi_k hP).2.2.2.2.2.2.2.2.2.2.2.2.2.2.2.2.2.2.2.2.2
  have hb : 1000 ≤ P := (isPi_k hP).2.1
  rw [cl_a k (by omega) h1 (by rw [n]; exact h2) (by omega)]
  simp only [piPut]
  rw [if_pos (by omega), show P + 10 - (P + 1) = 9 by omega]
theorem pi_w9 (hP : isPi P) {i v : Int} (h1 : 0 ≤ i) (h2 : i < 12) : am_is (clPut h (piPut C P p)) (P + 10) (wI i) (wI v) = some (clPut h (piPut C P (p.1, upC p.2 9 (up1 (p.2 9) i.toNat v)))) := by
  have k := (isPi_k hP).2.2.2.2.2.2.2.2.2.2.2.1
  have n := (isPi_k hP).2.2.2.2.2.2.2.2.2.2.2.2.2.2.2.2.2.2.2.2.2
  have hb : 1000 ≤ P := (isPi_k hP).2.1
  rw [cl_w k (by omega) h1 (by rw [n]; exact h2) (by omega)]
  refine cl_cg (Prod.ext rfl (Prod.ext (funext fun q => ?_) rfl))
  simp only [piPut, upA, upC]
  by_cases e : q = P + 10
  · subst e
    rw [if_pos rfl, if_pos (by omega), if_pos (by omega), if_pos (by omega), show P + 10 - (P + 1) = 9 by omega]
    rfl
  · rw [if_neg e]
    by_cases e2 : P + 1 ≤ q ∧ q ≤ P + 10
    · rw [if_pos e2, if_pos e2, if_neg (by omega)]
    · rw [if_neg e2, if_neg e2]
end PIF
