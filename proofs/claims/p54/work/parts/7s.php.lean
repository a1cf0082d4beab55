/-! ===== a photo of the class as a value that changes (printed by wip/gen/genphp.py) ===== -/
def phP (C : tCl) (a : Nat) (q : tPh) : tCl := (fun b => if b = a then q.1 else C.1 b, fun b => if a + 1 ≤ b ∧ b ≤ a + 4 then q.2 (b - (a + 1)) else C.2.1 b, C.2.2)
theorem phP_get (C : tCl) (a : Nat) : phP C a (cph C a) = C := by
  refine Prod.ext (funext fun q => ?_) (Prod.ext (funext fun q => ?_) rfl)
  · show (if q = a then C.1 a else C.1 q) = C.1 q
    split
    · rename_i h; rw [h]
    · rfl
  · show (if a + 1 ≤ q ∧ q ≤ a + 4 then (if q - (a + 1) < 4 then C.2.1 (a + 1 + (q - (a + 1))) else fun _ => 0) else C.2.1 q) = C.2.1 q
    split
    · rw [if_pos (by omega), show a + 1 + (q - (a + 1)) = q by omega]
    · rfl
theorem phP_1 {C : tCl} {a b : Nat} {q : tPh} (h : b ≠ a) : (phP C a q).1 b = C.1 b := if_neg h
theorem phP_2 {C : tCl} {a b : Nat} {q : tPh} (h : b < a + 1 ∨ a + 4 < b) : (phP C a q).2.1 b = C.2.1 b := if_neg (by omega)
theorem phP_ph {C : tCl} {a b : Nat} {q : tPh} (h : b + 4 < a ∨ a + 4 < b) : cph (phP C a q) b = cph C b := by
  unfold cph
  rw [phP_1 (by omega)]
  refine Prod.ext rfl (funext fun c => ?_)
  dsimp only
  by_cases e : c < 4
  · rw [if_pos e, if_pos e, phP_2 (by omega)]
  · rw [if_neg e, if_neg e]
theorem phP_self {C : tCl} {a : Nat} {q : tPh} : (∀ k, (cph (phP C a q) a).1 k = q.1 k) ∧ ∀ c, c < 4 → (cph (phP C a q) a).2 c = q.2 c := by
  refine ⟨fun k => ?_, fun c hc => ?_⟩
  · show (if a = a then q.1 else C.1 a) k = q.1 k
    rw [if_pos rfl]
  · show (if c < 4 then (phP C a q).2.1 (a + 1 + c) else fun _ => 0) = q.2 c
    rw [if_pos hc]
    show (if a + 1 ≤ a + 1 + c ∧ a + 1 + c ≤ a + 4 then q.2 (a + 1 + c - (a + 1)) else C.2.1 (a + 1 + c)) = q.2 c
    rw [if_pos (by omega), show a + 1 + c - (a + 1) = c by omega]
section PHP
variable {h : am_H} {C : tCl} {a : Nat} {q : tPh}
theorem ph_e (ha : isPh a) : (clPut h (phP C a q)).1 a = some (.inr (6, clL6 (phP C a q) a)) := clP6 ha.1 ha.2.2.2.2.2.2.2.2.2.1
theorem ph_f0 (ha : isPh a) : am_fd (clPut h (phP C a q)) a 6 0 = some (.int (wI (q.1 0))) := by
  rw [cl_f6_0 ha.1 ha.2.2.2.2.2.2.2.2.2.1]
  simp only [phP, if_true]
theorem ph_s0 (ha : isPh a) {v : Int} : am_pf (clPut h (phP C a q)) a 6 0 0 (.int (wI v)) = some (clPut h (phP C a (up1 q.1 0 v, q.2))) := by
  rw [cl_p6_0 ha.1 ha.2.2.2.2.2.2.2.2.2.1]
  refine cl_cg (Prod.ext (funext fun b => funext fun j => ?_) rfl)
  simp only [phP, upI, up1]
  by_cases e : b = a
  · simp only [e, if_true]; rfl
  · simp only [e, if_false]
theorem ph_f1 (ha : isPh a) : am_fd (clPut h (phP C a q)) a 6 1 = some (.int (wI (q.1 1))) := by
  rw [cl_f6_1 ha.1 ha.2.2.2.2.2.2.2.2.2.1]
  simp only [phP, if_true]
theorem ph_s1 (ha : isPh a) {v : Int} : am_pf (clPut h (phP C a q)) a 6 1 0 (.int (wI v)) = some (clPut h (phP C a (up1 q.1 1 v, q.2))) := by
  rw [cl_p6_1 ha.1 ha.2.2.2.2.2.2.2.2.2.1]
  refine cl_cg (Prod.ext (funext fun b => funext fun j => ?_) rfl)
  simp only [phP, upI, up1]
  by_cases e : b = a
  · simp only [e, if_true]; rfl
  · simp only [e, if_false]
theorem ph_f2 (ha : isPh a) : am_fd (clPut h (phP C a q)) a 6 2 = some (.int (wI (q.1 2))) := by
  rw [cl_f6_2 ha.1 ha.2.2.2.2.2.2.2.2.2.1]
  simp only [phP, if_true]
theorem ph_s2 (ha : isPh a) {v : Int} : am_pf (clPut h (phP C a q)) a 6 2 0 (.int (wI v)) = some (clPut h (phP C a (up1 q.1 2 v, q.2))) := by
  rw [cl_p6_2 ha.1 ha.2.2.2.2.2.2.2.2.2.1]
  refine cl_cg (Prod.ext (funext fun b => funext fun j => ?_) rfl)
  simp only [phP, upI, up1]
  by_cases e : b = a
  · simp only [e, if_true]; rfl
  · simp only [e, if_false]
theorem ph_f3 (ha : isPh a) : am_fd (clPut h (phP C a q)) a 6 3 = some (.int (wI (q.1 3))) := by
  rw [cl_f6_3 ha.1 ha.2.2.2.2.2.2.2.2.2.1]
  simp only [phP, if_true]
theorem ph_s3 (ha : isPh a) {v : Int} : am_pf (clPut h (phP C a q)) a 6 3 0 (.int (wI v)) = some (clPut h (phP C a (up1 q.1 3 v, q.2))) := by
  rw [cl_p6_3 ha.1 ha.2.2.2.2.2.2.2.2.2.1]
  refine cl_cg (Prod.ext (funext fun b => funext fun j => ?_) rfl)
  simp only [phP, upI, up1]
  by_cases e : b = a
  · simp only [e, if_true]; rfl
  · simp only [e, if_false]
theorem ph_f4 (ha : isPh a) : am_fd (clPut h (phP C a q)) a 6 4 = some (.int (wI (q.1 4))) := by
  rw [cl_f6_4 ha.1 ha.2.2.2.2.2.2.2.2.2.1]
  simp only [phP, if_true]
theorem ph_s4 (ha : isPh a) {v : Int} : am_pf (clPut h (phP C a q)) a 6 4 0 (.int (wI v)) = some (clPut h (phP C a (up1 q.1 4 v, q.2))) := by
  rw [cl_p6_4 ha.1 ha.2.2.2.2.2.2.2.2.2.1]
  refine cl_cg (Prod.ext (funext fun b => funext fun j => ?_) rfl)
  simp only [phP, upI, up1]
  by_cases e : b = a
  · simp only [e, if_true]; rfl
  · simp only [e, if_false]
theorem ph_f5 (ha : isPh a) : am_fd (clPut h (phP C a q)) a 6 5 = some (.int (wI (q.1 5))) := by
  rw [cl_f6_5 ha.1 ha.2.2.2.2.2.2.2.2.2.1]
  simp only [phP, if_true]
theorem ph_s5 (ha : isPh a) {v : Int} : am_pf (clPut h (phP C a q)) a 6 5 0 (.int (wI v)) = some (clPut h (phP C a (up1 q.1 5 v, q.2))) := by
  rw [cl_p6_5 ha.1 ha.2.2.2.2.2.2.2.2.2.1]
  refine cl_cg (Prod.ext (funext fun b => funext fun j => ?_) rfl)
  simp only [phP, upI, up1]
  by_cases e : b = a
  · simp only [e, if_true]; rfl
  · simp only [e, if_false]
theorem ph_f6 (ha : isPh a) : am_fd (clPut h (phP C a q)) a 6 6 = some (.int (wI (q.1 6))) := by
  rw [cl_f6_6 ha.1 ha.2.2.2.2.2.2.2.2.2.1]
  simp only [phP, if_true]
theorem ph_s6 (ha : isPh a) {v : Int} (h3 : 0 ≤ v) (h4 : v ≤ 1) : am_pf (clPut h (phP C a q)) a 6 6 3 (.int (wI v)) = some (clPut h (phP C a (up1 q.1 6 v, q.2))) := by
  rw [cl_p6_6 ha.1 ha.2.2.2.2.2.2.2.2.2.1 h3 h4]
  refine cl_cg (Prod.ext (funext fun b => funext fun j => ?_) rfl)
  simp only [phP, upI, up1]
  by_cases e : b = a
  · simp only [e, if_true]; rfl
  · simp only [e, if_false]
theorem ph_f7 (ha : isPh a) : am_fd (clPut h (phP C a q)) a 6 7 = some (.int (wI (q.1 7))) := by
  rw [cl_f6_7 ha.1 ha.2.2.2.2.2.2.2.2.2.1]
  simp only [phP, if_true]
theorem ph_s7 (ha : isPh a) {v : Int} : am_pf (clPut h (phP C a q)) a 6 7 0 (.int (wI v)) = some (clPut h (phP C a (up1 q.1 7 v, q.2))) := by
  rw [cl_p6_7 ha.1 ha.2.2.2.2.2.2.2.2.2.1]
  refine cl_cg (Prod.ext (funext fun b => funext fun j => ?_) rfl)
  simp only [phP, upI, up1]
  by_cases e : b = a
  · simp only [e, if_true]; rfl
  · simp only [e, if_false]
theorem ph_f8 (ha : isPh a) : am_fd (clPut h (phP C a q)) a 6 8 = some (.ref (a + 1)) := cl_f6_8 ha.1 ha.2.2.2.2.2.2.2.2.2.1
theorem ph_a0 (ha : isPh a) {i : Int} (h1 : 0 ≤ i) (h2 : i < 12) : am_ia (clPut h (phP C a q)) (a + 1) (wI i) = some (wI (q.2 0 i.toNat)) := by
  have hb : 1000 ≤ a := ha.2.2.2.2.2.2.2.2.2.1
  rw [cl_a ha.2.1 (by omega) h1 (by rw [ha.2.2.2.2.2.1]; exact h2) (by omega)]
  simp only [phP]
  rw [if_pos (by omega), show a + 1 - (a + 1) = 0 by omega]
theorem ph_w0 (ha : isPh a) {i v : Int} (h1 : 0 ≤ i) (h2 : i < 12) : am_is (clPut h (phP C a q)) (a + 1) (wI i) (wI v) = some (clPut h (phP C a (q.1, upC q.2 0 (up1 (q.2 0) i.toNat v)))) := by
  have hb : 1000 ≤ a := ha.2.2.2.2.2.2.2.2.2.1
  rw [cl_w ha.2.1 (by omega) h1 (by rw [ha.2.2.2.2.2.1]; exact h2) (by omega)]
  refine cl_cg (Prod.ext rfl (Prod.ext (funext fun b => ?_) rfl))
  simp only [phP, upA, upC]
  by_cases e : b = a + 1
  · subst e
    rw [if_pos rfl, if_pos (by omega), if_pos (by omega), if_pos (by omega), show a + 1 - (a + 1) = 0 by omega]
    rfl
  · rw [if_neg e]
    by_cases e2 : a + 1 ≤ b ∧ b ≤ a + 4
    · rw [if_pos e2, if_pos e2, if_neg (by omega)]
    · rw [if_neg e2, if_neg e2]
theorem ph_f9 (ha : isPh a) : am_fd (clPut h (phP C a q)) a 6 9 = some (.ref (a + 2)) := cl_f6_9 ha.1 ha.2.2.2.2.2.2.2.2.2.1
theorem ph_a1 (ha : isPh a) {i : Int} (h1 : 0 ≤ i) (h2 : i < 12) : am_ia (clPut h (phP C a q)) (a + 2) (wI i) = some (wI (q.2 1 i.toNat)) := by
  have hb : 1000 ≤ a := ha.2.2.2.2.2.2.2.2.2.1
  rw [cl_a ha.2.2.1 (by omega) h1 (by rw [ha.2.2.2.2.2.2.1]; exact h2) (by omega)]
  simp only [phP]
  rw [if_pos (by omega), show a + 2 - (a + 1) = 1 by omega]
theorem ph_w1 (ha : isPh a) {i v : Int} (h1 : 0 ≤ i) (h2 : i < 12) : am_is (clPut h (phP C a q)) (a + 2) (wI i) (wI v) = some (clPut h (phP C a (q.1, upC q.2 1 (up1 (q.2 1) i.toNat v)))) := by
  have hb : 1000 ≤ a := ha.2.2.2.2.2.2.2.2.2.1
  rw [cl_w ha.2.2.1 (by omega) h1 (by rw [ha.2.2.2.2.2.2.1]; exact h2) (by omega)]
  refine cl_cg (Prod.ext rfl (Prod.ext (funext fun b => ?_) rfl))
  simp only [phP, upA, upC]
  by_cases e : b = a + 2
  · subst e
    rw [if_pos rfl, if_pos (by omega), if_pos (by omega), if_pos (by omega), show a + 2 - (a + 1) = 1 by omega]
    rfl
  · rw [if_neg e]
    by_cases e2 : a + 1 ≤ b ∧ b ≤ a + 4
    · rw [if_pos e2, if_pos e2, if_neg (by omega)]
    · rw [if_neg e2, if_neg e2]
theorem ph_f10 (ha : isPh a) : am_fd (clPut h (phP C a q)) a 6 10 = some (.ref (a + 3)) := cl_f6_10 ha.1 ha.2.2.2.2.2.2.2.2.2.1
theorem ph_a2 (ha : isPh a) {i : Int} (h1 : 0 ≤ i) (h2 : i < 12) : am_ba (clPut h (phP C a q)) (a + 3) (wI i) = some (wI (q.2 2 i.toNat)) := by
  have hb : 1000 ≤ a := ha.2.2.2.2.2.2.2.2.2.1
  rw [ru_ba (clP102 ha.2.2.2.1 (by omega)) (Or.inr (Or.inl rfl)) h1 (by rw [ha.2.2.2.2.2.2.2.1]; exact h2) (by omega)]
  simp only [phP]
  rw [if_pos (by omega), show a + 3 - (a + 1) = 2 by omega]
theorem ph_w2 (ha : isPh a) {i v : Int} (h1 : 0 ≤ i) (h2 : i < 12) (h3 : 0 ≤ v) (h4 : v ≤ 1) : am_bs (clPut h (phP C a q)) (a + 3) (wI i) (wI v) = some (clPut h (phP C a (q.1, upC q.2 2 (up1 (q.2 2) i.toNat v)))) := by
  have hb : 1000 ≤ a := ha.2.2.2.2.2.2.2.2.2.1
  rw [ru_zs (clP102 ha.2.2.2.1 (by omega)) h1 (by rw [ha.2.2.2.2.2.2.2.1]; exact h2) (by omega), wI_and1 h3 h4]
  have e0 : am_up (fun j => wI ((phP C a q).2.1 (a + 3) j)) i.toNat (wI v) = fun j => wI (up1 ((phP C a q).2.1 (a + 3)) i.toNat v j) := by
    funext j; unfold am_up up1; split <;> rfl
  rw [e0, cl_setZ ha.2.2.2.1 (by omega) rfl]
  refine cl_cg (Prod.ext rfl (Prod.ext (funext fun b => ?_) rfl))
  simp only [phP, upA, upC]
  by_cases e : b = a + 3
  · subst e
    rw [if_pos rfl, if_pos (by omega), if_pos (by omega), if_pos (by omega), show a + 3 - (a + 1) = 2 by omega]
  · rw [if_neg e]
    by_cases e2 : a + 1 ≤ b ∧ b ≤ a + 4
    · rw [if_pos e2, if_pos e2, if_neg (by omega)]
    · rw [if_neg e2, if_neg e2]
theorem ph_f11 (ha : isPh a) : am_fd (clPut h (phP C a q)) a 6 11 = some (.ref (a + 4)) := cl_f6_11 ha.1 ha.2.2.2.2.2.2.2.2.2.1
theorem ph_a3 (ha : isPh a) {i : Int} (h1 : 0 ≤ i) (h2 : i < 12) : am_ia (clPut h (phP C a q)) (a + 4) (wI i) = some (wI (q.2 3 i.toNat)) := by
  have hb : 1000 ≤ a := ha.2.2.2.2.2.2.2.2.2.1
  rw [cl_a ha.2.2.2.2.1 (by omega) h1 (by rw [ha.2.2.2.2.2.2.2.2.1]; exact h2) (by omega)]
  simp only [phP]
  rw [if_pos (by omega), show a + 4 - (a + 1) = 3 by omega]
theorem ph_w3 (ha : isPh a) {i v : Int} (h1 : 0 ≤ i) (h2 : i < 12) : am_is (clPut h (phP C a q)) (a + 4) (wI i) (wI v) = some (clPut h (phP C a (q.1, upC q.2 3 (up1 (q.2 3) i.toNat v)))) := by
  have hb : 1000 ≤ a := ha.2.2.2.2.2.2.2.2.2.1
  rw [cl_w ha.2.2.2.2.1 (by omega) h1 (by rw [ha.2.2.2.2.2.2.2.2.1]; exact h2) (by omega)]
  refine cl_cg (Prod.ext rfl (Prod.ext (funext fun b => ?_) rfl))
  simp only [phP, upA, upC]
  by_cases e : b = a + 4
  · subst e
    rw [if_pos rfl, if_pos (by omega), if_pos (by omega), if_pos (by omega), show a + 4 - (a + 1) = 3 by omega]
    rfl
  · rw [if_neg e]
    by_cases e2 : a + 1 ≤ b ∧ b ≤ a + 4
    · rw [if_pos e2, if_pos e2, if_neg (by omega)]
    · rw [if_neg e2, if_neg e2]
end PHP
