/-! ===== the parser: places in the text; the class's scanner ===== -/
/-- the first place from p on, at most d on, where P fails -/
def eF (P : Nat → Bool) : Nat → Nat → Nat
  | 0, p => p
  | d + 1, p => if P p = true then eF P d (p + 1) else p
theorem eF_b (P : Nat → Bool) : ∀ d p, p ≤ eF P d p ∧ eF P d p ≤ p + d
  | 0, p => ⟨Nat.le_refl _, Nat.le_refl _⟩
  | d + 1, p => by
    have h := eF_b P d (p + 1)
    show p ≤ (if P p = true then eF P d (p + 1) else p) ∧ (if P p = true then eF P d (p + 1) else p) ≤ p + (d + 1)
    split <;> omega
theorem eF_t (P : Nat → Bool) : ∀ d p i, p ≤ i → i < eF P d p → P i = true
  | 0, p, i, h1, h2 => by have : eF P 0 p = p := rfl; omega
  | d + 1, p, i, h1, h2 => by
    have e : eF P (d + 1) p = if P p = true then eF P d (p + 1) else p := rfl
    by_cases c : P p = true
    · rw [e, if_pos c] at h2
      by_cases c2 : i = p
      · rw [c2]; exact c
      · exact eF_t P d (p + 1) i (by omega) h2
    · rw [e, if_neg c] at h2; omega
theorem eF_f (P : Nat → Bool) : ∀ d p, eF P d p < p + d → P (eF P d p) = false
  | 0, p, h => by have : eF P 0 p = p := rfl; omega
  | d + 1, p, h => by
    have e : eF P (d + 1) p = if P p = true then eF P d (p + 1) else p := rfl
    by_cases c : P p = true
    · rw [e, if_pos c] at h ⊢
      exact eF_f P d (p + 1) (by omega)
    · rw [e, if_neg c]; exact Bool.eq_false_iff.mpr c
theorem eF_congr {P Q : Nat → Bool} : ∀ d p, (∀ i, p ≤ i → i < p + d → P i = Q i) → eF P d p = eF Q d p
  | 0, _, _ => rfl
  | d + 1, p, h => by
    show (if P p = true then eF P d (p + 1) else p) = (if Q p = true then eF Q d (p + 1) else p)
    rw [h p (by omega) (by omega), eF_congr d (p + 1) (fun i h1 h2 => h i (by omega) (by omega))]
/-- the input: its numbers p, its word w, its kind k -/
def inP (C : tCl) (p : Nat → Int) (w : Int64) (k : Nat) : tCl := upR (upJ (fun q => if q = 1001 then p else C.1 q, C.2) 1001 8 w) 1001 7 k
theorem inP_self {C : tCl} : inP C (C.1 1001) (C.2.2.1 1001 8) (C.2.2.2 1001 7) = C := by
  refine Prod.ext (funext fun q => ?_) (Prod.ext rfl (Prod.ext (funext fun q => funext fun j => ?_) (funext fun q => funext fun j => ?_)))
  · show (if q = 1001 then C.1 1001 else C.1 q) = C.1 q
    split
    · rename_i e; rw [e]
    · rfl
  · show (if q = 1001 then (if j = 8 then C.2.2.1 1001 8 else C.2.2.1 q j) else C.2.2.1 q j) = C.2.2.1 q j
    split
    · rename_i e; split
      · rename_i e2; rw [e, e2]
      · rfl
    · rfl
  · show (if q = 1001 then (if j = 7 then C.2.2.2 1001 7 else C.2.2.2 q j) else C.2.2.2 q j) = C.2.2.2 q j
    split
    · rename_i e; split
      · rename_i e2; rw [e, e2]
      · rfl
    · rfl
section SCN
variable {z : Bool} {h : am_H} {C : tCl} {p : Nat → Int} {w : Int64} {k : Nat}
theorem in_e : (clPut h (inP C p w k)).1 1001 = some (.inr (1, clL1 (inP C p w k) 1001)) := clP1 (by decide +kernel) (by decide)
theorem in_f0 : am_fd (clPut h (inP C p w k)) 1001 1 0 = some (.ref 1002) := cl_g1_0
theorem in_f1 : am_fd (clPut h (inP C p w k)) 1001 1 1 = some (.int (wI (p 1))) := cl_g1_1
theorem in_f2 : am_fd (clPut h (inP C p w k)) 1001 1 2 = some (.int (wI (p 2))) := cl_g1_2
theorem in_f3 : am_fd (clPut h (inP C p w k)) 1001 1 3 = some (.int (wI (p 3))) := cl_g1_3
theorem in_f4 : am_fd (clPut h (inP C p w k)) 1001 1 4 = some (.int (wI (p 4))) := cl_g1_4
theorem in_f5 : am_fd (clPut h (inP C p w k)) 1001 1 5 = some (.int (wI (p 5))) := cl_g1_5
theorem in_f6 : am_fd (clPut h (inP C p w k)) 1001 1 6 = some (.int (wI (p 6))) := cl_g1_6
theorem in_f7 : am_fd (clPut h (inP C p w k)) 1001 1 7 = some (.ref k) := cl_g1_7
theorem in_f8 : am_fd (clPut h (inP C p w k)) 1001 1 8 = some (.long w) := cl_g1_8
theorem in_f9 : am_fd (clPut h (inP C p w k)) 1001 1 9 = some (.int (wI (p 9))) := cl_g1_9
theorem inP_up {i : Nat} {v : Int} : upI (inP C p w k) 1001 i v = inP C (up1 p i v) w k := by
  refine Prod.ext (funext fun q => funext fun j => ?_) rfl
  show (if q = 1001 then (if j = i then v else (if q = 1001 then p else C.1 q) j) else (if q = 1001 then p else C.1 q) j) = (if q = 1001 then up1 p i v else C.1 q) j
  by_cases e : q = 1001
  · simp only [e, if_true]; rfl
  · simp only [e, if_false]
theorem inP_upR {v : Nat} : upR (inP C p w k) 1001 7 v = inP C p w v := by
  refine Prod.ext rfl (Prod.ext rfl (Prod.ext rfl (funext fun q => funext fun j => ?_)))
  show (if q = 1001 then (if j = 7 then v else (if q = 1001 then (if j = 7 then k else C.2.2.2 q j) else C.2.2.2 q j)) else (if q = 1001 then (if j = 7 then k else C.2.2.2 q j) else C.2.2.2 q j)) = (if q = 1001 then (if j = 7 then v else C.2.2.2 q j) else C.2.2.2 q j)
  by_cases e : q = 1001
  · simp only [e, if_true]
    by_cases e2 : j = 7
    · simp only [e2, if_true]
    · simp only [e2, if_false]
  · simp only [e, if_false]
theorem inP_upJ {v : Int64} : upJ (inP C p w k) 1001 8 v = inP C p v k := by
  refine Prod.ext rfl (Prod.ext rfl (Prod.ext (funext fun q => funext fun j => ?_) rfl))
  show (if q = 1001 then (if j = 8 then v else (if q = 1001 then (if j = 8 then w else C.2.2.1 q j) else C.2.2.1 q j)) else (if q = 1001 then (if j = 8 then w else C.2.2.1 q j) else C.2.2.1 q j)) = (if q = 1001 then (if j = 8 then v else C.2.2.1 q j) else C.2.2.1 q j)
  by_cases e : q = 1001
  · simp only [e, if_true]
    by_cases e2 : j = 8
    · simp only [e2, if_true]
    · simp only [e2, if_false]
  · simp only [e, if_false]
theorem in_s1 {v : Int} : am_pf (clPut h (inP C p w k)) 1001 1 1 0 (.int (wI v)) = some (clPut h (inP C (up1 p 1 v) w k)) := by rw [cl_q1_1, inP_up]
theorem in_s2 {v : Int} : am_pf (clPut h (inP C p w k)) 1001 1 2 0 (.int (wI v)) = some (clPut h (inP C (up1 p 2 v) w k)) := by rw [cl_q1_2, inP_up]
theorem in_s3 {v : Int} : am_pf (clPut h (inP C p w k)) 1001 1 3 0 (.int (wI v)) = some (clPut h (inP C (up1 p 3 v) w k)) := by rw [cl_q1_3, inP_up]
theorem in_s4 {v : Int} : am_pf (clPut h (inP C p w k)) 1001 1 4 0 (.int (wI v)) = some (clPut h (inP C (up1 p 4 v) w k)) := by rw [cl_q1_4, inP_up]
theorem in_s5 {v : Int} : am_pf (clPut h (inP C p w k)) 1001 1 5 0 (.int (wI v)) = some (clPut h (inP C (up1 p 5 v) w k)) := by rw [cl_q1_5, inP_up]
theorem in_s6 {v : Int} : am_pf (clPut h (inP C p w k)) 1001 1 6 0 (.int (wI v)) = some (clPut h (inP C (up1 p 6 v) w k)) := by rw [cl_q1_6, inP_up]
theorem in_s7 {v : Nat} : am_pf (clPut h (inP C p w k)) 1001 1 7 2 (.ref v) = some (clPut h (inP C p w v)) := by rw [cl_q1_7, inP_upR]
theorem in_s8 {v : Int64} : am_pf (clPut h (inP C p w k)) 1001 1 8 1 (.long v) = some (clPut h (inP C p v k)) := by rw [cl_q1_8, inP_upJ]
theorem in_s9 {v : Int} : am_pf (clPut h (inP C p w k)) 1001 1 9 0 (.int (wI v)) = some (clPut h (inP C (up1 p 9 v) w k)) := by rw [cl_q1_9, inP_up]
theorem in_b {i : Int} (h1 : 0 ≤ i) (h2 : i < 1200) : am_ba (clPut h (inP C p w k)) 1002 (wI i) = some (wI (C.2.1 1002 i.toNat)) := by
  have e := clP101 (h := h) (C := inP C p w k) (q := 1002) (by decide +kernel) (by decide)
  rw [show cln 1002 = 1200 by decide +kernel] at e
  exact ru_ba (z := i) e (Or.inl rfl) h1 (by omega) (by omega)
/-- a byte's sort -/
def rgB (C : tCl) (lo hi : Int) : Nat → Bool := fun q => decide (lo ≤ C.2.1 1002 q ∧ C.2.1 1002 q ≤ hi)
theorem c21l {n s : Nat} {lo hi : Int} (h4 : p 4 = (n : Int)) (h5 : p 5 = (s : Int)) (hs : s ≤ n) (hn : n ≤ 1200) (hlo : 0 ≤ lo ∧ lo ≤ 127) (hhi : 0 ≤ hi ∧ hi ≤ 127) (hb : ∀ i, i < n → -128 ≤ C.2.1 1002 i ∧ C.2.1 1002 i ≤ 127) : ∀ d i : Nat, i + d = n → s ≤ i → ru_n z 21 5 [some (.ref 1001), some (.int (wI lo)), some (.int (wI hi)), some (.int (wI i))] [] (clPut h (inP C p w k)) = some (.inl (some (.int (wI ((eF (rgB C lo hi) d i : Nat) - (s : Int))))), clPut h (inP C p w k)) := by
  intro d
  induction d with
  | zero =>
    intro i hin hsi
    obtain rfl : i = n := by omega
    simp (disch := omega) only [e21_5, e21_6, e21_7, e21_10, e21_39, e21_40, e21_41, e21_44, e21_45, ↓reduceIte, Bool.false_eq_true, not_false_eq_true, not_true_eq_false, Nat.reduceLeDiff, Nat.reduceAdd, Nat.reduceEqDiff, Int.reduceToNat, Int.toNat_natCast, iB0, iB1, ru_klI, ru_klR, ru_klF, ru_klJ, ru_kl0, ru_cs0, ru_csI, ru_csR, ru_csF, ru_csJ, wI_add, wI_sub, wI_mul, wI_lt, wI_le, wI_inj, ru_fdE, ru_fdN, ru_iaN, ru_baN, ru_laN, ru_qaN, ru_pfN, ru_isN, ru_bsN, ru_jsN, ru_qsN, ru_set2, Nat.add_right_cancel_iff, if_true, if_false, ite_self, Int.reduceEq, and_self, Int.add_neg_cancel_right, Int.add_zero, Int.zero_add, in_f4, in_f5, h4, h5, Int.le_refl, eF]
  | succ d ih =>
    intro i hin hsi
    have c : ((n : Int) ≤ (i : Int)) = False := eq_false (by omega)
    have rb := in_b (h := h) (C := C) (p := p) (w := w) (k := k) (i := (i : Int)) (by omega) (by omega)
    rw [Int.toNat_natCast] at rb
    have b := hb i (by omega)
    have eb := eF_b (rgB C lo hi) d (i + 1)
    show _ = some (Sum.inl (some (Value.int (wI (((if rgB C lo hi i = true then eF (rgB C lo hi) d (i + 1) else i : Nat) : Int) - (s : Int))))), _)
    by_cases c1 : C.2.1 1002 i < lo
    · have d1 : (C.2.1 1002 i < lo) = True := eq_true c1
      have e : ¬ rgB C lo hi i = true := fun e => by have := of_decide_eq_true e; omega
      rw [if_neg e, e21_5]
      simp (disch := omega) only [e21_6, e21_7, e21_10, e21_13, e21_14, e21_17, e21_18, e21_19, e21_20, e21_23, e21_24, e21_27, e21_28, e21_29, e21_30, e21_33, e21_36, e21_39, e21_40, e21_41, e21_44, e21_45, ↓reduceIte, Bool.false_eq_true, not_false_eq_true, not_true_eq_false, Nat.reduceLeDiff, Nat.reduceAdd, Nat.reduceEqDiff, Int.reduceToNat, Int.toNat_natCast, iB0, iB1, ru_klI, ru_klR, ru_klF, ru_klJ, ru_kl0, ru_cs0, ru_csI, ru_csR, ru_csF, ru_csJ, wI_add, wI_sub, wI_mul, wI_lt, wI_le, wI_inj, ru_fdE, ru_fdN, ru_iaN, ru_baN, ru_laN, ru_qaN, ru_pfN, ru_isN, ru_bsN, ru_jsN, ru_qsN, ru_set2, Nat.add_right_cancel_iff, if_true, if_false, ite_self, Int.reduceEq, and_self, Int.add_neg_cancel_right, Int.add_zero, Int.zero_add, in_f0, in_f4, in_f5, h4, h5, c, rb, d1]
    · have d1 : (C.2.1 1002 i < lo) = False := eq_false c1
      by_cases c2 : hi < C.2.1 1002 i
      · have d2 : (hi < C.2.1 1002 i) = True := eq_true c2
        have e : ¬ rgB C lo hi i = true := fun e => by have := of_decide_eq_true e; omega
        rw [if_neg e, e21_5]
        simp (disch := omega) only [e21_6, e21_7, e21_10, e21_13, e21_14, e21_17, e21_18, e21_19, e21_20, e21_23, e21_24, e21_27, e21_28, e21_29, e21_30, e21_33, e21_36, e21_39, e21_40, e21_41, e21_44, e21_45, ↓reduceIte, Bool.false_eq_true, not_false_eq_true, not_true_eq_false, Nat.reduceLeDiff, Nat.reduceAdd, Nat.reduceEqDiff, Int.reduceToNat, Int.toNat_natCast, iB0, iB1, ru_klI, ru_klR, ru_klF, ru_klJ, ru_kl0, ru_cs0, ru_csI, ru_csR, ru_csF, ru_csJ, wI_add, wI_sub, wI_mul, wI_lt, wI_le, wI_inj, ru_fdE, ru_fdN, ru_iaN, ru_baN, ru_laN, ru_qaN, ru_pfN, ru_isN, ru_bsN, ru_jsN, ru_qsN, ru_set2, Nat.add_right_cancel_iff, if_true, if_false, ite_self, Int.reduceEq, and_self, Int.add_neg_cancel_right, Int.add_zero, Int.zero_add, in_f0, in_f4, in_f5, h4, h5, c, rb, d1, d2]
      · have d2 : (hi < C.2.1 1002 i) = False := eq_false c2
        have e : rgB C lo hi i = true := decide_eq_true (by omega)
        have ih1 := ih (i + 1) (by omega) (by omega)
        simp only [Int.natCast_add, Int.natCast_one] at ih1
        rw [if_pos e, e21_5]
        simp (disch := omega) only [e21_6, e21_7, e21_10, e21_13, e21_14, e21_17, e21_18, e21_19, e21_20, e21_23, e21_24, e21_27, e21_28, e21_29, e21_30, e21_33, e21_36, e21_39, e21_40, e21_41, e21_44, e21_45, ↓reduceIte, Bool.false_eq_true, not_false_eq_true, not_true_eq_false, Nat.reduceLeDiff, Nat.reduceAdd, Nat.reduceEqDiff, Int.reduceToNat, Int.toNat_natCast, iB0, iB1, ru_klI, ru_klR, ru_klF, ru_klJ, ru_kl0, ru_cs0, ru_csI, ru_csR, ru_csF, ru_csJ, wI_add, wI_sub, wI_mul, wI_lt, wI_le, wI_inj, ru_fdE, ru_fdN, ru_iaN, ru_baN, ru_laN, ru_qaN, ru_pfN, ru_isN, ru_bsN, ru_jsN, ru_qsN, ru_set2, Nat.add_right_cancel_iff, if_true, if_false, ite_self, Int.reduceEq, and_self, Int.add_neg_cancel_right, Int.add_zero, Int.zero_add, in_f0, in_f4, in_f5, h4, h5, c, rb, d1, d2]
        exact ih1
theorem c21 {n s : Nat} {lo hi : Int} (h4 : p 4 = (n : Int)) (h5 : p 5 = (s : Int)) (hs : s ≤ n) (hn : n ≤ 1200) (hlo : 0 ≤ lo ∧ lo ≤ 127) (hhi : 0 ≤ hi ∧ hi ≤ 127) (hb : ∀ i, i < n → -128 ≤ C.2.1 1002 i ∧ C.2.1 1002 i ≤ 127) : ru_ev z 21 [.ref 1001, .int (wI lo), .int (wI hi)] (clPut h (inP C p w k)) = some (.inl (some (.int (wI ((eF (rgB C lo hi) (n - s) s : Nat) - (s : Int))))), clPut h (inP C p w k)) := by
  have k1 := c21l (z := z) (h := h) (w := w) (k := k) h4 h5 hs hn hlo hhi hb (n - s) s (by omega) (Nat.le_refl _)
  simp (disch := omega) only [e21_0, e21_1, e21_4, en21, ↓reduceIte, Bool.false_eq_true, not_false_eq_true, not_true_eq_false, Nat.reduceLeDiff, Nat.reduceAdd, Nat.reduceEqDiff, Int.reduceToNat, Int.toNat_natCast, iB0, iB1, ru_klI, ru_klR, ru_klF, ru_klJ, ru_kl0, ru_cs0, ru_csI, ru_csR, ru_csF, ru_csJ, wI_add, wI_sub, wI_mul, wI_lt, wI_le, wI_inj, ru_fdE, ru_fdN, ru_iaN, ru_baN, ru_laN, ru_qaN, ru_pfN, ru_isN, ru_bsN, ru_jsN, ru_qsN, ru_set2, Nat.add_right_cancel_iff, if_true, if_false, ite_self, Int.reduceEq, and_self, Int.add_neg_cancel_right, Int.add_zero, Int.zero_add, in_e, in_f5, h5]
  exact k1
end SCN
