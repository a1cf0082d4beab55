/-! ===== append: both sides ===== -/
/-- byte k of a number, signed and not -/
def byB (x : Int32) (k : Nat) : Int := (am_nb (x >>> (wI (24 - 8 * (k : Int)) &&& 31))).toInt
def byM (x : Int32) (k : Nat) : Int := (x >>> (wI (24 - 8 * (k : Int)) &&& 31) &&& wI 255).toInt
theorem am_nb_toInt (y : Int32) : (am_nb y).toInt = y.toInt.bmod 256 := by
  unfold am_nb
  rw [Int8.toInt_toInt32, Int32.toInt_toInt8]
theorem by_eq (x : Int32) (k : Nat) : (-128 ≤ byB x k ∧ byB x k ≤ 127) ∧ byM x k = byB x k % 256 := by
  unfold byB byM
  generalize x >>> (wI (24 - 8 * (k : Int)) &&& 31) = y
  rw [am_nb_toInt]
  have h1 := Jvm.Kit.i32_mask (k := 8) y (wI 255) (by decide) (by decide +kernel)
  rw [h1, show (2 : Int) ^ 8 = 256 from by decide]
  have := Int.bmod_lt (x := y.toInt) (m := 256) (by decide)
  have := Int.le_bmod (x := y.toInt) (m := 256) (by decide)
  refine ⟨by omega, ?_⟩
  exact (Int.bmod_emod (x := y.toInt) (m := 256)).symm
/-- the input with n bytes f -/
def ibP (C : tCl) (n : Int) (f : Nat → Int) : tCl := upI (upA C 1002 f) 1001 1 n
/-- four bytes more -/
def apB (f : Nat → Int) (n : Nat) (x : Int32) : Nat → Int := fun j => if n ≤ j ∧ j < n + 4 then byB x (j - n) else f j
section APP
variable {z : Bool} {h : am_H} {C : tCl} {M : tMd} {n : Int} {f : Nat → Int}
theorem ibP_self : ibP C (C.1 1001 1) (C.2.1 1002) = C := by
  refine Prod.ext (funext fun q => funext fun j => ?_) (Prod.ext (funext fun q => ?_) rfl)
  · show (if q = 1001 then (if j = 1 then C.1 1001 1 else C.1 q j) else C.1 q j) = C.1 q j
    split
    · rename_i e; split
      · rename_i e2; rw [e, e2]
      · rfl
    · rfl
  · show (if q = 1002 then C.2.1 1002 else C.2.1 q) = C.2.1 q
    split
    · rename_i e; rw [e]
    · rfl
theorem ib_f : am_fd (clPut h (ibP C n f)) 1001 1 1 = some (.int (wI n)) := by
  rw [cl_g1_1]; rfl
theorem ib_e : (clPut h (ibP C n f)).1 1001 = some (.inr (1, clL1 (ibP C n f) 1001)) := clP1 (by decide +kernel) (by decide)
theorem ib_s {v : Int} : am_pf (clPut h (ibP C n f)) 1001 1 1 0 (.int (wI v)) = some (clPut h (ibP C v f)) := by
  rw [cl_q1_1]
  refine cl_cg (Prod.ext (funext fun q => funext fun j => ?_) rfl)
  show (if q = 1001 then (if j = 1 then v else (ibP C n f).1 q j) else (ibP C n f).1 q j) = (if q = 1001 then (if j = 1 then v else C.1 q j) else C.1 q j)
  show (if q = 1001 then (if j = 1 then v else (if q = 1001 then (if j = 1 then n else C.1 q j) else C.1 q j)) else (if q = 1001 then (if j = 1 then n else C.1 q j) else C.1 q j)) = _
  by_cases e : q = 1001
  · simp only [e, if_true]
    by_cases e2 : j = 1
    · simp only [e2, if_true]
    · simp only [e2, if_false]
  · simp only [e, if_false]
theorem ib_w {i : Int} {v : Int32} (h1 : 0 ≤ i) (h2 : i < 1200) : am_bs (clPut h (ibP C n f)) 1002 (wI i) v = some (clPut h (ibP C n (up1 f i.toNat (am_nb v).toInt))) := by
  have hk : clk 1002 = 101 := by decide +kernel
  have hn : cln 1002 = 1200 := by decide +kernel
  have e := clP101 (h := h) (C := ibP C n f) hk (by decide)
  rw [hn] at e
  rw [ru_bs e h1 (by omega) (by omega)]
  have e0 : am_up (fun j => wI ((ibP C n f).2.1 1002 j)) i.toNat (am_nb v) = fun j => wI (up1 f i.toNat (am_nb v).toInt j) := by
    funext j
    unfold am_up up1
    split
    · exact wI_of _
    · rfl
  rw [e0, cl_setB hk (by decide) hn]
  refine cl_cg (Prod.ext rfl (Prod.ext (funext fun q => ?_) rfl))
  show (if q = 1002 then up1 f i.toNat (am_nb v).toInt else (if q = 1002 then f else C.2.1 q)) = (if q = 1002 then up1 f i.toNat (am_nb v).toInt else C.2.1 q)
  split <;> rfl
theorem am_nb2 (v : Int32) : am_nb (am_nb v) = am_nb v := by
  apply Int32.toInt_inj.mp
  rw [am_nb_toInt, am_nb_toInt]
  exact Int.bmod_bmod
theorem c14 {m : Nat} (hm : m + 4 ≤ 1200) {x : Int32} : ru_ev z 14 [.ref 1001, .int x] (clPut h (ibP C m f)) = some (.inl none, clPut h (ibP C ((m + 4 : Nat) : Int) (apB f m x))) := by
  have e : apB f m x = up1 (up1 (up1 (up1 f m (byB x 0)) (m + 1) (byB x 1)) (m + 2) (byB x 2)) (m + 3) (byB x 3) := by
    funext j
    unfold apB up1
    by_cases c : m ≤ j ∧ j < m + 4
    · rw [if_pos c]
      have : j = m ∨ j = m + 1 ∨ j = m + 2 ∨ j = m + 3 := by omega
      rcases this with rfl | rfl | rfl | rfl
      · rw [if_neg (by omega), if_neg (by omega), if_neg (by omega), if_pos rfl, show j - j = 0 by omega]
      · rw [if_neg (by omega), if_neg (by omega), if_pos rfl, show m + 1 - m = 1 by omega]
      · rw [if_neg (by omega), if_pos rfl, show m + 2 - m = 2 by omega]
      · rw [if_pos rfl, show m + 3 - m = 3 by omega]
    · rw [if_neg c, if_neg (by omega), if_neg (by omega), if_neg (by omega), if_neg (by omega)]
  have t0 : ((m : Nat) : Int).toNat = m := Int.toNat_natCast m
  have t1 : ((m : Int) + 1).toNat = m + 1 := by omega
  have t2 : ((m : Int) + 1 + 1).toNat = m + 2 := by omega
  have t3 : ((m : Int) + 1 + 1 + 1).toNat = m + 3 := by omega
  rw [e]
  unfold byB
  simp only [show ((0 : Nat) : Int) = 0 from rfl, show ((1 : Nat) : Int) = 1 from rfl, show ((2 : Nat) : Int) = 2 from rfl, show ((3 : Nat) : Int) = 3 from rfl, Int.reduceMul, Int.reduceSub]
  simp (disch := omega) only [en14, e14_0, e14_2, e14_3, e14_4, e14_7, e14_8, e14_11, e14_14, e14_17, e14_18, e14_21, e14_22, e14_25, e14_26, e14_27, e14_28, e14_29, e14_30, e14_31, e14_32, e14_35, e14_36, e14_37, e14_40, e14_43, e14_46, ↓reduceIte, Bool.false_eq_true, not_false_eq_true, not_true_eq_false, Nat.reduceLeDiff, Nat.reduceAdd, Nat.reduceEqDiff, Int.reduceToNat, Int.toNat_natCast, iB0, iB1, ru_klI, ru_klR, ru_klF, ru_klJ, ru_kl0, ru_cs0, ru_csI, ru_csR, ru_csF, ru_csJ, wI_add, wI_sub, wI_mul, wI_lt, wI_le, wI_inj, ru_fdE, ru_fdN, ru_iaN, ru_baN, ru_laN, ru_qaN, ru_pfN, ru_isN, ru_bsN, ru_jsN, ru_qsN, ru_set2, Nat.add_right_cancel_iff, if_true, if_false, ite_self, Int.reduceEq, and_self, Int.add_neg_cancel_right, Int.add_zero, Int.zero_add, ib_e, cl_g1_0, ib_f, ib_s, ib_w, ru_ctR, Int.reduceAdd, Int.reduceLT, Int.reduceNeg, am_nb2, t0, t1, t2, t3, Int.reduceLE]
  rw [if_neg (by omega), if_neg (by omega), if_neg (by omega), if_neg (by omega)]
  rw [show (m : Int) + 1 + 1 + 1 + 1 = ((m + 4 : Nat) : Int) by omega]
/-- the five numbers -/
def x5 (a b c d e : Int32) (q : Nat) : Int32 := if q = 0 then a else if q = 1 then b else if q = 2 then c else if q = 3 then d else e
/-- what the class answers, what it leaves -/
theorem c13 (hR : 0 ≤ C.1 1001 1 ∧ C.1 1001 1 ≤ 1200) {a b c d e : Int32} : ∃ F : Nat → Int, (∀ j : Nat, (j : Int) < C.1 1001 1 → F j = C.2.1 1002 j) ∧ (∀ k : Nat, k < 20 → F ((C.1 1001 1).toNat + k) = byB (x5 a b c d e (k / 4)) (k % 4)) ∧
    ru_ev z 13 [.ref 1000, .int a, .int b, .int c, .int d, .int e] (clPut h C) = some (.inl (some (.int (wI (if C.1 1001 1 + 20 ≤ 1200 then C.1 1001 1 + 20 else -1)))), clPut h (if C.1 1001 1 + 20 ≤ 1200 then ibP C (C.1 1001 1 + 20) F else C)) := by
  obtain ⟨m, hm⟩ := Int.eq_ofNat_of_zero_le hR.1
  rw [hm]
  by_cases cc : (m : Int) + 20 ≤ 1200
  · refine ⟨apB (apB (apB (apB (apB (C.2.1 1002) m a) (m + 4) b) (m + 8) c) (m + 12) d) (m + 16) e, fun j hj => ?_, fun k hk => ?_, ?_⟩
    · unfold apB
      rw [if_neg (by omega), if_neg (by omega), if_neg (by omega), if_neg (by omega), if_neg (by omega)]
    · rw [Int.toNat_natCast]
      unfold apB x5
      by_cases k1 : k < 4
      · rw [if_neg (by omega), if_neg (by omega), if_neg (by omega), if_neg (by omega), if_pos (by omega), if_pos (by omega)]
        congr 1; omega
      · by_cases k2 : k < 8
        · rw [if_neg (by omega), if_neg (by omega), if_neg (by omega), if_pos (by omega), if_neg (by omega), if_pos (by omega)]
          congr 1; omega
        · by_cases k3 : k < 12
          · rw [if_neg (by omega), if_neg (by omega), if_pos (by omega), if_neg (by omega), if_neg (by omega), if_pos (by omega)]
            congr 1; omega
          · by_cases k4 : k < 16
            · rw [if_neg (by omega), if_pos (by omega), if_neg (by omega), if_neg (by omega), if_neg (by omega), if_pos (by omega)]
              congr 1; omega
            · rw [if_pos (by omega), if_neg (by omega), if_neg (by omega), if_neg (by omega), if_neg (by omega)]
              congr 1; omega
    · rw [if_pos cc, if_pos cc]
      have e0 : C = ibP C (m : Nat) (C.2.1 1002) := by
        have := ibP_self (C := C)
        rw [hm] at this
        exact this.symm
      have hp : ∀ (n : Int) (f : Nat → Int), clPut h (ibP (ibP C (m : Nat) (C.2.1 1002)) n f) = clPut h (ibP C n f) := fun n f => by rw [← e0]
      have s1 := c14 (z := z) (h := h) (C := C) (f := C.2.1 1002) (m := m) (by omega) (x := a)
      have s2 := c14 (z := z) (h := h) (C := C) (f := apB (C.2.1 1002) m a) (m := m + 4) (by omega) (x := b)
      have s3 := c14 (z := z) (h := h) (C := C) (f := apB (apB (C.2.1 1002) m a) (m + 4) b) (m := m + 8) (by omega) (x := c)
      have s4 := c14 (z := z) (h := h) (C := C) (f := apB (apB (apB (C.2.1 1002) m a) (m + 4) b) (m + 8) c) (m := m + 12) (by omega) (x := d)
      have s5 := c14 (z := z) (h := h) (C := C) (f := apB (apB (apB (apB (C.2.1 1002) m a) (m + 4) b) (m + 8) c) (m + 12) d) (m := m + 16) (by omega) (x := e)
      rw [show m + 4 + 4 = m + 8 from rfl] at s2
      rw [show m + 8 + 4 = m + 12 from rfl] at s3
      rw [show m + 12 + 4 = m + 16 from rfl] at s4
      rw [show ((m + 16 + 4 : Nat) : Int) = (m : Int) + 20 by omega] at s5
      have g1 := cl_g1_1 (h := h) (C := C)
      rw [hm] at g1
      rw [← e0] at s1
      have d1 : ((m : Int) + 20 ≤ 1200) = True := eq_true cc
      simp (disch := omega) only [en13, e13_0, e13_1, e13_4, e13_7, e13_9, e13_10, e13_13, e13_16, e13_17, e13_18, e13_19, e13_22, e13_23, e13_26, e13_27, e13_30, e13_31, e13_34, e13_35, e13_38, e13_39, e13_42, e13_43, e13_46, e13_48, e13_51, e13_52, e13_55, e13_57, e13_60, e13_61, e13_64, e13_67, ↓reduceIte, Bool.false_eq_true, not_false_eq_true, not_true_eq_false, Nat.reduceLeDiff, Nat.reduceAdd, Nat.reduceEqDiff, Int.reduceToNat, Int.toNat_natCast, iB0, iB1, ru_klI, ru_klR, ru_klF, ru_klJ, ru_kl0, ru_cs0, ru_csI, ru_csR, ru_csF, ru_csJ, wI_add, wI_sub, wI_mul, wI_lt, wI_le, wI_inj, ru_fdE, ru_fdN, ru_iaN, ru_baN, ru_laN, ru_qaN, ru_pfN, ru_isN, ru_bsN, ru_jsN, ru_qsN, ru_set2, Nat.add_right_cancel_iff, if_true, if_false, ite_self, Int.reduceEq, and_self, Int.add_neg_cancel_right, Int.add_zero, Int.zero_add, cl_e0, cl_g0_0, g1, d1, s1, s2, s3, s4, s5, ib_f]
  · refine ⟨fun j => if (j : Int) < (m : Int) then C.2.1 1002 j else byB (x5 a b c d e ((j - m) / 4)) ((j - m) % 4), fun j hj => if_pos hj, fun k hk => ?_, ?_⟩
    · rw [Int.toNat_natCast]
      show (if ((m + k : Nat) : Int) < (m : Int) then _ else _) = _
      rw [if_neg (by omega), show m + k - m = k by omega]
    · rw [if_neg cc, if_neg cc]
      have g1 := cl_g1_1 (h := h) (C := C)
      rw [hm] at g1
      have d1 : ((m : Int) + 20 ≤ 1200) = False := eq_false cc
      simp (disch := omega) only [en13, e13_0, e13_1, e13_4, e13_7, e13_9, e13_10, e13_13, e13_16, e13_17, e13_18, e13_19, e13_22, e13_23, e13_26, e13_27, e13_30, e13_31, e13_34, e13_35, e13_38, e13_39, e13_42, e13_43, e13_46, e13_48, e13_51, e13_52, e13_55, e13_57, e13_60, e13_61, e13_64, e13_67, ↓reduceIte, Bool.false_eq_true, not_false_eq_true, not_true_eq_false, Nat.reduceLeDiff, Nat.reduceAdd, Nat.reduceEqDiff, Int.reduceToNat, Int.toNat_natCast, iB0, iB1, ru_klI, ru_klR, ru_klF, ru_klJ, ru_kl0, ru_cs0, ru_csI, ru_csR, ru_csF, ru_csJ, wI_add, wI_sub, wI_mul, wI_lt, wI_le, wI_inj, ru_fdE, ru_fdN, ru_iaN, ru_baN, ru_laN, ru_qaN, ru_pfN, ru_isN, ru_bsN, ru_jsN, ru_qsN, ru_set2, Nat.add_right_cancel_iff, if_true, if_false, ite_self, Int.reduceEq, and_self, Int.add_neg_cancel_right, Int.add_zero, Int.zero_add, cl_e0, cl_g0_0, g1, d1]
/-- the reference -/
def apM (M : tMd) (m : Nat) (X : Nat → Int32) (k : Nat) : tMd := (M.1, upC M.2 3 (fun j => if m ≤ j ∧ j < m + k then byM (X ((j - m) / 4)) ((j - m) % 4) else M.2 3 j))
theorem p15l {m : Nat} (hm : m + 20 ≤ 1200) (h7 : M.1 7 = (m : Int)) {a b c d e : Int32} : ∀ dd k : Nat, k + dd = 20 → ∀ l7 : Option Value, ∃ l7' : Option Value, ru_n z 15 23 [some (.ref 1315), some (.int a), some (.int b), some (.int c), some (.int d), some (.int e), some (.int (wI k)), l7] [] (mdPut h (apM M m (x5 a b c d e) k)) = ru_n z 15 113 [some (.ref 1315), some (.int a), some (.int b), some (.int c), some (.int d), some (.int e), some (.int (wI 20)), l7'] [] (mdPut h (apM M m (x5 a b c d e) 20)) := by
  intro dd
  induction dd with
  | zero =>
    intro k hk l7
    obtain rfl : k = 20 := by omega
    refine ⟨l7, ?_⟩
    simp (disch := omega) only [e15_23, e15_25, e15_27, ↓reduceIte, Bool.false_eq_true, not_false_eq_true, not_true_eq_false, Nat.reduceLeDiff, Nat.reduceAdd, Nat.reduceEqDiff, Int.reduceToNat, Int.toNat_natCast, iB0, iB1, ru_klI, ru_klR, ru_klF, ru_klJ, ru_kl0, ru_cs0, ru_csI, ru_csR, ru_csF, ru_csJ, wI_add, wI_sub, wI_mul, wI_lt, wI_le, wI_inj, ru_fdE, ru_fdN, ru_iaN, ru_baN, ru_laN, ru_qaN, ru_pfN, ru_isN, ru_bsN, ru_jsN, ru_qsN, ru_set2, Nat.add_right_cancel_iff, if_true, if_false, ite_self, Int.reduceEq, and_self, Int.add_neg_cancel_right, Int.add_zero, Int.zero_add, show (((20 : Nat) : Int)) = 20 from rfl, Int.le_refl]
  | succ dd ih =>
    intro k hk l7
    have cc : ((20 : Int) ≤ (k : Int)) = False := eq_false (by omega)
    obtain ⟨l7', ih1⟩ := ih (k + 1) (by omega) (some (.int (x5 a b c d e (k / 4))))
    refine ⟨l7', ?_⟩
    rw [← ih1, e15_23]
    have hf7 : am_fd (mdPut h (apM M m (x5 a b c d e) k)) 1315 10 7 = some (.int (wI (m : Nat))) := by
      have := md_f7 (h := h) (M := apM M m (x5 a b c d e) k)
      rw [this]
      show some (Value.int (wI (M.1 7))) = _
      rw [h7]
    have hw := md_w3 (h := h) (M := apM M m (x5 a b c d e) k) (i := (m : Int) + (k : Int)) (v := byM (x5 a b c d e (k / 4)) (k % 4)) (by omega) (by omega)
    have hst : ((apM M m (x5 a b c d e) k).1, up2 (apM M m (x5 a b c d e) k).2 3 ((m : Int) + (k : Int)).toNat (byM (x5 a b c d e (k / 4)) (k % 4))) = apM M m (x5 a b c d e) (k + 1) := by
      rw [show ((m : Int) + (k : Int)).toNat = m + k by omega, up2_C]
      refine Prod.ext rfl ?_
      show upC (upC M.2 3 _) 3 (up1 (upC M.2 3 _ 3) (m + k) _) = upC M.2 3 _
      rw [upC_up, upC_e]
      congr 1
      funext j
      unfold up1
      by_cases ej : j = m + k
      · rw [if_pos ej, if_pos (by omega), show j - m = k by omega]
      · rw [if_neg ej]
        show (if m ≤ j ∧ j < m + k then byM (x5 a b c d e ((j - m) / 4)) ((j - m) % 4) else M.2 3 j) = _
        by_cases e2 : m ≤ j ∧ j < m + k
        · rw [if_pos e2, if_pos (by omega)]
        · rw [if_neg e2, if_neg (by omega)]
    rw [hst] at hw
    have hv : ∀ x : Int32, x >>> (wI (24 - 8 * ((k : Int) % 4)) &&& 31) &&& wI 255 = wI (byM x (k % 4)) := fun x => by
      unfold byM
      rw [show (((k % 4 : Nat)) : Int) = (k : Int) % 4 by omega]
      exact wI_of _
    have hx : ∀ q, (k / 4 = q) → x5 a b c d e (k / 4) = x5 a b c d e q := fun q hq => by rw [hq]
    by_cases k1 : k < 4
    · have d1 : ((4 : Int) ≤ (k : Int)) = False := eq_false (by omega)
      rw [hx 0 (by omega)] at hw ⊢
      have hx0 : x5 a b c d e 0 = a := rfl
      rw [hx0] at hw ⊢
      simp (disch := omega) only [e15_25, e15_27, e15_30, e15_32, e15_33, e15_36, e15_37, e15_40, e15_42, e15_44, e15_47, e15_48, e15_51, e15_53, e15_55, e15_58, e15_59, e15_62, e15_64, e15_66, e15_69, e15_71, e15_74, e15_76, e15_78, e15_79, e15_82, e15_83, e15_86, e15_88, e15_89, e15_91, e15_93, e15_95, e15_97, e15_98, e15_99, e15_100, e15_101, e15_102, e15_105, e15_106, e15_107, e15_110, ↓reduceIte, Bool.false_eq_true, not_false_eq_true, not_true_eq_false, Nat.reduceLeDiff, Nat.reduceAdd, Nat.reduceEqDiff, Int.reduceToNat, Int.toNat_natCast, iB0, iB1, ru_klI, ru_klR, ru_klF, ru_klJ, ru_kl0, ru_cs0, ru_csI, ru_csR, ru_csF, ru_csJ, wI_add, wI_sub, wI_mul, wI_lt, wI_le, wI_inj, ru_fdE, ru_fdN, ru_iaN, ru_baN, ru_laN, ru_qaN, ru_pfN, ru_isN, ru_bsN, ru_jsN, ru_qsN, ru_set2, Nat.add_right_cancel_iff, if_true, if_false, ite_self, Int.reduceEq, and_self, Int.add_neg_cancel_right, Int.add_zero, Int.zero_add, md_e, md_f6, hf7, cc, d1, wI_rem, wI_ne0, hv, hw, Int.natCast_add, Int.natCast_one]
    · have d1 : ((4 : Int) ≤ (k : Int)) = True := eq_true (by omega)
      by_cases k2 : k < 8
      · have d2 : ((8 : Int) ≤ (k : Int)) = False := eq_false (by omega)
        rw [hx 1 (by omega)] at hw ⊢
        have hx0 : x5 a b c d e 1 = b := rfl
        rw [hx0] at hw ⊢
        simp (disch := omega) only [e15_25, e15_27, e15_30, e15_32, e15_33, e15_36, e15_37, e15_40, e15_42, e15_44, e15_47, e15_48, e15_51, e15_53, e15_55, e15_58, e15_59, e15_62, e15_64, e15_66, e15_69, e15_71, e15_74, e15_76, e15_78, e15_79, e15_82, e15_83, e15_86, e15_88, e15_89, e15_91, e15_93, e15_95, e15_97, e15_98, e15_99, e15_100, e15_101, e15_102, e15_105, e15_106, e15_107, e15_110, ↓reduceIte, Bool.false_eq_true, not_false_eq_true, not_true_eq_false, Nat.reduceLeDiff, Nat.reduceAdd, Nat.reduceEqDiff, Int.reduceToNat, Int.toNat_natCast, iB0, iB1, ru_klI, ru_klR, ru_klF, ru_klJ, ru_kl0, ru_cs0, ru_csI, ru_csR, ru_csF, ru_csJ, wI_add, wI_sub, wI_mul, wI_lt, wI_le, wI_inj, ru_fdE, ru_fdN, ru_iaN, ru_baN, ru_laN, ru_qaN, ru_pfN, ru_isN, ru_bsN, ru_jsN, ru_qsN, ru_set2, Nat.add_right_cancel_iff, if_true, if_false, ite_self, Int.reduceEq, and_self, Int.add_neg_cancel_right, Int.add_zero, Int.zero_add, md_e, md_f6, hf7, cc, d1, d2, wI_rem, wI_ne0, hv, hw, Int.natCast_add, Int.natCast_one]
      · have d2 : ((8 : Int) ≤ (k : Int)) = True := eq_true (by omega)
        by_cases k3 : k < 12
        · have d3 : ((12 : Int) ≤ (k : Int)) = False := eq_false (by omega)
          rw [hx 2 (by omega)] at hw ⊢
          have hx0 : x5 a b c d e 2 = c := rfl
          rw [hx0] at hw ⊢
          simp (disch := omega) only [e15_25, e15_27, e15_30, e15_32, e15_33, e15_36, e15_37, e15_40, e15_42, e15_44, e15_47, e15_48, e15_51, e15_53, e15_55, e15_58, e15_59, e15_62, e15_64, e15_66, e15_69, e15_71, e15_74, e15_76, e15_78, e15_79, e15_82, e15_83, e15_86, e15_88, e15_89, e15_91, e15_93, e15_95, e15_97, e15_98, e15_99, e15_100, e15_101, e15_102, e15_105, e15_106, e15_107, e15_110, ↓reduceIte, Bool.false_eq_true, not_false_eq_true, not_true_eq_false, Nat.reduceLeDiff, Nat.reduceAdd, Nat.reduceEqDiff, Int.reduceToNat, Int.toNat_natCast, iB0, iB1, ru_klI, ru_klR, ru_klF, ru_klJ, ru_kl0, ru_cs0, ru_csI, ru_csR, ru_csF, ru_csJ, wI_add, wI_sub, wI_mul, wI_lt, wI_le, wI_inj, ru_fdE, ru_fdN, ru_iaN, ru_baN, ru_laN, ru_qaN, ru_pfN, ru_isN, ru_bsN, ru_jsN, ru_qsN, ru_set2, Nat.add_right_cancel_iff, if_true, if_false, ite_self, Int.reduceEq, and_self, Int.add_neg_cancel_right, Int.add_zero, Int.zero_add, md_e, md_f6, hf7, cc, d1, d2, d3, wI_rem, wI_ne0, hv, hw, Int.natCast_add, Int.natCast_one]
        · have d3 : ((12 : Int) ≤ (k : Int)) = True := eq_true (by omega)
          by_cases k4 : k < 16
          · have d4 : ((16 : Int) ≤ (k : Int)) = False := eq_false (by omega)
            rw [hx 3 (by omega)] at hw ⊢
            have hx0 : x5 a b c d e 3 = d := rfl
            rw [hx0] at hw ⊢
            simp (disch := omega) only [e15_25, e15_27, e15_30, e15_32, e15_33, e15_36, e15_37, e15_40, e15_42, e15_44, e15_47, e15_48, e15_51, e15_53, e15_55, e15_58, e15_59, e15_62, e15_64, e15_66, e15_69, e15_71, e15_74, e15_76, e15_78, e15_79, e15_82, e15_83, e15_86, e15_88, e15_89, e15_91, e15_93, e15_95, e15_97, e15_98, e15_99, e15_100, e15_101, e15_102, e15_105, e15_106, e15_107, e15_110, ↓reduceIte, Bool.false_eq_true, not_false_eq_true, not_true_eq_false, Nat.reduceLeDiff, Nat.reduceAdd, Nat.reduceEqDiff, Int.reduceToNat, Int.toNat_natCast, iB0, iB1, ru_klI, ru_klR, ru_klF, ru_klJ, ru_kl0, ru_cs0, ru_csI, ru_csR, ru_csF, ru_csJ, wI_add, wI_sub, wI_mul, wI_lt, wI_le, wI_inj, ru_fdE, ru_fdN, ru_iaN, ru_baN, ru_laN, ru_qaN, ru_pfN, ru_isN, ru_bsN, ru_jsN, ru_qsN, ru_set2, Nat.add_right_cancel_iff, if_true, if_false, ite_self, Int.reduceEq, and_self, Int.add_neg_cancel_right, Int.add_zero, Int.zero_add, md_e, md_f6, hf7, cc, d1, d2, d3, d4, wI_rem, wI_ne0, hv, hw, Int.natCast_add, Int.natCast_one]
          · have d4 : ((16 : Int) ≤ (k : Int)) = True := eq_true (by omega)
            rw [hx 4 (by omega)] at hw ⊢
            have hx0 : x5 a b c d e 4 = e := rfl
            rw [hx0] at hw ⊢
            simp (disch := omega) only [e15_25, e15_27, e15_30, e15_32, e15_33, e15_36, e15_37, e15_40, e15_42, e15_44, e15_47, e15_48, e15_51, e15_53, e15_55, e15_58, e15_59, e15_62, e15_64, e15_66, e15_69, e15_71, e15_74, e15_76, e15_78, e15_79, e15_82, e15_83, e15_86, e15_88, e15_89, e15_91, e15_93, e15_95, e15_97, e15_98, e15_99, e15_100, e15_101, e15_102, e15_105, e15_106, e15_107, e15_110, ↓reduceIte, Bool.false_eq_true, not_false_eq_true, not_true_eq_false, Nat.reduceLeDiff, Nat.reduceAdd, Nat.reduceEqDiff, Int.reduceToNat, Int.toNat_natCast, iB0, iB1, ru_klI, ru_klR, ru_klF, ru_klJ, ru_kl0, ru_cs0, ru_csI, ru_csR, ru_csF, ru_csJ, wI_add, wI_sub, wI_mul, wI_lt, wI_le, wI_inj, ru_fdE, ru_fdN, ru_iaN, ru_baN, ru_laN, ru_qaN, ru_pfN, ru_isN, ru_bsN, ru_jsN, ru_qsN, ru_set2, Nat.add_right_cancel_iff, if_true, if_false, ite_self, Int.reduceEq, and_self, Int.add_neg_cancel_right, Int.add_zero, Int.zero_add, md_e, md_f6, hf7, cc, d1, d2, d3, d4, wI_rem, wI_ne0, hv, hw, Int.natCast_add, Int.natCast_one]
theorem p15 (hR : 0 ≤ M.1 7 ∧ M.1 7 ≤ 1200) {a b c d e : Int32} : ru_ev z 15 [.ref 1315, .int a, .int b, .int c, .int d, .int e] (mdPut h M) = some (.inl (some (.int (wI (if M.1 7 + 20 ≤ 1200 then M.1 7 + 20 else -1)))), mdPut h (if M.1 7 + 20 ≤ 1200 then (up1 (mdT M 0).1 7 (M.1 7 + 20), (apM M (M.1 7).toNat (x5 a b c d e) 20).2) else mdT M 0)) := by
  obtain ⟨m, hm⟩ := Int.eq_ofNat_of_zero_le hR.1
  have f7 : am_fd (mdPut h (mdT M 0)) 1315 10 7 = some (.int (wI (m : Nat))) := by
    rw [md_f7]
    show some (Value.int (wI (M.1 7))) = _
    rw [hm]
  have s0 : am_pf (mdPut h M) 1315 10 0 0 (.int (wI 0)) = some (mdPut h (mdT M 0)) := md_s0
  rw [hm]
  by_cases cc : (m : Int) + 20 ≤ 1200
  · rw [if_pos cc, if_pos cc]
    obtain ⟨l7', k⟩ := p15l (z := z) (h := h) (M := mdT M 0) (m := m) (by omega) (by show M.1 7 = _; exact hm) (a := a) (b := b) (c := c) (d := d) (e := e) 20 0 (by omega) none
    have e0 : apM (mdT M 0) m (x5 a b c d e) 0 = mdT M 0 := by
      refine Prod.ext rfl ?_
      show upC M.2 3 _ = M.2
      have : (fun j => if m ≤ j ∧ j < m + 0 then byM (x5 a b c d e ((j - m) / 4)) ((j - m) % 4) else M.2 3 j) = M.2 3 := by
        funext j; rw [if_neg (by omega)]
      show upC M.2 3 (fun j => if m ≤ j ∧ j < m + 0 then byM (x5 a b c d e ((j - m) / 4)) ((j - m) % 4) else M.2 3 j) = M.2
      rw [this, upC_self]
    rw [e0, show ((0 : Nat) : Int) = 0 from rfl] at k
    have d1 : ((m : Int) + 20 ≤ 1200) = True := eq_true cc
    have g7 : ∀ N : tMd, N.1 = (mdT M 0).1 → am_fd (mdPut h N) 1315 10 7 = some (.int (wI (m : Nat))) := fun N hN => by
      rw [md_f7, hN]
      show some (Value.int (wI (M.1 7))) = _
      rw [hm]
    have s7 : am_pf (mdPut h (apM (mdT M 0) m (x5 a b c d e) 20)) 1315 10 7 0 (.int (wI ((m : Int) + 20))) = some (mdPut h (up1 (mdT M 0).1 7 ((m : Int) + 20), (apM (mdT M 0) m (x5 a b c d e) 20).2)) := md_s7
    have h7 : am_fd (mdPut h (up1 (mdT M 0).1 7 ((m : Int) + 20), (apM (mdT M 0) m (x5 a b c d e) 20).2)) 1315 10 7 = some (.int (wI ((m : Int) + 20))) := md_f7
    have g7' := g7 (apM (mdT M 0) m (x5 a b c d e) 20) rfl
    simp (disch := omega) only [e15_0, e15_1, e15_2, e15_5, e15_6, e15_9, e15_11, e15_12, e15_15, e15_18, e15_19, e15_20, e15_21, en15, ↓reduceIte, Bool.false_eq_true, not_false_eq_true, not_true_eq_false, Nat.reduceLeDiff, Nat.reduceAdd, Nat.reduceEqDiff, Int.reduceToNat, Int.toNat_natCast, iB0, iB1, ru_klI, ru_klR, ru_klF, ru_klJ, ru_kl0, ru_cs0, ru_csI, ru_csR, ru_csF, ru_csJ, wI_add, wI_sub, wI_mul, wI_lt, wI_le, wI_inj, ru_fdE, ru_fdN, ru_iaN, ru_baN, ru_laN, ru_qaN, ru_pfN, ru_isN, ru_bsN, ru_jsN, ru_qsN, ru_set2, Nat.add_right_cancel_iff, if_true, if_false, ite_self, Int.reduceEq, and_self, Int.add_neg_cancel_right, Int.add_zero, Int.zero_add, md_e, s0, f7, d1]
    rw [k]
    simp (disch := omega) only [e15_113, e15_114, e15_115, e15_118, e15_120, e15_121, e15_124, e15_125, e15_128, ↓reduceIte, Bool.false_eq_true, not_false_eq_true, not_true_eq_false, Nat.reduceLeDiff, Nat.reduceAdd, Nat.reduceEqDiff, Int.reduceToNat, Int.toNat_natCast, iB0, iB1, ru_klI, ru_klR, ru_klF, ru_klJ, ru_kl0, ru_cs0, ru_csI, ru_csR, ru_csF, ru_csJ, wI_add, wI_sub, wI_mul, wI_lt, wI_le, wI_inj, ru_fdE, ru_fdN, ru_iaN, ru_baN, ru_laN, ru_qaN, ru_pfN, ru_isN, ru_bsN, ru_jsN, ru_qsN, ru_set2, Nat.add_right_cancel_iff, if_true, if_false, ite_self, Int.reduceEq, and_self, Int.add_neg_cancel_right, Int.add_zero, Int.zero_add, md_e, g7', s7, h7, ru_ctR]
    rfl
  · rw [if_neg cc, if_neg cc]
    have d1 : ((m : Int) + 20 ≤ 1200) = False := eq_false cc
    simp (disch := omega) only [en15, e15_0, e15_1, e15_2, e15_5, e15_6, e15_9, e15_11, e15_12, e15_15, e15_18, e15_19, e15_20, e15_21, e15_23, e15_25, e15_27, e15_30, e15_32, e15_33, e15_36, e15_37, e15_40, e15_42, e15_44, e15_47, e15_48, e15_51, e15_53, e15_55, e15_58, e15_59, e15_62, e15_64, e15_66, e15_69, e15_71, e15_74, e15_76, e15_78, e15_79, e15_82, e15_83, e15_86, e15_88, e15_89, e15_91, e15_93, e15_95, e15_97, e15_98, e15_99, e15_100, e15_101, e15_102, e15_105, e15_106, e15_107, e15_110, e15_113, e15_114, e15_115, e15_118, e15_120, e15_121, e15_124, e15_125, e15_128, ↓reduceIte, Bool.false_eq_true, not_false_eq_true, not_true_eq_false, Nat.reduceLeDiff, Nat.reduceAdd, Nat.reduceEqDiff, Int.reduceToNat, Int.toNat_natCast, iB0, iB1, ru_klI, ru_klR, ru_klF, ru_klJ, ru_kl0, ru_cs0, ru_csI, ru_csR, ru_csF, ru_csJ, wI_add, wI_sub, wI_mul, wI_lt, wI_le, wI_inj, ru_fdE, ru_fdN, ru_iaN, ru_baN, ru_laN, ru_qaN, ru_pfN, ru_isN, ru_bsN, ru_jsN, ru_qsN, ru_set2, Nat.add_right_cancel_iff, if_true, if_false, ite_self, Int.reduceEq, and_self, Int.add_neg_cancel_right, Int.add_zero, Int.zero_add, md_e, s0, f7, d1]
end APP
