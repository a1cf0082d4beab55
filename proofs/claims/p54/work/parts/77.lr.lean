/-! ===== the reference lays the rows ===== -/
def mdQ (M : tMd) (rm : Int) (R L Q : Nat → Int) : tMd := (up1 M.1 34 rm, upC (upC (upC M.2 11 R) 12 L) 13 Q)
theorem up2_C (G : Nat → Nat → Int) (c i : Nat) (v : Int) : up2 G c i v = upC G c (up1 (G c) i v) := by
  funext a b; unfold up2 upC up1
  by_cases e : a = c
  · rw [if_pos e, if_pos e]
  · rw [if_neg e, if_neg e]
section LRQ
variable {z : Bool} {h : am_H} {M : tMd} {rm : Int} {R L Q : Nat → Int} {i v : Int} {f : Nat}
theorem mph_Q : mph (mdQ M rm R L Q) f = mph M f := rfl
theorem lr_f34 : am_fd (mdPut h (mdQ M rm R L Q)) 1315 10 34 = some (.int (wI rm)) := md_f34
theorem lr_f24 : am_fd (mdPut h (mdQ M rm R L Q)) 1315 10 24 = some (.int (wI (M.1 24))) := md_f24
theorem lr_s34 : am_pf (mdPut h (mdQ M rm R L Q)) 1315 10 34 0 (.int (wI v)) = some (mdPut h (mdQ M v R L Q)) := by
  rw [md_s34]; unfold mdQ; rw [up1_up1]
theorem lr_a11 (h1 : 0 ≤ i) (h2 : i < 12) : am_ia (mdPut h (mdQ M rm R L Q)) 1327 (wI i) = some (wI (R i.toNat)) := md_a11 h1 h2
theorem lr_a12 (h1 : 0 ≤ i) (h2 : i < 12) : am_ia (mdPut h (mdQ M rm R L Q)) 1328 (wI i) = some (wI (L i.toNat)) := md_a12 h1 h2
theorem lr_a13 (h1 : 0 ≤ i) (h2 : i < 12) : am_ia (mdPut h (mdQ M rm R L Q)) 1329 (wI i) = some (wI (Q i.toNat)) := md_a13 h1 h2
theorem lr_w11 (h1 : 0 ≤ i) (h2 : i < 12) : am_is (mdPut h (mdQ M rm R L Q)) 1327 (wI i) (wI v) = some (mdPut h (mdQ M rm (up1 R i.toNat v) L Q)) := by
  rw [md_w11 h1 h2, up2_C]
  congr 3
  funext c
  unfold mdQ upC
  by_cases e1 : c = 11
  · subst e1; rfl
  · simp only [e1, if_false]
theorem lr_w12 (h1 : 0 ≤ i) (h2 : i < 12) : am_is (mdPut h (mdQ M rm R L Q)) 1328 (wI i) (wI v) = some (mdPut h (mdQ M rm R (up1 L i.toNat v) Q)) := by
  rw [md_w12 h1 h2, up2_C]
  congr 3
  funext c
  unfold mdQ upC
  by_cases e1 : c = 12
  · subst e1; rfl
  · simp only [e1, if_false]
theorem lr_w13 (h1 : 0 ≤ i) (h2 : i < 12) : am_is (mdPut h (mdQ M rm R L Q)) 1329 (wI i) (wI v) = some (mdPut h (mdQ M rm R L (up1 Q i.toNat v))) := by
  rw [md_w13 h1 h2, up2_C]
  congr 3
  funext c
  unfold mdQ upC
  by_cases e1 : c = 13
  · subst e1; rfl
  · simp only [e1, if_false]
theorem mdQ_of (M : tMd) : M = mdQ M (M.1 34) (M.2 11) (M.2 12) (M.2 13) := by
  unfold mdQ
  rw [up1_self, upC_self, upC_self, upC_self]
/-- the reference's order by x in a row -/
theorem p128 {a b : Nat} (hf : f < 5) (ha : a < 12) (hb : b < 12) (hr : phR (mph M f)) : ru_ev z 128 [.ref 1315, .int (wI f), .int (wI a), .int (wI b)] (mdPut h M) = some (.inl (some (.int (wI (if lfB (shX (mph M f)) a b = true then 1 else 0)))), mdPut h M) := by
  have s1 := shXY_rng hr a
  have s2 := shXY_rng hr b
  simp (disch := omega) only [en128, e128_0, e128_1, e128_2, e128_3, e128_6, e128_7, e128_8, e128_9, e128_12, e128_15, e128_16, e128_17, e128_18, e128_21, e128_22, e128_23, e128_24, e128_27, e128_30, e128_31, e128_34, e128_35, e128_38, e128_39, e128_40, e128_43, e128_44, e128_47, e128_48, ↓reduceIte, Bool.false_eq_true, not_false_eq_true, not_true_eq_false, Nat.reduceLeDiff, Nat.reduceAdd, Nat.reduceEqDiff, Int.reduceToNat, Int.toNat_natCast, iB0, iB1, ru_klI, ru_klR, ru_klF, ru_klJ, ru_kl0, ru_cs0, ru_csI, ru_csR, ru_csF, ru_csJ, wI_add, wI_sub, wI_mul, wI_lt, wI_le, wI_inj, ru_fdE, ru_fdN, ru_iaN, ru_baN, ru_laN, ru_qaN, ru_pfN, ru_isN, ru_bsN, ru_jsN, ru_qsN, ru_set2, Nat.add_right_cancel_iff, if_true, if_false, ite_self, Int.reduceEq, md_e, md_f0, md_s0, md_f1, md_s1, md_f2, md_f3, md_f4, md_s4, md_f5, md_f6, md_f7, md_s7, md_f8, md_s8, md_f9, md_s9, md_f10, md_s10, md_f11, md_s11, md_f12, md_s12, md_f13, md_s13, md_f14, md_f15, md_s15, md_f16, md_s16, md_f17, md_s17, md_f18, md_s18, md_f19, md_f20, md_s20, md_f21, md_f22, md_s22, md_f23, md_f24, md_s24, md_f25, md_s25, md_f26, md_f27, md_f28, md_s28, md_f29, md_s29, md_f30, md_f31, md_f32, md_f33, md_f34, md_s34, md_f35, md_s35, md_f36, md_f37, md_f38, md_s38, md_a0, md_w0, md_a1, md_w1, md_a2, md_w2, md_a3, md_w3, md_a4, md_w4, md_a5, md_w5, md_a6, md_w6, md_a7, md_w7, md_a8, md_w8, md_a9, md_w9, md_a10, md_w10, md_a11, md_w11, md_a12, md_w12, md_a13, md_w13, md_a14, md_w14, md_a15, md_w15, up1_e, up1_n, mdT_1, mdT_n, mdT_2, mdT_T, p129 (z := z) (h := h) (M := M) hf ha hr, p129 (z := z) (h := h) (M := M) hf hb hr, wI_and1]
  unfold lfB
  by_cases e : shX (mph M f) a = shX (mph M f) b
  · simp only [e, if_true, decide_eq_true_eq, not_true, if_false, Int.ofNat_le, Int.lt_irrefl]
    repeat' split
    all_goals first | rfl | (exfalso; omega)
  · simp only [e, if_false, decide_eq_true_eq, not_false_eq_true, if_true]
    repeat' split
    all_goals first | rfl | (exfalso; omega)
end LRQ
def bstI (q : tPh) (R : Nat → Int) (k : Nat) (b : Int) : Prop := (b = -1 ∧ ∀ o, o < k → shw q o = true → ¬ R o = -1) ∨ ∃ m : Nat, b = (m : Int) ∧ m < k ∧ shw q m = true ∧ R m = -1 ∧ ∀ o, o < k → shw q o = true → R o = -1 → kyY (shY q) m ≤ kyY (shY q) o
section LRL
variable {z : Bool} {h : am_H} {M : tMd} {rm : Int} {f : Nat}
theorem p120c (hf : f < 5) (hr : phR (mph M f)) {R L Q : Nat → Int} (hR : ∀ k, k < 12 → -1 ≤ R k ∧ R k < 12) {n : Nat} (hn : (mph M f).1 7 = (n : Int)) {B N : Int} : ∀ d k, k + d = n → ∀ b, bstI (mph M f) R k b → ∃ b', bstI (mph M f) R n b' ∧
    ru_n z 120 61 [some (.ref 1315), some (.int (wI f)), some (.int (wI B)), some (.int (wI N)), some (.int (wI b)), some (.int (wI k))] [] (mdPut h (mdQ M rm R L Q)) = ru_n z 120 125 [some (.ref 1315), some (.int (wI f)), some (.int (wI B)), some (.int (wI N)), some (.int (wI b')), some (.int (wI n))] [] (mdPut h (mdQ M rm R L Q)) := by
  have s := phR_s hr
  intro d
  induction d with
  | zero =>
    intro k hk b hb
    obtain rfl : k = n := by omega
    refine ⟨b, hb, ?_⟩
    have c : ((k : Int) ≤ (k : Int)) = True := eq_true (Int.le_refl _)
    simp (disch := omega) only [e120_61, e120_63, e120_64, e120_65, e120_68, ↓reduceIte, Bool.false_eq_true, not_false_eq_true, not_true_eq_false, Nat.reduceLeDiff, Nat.reduceAdd, Nat.reduceEqDiff, Int.reduceToNat, Int.toNat_natCast, iB0, iB1, ru_klI, ru_klR, ru_klF, ru_klJ, ru_kl0, ru_cs0, ru_csI, ru_csR, ru_csF, ru_csJ, wI_add, wI_sub, wI_mul, wI_lt, wI_le, wI_inj, ru_fdE, ru_fdN, ru_iaN, ru_baN, ru_laN, ru_qaN, ru_pfN, ru_isN, ru_bsN, ru_jsN, ru_qsN, ru_set2, Nat.add_right_cancel_iff, if_true, if_false, ite_self, Int.reduceEq, ru_ctR, ru_ctI, md_e, p122, mph_Q, hn, c]
  | succ d ih =>
    intro k hk b hb
    have c : ((n : Int) ≤ (k : Int)) = False := eq_false (by omega)
    have hS := p124 (z := z) (h := h) (M := mdQ M rm R L Q) (f := f) (k := k) hf (by omega) hr
    rw [mph_Q] at hS
    have hY : ∀ m, m < 12 → ru_ev z 127 [.ref 1315, .int (wI f), .int (wI (m : Nat))] (mdPut h (mdQ M rm R L Q)) = some (.inl (some (.int (wI (shY (mph M f) m)))), mdPut h (mdQ M rm R L Q)) := fun m hm => p127 hf hm
    have hRk := hR k (by omega)
    rw [e120_61]
    by_cases e1 : shw (mph M f) k = true
    · by_cases e2 : R k = -1
      · rcases hb with ⟨rfl, hb⟩ | ⟨m, rfl, h1, h2, h3, h4⟩
        · obtain ⟨b', t1, t2⟩ := ih (k + 1) (by omega) (k : Int) (Or.inr ⟨k, rfl, by omega, e1, e2, fun o ho hs hRo => by
            by_cases e : o = k
            · subst e; exact Int.le_refl _
            · exact absurd hRo (hb o (by omega) hs)⟩)
          refine ⟨b', t1, ?_⟩
          rw [← t2]
          have cm : ((-1 : Int) = -1) = True := eq_true rfl
          simp (disch := omega) only [e120_63, e120_64, e120_65, e120_68, e120_71, e120_72, e120_73, e120_75, e120_78, e120_81, e120_82, e120_85, e120_87, e120_88, e120_89, e120_92, e120_94, e120_95, e120_98, e120_99, e120_100, e120_102, e120_105, e120_106, e120_107, e120_109, e120_112, e120_115, e120_117, e120_119, e120_122, ↓reduceIte, Bool.false_eq_true, not_false_eq_true, not_true_eq_false, Nat.reduceLeDiff, Nat.reduceAdd, Nat.reduceEqDiff, Int.reduceToNat, Int.toNat_natCast, iB0, iB1, ru_klI, ru_klR, ru_klF, ru_klJ, ru_kl0, ru_cs0, ru_csI, ru_csR, ru_csF, ru_csJ, wI_add, wI_sub, wI_mul, wI_lt, wI_le, wI_inj, ru_fdE, ru_fdN, ru_iaN, ru_baN, ru_laN, ru_qaN, ru_pfN, ru_isN, ru_bsN, ru_jsN, ru_qsN, ru_set2, Nat.add_right_cancel_iff, if_true, if_false, ite_self, Int.reduceEq, ru_ctR, ru_ctI, md_e, md_f31, lr_a11, p122, mph_Q, hn, c, hS, e1, e2, wI_b0, not_true, cm, Int.natCast_add, Int.natCast_one]
        · have cm : ((m : Int) = -1) = False := eq_false (by omega)
          have rk := shXY_rng hr k
          have rm := shXY_rng hr m
          by_cases e3 : shY (mph M f) k ≤ shY (mph M f) m
          · obtain ⟨b', t1, t2⟩ := ih (k + 1) (by omega) (m : Int) (Or.inr ⟨m, rfl, by omega, h2, h3, fun o ho hs hRo => by
              by_cases e : o = k
              · subst e; unfold kyY; omega
              · exact h4 o (by omega) hs hRo⟩)
            refine ⟨b', t1, ?_⟩
            rw [← t2]
            have c3 : (shY (mph M f) k ≤ shY (mph M f) m) = True := eq_true e3
            simp (disch := omega) only [e120_63, e120_64, e120_65, e120_68, e120_71, e120_72, e120_73, e120_75, e120_78, e120_81, e120_82, e120_85, e120_87, e120_88, e120_89, e120_92, e120_94, e120_95, e120_98, e120_99, e120_100, e120_102, e120_105, e120_106, e120_107, e120_109, e120_112, e120_115, e120_117, e120_119, e120_122, ↓reduceIte, Bool.false_eq_true, not_false_eq_true, not_true_eq_false, Nat.reduceLeDiff, Nat.reduceAdd, Nat.reduceEqDiff, Int.reduceToNat, Int.toNat_natCast, iB0, iB1, ru_klI, ru_klR, ru_klF, ru_klJ, ru_kl0, ru_cs0, ru_csI, ru_csR, ru_csF, ru_csJ, wI_add, wI_sub, wI_mul, wI_lt, wI_le, wI_inj, ru_fdE, ru_fdN, ru_iaN, ru_baN, ru_laN, ru_qaN, ru_pfN, ru_isN, ru_bsN, ru_jsN, ru_qsN, ru_set2, Nat.add_right_cancel_iff, if_true, if_false, ite_self, Int.reduceEq, ru_ctR, ru_ctI, md_e, md_f31, lr_a11, p122, mph_Q, hn, c, hS, e1, e2, wI_b0, not_true, cm, hY, c3, Int.natCast_add, Int.natCast_one]
          · obtain ⟨b', t1, t2⟩ := ih (k + 1) (by omega) (k : Int) (Or.inr ⟨k, rfl, by omega, e1, e2, fun o ho hs hRo => by
              by_cases e : o = k
              · subst e; exact Int.le_refl _
              · have := h4 o (by omega) hs hRo
                unfold kyY at this ⊢; omega⟩)
            refine ⟨b', t1, ?_⟩
            rw [← t2]
            have c3 : (shY (mph M f) k ≤ shY (mph M f) m) = False := eq_false e3
            simp (disch := omega) only [e120_63, e120_64, e120_65, e120_68, e120_71, e120_72, e120_73, e120_75, e120_78, e120_81, e120_82, e120_85, e120_87, e120_88, e120_89, e120_92, e120_94, e120_95, e120_98, e120_99, e120_100, e120_102, e120_105, e120_106, e120_107, e120_109, e120_112, e120_115, e120_117, e120_119, e120_122, ↓reduceIte, Bool.false_eq_true, not_false_eq_true, not_true_eq_false, Nat.reduceLeDiff, Nat.reduceAdd, Nat.reduceEqDiff, Int.reduceToNat, Int.toNat_natCast, iB0, iB1, ru_klI, ru_klR, ru_klF, ru_klJ, ru_kl0, ru_cs0, ru_csI, ru_csR, ru_csF, ru_csJ, wI_add, wI_sub, wI_mul, wI_lt, wI_le, wI_inj, ru_fdE, ru_fdN, ru_iaN, ru_baN, ru_laN, ru_qaN, ru_pfN, ru_isN, ru_bsN, ru_jsN, ru_qsN, ru_set2, Nat.add_right_cancel_iff, if_true, if_false, ite_self, Int.reduceEq, ru_ctR, ru_ctI, md_e, md_f31, lr_a11, p122, mph_Q, hn, c, hS, e1, e2, wI_b0, not_true, cm, hY, c3, Int.natCast_add, Int.natCast_one]
      · obtain ⟨b', t1, t2⟩ := ih (k + 1) (by omega) b (by
          rcases hb with ⟨rfl, hb⟩ | ⟨m, rfl, h1, h2, h3, h4⟩
          · refine Or.inl ⟨rfl, fun o ho hs => ?_⟩
            by_cases e : o = k
            · subst e; exact e2
            · exact hb o (by omega) hs
          · refine Or.inr ⟨m, rfl, by omega, h2, h3, fun o ho hs hRo => ?_⟩
            by_cases e : o = k
            · subst e; exact absurd hRo e2
            · exact h4 o (by omega) hs hRo)
        refine ⟨b', t1, ?_⟩
        rw [← t2]
        simp (disch := omega) only [e120_63, e120_64, e120_65, e120_68, e120_71, e120_72, e120_73, e120_75, e120_78, e120_81, e120_82, e120_85, e120_87, e120_88, e120_89, e120_92, e120_94, e120_95, e120_98, e120_99, e120_100, e120_102, e120_105, e120_106, e120_107, e120_109, e120_112, e120_115, e120_117, e120_119, e120_122, ↓reduceIte, Bool.false_eq_true, not_false_eq_true, not_true_eq_false, Nat.reduceLeDiff, Nat.reduceAdd, Nat.reduceEqDiff, Int.reduceToNat, Int.toNat_natCast, iB0, iB1, ru_klI, ru_klR, ru_klF, ru_klJ, ru_kl0, ru_cs0, ru_csI, ru_csR, ru_csF, ru_csJ, wI_add, wI_sub, wI_mul, wI_lt, wI_le, wI_inj, ru_fdE, ru_fdN, ru_iaN, ru_baN, ru_laN, ru_qaN, ru_pfN, ru_isN, ru_bsN, ru_jsN, ru_qsN, ru_set2, Nat.add_right_cancel_iff, if_true, if_false, ite_self, Int.reduceEq, ru_ctR, ru_ctI, md_e, md_f31, lr_a11, p122, mph_Q, hn, c, hS, e1, e2, wI_b0, not_true, not_false_iff, Int.natCast_add, Int.natCast_one]
    · obtain ⟨b', t1, t2⟩ := ih (k + 1) (by omega) b (by
        rcases hb with ⟨rfl, hb⟩ | ⟨m, rfl, h1, h2, h3, h4⟩
        · refine Or.inl ⟨rfl, fun o ho hs => ?_⟩
          by_cases e : o = k
          · subst e; exact absurd hs e1
          · exact hb o (by omega) hs
        · refine Or.inr ⟨m, rfl, by omega, h2, h3, fun o ho hs hRo => ?_⟩
          by_cases e : o = k
          · subst e; exact absurd hs e1
          · exact h4 o (by omega) hs hRo)
      refine ⟨b', t1, ?_⟩
      rw [← t2]
      simp (disch := omega) only [e120_63, e120_64, e120_65, e120_68, e120_71, e120_72, e120_73, e120_75, e120_78, e120_81, e120_82, e120_85, e120_87, e120_88, e120_89, e120_92, e120_94, e120_95, e120_98, e120_99, e120_100, e120_102, e120_105, e120_106, e120_107, e120_109, e120_112, e120_115, e120_117, e120_119, e120_122, ↓reduceIte, Bool.false_eq_true, not_false_eq_true, not_true_eq_false, Nat.reduceLeDiff, Nat.reduceAdd, Nat.reduceEqDiff, Int.reduceToNat, Int.toNat_natCast, iB0, iB1, ru_klI, ru_klR, ru_klF, ru_klJ, ru_kl0, ru_cs0, ru_csI, ru_csR, ru_csF, ru_csJ, wI_add, wI_sub, wI_mul, wI_lt, wI_le, wI_inj, ru_fdE, ru_fdN, ru_iaN, ru_baN, ru_laN, ru_qaN, ru_pfN, ru_isN, ru_bsN, ru_jsN, ru_qsN, ru_set2, Nat.add_right_cancel_iff, if_true, if_false, ite_self, Int.reduceEq, ru_ctR, ru_ctI, md_e, md_f31, lr_a11, p122, mph_Q, hn, c, hS, e1, wI_b0, not_false_iff, Int.natCast_add, Int.natCast_one]
end LRL
