/-! ===== the law's album: holders, names given, people in their order ===== -/
theorem ylP_ag {X X' : am_H} {B : Nat} {A : tLw} (h : ylP X B A) (k : ∀ q, B < q → q < B + 30 → X'.1 q = X.1 q) : ylP X' B A := by
  obtain ⟨⟨a1, a2, a3, a4, a5, a6, a7⟩, ⟨b1, b2, b3, b4, b5⟩, c⟩ := h
  refine ⟨⟨by rw [k _ (by omega) (by omega)]; exact a1, by rw [k _ (by omega) (by omega)]; exact a2, by rw [k _ (by omega) (by omega)]; exact a3, by rw [k _ (by omega) (by omega)]; exact a4, by rw [k _ (by omega) (by omega)]; exact a5, by rw [k _ (by omega) (by omega)]; exact a6, by rw [k _ (by omega) (by omega)]; exact a7⟩,
    ⟨by rw [k _ (by omega) (by omega)]; exact b1, by rw [k _ (by omega) (by omega)]; exact b2, by rw [k _ (by omega) (by omega)]; exact b3, by rw [k _ (by omega) (by omega)]; exact b4, by rw [k _ (by omega) (by omega)]; exact b5⟩, fun f hf => ?_⟩
  obtain ⟨d1, d2, d3, d4, d5⟩ := c f hf
  exact ⟨by rw [k _ (by omega) (by omega)]; exact d1, by rw [k _ (by omega) (by omega)]; exact d2, by rw [k _ (by omega) (by omega)]; exact d3, by rw [k _ (by omega) (by omega)]; exact d4, by rw [k _ (by omega) (by omega)]; exact d5⟩
theorem ylP_set {X : am_H} {B R : Nat} {A : tLw} {e : am_C} (h : ylP X B A) (hR : R ≤ B ∨ B + 30 ≤ R) : ylP (am_set X R e) B A := ylP_ag h (fun q h1 h2 => ru_setN (by omega))
theorem ylP_new {X : am_H} {B n : Nat} {A : tLw} {e : am_C} (h : ylP X B A) (hB : B + 30 ≤ X.2.1) : ylP (am_new X e n) B A := ylP_ag h (fun q h1 h2 => by show (if q = X.2.1 then _ else X.1 q) = _; rw [if_neg (by omega)])
theorem yl_na {X : am_H} {N : Nat} (hN : N ≤ 5000) : am_na X 0 (wI N) = some (am_new X (ylI 0 N (fun _ => 0)) N) := by
  unfold am_na
  have e1 : (wI N).toNatClampNeg = N := by rw [wI_clamp (by omega) (by omega)]; exact Int.toNat_natCast N
  rw [e1, if_pos ⟨by rw [wI_0, wI_lt (by omega) (by omega) (by omega) (by omega)]; omega, by omega⟩, if_pos (by decide)]
  rfl
theorem nw_st {X : am_H} {n : Nat} {e e' : am_C} : am_set (am_new X e n) X.2.1 e' = am_new X e' n := by
  refine Prod.ext (funext fun q => ?_) rfl
  show (if q = X.2.1 then some e' else if q = X.2.1 then some e else X.1 q) = if q = X.2.1 then some e' else X.1 q
  by_cases c : q = X.2.1
  · rw [if_pos c, if_pos c]
  · rw [if_neg c, if_neg c, if_neg c]
theorem nw_e {X : am_H} {n : Nat} {e : am_C} : (am_new X e n).1 X.2.1 = some e := if_pos rfl
theorem nw_ia {X : am_H} {N n : Nat} {g : Nat → Int} {i : Int} (h1 : 0 ≤ i) (h2 : i < N) (h3 : N ≤ 5000) : am_ia (am_new X (ylI 0 N g) n) X.2.1 (wI i) = some (wI (g i.toNat)) := ru_ia nw_e h1 h2 (by omega)
theorem nw_is {X : am_H} {N n : Nat} {g : Nat → Int} {i v : Int} (h1 : 0 ≤ i) (h2 : i < N) (h3 : N ≤ 5000) : am_is (am_new X (ylI 0 N g) n) X.2.1 (wI i) (wI v) = some (am_new X (ylI 0 N (up1 g i.toNat v)) n) := by
  have e1 : am_is (am_new X (ylI 0 N g) n) X.2.1 (wI i) (wI v) = some (am_set (am_new X (ylI 0 N g) n) X.2.1 (.inl (0, N, .inl (am_up (fun i => wI (g i)) i.toNat (wI v))))) := ru_is (f := fun i => wI (g i)) nw_e h1 h2 (by omega)
  rw [e1, nw_st]
  have e0 : am_up (fun i => wI (g i)) i.toNat (wI v) = fun j => wI (up1 g i.toNat v j) := by funext j; unfold am_up up1; split <;> rfl
  rw [e0]
  rfl
theorem nw_al {X : am_H} {N n : Nat} {g : Nat → Int} : am_al (am_new X (ylI 0 N g) n) X.2.1 = some (wI N) := ru_al nw_e (by decide)
/-- the orders: by rows from the front (0), of all (1) -/
def kyL (x y : Nat → Int) (k : Nat) : Int := ((999 - y k) * 1000 + x k) * 12 + k
def kyA (all : Int) (q : tPh) (k : Nat) : Int := if all = 0 then kyL (shX q) (shY q) k else kyO (shX q) (shY q) k
theorem enO_ins {S T : Nat → Bool} {key : Nat → Int} {n t k : Nat} {e : Nat → Nat} (h : enO S key n e) (hk : k < 12) (hT : ∀ o, o < 12 → (T o = true ↔ S o = true ∨ o = k)) (ht : t ≤ n) (h1 : ∀ j, j < t → key (e j) < key k) (h2 : ∀ j, t ≤ j → j < n → key k < key (e j)) : enO T key (n + 1) (fun j => if j < t then e j else if j = t then k else e (j - 1)) := by
  refine ⟨fun i hi => ?_, fun i j hij hj => ?_, fun o ho hs => ?_⟩
  · dsimp only
    by_cases c1 : i < t
    · rw [if_pos c1]; have := h.1 i (by omega); exact ⟨this.1, (hT _ this.1).mpr (Or.inl this.2)⟩
    · rw [if_neg c1]
      by_cases c2 : i = t
      · rw [if_pos c2]; exact ⟨hk, (hT _ hk).mpr (Or.inr rfl)⟩
      · rw [if_neg c2]; have := h.1 (i - 1) (by omega); exact ⟨this.1, (hT _ this.1).mpr (Or.inl this.2)⟩
  · dsimp only
    by_cases c1 : j < t
    · rw [if_pos c1, if_pos (by omega)]; exact h.2.1 i j hij (by omega)
    · rw [if_neg c1]
      by_cases c2 : j = t
      · rw [if_pos c2, if_pos (by omega)]; exact h1 i (by omega)
      · rw [if_neg c2]
        by_cases c3 : i < t
        · rw [if_pos c3]
          by_cases c4 : i = j - 1
          · omega
          · exact h.2.1 i (j - 1) (by omega) (by omega)
        · rw [if_neg c3]
          by_cases c4 : i = t
          · rw [if_pos c4]; exact h2 (j - 1) (by omega) (by omega)
          · rw [if_neg c4]; exact h.2.1 (i - 1) (j - 1) (by omega) (by omega)
  · rcases (hT o ho).mp hs with hs | rfl
    · obtain ⟨i, hi, he⟩ := h.2.2 o ho hs
      by_cases c : i < t
      · exact ⟨i, by omega, by dsimp only; rw [if_pos c]; exact he⟩
      · exact ⟨i + 1, by omega, by dsimp only; rw [if_neg (by omega), if_neg (by omega)]; exact he⟩
    · exact ⟨t, by omega, by dsimp only; rw [if_neg (by omega), if_pos rfl]⟩
section OR
variable {z : Bool} {X : am_H} {B : Nat} {A : tLw}
theorem d409 (h : ylP X B A) (hr : ylR A) {f a b : Nat} {all : Int} (hf : f < 3) (ha : a < 12) (hb : b < 12) (sa : shS (A.2.1 f) a = true) (sb : shS (A.2.1 f) b = true) (hall : 0 ≤ all ∧ all ≤ 1) : ru_ev z 409 [.ref (B + 1), .int (wI f), .int (wI a), .int (wI b), .int (wI all)] X = some (.inl (some (.int (wI (if kyA all (A.2.1 f) a < kyA all (A.2.1 f) b then 1 else 0)))), X) := by
  obtain ⟨r1, r2, -, -, -⟩ := shS_rng (hr f) sa
  obtain ⟨t1, t2, -, -, -⟩ := shS_rng (hr f) sb
  have xa := d411 (z := z) h hr hf ha
  have xb := d411 (z := z) h hr hf hb
  have ya := d410 (z := z) h hf ha
  have yb := d410 (z := z) h hf hb
  have a1 : wI 1 &&& 1 = wI 1 := by decide +kernel
  have a0 : wI 0 &&& 1 = wI 0 := by decide +kernel
  have hall2 : all = 0 ∨ all = 1 := by omega
  rcases hall2 with rfl | rfl
  · have e9 : ∀ k, kyA 0 (A.2.1 f) k = kyL (shX (A.2.1 f)) (shY (A.2.1 f)) k := fun k => if_pos rfl
    rw [e9, e9]
    unfold kyL
    by_cases c1 : shY (A.2.1 f) a = shY (A.2.1 f) b
    · by_cases c2 : shX (A.2.1 f) a = shX (A.2.1 f) b
      · by_cases c3 : (b : Int) ≤ (a : Int)
        · rw [if_neg (by omega)]
          simp (disch := omega) only [en409, e409_0, e409_2, e409_5, e409_6, e409_7, e409_8, e409_11, e409_12, e409_13, e409_14, e409_17, e409_20, e409_21, e409_22, e409_23, e409_26, e409_27, e409_28, e409_29, e409_32, e409_35, e409_36, e409_39, e409_40, e409_41, e409_42, e409_43, e409_44, e409_47, e409_48, e409_49, e409_50, e409_53, e409_56, e409_57, e409_58, e409_59, e409_62, e409_63, e409_64, e409_65, e409_68, e409_71, e409_72, e409_75, e409_76, e409_77, e409_79, e409_82, e409_83, e409_84, e409_85, e409_88, e409_89, e409_90, e409_91, e409_94, e409_97, e409_98, e409_99, e409_100, e409_103, e409_104, e409_105, e409_106, e409_109, e409_112, e409_113, e409_116, e409_117, e409_120, e409_121, e409_122, e409_125, e409_126, e409_129, e409_130, ↓reduceIte, Bool.false_eq_true, not_false_eq_true, not_true_eq_false, Nat.reduceLeDiff, Nat.reduceAdd, Nat.reduceEqDiff, Int.reduceToNat, Int.toNat_natCast, iB0, iB1, ru_klI, ru_klR, ru_klF, ru_klJ, ru_kl0, ru_cs0, ru_csI, ru_csR, ru_csF, ru_csJ, wI_add, wI_sub, wI_mul, wI_lt, wI_le, wI_inj, ru_fdE, ru_fdN, ru_iaN, ru_baN, ru_laN, ru_qaN, ru_pfN, ru_isN, ru_bsN, ru_jsN, ru_qsN, ru_set2, Nat.add_right_cancel_iff, if_true, if_false, ite_self, Int.reduceEq, and_self, Int.add_neg_cancel_right, Int.add_zero, Int.zero_add, yl_o h, xa, xb, ya, yb, c1, c2, c3, a0, a1, not_false_iff, not_true]
        · rw [if_pos (by omega)]
          simp (disch := omega) only [en409, e409_0, e409_2, e409_5, e409_6, e409_7, e409_8, e409_11, e409_12, e409_13, e409_14, e409_17, e409_20, e409_21, e409_22, e409_23, e409_26, e409_27, e409_28, e409_29, e409_32, e409_35, e409_36, e409_39, e409_40, e409_41, e409_42, e409_43, e409_44, e409_47, e409_48, e409_49, e409_50, e409_53, e409_56, e409_57, e409_58, e409_59, e409_62, e409_63, e409_64, e409_65, e409_68, e409_71, e409_72, e409_75, e409_76, e409_77, e409_79, e409_82, e409_83, e409_84, e409_85, e409_88, e409_89, e409_90, e409_91, e409_94, e409_97, e409_98, e409_99, e409_100, e409_103, e409_104, e409_105, e409_106, e409_109, e409_112, e409_113, e409_116, e409_117, e409_120, e409_121, e409_122, e409_125, e409_126, e409_129, e409_130, ↓reduceIte, Bool.false_eq_true, not_false_eq_true, not_true_eq_false, Nat.reduceLeDiff, Nat.reduceAdd, Nat.reduceEqDiff, Int.reduceToNat, Int.toNat_natCast, iB0, iB1, ru_klI, ru_klR, ru_klF, ru_klJ, ru_kl0, ru_cs0, ru_csI, ru_csR, ru_csF, ru_csJ, wI_add, wI_sub, wI_mul, wI_lt, wI_le, wI_inj, ru_fdE, ru_fdN, ru_iaN, ru_baN, ru_laN, ru_qaN, ru_pfN, ru_isN, ru_bsN, ru_jsN, ru_qsN, ru_set2, Nat.add_right_cancel_iff, if_true, if_false, ite_self, Int.reduceEq, and_self, Int.add_neg_cancel_right, Int.add_zero, Int.zero_add, yl_o h, xa, xb, ya, yb, c1, c2, c3, a0, a1, not_false_iff, not_true]
      · by_cases c3 : shX (A.2.1 f) b ≤ shX (A.2.1 f) a
        · rw [if_neg (by omega)]
          simp (disch := omega) only [en409, e409_0, e409_2, e409_5, e409_6, e409_7, e409_8, e409_11, e409_12, e409_13, e409_14, e409_17, e409_20, e409_21, e409_22, e409_23, e409_26, e409_27, e409_28, e409_29, e409_32, e409_35, e409_36, e409_39, e409_40, e409_41, e409_42, e409_43, e409_44, e409_47, e409_48, e409_49, e409_50, e409_53, e409_56, e409_57, e409_58, e409_59, e409_62, e409_63, e409_64, e409_65, e409_68, e409_71, e409_72, e409_75, e409_76, e409_77, e409_79, e409_82, e409_83, e409_84, e409_85, e409_88, e409_89, e409_90, e409_91, e409_94, e409_97, e409_98, e409_99, e409_100, e409_103, e409_104, e409_105, e409_106, e409_109, e409_112, e409_113, e409_116, e409_117, e409_120, e409_121, e409_122, e409_125, e409_126, e409_129, e409_130, ↓reduceIte, Bool.false_eq_true, not_false_eq_true, not_true_eq_false, Nat.reduceLeDiff, Nat.reduceAdd, Nat.reduceEqDiff, Int.reduceToNat, Int.toNat_natCast, iB0, iB1, ru_klI, ru_klR, ru_klF, ru_klJ, ru_kl0, ru_cs0, ru_csI, ru_csR, ru_csF, ru_csJ, wI_add, wI_sub, wI_mul, wI_lt, wI_le, wI_inj, ru_fdE, ru_fdN, ru_iaN, ru_baN, ru_laN, ru_qaN, ru_pfN, ru_isN, ru_bsN, ru_jsN, ru_qsN, ru_set2, Nat.add_right_cancel_iff, if_true, if_false, ite_self, Int.reduceEq, and_self, Int.add_neg_cancel_right, Int.add_zero, Int.zero_add, yl_o h, xa, xb, ya, yb, c1, c2, c3, a0, a1, not_false_iff, not_true]
        · rw [if_pos (by omega)]
          simp (disch := omega) only [en409, e409_0, e409_2, e409_5, e409_6, e409_7, e409_8, e409_11, e409_12, e409_13, e409_14, e409_17, e409_20, e409_21, e409_22, e409_23, e409_26, e409_27, e409_28, e409_29, e409_32, e409_35, e409_36, e409_39, e409_40, e409_41, e409_42, e409_43, e409_44, e409_47, e409_48, e409_49, e409_50, e409_53, e409_56, e409_57, e409_58, e409_59, e409_62, e409_63, e409_64, e409_65, e409_68, e409_71, e409_72, e409_75, e409_76, e409_77, e409_79, e409_82, e409_83, e409_84, e409_85, e409_88, e409_89, e409_90, e409_91, e409_94, e409_97, e409_98, e409_99, e409_100, e409_103, e409_104, e409_105, e409_106, e409_109, e409_112, e409_113, e409_116, e409_117, e409_120, e409_121, e409_122, e409_125, e409_126, e409_129, e409_130, ↓reduceIte, Bool.false_eq_true, not_false_eq_true, not_true_eq_false, Nat.reduceLeDiff, Nat.reduceAdd, Nat.reduceEqDiff, Int.reduceToNat, Int.toNat_natCast, iB0, iB1, ru_klI, ru_klR, ru_klF, ru_klJ, ru_kl0, ru_cs0, ru_csI, ru_csR, ru_csF, ru_csJ, wI_add, wI_sub, wI_mul, wI_lt, wI_le, wI_inj, ru_fdE, ru_fdN, ru_iaN, ru_baN, ru_laN, ru_qaN, ru_pfN, ru_isN, ru_bsN, ru_jsN, ru_qsN, ru_set2, Nat.add_right_cancel_iff, if_true, if_false, ite_self, Int.reduceEq, and_self, Int.add_neg_cancel_right, Int.add_zero, Int.zero_add, yl_o h, xa, xb, ya, yb, c1, c2, c3, a0, a1, not_false_iff, not_true]
    · by_cases c3 : shY (A.2.1 f) a ≤ shY (A.2.1 f) b
      · rw [if_neg (by omega)]
        simp (disch := omega) only [en409, e409_0, e409_2, e409_5, e409_6, e409_7, e409_8, e409_11, e409_12, e409_13, e409_14, e409_17, e409_20, e409_21, e409_22, e409_23, e409_26, e409_27, e409_28, e409_29, e409_32, e409_35, e409_36, e409_39, e409_40, e409_41, e409_42, e409_43, e409_44, e409_47, e409_48, e409_49, e409_50, e409_53, e409_56, e409_57, e409_58, e409_59, e409_62, e409_63, e409_64, e409_65, e409_68, e409_71, e409_72, e409_75, e409_76, e409_77, e409_79, e409_82, e409_83, e409_84, e409_85, e409_88, e409_89, e409_90, e409_91, e409_94, e409_97, e409_98, e409_99, e409_100, e409_103, e409_104, e409_105, e409_106, e409_109, e409_112, e409_113, e409_116, e409_117, e409_120, e409_121, e409_122, e409_125, e409_126, e409_129, e409_130, ↓reduceIte, Bool.false_eq_true, not_false_eq_true, not_true_eq_false, Nat.reduceLeDiff, Nat.reduceAdd, Nat.reduceEqDiff, Int.reduceToNat, Int.toNat_natCast, iB0, iB1, ru_klI, ru_klR, ru_klF, ru_klJ, ru_kl0, ru_cs0, ru_csI, ru_csR, ru_csF, ru_csJ, wI_add, wI_sub, wI_mul, wI_lt, wI_le, wI_inj, ru_fdE, ru_fdN, ru_iaN, ru_baN, ru_laN, ru_qaN, ru_pfN, ru_isN, ru_bsN, ru_jsN, ru_qsN, ru_set2, Nat.add_right_cancel_iff, if_true, if_false, ite_self, Int.reduceEq, and_self, Int.add_neg_cancel_right, Int.add_zero, Int.zero_add, yl_o h, xa, xb, ya, yb, c1, c3, a0, a1, not_false_iff, not_true]
      · rw [if_pos (by omega)]
        simp (disch := omega) only [en409, e409_0, e409_2, e409_5, e409_6, e409_7, e409_8, e409_11, e409_12, e409_13, e409_14, e409_17, e409_20, e409_21, e409_22, e409_23, e409_26, e409_27, e409_28, e409_29, e409_32, e409_35, e409_36, e409_39, e409_40, e409_41, e409_42, e409_43, e409_44, e409_47, e409_48, e409_49, e409_50, e409_53, e409_56, e409_57, e409_58, e409_59, e409_62, e409_63, e409_64, e409_65, e409_68, e409_71, e409_72, e409_75, e409_76, e409_77, e409_79, e409_82, e409_83, e409_84, e409_85, e409_88, e409_89, e409_90, e409_91, e409_94, e409_97, e409_98, e409_99, e409_100, e409_103, e409_104, e409_105, e409_106, e409_109, e409_112, e409_113, e409_116, e409_117, e409_120, e409_121, e409_122, e409_125, e409_126, e409_129, e409_130, ↓reduceIte, Bool.false_eq_true, not_false_eq_true, not_true_eq_false, Nat.reduceLeDiff, Nat.reduceAdd, Nat.reduceEqDiff, Int.reduceToNat, Int.toNat_natCast, iB0, iB1, ru_klI, ru_klR, ru_klF, ru_klJ, ru_kl0, ru_cs0, ru_csI, ru_csR, ru_csF, ru_csJ, wI_add, wI_sub, wI_mul, wI_lt, wI_le, wI_inj, ru_fdE, ru_fdN, ru_iaN, ru_baN, ru_laN, ru_qaN, ru_pfN, ru_isN, ru_bsN, ru_jsN, ru_qsN, ru_set2, Nat.add_right_cancel_iff, if_true, if_false, ite_self, Int.reduceEq, and_self, Int.add_neg_cancel_right, Int.add_zero, Int.zero_add, yl_o h, xa, xb, ya, yb, c1, c3, a0, a1, not_false_iff, not_true]
  · have e9 : ∀ k, kyA 1 (A.2.1 f) k = kyO (shX (A.2.1 f)) (shY (A.2.1 f)) k := fun k => if_neg (by decide)
    rw [e9, e9]
    unfold kyO
    by_cases c1 : shX (A.2.1 f) a = shX (A.2.1 f) b
    · by_cases c2 : shY (A.2.1 f) a = shY (A.2.1 f) b
      · by_cases c3 : (b : Int) ≤ (a : Int)
        · rw [if_neg (by omega)]
          simp (disch := omega) only [en409, e409_0, e409_2, e409_5, e409_6, e409_7, e409_8, e409_11, e409_12, e409_13, e409_14, e409_17, e409_20, e409_21, e409_22, e409_23, e409_26, e409_27, e409_28, e409_29, e409_32, e409_35, e409_36, e409_39, e409_40, e409_41, e409_42, e409_43, e409_44, e409_47, e409_48, e409_49, e409_50, e409_53, e409_56, e409_57, e409_58, e409_59, e409_62, e409_63, e409_64, e409_65, e409_68, e409_71, e409_72, e409_75, e409_76, e409_77, e409_79, e409_82, e409_83, e409_84, e409_85, e409_88, e409_89, e409_90, e409_91, e409_94, e409_97, e409_98, e409_99, e409_100, e409_103, e409_104, e409_105, e409_106, e409_109, e409_112, e409_113, e409_116, e409_117, e409_120, e409_121, e409_122, e409_125, e409_126, e409_129, e409_130, ↓reduceIte, Bool.false_eq_true, not_false_eq_true, not_true_eq_false, Nat.reduceLeDiff, Nat.reduceAdd, Nat.reduceEqDiff, Int.reduceToNat, Int.toNat_natCast, iB0, iB1, ru_klI, ru_klR, ru_klF, ru_klJ, ru_kl0, ru_cs0, ru_csI, ru_csR, ru_csF, ru_csJ, wI_add, wI_sub, wI_mul, wI_lt, wI_le, wI_inj, ru_fdE, ru_fdN, ru_iaN, ru_baN, ru_laN, ru_qaN, ru_pfN, ru_isN, ru_bsN, ru_jsN, ru_qsN, ru_set2, Nat.add_right_cancel_iff, if_true, if_false, ite_self, Int.reduceEq, and_self, Int.add_neg_cancel_right, Int.add_zero, Int.zero_add, yl_o h, xa, xb, ya, yb, c1, c2, c3, a0, a1, not_false_iff, not_true]
        · rw [if_pos (by omega)]
          simp (disch := omega) only [en409, e409_0, e409_2, e409_5, e409_6, e409_7, e409_8, e409_11, e409_12, e409_13, e409_14, e409_17, e409_20, e409_21, e409_22, e409_23, e409_26, e409_27, e409_28, e409_29, e409_32, e409_35, e409_36, e409_39, e409_40, e409_41, e409_42, e409_43, e409_44, e409_47, e409_48, e409_49, e409_50, e409_53, e409_56, e409_57, e409_58, e409_59, e409_62, e409_63, e409_64, e409_65, e409_68, e409_71, e409_72, e409_75, e409_76, e409_77, e409_79, e409_82, e409_83, e409_84, e409_85, e409_88, e409_89, e409_90, e409_91, e409_94, e409_97, e409_98, e409_99, e409_100, e409_103, e409_104, e409_105, e409_106, e409_109, e409_112, e409_113, e409_116, e409_117, e409_120, e409_121, e409_122, e409_125, e409_126, e409_129, e409_130, ↓reduceIte, Bool.false_eq_true, not_false_eq_true, not_true_eq_false, Nat.reduceLeDiff, Nat.reduceAdd, Nat.reduceEqDiff, Int.reduceToNat, Int.toNat_natCast, iB0, iB1, ru_klI, ru_klR, ru_klF, ru_klJ, ru_kl0, ru_cs0, ru_csI, ru_csR, ru_csF, ru_csJ, wI_add, wI_sub, wI_mul, wI_lt, wI_le, wI_inj, ru_fdE, ru_fdN, ru_iaN, ru_baN, ru_laN, ru_qaN, ru_pfN, ru_isN, ru_bsN, ru_jsN, ru_qsN, ru_set2, Nat.add_right_cancel_iff, if_true, if_false, ite_self, Int.reduceEq, and_self, Int.add_neg_cancel_right, Int.add_zero, Int.zero_add, yl_o h, xa, xb, ya, yb, c1, c2, c3, a0, a1, not_false_iff, not_true]
      · by_cases c3 : shY (A.2.1 f) a ≤ shY (A.2.1 f) b
        · rw [if_neg (by omega)]
          simp (disch := omega) only [en409, e409_0, e409_2, e409_5, e409_6, e409_7, e409_8, e409_11, e409_12, e409_13, e409_14, e409_17, e409_20, e409_21, e409_22, e409_23, e409_26, e409_27, e409_28, e409_29, e409_32, e409_35, e409_36, e409_39, e409_40, e409_41, e409_42, e409_43, e409_44, e409_47, e409_48, e409_49, e409_50, e409_53, e409_56, e409_57, e409_58, e409_59, e409_62, e409_63, e409_64, e409_65, e409_68, e409_71, e409_72, e409_75, e409_76, e409_77, e409_79, e409_82, e409_83, e409_84, e409_85, e409_88, e409_89, e409_90, e409_91, e409_94, e409_97, e409_98, e409_99, e409_100, e409_103, e409_104, e409_105, e409_106, e409_109, e409_112, e409_113, e409_116, e409_117, e409_120, e409_121, e409_122, e409_125, e409_126, e409_129, e409_130, ↓reduceIte, Bool.false_eq_true, not_false_eq_true, not_true_eq_false, Nat.reduceLeDiff, Nat.reduceAdd, Nat.reduceEqDiff, Int.reduceToNat, Int.toNat_natCast, iB0, iB1, ru_klI, ru_klR, ru_klF, ru_klJ, ru_kl0, ru_cs0, ru_csI, ru_csR, ru_csF, ru_csJ, wI_add, wI_sub, wI_mul, wI_lt, wI_le, wI_inj, ru_fdE, ru_fdN, ru_iaN, ru_baN, ru_laN, ru_qaN, ru_pfN, ru_isN, ru_bsN, ru_jsN, ru_qsN, ru_set2, Nat.add_right_cancel_iff, if_true, if_false, ite_self, Int.reduceEq, and_self, Int.add_neg_cancel_right, Int.add_zero, Int.zero_add, yl_o h, xa, xb, ya, yb, c1, c2, c3, a0, a1, not_false_iff, not_true]
        · rw [if_pos (by omega)]
          simp (disch := omega) only [en409, e409_0, e409_2, e409_5, e409_6, e409_7, e409_8, e409_11, e409_12, e409_13, e409_14, e409_17, e409_20, e409_21, e409_22, e409_23, e409_26, e409_27, e409_28, e409_29, e409_32, e409_35, e409_36, e409_39, e409_40, e409_41, e409_42, e409_43, e409_44, e409_47, e409_48, e409_49, e409_50, e409_53, e409_56, e409_57, e409_58, e409_59, e409_62, e409_63, e409_64, e409_65, e409_68, e409_71, e409_72, e409_75, e409_76, e409_77, e409_79, e409_82, e409_83, e409_84, e409_85, e409_88, e409_89, e409_90, e409_91, e409_94, e409_97, e409_98, e409_99, e409_100, e409_103, e409_104, e409_105, e409_106, e409_109, e409_112, e409_113, e409_116, e409_117, e409_120, e409_121, e409_122, e409_125, e409_126, e409_129, e409_130, ↓reduceIte, Bool.false_eq_true, not_false_eq_true, not_true_eq_false, Nat.reduceLeDiff, Nat.reduceAdd, Nat.reduceEqDiff, Int.reduceToNat, Int.toNat_natCast, iB0, iB1, ru_klI, ru_klR, ru_klF, ru_klJ, ru_kl0, ru_cs0, ru_csI, ru_csR, ru_csF, ru_csJ, wI_add, wI_sub, wI_mul, wI_lt, wI_le, wI_inj, ru_fdE, ru_fdN, ru_iaN, ru_baN, ru_laN, ru_qaN, ru_pfN, ru_isN, ru_bsN, ru_jsN, ru_qsN, ru_set2, Nat.add_right_cancel_iff, if_true, if_false, ite_self, Int.reduceEq, and_self, Int.add_neg_cancel_right, Int.add_zero, Int.zero_add, yl_o h, xa, xb, ya, yb, c1, c2, c3, a0, a1, not_false_iff, not_true]
    · by_cases c3 : shX (A.2.1 f) b ≤ shX (A.2.1 f) a
      · rw [if_neg (by omega)]
        simp (disch := omega) only [en409, e409_0, e409_2, e409_5, e409_6, e409_7, e409_8, e409_11, e409_12, e409_13, e409_14, e409_17, e409_20, e409_21, e409_22, e409_23, e409_26, e409_27, e409_28, e409_29, e409_32, e409_35, e409_36, e409_39, e409_40, e409_41, e409_42, e409_43, e409_44, e409_47, e409_48, e409_49, e409_50, e409_53, e409_56, e409_57, e409_58, e409_59, e409_62, e409_63, e409_64, e409_65, e409_68, e409_71, e409_72, e409_75, e409_76, e409_77, e409_79, e409_82, e409_83, e409_84, e409_85, e409_88, e409_89, e409_90, e409_91, e409_94, e409_97, e409_98, e409_99, e409_100, e409_103, e409_104, e409_105, e409_106, e409_109, e409_112, e409_113, e409_116, e409_117, e409_120, e409_121, e409_122, e409_125, e409_126, e409_129, e409_130, ↓reduceIte, Bool.false_eq_true, not_false_eq_true, not_true_eq_false, Nat.reduceLeDiff, Nat.reduceAdd, Nat.reduceEqDiff, Int.reduceToNat, Int.toNat_natCast, iB0, iB1, ru_klI, ru_klR, ru_klF, ru_klJ, ru_kl0, ru_cs0, ru_csI, ru_csR, ru_csF, ru_csJ, wI_add, wI_sub, wI_mul, wI_lt, wI_le, wI_inj, ru_fdE, ru_fdN, ru_iaN, ru_baN, ru_laN, ru_qaN, ru_pfN, ru_isN, ru_bsN, ru_jsN, ru_qsN, ru_set2, Nat.add_right_cancel_iff, if_true, if_false, ite_self, Int.reduceEq, and_self, Int.add_neg_cancel_right, Int.add_zero, Int.zero_add, yl_o h, xa, xb, ya, yb, c1, c3, a0, a1, not_false_iff, not_true]
      · rw [if_pos (by omega)]
        simp (disch := omega) only [en409, e409_0, e409_2, e409_5, e409_6, e409_7, e409_8, e409_11, e409_12, e409_13, e409_14, e409_17, e409_20, e409_21, e409_22, e409_23, e409_26, e409_27, e409_28, e409_29, e409_32, e409_35, e409_36, e409_39, e409_40, e409_41, e409_42, e409_43, e409_44, e409_47, e409_48, e409_49, e409_50, e409_53, e409_56, e409_57, e409_58, e409_59, e409_62, e409_63, e409_64, e409_65, e409_68, e409_71, e409_72, e409_75, e409_76, e409_77, e409_79, e409_82, e409_83, e409_84, e409_85, e409_88, e409_89, e409_90, e409_91, e409_94, e409_97, e409_98, e409_99, e409_100, e409_103, e409_104, e409_105, e409_106, e409_109, e409_112, e409_113, e409_116, e409_117, e409_120, e409_121, e409_122, e409_125, e409_126, e409_129, e409_130, ↓reduceIte, Bool.false_eq_true, not_false_eq_true, not_true_eq_false, Nat.reduceLeDiff, Nat.reduceAdd, Nat.reduceEqDiff, Int.reduceToNat, Int.toNat_natCast, iB0, iB1, ru_klI, ru_klR, ru_klF, ru_klJ, ru_kl0, ru_cs0, ru_csI, ru_csR, ru_csF, ru_csJ, wI_add, wI_sub, wI_mul, wI_lt, wI_le, wI_inj, ru_fdE, ru_fdN, ru_iaN, ru_baN, ru_laN, ru_qaN, ru_pfN, ru_isN, ru_bsN, ru_jsN, ru_qsN, ru_set2, Nat.add_right_cancel_iff, if_true, if_false, ite_self, Int.reduceEq, and_self, Int.add_neg_cancel_right, Int.add_zero, Int.zero_add, yl_o h, xa, xb, ya, yb, c1, c3, a0, a1, not_false_iff, not_true]
end OR
