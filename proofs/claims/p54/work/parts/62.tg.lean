/-! ===== the smallest rectangle round some people ===== -/
def tgF (s : Bool) (P : Nat → Bool) (v : Nat → Int) (i0 : Int) : Nat → Int
  | 0 => i0
  | k + 1 => if P k = true then (if s = true then (if tgF s P v i0 k ≤ v k then tgF s P v i0 k else v k) else (if v k ≤ tgF s P v i0 k then tgF s P v i0 k else v k)) else tgF s P v i0 k
theorem tgF_rng {s : Bool} {P : Nat → Bool} {v : Nat → Int} {i0 a b : Int} (h0 : a ≤ i0 ∧ i0 ≤ b) (hv : ∀ k, a ≤ v k ∧ v k ≤ b) : ∀ n, a ≤ tgF s P v i0 n ∧ tgF s P v i0 n ≤ b
  | 0 => h0
  | n + 1 => by
    have ih := tgF_rng (s := s) (P := P) h0 hv n
    have := hv n
    unfold tgF
    repeat' split
    all_goals omega
theorem tgF_no {s : Bool} {P : Nat → Bool} {v : Nat → Int} {i0 : Int} : ∀ n, (∀ k, k < n → ¬ P k = true) → tgF s P v i0 n = i0
  | 0, _ => rfl
  | n + 1, h => by
    unfold tgF
    rw [if_neg (h n (by omega)), tgF_no n fun k hk => h k (by omega)]
/-- two begins that are beyond all values come to the same, once someone is in the set -/
theorem tgF_eq {s : Bool} {P : Nat → Bool} {v : Nat → Int} {i j : Int} (hs : ∀ k, P k = true → if s = true then v k < i ∧ v k < j else i ≤ v k ∧ j < v k) : ∀ n, (∃ k, k < n ∧ P k = true) → tgF s P v i n = tgF s P v j n
  | 0, h => by obtain ⟨k, h1, _⟩ := h; omega
  | n + 1, h => by
    unfold tgF
    by_cases hb : ∃ k, k < n ∧ P k = true
    · rw [tgF_eq hs n hb]
    · have hn : ∀ k, k < n → ¬ P k = true := fun k hk hp => hb ⟨k, hk, hp⟩
      have hp : P n = true := by
        obtain ⟨k, h1, h2⟩ := h
        by_cases e : k = n
        · rw [← e]; exact h2
        · exact absurd h2 (hn k (by omega))
      have := hs n hp
      rw [tgF_no n hn, tgF_no n hn, if_pos hp, if_pos hp]
      by_cases e : s = true
      · simp only [e, if_true] at this ⊢
        rw [if_neg (by omega), if_neg (by omega)]
      · rw [if_neg e] at this
        rw [if_neg e, if_neg e, if_neg (show ¬ v n ≤ j by omega)]
        split
        · omega
        · rfl
def tgV (q : tPh) (w : Int) (k : Nat) : Int := if w = 0 ∨ w = 2 then shX q k else shY q k
section TG
variable {z : Bool} {h : am_H}
theorem m264 {a b : Int} (g1 : -2147483648 ≤ a ∧ a < 2147483648) (g2 : -2147483648 ≤ b ∧ b < 2147483648) : ru_ev z 264 [.int (wI a), .int (wI b)] h = some (.inl (some (.int (wI (if a ≤ b then a else b)))), h) := by
  by_cases e : a ≤ b
  · have c : (b < a) = False := eq_false (by omega)
    simp (disch := omega) only [en264, e264_0, e264_1, e264_2, e264_5, e264_6, e264_9, e264_10, ↓reduceIte, Bool.false_eq_true, not_false_eq_true, not_true_eq_false, Nat.reduceLeDiff, Nat.reduceAdd, Nat.reduceEqDiff, Int.reduceToNat, Int.toNat_natCast, iB0, iB1, ru_klI, ru_klR, ru_klF, ru_klJ, ru_kl0, ru_cs0, ru_csI, ru_csR, ru_csF, ru_csJ, wI_add, wI_sub, wI_mul, wI_lt, wI_le, wI_inj, ru_fdE, ru_fdN, ru_iaN, ru_baN, ru_laN, ru_qaN, ru_pfN, ru_isN, ru_bsN, ru_jsN, ru_qsN, ru_set2, Nat.add_right_cancel_iff, if_true, if_false, ite_self, e, c, if_true]
  · have c : (b < a) = True := eq_true (by omega)
    simp (disch := omega) only [en264, e264_0, e264_1, e264_2, e264_5, e264_6, e264_9, e264_10, ↓reduceIte, Bool.false_eq_true, not_false_eq_true, not_true_eq_false, Nat.reduceLeDiff, Nat.reduceAdd, Nat.reduceEqDiff, Int.reduceToNat, Int.toNat_natCast, iB0, iB1, ru_klI, ru_klR, ru_klF, ru_klJ, ru_kl0, ru_cs0, ru_csI, ru_csR, ru_csF, ru_csJ, wI_add, wI_sub, wI_mul, wI_lt, wI_le, wI_inj, ru_fdE, ru_fdN, ru_iaN, ru_baN, ru_laN, ru_qaN, ru_pfN, ru_isN, ru_bsN, ru_jsN, ru_qsN, ru_set2, Nat.add_right_cancel_iff, if_true, if_false, ite_self, e, c, if_false]
theorem m271 {a b : Int} (g1 : -2147483648 ≤ a ∧ a < 2147483648) (g2 : -2147483648 ≤ b ∧ b < 2147483648) : ru_ev z 271 [.int (wI a), .int (wI b)] h = some (.inl (some (.int (wI (if b ≤ a then a else b)))), h) := by
  by_cases e : b ≤ a
  · have c : (a < b) = False := eq_false (by omega)
    simp (disch := omega) only [en271, e271_0, e271_1, e271_2, e271_5, e271_6, e271_9, e271_10, ↓reduceIte, Bool.false_eq_true, not_false_eq_true, not_true_eq_false, Nat.reduceLeDiff, Nat.reduceAdd, Nat.reduceEqDiff, Int.reduceToNat, Int.toNat_natCast, iB0, iB1, ru_klI, ru_klR, ru_klF, ru_klJ, ru_kl0, ru_cs0, ru_csI, ru_csR, ru_csF, ru_csJ, wI_add, wI_sub, wI_mul, wI_lt, wI_le, wI_inj, ru_fdE, ru_fdN, ru_iaN, ru_baN, ru_laN, ru_qaN, ru_pfN, ru_isN, ru_bsN, ru_jsN, ru_qsN, ru_set2, Nat.add_right_cancel_iff, if_true, if_false, ite_self, e, c, if_true]
  · have c : (a < b) = True := eq_true (by omega)
    simp (disch := omega) only [en271, e271_0, e271_1, e271_2, e271_5, e271_6, e271_9, e271_10, ↓reduceIte, Bool.false_eq_true, not_false_eq_true, not_true_eq_false, Nat.reduceLeDiff, Nat.reduceAdd, Nat.reduceEqDiff, Int.reduceToNat, Int.toNat_natCast, iB0, iB1, ru_klI, ru_klR, ru_klF, ru_klJ, ru_kl0, ru_cs0, ru_csI, ru_csR, ru_csF, ru_csJ, wI_add, wI_sub, wI_mul, wI_lt, wI_le, wI_inj, ru_fdE, ru_fdN, ru_iaN, ru_baN, ru_laN, ru_qaN, ru_pfN, ru_isN, ru_bsN, ru_jsN, ru_qsN, ru_set2, Nat.add_right_cancel_iff, if_true, if_false, ite_self, e, c, if_false]
theorem m291l {a : Nat} {q : tPh} (hp : phAt h a q) (hr : phR q) {m : Nat} (hm : m < 4096) {w : Int} (hw : w = 0 ∨ w = 1 ∨ w = 2 ∨ w = 3) {i0 : Int} (hi : 0 ≤ i0 ∧ i0 ≤ 1000) {n : Nat} (hn : q.1 7 = n) : ∀ d k, k + d = n → ∀ l7 : Option Value,
    ru_n z 291 44 [some (.ref a), some (.int (wI m)), some (.int (wI w)), some (.int (wI (if w = 0 ∨ w = 2 then 1 else 0))), some (.int (wI (if w < 2 then 1 else 0))), some (.int (wI (tgF (decide (w < 2)) m.testBit (tgV q w) i0 k))), some (.int (wI k)), l7] [] h = some (.inl (some (.int (wI (tgF (decide (w < 2)) m.testBit (tgV q w) i0 n)))), h) := by
  have s := phR_s hr
  intro d
  induction d with
  | zero =>
    intro k hk l7
    obtain rfl : k = n := by omega
    have c : (q.1 7 ≤ (k : Int)) = True := eq_true (by omega)
    simp (disch := omega) only [e291_0, e291_1, e291_4, e291_5, e291_6, e291_9, e291_10, e291_13, e291_14, e291_15, e291_16, e291_17, e291_20, e291_21, e291_24, e291_25, e291_27, e291_29, e291_32, e291_35, e291_38, e291_39, e291_41, e291_42, e291_44, e291_46, e291_47, e291_50, e291_53, e291_54, e291_56, e291_57, e291_58, e291_59, e291_60, e291_63, e291_64, e291_67, e291_68, e291_70, e291_73, e291_76, e291_77, e291_79, e291_82, e291_84, e291_86, e291_89, e291_91, e291_93, e291_96, e291_99, e291_101, e291_103, e291_106, e291_108, e291_111, e291_114, e291_116, ↓reduceIte, Bool.false_eq_true, not_false_eq_true, not_true_eq_false, Nat.reduceLeDiff, Nat.reduceAdd, Nat.reduceEqDiff, Int.reduceToNat, Int.toNat_natCast, iB0, iB1, ru_klI, ru_klR, ru_klF, ru_klJ, ru_kl0, ru_cs0, ru_csI, ru_csR, ru_csF, ru_csJ, wI_add, wI_sub, wI_mul, wI_lt, wI_le, wI_inj, ru_fdE, ru_fdN, ru_iaN, ru_baN, ru_laN, ru_qaN, ru_pfN, ru_isN, ru_bsN, ru_jsN, ru_qsN, ru_set2, Nat.add_right_cancel_iff, if_true, if_false, ite_self, phF hp, c]
  | succ d ih =>
    intro k hk l7
    have ih1 := ih (k + 1) (by omega)
    have s2 := shXY_rng hr k
    have hv : ∀ k, -1000 ≤ tgV q w k ∧ tgV q w k ≤ 1000 := by
      intro k
      have := shXY_rng hr k
      unfold tgV
      split <;> omega
    have t1 := tgF_rng (s := decide (w < 2)) (P := m.testBit) (v := tgV q w) (i0 := i0) (a := -1000) (b := 1000) (by omega) hv k
    simp only [Int.natCast_add, Int.natCast_one] at ih1
    have c : (q.1 7 ≤ (k : Int)) = False := eq_false (by omega)
    rw [e291_44]
    by_cases hP : m.testBit k = true
    · rcases hw with rfl | rfl | rfl | rfl
      all_goals
        simp only [tgF, hP, if_true, tgV, Int.reduceLT, decide_true, decide_false, Int.reduceEq, or_true, true_or, or_false, false_or, or_self, if_false, Bool.false_eq_true] at ih1 t1 ⊢
        simp (disch := omega) only [e291_0, e291_1, e291_4, e291_5, e291_6, e291_9, e291_10, e291_13, e291_14, e291_15, e291_16, e291_17, e291_20, e291_21, e291_24, e291_25, e291_27, e291_29, e291_32, e291_35, e291_38, e291_39, e291_41, e291_42, e291_46, e291_47, e291_50, e291_53, e291_54, e291_56, e291_57, e291_58, e291_59, e291_60, e291_63, e291_64, e291_67, e291_68, e291_70, e291_73, e291_76, e291_77, e291_79, e291_82, e291_84, e291_86, e291_89, e291_91, e291_93, e291_96, e291_99, e291_101, e291_103, e291_106, e291_108, e291_111, e291_114, e291_116, ↓reduceIte, Bool.false_eq_true, not_false_eq_true, not_true_eq_false, Nat.reduceLeDiff, Nat.reduceAdd, Nat.reduceEqDiff, Int.reduceToNat, Int.toNat_natCast, iB0, iB1, ru_klI, ru_klR, ru_klF, ru_klJ, ru_kl0, ru_cs0, ru_csI, ru_csR, ru_csF, ru_csJ, wI_add, wI_sub, wI_mul, wI_lt, wI_le, wI_inj, ru_fdE, ru_fdN, ru_iaN, ru_baN, ru_laN, ru_qaN, ru_pfN, ru_isN, ru_bsN, ru_jsN, ru_qsN, ru_set2, Nat.add_right_cancel_iff, if_true, if_false, ite_self, phF hp, c, m83 hp hr, m84 hp, m264, m271, wI_bit, Int.toNat_natCast, hP, if_true, not_true, not_false_iff, Int.reduceEq]
        exact ih1 _
    · simp only [tgF, hP, if_false, Bool.false_eq_true] at ih1
      simp (disch := omega) only [e291_0, e291_1, e291_4, e291_5, e291_6, e291_9, e291_10, e291_13, e291_14, e291_15, e291_16, e291_17, e291_20, e291_21, e291_24, e291_25, e291_27, e291_29, e291_32, e291_35, e291_38, e291_39, e291_41, e291_42, e291_46, e291_47, e291_50, e291_53, e291_54, e291_56, e291_57, e291_58, e291_59, e291_60, e291_63, e291_64, e291_67, e291_68, e291_70, e291_73, e291_76, e291_77, e291_79, e291_82, e291_84, e291_86, e291_89, e291_91, e291_93, e291_96, e291_99, e291_101, e291_103, e291_106, e291_108, e291_111, e291_114, e291_116, ↓reduceIte, Bool.false_eq_true, not_false_eq_true, not_true_eq_false, Nat.reduceLeDiff, Nat.reduceAdd, Nat.reduceEqDiff, Int.reduceToNat, Int.toNat_natCast, iB0, iB1, ru_klI, ru_klR, ru_klF, ru_klJ, ru_kl0, ru_cs0, ru_csI, ru_csR, ru_csF, ru_csJ, wI_add, wI_sub, wI_mul, wI_lt, wI_le, wI_inj, ru_fdE, ru_fdN, ru_iaN, ru_baN, ru_laN, ru_qaN, ru_pfN, ru_isN, ru_bsN, ru_jsN, ru_qsN, ru_set2, Nat.add_right_cancel_iff, if_true, if_false, ite_self, phF hp, c, wI_bit, Int.toNat_natCast, hP, if_false, not_true, not_false_iff, Int.reduceEq, Bool.false_eq_true]
      exact ih1 _
end TG
