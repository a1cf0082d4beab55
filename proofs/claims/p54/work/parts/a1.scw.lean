/-! ===== the class's scanner: words, numbers, signs ===== -/
/-- the first m letters from s on -/
def lwF (C : tCl) (s m : Nat) : Nat → Int := fun j => if j < m then C.2.1 1002 (s + j) else 0
theorem lwF_R {C : tCl} {s m : Nat} (hb : ∀ j, j < m → 97 ≤ C.2.1 1002 (s + j) ∧ C.2.1 1002 (s + j) ≤ 122) : ltR (lwF C s m) := fun k hk => by
  unfold lwF
  by_cases c : k < m
  · rw [if_pos c]; exact Or.inr (hb k c)
  · rw [if_neg c]; exact Or.inl rfl
theorem lwF_wd {C : tCl} {s m : Nat} (hb : ∀ j, j < m → 97 ≤ C.2.1 1002 (s + j) ∧ C.2.1 1002 (s + j) ≤ 122) : wdR (lwF C s m) := by
  refine ⟨lwF_R hb, fun k hk e => ?_⟩
  unfold lwF at e ⊢
  by_cases c : k < m
  · rw [if_pos c] at e
    have := hb k c
    omega
  · rw [if_neg (by omega)]
theorem lwF_st (C : tCl) (s : Nat) : ∀ i, i < 8 → ∃ A, wdS (lwF C s i) 8 0 = 2 ^ (5 * (8 - i)) * A ∧ wdS (lwF C s (i + 1)) 8 0 = wdS (lwF C s i) 8 0 + ltI (C.2.1 1002 (s + i)) * 2 ^ (5 * (7 - i)) := by
  intro i hi
  have z0 : ltI 0 = 0 := rfl
  have hc : i = 0 ∨ i = 1 ∨ i = 2 ∨ i = 3 ∨ i = 4 ∨ i = 5 ∨ i = 6 ∨ i = 7 := by omega
  have key : ∀ m, wdS (lwF C s m) 8 0 = ltI (lwF C s m 0) * 34359738368 + (ltI (lwF C s m 1) * 1073741824 + (ltI (lwF C s m 2) * 33554432 + (ltI (lwF C s m 3) * 1048576 + (ltI (lwF C s m 4) * 32768 + (ltI (lwF C s m 5) * 1024 + (ltI (lwF C s m 6) * 32 + (ltI (lwF C s m 7) * 1 + 0))))))) := fun m => by
    simp only [wdS, Nat.reducePow, Nat.reduceAdd]
  rw [key, key]
  unfold lwF
  rcases hc with rfl | rfl | rfl | rfl | rfl | rfl | rfl | rfl <;> simp only [Nat.reduceAdd, Nat.reduceSub, Nat.reduceMul, Nat.reducePow, Nat.reduceLT, Nat.not_lt_zero, if_true, if_false, z0, Nat.zero_mul, Nat.add_zero, Nat.zero_add, Nat.mul_one]
  · exact ⟨0, by omega, by first | omega | exact True.intro⟩
  · exact ⟨ltI (C.2.1 1002 s), by first | omega | exact True.intro, by first | omega | exact True.intro⟩
  · exact ⟨ltI (C.2.1 1002 s) * 32 + ltI (C.2.1 1002 (s + 1)), by first | omega | exact True.intro, by first | omega | exact True.intro⟩
  · exact ⟨ltI (C.2.1 1002 s) * 1024 + ltI (C.2.1 1002 (s + 1)) * 32 + ltI (C.2.1 1002 (s + 2)), by first | omega | exact True.intro, by first | omega | exact True.intro⟩
  · exact ⟨ltI (C.2.1 1002 s) * 32768 + ltI (C.2.1 1002 (s + 1)) * 1024 + ltI (C.2.1 1002 (s + 2)) * 32 + ltI (C.2.1 1002 (s + 3)), by first | omega | exact True.intro, by first | omega | exact True.intro⟩
  · exact ⟨ltI (C.2.1 1002 s) * 1048576 + ltI (C.2.1 1002 (s + 1)) * 32768 + ltI (C.2.1 1002 (s + 2)) * 1024 + ltI (C.2.1 1002 (s + 3)) * 32 + ltI (C.2.1 1002 (s + 4)), by first | omega | exact True.intro, by first | omega | exact True.intro⟩
  · exact ⟨ltI (C.2.1 1002 s) * 33554432 + ltI (C.2.1 1002 (s + 1)) * 1048576 + ltI (C.2.1 1002 (s + 2)) * 32768 + ltI (C.2.1 1002 (s + 3)) * 1024 + ltI (C.2.1 1002 (s + 4)) * 32 + ltI (C.2.1 1002 (s + 5)), by first | omega | exact True.intro, by first | omega | exact True.intro⟩
  · exact ⟨ltI (C.2.1 1002 s) * 1073741824 + ltI (C.2.1 1002 (s + 1)) * 33554432 + ltI (C.2.1 1002 (s + 2)) * 1048576 + ltI (C.2.1 1002 (s + 3)) * 32768 + ltI (C.2.1 1002 (s + 4)) * 1024 + ltI (C.2.1 1002 (s + 5)) * 32 + ltI (C.2.1 1002 (s + 6)), by first | omega | exact True.intro, by first | omega | exact True.intro⟩
theorem lwF_0 (C : tCl) (s : Nat) : wdS (lwF C s 0) 8 0 = 0 := by
  have z0 : ltI 0 = 0 := rfl
  unfold lwF
  simp only [wdS, Nat.not_lt_zero, if_false, z0, Nat.zero_mul]
theorem lg_or {a b : Nat} (ha : a < 4611686018427387904) (hb : b < 4611686018427387904) : Int64.ofNat a ||| Int64.ofNat b = Int64.ofNat (a ||| b) := by
  apply Int64.toBitVec_inj.mp
  rw [Int64.toBitVec_or]
  have h3 : a ||| b < 2 ^ 62 := Nat.or_lt_two_pow ha hb
  show BitVec.ofNat 64 a ||| BitVec.ofNat 64 b = BitVec.ofNat 64 (a ||| b)
  apply BitVec.eq_of_toNat_eq
  rw [BitVec.toNat_or]
  simp only [BitVec.toNat_ofNat]
  rw [Nat.mod_eq_of_lt (by omega), Nat.mod_eq_of_lt (by omega), Nat.mod_eq_of_lt (by omega)]
theorem lg_lt {x : Int} (h1 : 97 ≤ x) (h2 : x ≤ 122) {i : Nat} (hi : i < 8) : (wI (x - 97 + 1)).toInt64 <<< ((wI (5 * (7 - (i : Int)))).toInt64 &&& 63) = Int64.ofNat (ltI x * 2 ^ (5 * (7 - i))) := by
  have key : ∀ (l : Fin 26) (i : Fin 8), (wI ((l.val : Nat) + 1)).toInt64 <<< ((wI (5 * (7 - ((i.val : Nat) : Int)))).toInt64 &&& 63) = Int64.ofNat ((l.val + 1) * 2 ^ (5 * (7 - i.val))) := by decide +kernel
  obtain ⟨l, hl⟩ := Int.eq_ofNat_of_zero_le (show 0 ≤ x - 97 by omega)
  have e : ltI x = l + 1 := by unfold ltI; omega
  rw [hl, e]
  exact key ⟨l, by omega⟩ ⟨i, hi⟩
theorem lwF_or {C : tCl} {s i : Nat} (hi : i < 8) (hb : ∀ j, j < i + 1 → 97 ≤ C.2.1 1002 (s + j) ∧ C.2.1 1002 (s + j) ≤ 122) : wdL (lwF C s i) ||| (wI (C.2.1 1002 (s + i) - 97 + 1)).toInt64 <<< ((wI (5 * (7 - (i : Int)))).toInt64 &&& 63) = wdL (lwF C s (i + 1)) := by
  obtain ⟨h1, h2⟩ := hb i (by omega)
  obtain ⟨A, e1, e2⟩ := lwF_st C s i hi
  have hl : ltI (C.2.1 1002 (s + i)) ≤ 26 := by unfold ltI; omega
  have b1 : ltI (C.2.1 1002 (s + i)) * 2 ^ (5 * (7 - i)) < 2 ^ (5 * (8 - i)) := by
    rw [show 5 * (8 - i) = 5 * (7 - i) + 5 by omega, Nat.pow_add]
    have : 0 < 2 ^ (5 * (7 - i)) := Nat.pow_pos (by decide)
    rw [Nat.mul_comm]
    exact Nat.mul_lt_mul_of_pos_left (by omega) this
  have b2 : 2 ^ (5 * (8 - i)) ≤ 2 ^ 40 := Nat.pow_le_pow_right (by decide) (by omega)
  have b3 := wdS_8 (lwF_R (C := C) (s := s) (m := i) (fun j hj => hb j (by omega)))
  rw [lg_lt h1 h2 hi]
  unfold wdL
  rw [lg_or (by omega) (by omega), e2, e1]
  rw [Nat.two_pow_add_eq_or_of_lt b1]
section SCW
variable {z : Bool} {h : am_H} {C : tCl} {p : Nat → Int} {w : Int64} {k : Nat}
theorem c22l {s L m : Nat} (hm : m = if L ≤ 8 then L else 8) (hL : L ≤ 1200) (h5 : p 5 = (s : Int)) (hs : s + L ≤ 1200) (hb : ∀ j, j < L → 97 ≤ C.2.1 1002 (s + j) ∧ C.2.1 1002 (s + j) ≤ 122) : ∀ d i : Nat, i + d = m → ∀ l3 l4, ru_n z 22 36 [some (.ref 1001), some (.int (wI L)), some (.int (wI i)), l3, l4] [] (clPut h (inP C p (wdL (lwF C s i)) k)) = some (.inl none, clPut h (inP C p (wdL (lwF C s m)) k)) := by
  have hm8 : m ≤ 8 ∧ m ≤ L := by rw [hm]; split <;> omega
  intro d
  induction d with
  | zero =>
    intro i hin l3 l4
    obtain rfl : i = m := by omega
    by_cases c : L ≤ 8
    · have c1 : ((L : Int) ≤ (i : Int)) = True := eq_true (by rw [if_pos c] at hm; omega)
      simp (disch := omega) only [e22_36, e22_37, e22_38, e22_88, ↓reduceIte, Bool.false_eq_true, not_false_eq_true, not_true_eq_false, Nat.reduceLeDiff, Nat.reduceAdd, Nat.reduceEqDiff, Int.reduceToNat, Int.toNat_natCast, iB0, iB1, ru_klI, ru_klR, ru_klF, ru_klJ, ru_kl0, ru_cs0, ru_csI, ru_csR, ru_csF, ru_csJ, wI_add, wI_sub, wI_mul, wI_lt, wI_le, wI_inj, ru_fdE, ru_fdN, ru_iaN, ru_baN, ru_laN, ru_qaN, ru_pfN, ru_isN, ru_bsN, ru_jsN, ru_qsN, ru_set2, Nat.add_right_cancel_iff, if_true, if_false, ite_self, Int.reduceEq, and_self, Int.add_neg_cancel_right, Int.add_zero, Int.zero_add, c1]
    · have c1 : ((L : Int) ≤ (i : Int)) = False := eq_false (by rw [if_neg c] at hm; omega)
      have c2 : ((8 : Int) ≤ (i : Int)) = True := eq_true (by rw [if_neg c] at hm; omega)
      simp (disch := omega) only [e22_36, e22_37, e22_38, e22_41, e22_42, e22_44, e22_88, ↓reduceIte, Bool.false_eq_true, not_false_eq_true, not_true_eq_false, Nat.reduceLeDiff, Nat.reduceAdd, Nat.reduceEqDiff, Int.reduceToNat, Int.toNat_natCast, iB0, iB1, ru_klI, ru_klR, ru_klF, ru_klJ, ru_kl0, ru_cs0, ru_csI, ru_csR, ru_csF, ru_csJ, wI_add, wI_sub, wI_mul, wI_lt, wI_le, wI_inj, ru_fdE, ru_fdN, ru_iaN, ru_baN, ru_laN, ru_qaN, ru_pfN, ru_isN, ru_bsN, ru_jsN, ru_qsN, ru_set2, Nat.add_right_cancel_iff, if_true, if_false, ite_self, Int.reduceEq, and_self, Int.add_neg_cancel_right, Int.add_zero, Int.zero_add, c1, c2]
  | succ d ih =>
    intro i hin l3 l4
    have ih1 := ih (i + 1) (by omega) (some (.long (wI (C.2.1 1002 (s + i) - 97 + 1)).toInt64)) none
    simp only [Int.natCast_add, Int.natCast_one] at ih1
    have c1 : ((L : Int) ≤ (i : Int)) = False := eq_false (by omega)
    have c2 : ((8 : Int) ≤ (i : Int)) = False := eq_false (by omega)
    have rb := in_b (h := h) (C := C) (p := p) (w := wdL (lwF C s i)) (k := k) (i := (s : Int) + (i : Int)) (by omega) (by omega)
    rw [show ((s : Int) + (i : Int)).toNat = s + i by omega] at rb
    have hbi := hb i (by omega)
    have eo := lwF_or (C := C) (s := s) (i := i) (by omega) (fun j hj => hb j (by omega))
    rw [e22_36]
    simp (disch := omega) only [e22_37, e22_38, e22_41, e22_42, e22_44, e22_47, e22_48, e22_51, e22_52, e22_55, e22_56, e22_57, e22_58, e22_60, e22_61, e22_62, e22_63, e22_64, e22_65, e22_66, e22_67, e22_70, e22_71, e22_72, e22_74, e22_75, e22_76, e22_77, e22_78, e22_79, e22_82, e22_85, ↓reduceIte, Bool.false_eq_true, not_false_eq_true, not_true_eq_false, Nat.reduceLeDiff, Nat.reduceAdd, Nat.reduceEqDiff, Int.reduceToNat, Int.toNat_natCast, iB0, iB1, ru_klI, ru_klR, ru_klF, ru_klJ, ru_kl0, ru_cs0, ru_csI, ru_csR, ru_csF, ru_csJ, wI_add, wI_sub, wI_mul, wI_lt, wI_le, wI_inj, ru_fdE, ru_fdN, ru_iaN, ru_baN, ru_laN, ru_qaN, ru_pfN, ru_isN, ru_bsN, ru_jsN, ru_qsN, ru_set2, Nat.add_right_cancel_iff, if_true, if_false, ite_self, Int.reduceEq, and_self, Int.add_neg_cancel_right, Int.add_zero, Int.zero_add, in_f0, in_f5, in_f8, in_s8, h5, c1, c2, rb, eo, ru_ctR]
    exact ih1
theorem c22 {s L : Nat} (hL : L ≤ 1200) (h5 : p 5 = (s : Int)) (hs : s + L ≤ 1200) (hb : ∀ j, j < L → 97 ≤ C.2.1 1002 (s + j) ∧ C.2.1 1002 (s + j) ≤ 122) : ru_ev z 22 [.ref 1001, .int (wI L)] (clPut h (inP C p w k)) = some (.inl none, clPut h (inP C (up1 p 6 ((s : Int) + L)) (wdL (lwF C s (if L ≤ 8 then L else 8))) (if L ≤ 8 then 200 else 204))) := by
  have key := fun k2 => c22l (z := z) (h := h) (C := C) (p := up1 p 6 ((s : Int) + L)) (k := k2) (s := s) (L := L) rfl hL (by rw [up1_n (by decide)]; exact h5) hs hb (if L ≤ 8 then L else 8) 0 (by omega) none none
  have e0 : wdL (lwF C s 0) = 0 := by
    unfold wdL; rw [lwF_0]; rfl
  rw [e0, show ((0 : Nat) : Int) = 0 from rfl] at key
  by_cases c : L ≤ 8
  · have c1 : ((L : Int) ≤ 8) = True := eq_true (by omega)
    have k2 := key 200
    simp only [if_pos c] at k2 ⊢
    simp (disch := omega) only [e22_0, e22_1, e22_2, e22_5, e22_6, e22_7, e22_10, e22_11, e22_12, e22_14, e22_17, e22_20, e22_23, e22_26, e22_29, e22_30, e22_31, e22_34, e22_35, en22, ↓reduceIte, Bool.false_eq_true, not_false_eq_true, not_true_eq_false, Nat.reduceLeDiff, Nat.reduceAdd, Nat.reduceEqDiff, Int.reduceToNat, Int.toNat_natCast, iB0, iB1, ru_klI, ru_klR, ru_klF, ru_klJ, ru_kl0, ru_cs0, ru_csI, ru_csR, ru_csF, ru_csJ, wI_add, wI_sub, wI_mul, wI_lt, wI_le, wI_inj, ru_fdE, ru_fdN, ru_iaN, ru_baN, ru_laN, ru_qaN, ru_pfN, ru_isN, ru_bsN, ru_jsN, ru_qsN, ru_set2, Nat.add_right_cancel_iff, if_true, if_false, ite_self, Int.reduceEq, and_self, Int.add_neg_cancel_right, Int.add_zero, Int.zero_add, in_e, in_f5, in_s6, in_s7, in_s8, h5, c1]
    exact k2
  · have c1 : ((L : Int) ≤ 8) = False := eq_false (by omega)
    have k2 := key 204
    simp only [if_neg c] at k2 ⊢
    simp (disch := omega) only [e22_0, e22_1, e22_2, e22_5, e22_6, e22_7, e22_10, e22_11, e22_12, e22_14, e22_17, e22_20, e22_23, e22_26, e22_29, e22_30, e22_31, e22_34, e22_35, en22, ↓reduceIte, Bool.false_eq_true, not_false_eq_true, not_true_eq_false, Nat.reduceLeDiff, Nat.reduceAdd, Nat.reduceEqDiff, Int.reduceToNat, Int.toNat_natCast, iB0, iB1, ru_klI, ru_klR, ru_klF, ru_klJ, ru_kl0, ru_cs0, ru_csI, ru_csR, ru_csF, ru_csJ, wI_add, wI_sub, wI_mul, wI_lt, wI_le, wI_inj, ru_fdE, ru_fdN, ru_iaN, ru_baN, ru_laN, ru_qaN, ru_pfN, ru_isN, ru_bsN, ru_jsN, ru_qsN, ru_set2, Nat.add_right_cancel_iff, if_true, if_false, ite_self, Int.reduceEq, and_self, Int.add_neg_cancel_right, Int.add_zero, Int.zero_add, in_e, in_f5, in_s6, in_s7, in_s8, h5, c1]
    exact k2
end SCW
