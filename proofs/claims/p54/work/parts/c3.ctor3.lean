/-! ===== the constructors of history and album (printed by wip/gen/genc3.py) ===== -/
section CTOR3
variable {z : Bool} {h : am_H}
theorem na_q {h : am_H} {a n s m b q w : Nat} {e : am_C} {mi : Int} (hmi : mi = m) (hm : m ≤ 100) (ha : a < h.2.1 + n) (hb : h.2.1 + n = b) : am_na (am_set (blH h n s) a e) 6 (wI mi) = some (am_set (am_set (blH h (n + 1) (s + m)) a e) b (rfR 6 m q w 0)) := by
  have e0 : rfR 6 m q w 0 = .inl (6, m, .inr (.inr (.inr (.inr (fun _ => none))))) := by
    unfold rfR
    simp only [Nat.not_lt_zero, if_false]
  rw [hmi, na_k (by omega) 6, if_neg (by omega), if_neg (by omega), if_neg (by omega), if_pos (by omega), nw_set (by rw [bl_2]; exact ha), nw_bl, ru_setcomm (by omega), hb, e0]
theorem b8l (ha : h.2.1 = 1092) : ∀ d i : Nat, i + d = 6 → ru_n z 8 15 [some (.ref 1092), some (.int (wI i))] [] (am_set (am_set (blH h (2 + 27 * i) (8 + 307 * i)) 1092 (.inr (5, [.int (wI 0), .ref 1093]))) 1093 (rfR 6 6 1094 27 i)) = some (.inl none, am_set (am_set (blH h 164 1850) 1092 (.inr (5, [.int (wI 0), .ref 1093]))) 1093 (rfR 6 6 1094 27 6)) := by
  intro d
  induction d with
  | zero =>
    intro i hi
    obtain rfl : i = 6 := by omega
    simp (disch := omega) only [e8_15, e8_16, e8_18, e8_40, ↓reduceIte, Bool.false_eq_true, not_false_eq_true, not_true_eq_false, Nat.reduceLeDiff, Nat.reduceAdd, Nat.reduceEqDiff, Int.reduceToNat, Int.toNat_natCast, iB0, iB1, ru_klI, ru_klR, ru_klF, ru_klJ, ru_kl0, ru_cs0, ru_csI, ru_csR, ru_csF, ru_csJ, wI_add, wI_sub, wI_mul, wI_lt, wI_le, wI_inj, ru_fdE, ru_fdN, ru_iaN, ru_baN, ru_laN, ru_qaN, ru_pfN, ru_isN, ru_bsN, ru_jsN, ru_qsN, ru_set2, Nat.add_right_cancel_iff, if_true, if_false, ite_self, Int.reduceEq, and_self, Int.add_neg_cancel_right, Int.add_zero, Int.zero_add, Int.le_refl, show ((6 : Nat) : Int) = 6 from rfl]
  | succ d ih =>
    intro i hi
    have ih1 := ih (i + 1) (by omega)
    have c : ((6 : Int) ≤ (i : Int)) = False := eq_false (by omega)
    have hst : isSt (1094 + 27 * i) := by
      have key : ∀ i : Fin 6, 1094 + 27 * i.val ∈ stS := by decide +kernel
      exact key ⟨i, by omega⟩
    generalize hXX : am_set (am_set (blH h (2 + 27 * i) (8 + 307 * i)) 1092 (.inr (5, [.int (wI 0), .ref 1093]))) 1093 (rfR 6 6 1094 27 i) = X
    have hX : X.2.1 = 1094 + 27 * i := by rw [← hXX]; show h.2.1 + (2 + 27 * i) = _; omega
    have k6 := b5 (z := z) (h := X) hst hX
    have fx : am_fd X 1092 5 1 = some (.ref 1093) := by
      rw [← hXX]
      exact ru_fd (fs := [.int (wI 0), .ref 1093]) (by rw [ru_setN (by omega), ru_setE]) rfl
    have eb : blH X 27 307 = am_set (am_set (blH h (2 + 27 * (i + 1)) (8 + 307 * (i + 1))) 1092 (.inr (5, [.int (wI 0), .ref 1093]))) 1093 (rfR 6 6 1094 27 i) := by
      rw [← hXX, blH_set (by show 1093 < h.2.1 + (2 + 27 * i); omega), blH_set (by show 1092 < h.2.1 + (2 + 27 * i); omega), blH_bl, show 2 + 27 * i + 27 = 2 + 27 * (i + 1) by omega, show 8 + 307 * i + 307 = 8 + 307 * (i + 1) by omega]
    have eq := qs_bl (h := h) (a := 1092) (b := 1093) (x := 1094 + 27 * i) (n := 2 + 27 * (i + 1)) (s := 8 + 307 * (i + 1)) (k := 6) (m := 6) (q := 1094) (w := 27) (i := i) (c := 9) (e := .inr (5, [.int (wI 0), .ref 1093])) (fs := clL9 C0i (1094 + 27 * i)) rfl (by omega) (by omega) (by omega) (by omega) (Or.inr rfl) rfl (by omega) (by omega) (clP9 (isSt_k hst).1 (by omega))
    rw [eb] at k6
    rw [e8_15]
    simp only [Int.natCast_add, Int.natCast_one] at ih1
    simp (disch := omega) only [e8_16, e8_18, e8_21, e8_22, e8_25, e8_26, e8_29, e8_30, e8_33, e8_34, e8_37, ↓reduceIte, Bool.false_eq_true, not_false_eq_true, not_true_eq_false, Nat.reduceLeDiff, Nat.reduceAdd, Nat.reduceEqDiff, Int.reduceToNat, Int.toNat_natCast, iB0, iB1, ru_klI, ru_klR, ru_klF, ru_klJ, ru_kl0, ru_cs0, ru_csI, ru_csR, ru_csF, ru_csJ, wI_add, wI_sub, wI_mul, wI_lt, wI_le, wI_inj, ru_fdE, ru_fdN, ru_iaN, ru_baN, ru_laN, ru_qaN, ru_pfN, ru_isN, ru_bsN, ru_jsN, ru_qsN, ru_set2, Nat.add_right_cancel_iff, if_true, if_false, ite_self, Int.reduceEq, and_self, Int.add_neg_cancel_right, Int.add_zero, Int.zero_add, c, fx, hX, k6, eq, ru_ctR]
    exact ih1
theorem b8 (ha : h.2.1 = 1092) : ru_ev z 8 [.ref 1092] (am_new h (.inr (5, [.int (wI 0), .null])) 2) = some (.inl none, blH h 164 1850) := by
  have k := b8l (z := z) (h := h) ha 6 0 (by omega)
  have nq := fun e => na_q (h := h) (a := 1092) (n := 1) (s := 2) (m := 6) (b := 1093) (q := 1094) (w := 27) (e := e) (mi := 6) rfl (by omega) (by omega) (by omega)
  have fin : am_set (am_set (blH h 164 1850) 1092 (.inr (5, [.int (wI 0), .ref 1093]))) 1093 (rfR 6 6 1094 27 6) = blH h 164 1850 := by
    have e1 : HI.1 1092 = some (.inr (5, [.int (wI 0), .ref 1093])) := (clP5 (q := 1092) (by decide +kernel) (by omega) : HI.1 1092 = some (.inr (5, clL5 C0i 1092)))
    have e2 : HI.1 1093 = some (rfR 6 6 1094 27 6) := (clP106 (q := 1093) (by decide +kernel) (by omega) : HI.1 1093 = _)
    rw [bl_fin (by omega) (by omega) e1, bl_fin (by omega) (by omega) e2]
  rw [fin] at k
  rw [show ((0 : Nat) : Int) = 0 from rfl] at k
  simp only [Nat.mul_zero, Nat.add_zero] at k
  have sl : [Value.int (wI 0), .null].set 1 (.ref 1093) = [.int (wI 0), .ref 1093] := rfl
  rw [nw_0, ha]
  simp (disch := omega) only [e8_0, e8_1, e8_4, e8_5, e8_7, e8_10, e8_13, e8_14, en8, ↓reduceIte, Bool.false_eq_true, not_false_eq_true, not_true_eq_false, Nat.reduceLeDiff, Nat.reduceAdd, Nat.reduceEqDiff, Int.reduceToNat, Int.toNat_natCast, iB0, iB1, ru_klI, ru_klR, ru_klF, ru_klJ, ru_kl0, ru_cs0, ru_csI, ru_csR, ru_csF, ru_csJ, wI_add, wI_sub, wI_mul, wI_lt, wI_le, wI_inj, ru_fdE, ru_fdN, ru_iaN, ru_baN, ru_laN, ru_qaN, ru_pfN, ru_isN, ru_bsN, ru_jsN, ru_qsN, ru_set2, Nat.add_right_cancel_iff, if_true, if_false, ite_self, Int.reduceEq, and_self, Int.add_neg_cancel_right, Int.add_zero, Int.zero_add, ha, nq, sl, k, ru_setE, bl_2, pf_2, pf_0, bl_nx, List.length_set, List.length_nil, List.length_cons, Nat.zero_le, Nat.reduceLT, and_self, ru_ctR, Option.map_some]
theorem b1l (ha : h.2.1 = 1000) {fs : List Value} (h7 : fs[7]? = some (.ref 1256)) : ∀ d i : Nat, i + d = 2 → ru_n z 1 110 [some (.ref 1000), some (.int (wI i))] [] (am_set (am_set (blH h (261 + 27 * i) (4145 + 307 * i)) 1000 (.inr (0, fs))) 1256 (rfR 6 2 1261 27 i)) = some (.inl none, am_set (am_set (blH h 315 4759) 1000 (.inr (0, fs))) 1256 (rfR 6 2 1261 27 2)) := by
  intro d
  induction d with
  | zero =>
    intro i hi
    obtain rfl : i = 2 := by omega
    simp (disch := omega) only [e1_110, e1_111, e1_112, e1_134, ↓reduceIte, Bool.false_eq_true, not_false_eq_true, not_true_eq_false, Nat.reduceLeDiff, Nat.reduceAdd, Nat.reduceEqDiff, Int.reduceToNat, Int.toNat_natCast, iB0, iB1, ru_klI, ru_klR, ru_klF, ru_klJ, ru_kl0, ru_cs0, ru_csI, ru_csR, ru_csF, ru_csJ, wI_add, wI_sub, wI_mul, wI_lt, wI_le, wI_inj, ru_fdE, ru_fdN, ru_iaN, ru_baN, ru_laN, ru_qaN, ru_pfN, ru_isN, ru_bsN, ru_jsN, ru_qsN, ru_set2, Nat.add_right_cancel_iff, if_true, if_false, ite_self, Int.reduceEq, and_self, Int.add_neg_cancel_right, Int.add_zero, Int.zero_add, Int.le_refl, show ((2 : Nat) : Int) = 2 from rfl]
  | succ d ih =>
    intro i hi
    have ih1 := ih (i + 1) (by omega)
    have c : ((2 : Int) ≤ (i : Int)) = False := eq_false (by omega)
    have hst : isSt (1261 + 27 * i) := by
      have key : ∀ i : Fin 2, 1261 + 27 * i.val ∈ stS := by decide +kernel
      exact key ⟨i, by omega⟩
    generalize hXX : am_set (am_set (blH h (261 + 27 * i) (4145 + 307 * i)) 1000 (.inr (0, fs))) 1256 (rfR 6 2 1261 27 i) = X
    have hX : X.2.1 = 1261 + 27 * i := by rw [← hXX]; show h.2.1 + (261 + 27 * i) = _; omega
    have k6 := b5 (z := z) (h := X) hst hX
    have fx : am_fd X 1000 0 7 = some (.ref 1256) := by
      rw [← hXX]
      exact ru_fd (fs := fs) (by rw [ru_setN (by omega), ru_setE]) h7
    have eb : blH X 27 307 = am_set (am_set (blH h (261 + 27 * (i + 1)) (4145 + 307 * (i + 1))) 1000 (.inr (0, fs))) 1256 (rfR 6 2 1261 27 i) := by
      rw [← hXX, blH_set (by show 1256 < h.2.1 + (261 + 27 * i); omega), blH_set (by show 1000 < h.2.1 + (261 + 27 * i); omega), blH_bl, show 261 + 27 * i + 27 = 261 + 27 * (i + 1) by omega, show 4145 + 307 * i + 307 = 4145 + 307 * (i + 1) by omega]
    have eq := qs_bl (h := h) (a := 1000) (b := 1256) (x := 1261 + 27 * i) (n := 261 + 27 * (i + 1)) (s := 4145 + 307 * (i + 1)) (k := 6) (m := 2) (q := 1261) (w := 27) (i := i) (c := 9) (e := .inr (0, fs)) (fs := clL9 C0i (1261 + 27 * i)) rfl (by omega) (by omega) (by omega) (by omega) (Or.inr rfl) rfl (by omega) (by omega) (clP9 (isSt_k hst).1 (by omega))
    rw [eb] at k6
    rw [e1_110]
    simp only [Int.natCast_add, Int.natCast_one] at ih1
    simp (disch := omega) only [e1_111, e1_112, e1_115, e1_116, e1_119, e1_120, e1_123, e1_124, e1_127, e1_128, e1_131, ↓reduceIte, Bool.false_eq_true, not_false_eq_true, not_true_eq_false, Nat.reduceLeDiff, Nat.reduceAdd, Nat.reduceEqDiff, Int.reduceToNat, Int.toNat_natCast, iB0, iB1, ru_klI, ru_klR, ru_klF, ru_klJ, ru_kl0, ru_cs0, ru_csI, ru_csR, ru_csF, ru_csJ, wI_add, wI_sub, wI_mul, wI_lt, wI_le, wI_inj, ru_fdE, ru_fdN, ru_iaN, ru_baN, ru_laN, ru_qaN, ru_pfN, ru_isN, ru_bsN, ru_jsN, ru_qsN, ru_set2, Nat.add_right_cancel_iff, if_true, if_false, ite_self, Int.reduceEq, and_self, Int.add_neg_cancel_right, Int.add_zero, Int.zero_add, c, fx, hX, k6, eq, ru_ctR]
    exact ih1
theorem b1 (ha : h.2.1 = 1000) : ru_ev z 1 [.ref 1000] (am_new h (.inr (0, [.null, .null, .null, .null, .null, .null, .null, .null, .null, .null])) 10) = some (.inl none, blH h 315 4759) := by
  have x2 := fun e => b2 (z := z) (h := am_set (blH h 1 10) 1000 e) (by show h.2.1 + 1 = _; omega)
  have x3 := fun e => b3 (z := z) (h := am_set (blH h 3 1220) 1000 e) (Or.inl rfl) (by show h.2.1 + 3 = _; omega)
  have x4 := fun e => b3 (z := z) (h := am_set (blH h 34 1573) 1000 e) (Or.inr rfl) (by show h.2.1 + 34 = _; omega)
  have x5 := fun e => b6 (z := z) (h := am_set (blH h 65 1926) 1000 e) isPh_draft (by show h.2.1 + 65 = _; omega)
  have x6 := fun e => b7 (z := z) (h := am_set (blH h 70 1986) 1000 e) (Or.inl rfl) (by show h.2.1 + 70 = _; omega)
  have x7 := fun e => b7 (z := z) (h := am_set (blH h 81 2119) 1000 e) (Or.inr rfl) (by show h.2.1 + 81 = _; omega)
  have x8 := fun e => b8 (z := z) (h := am_set (blH h 92 2252) 1000 e) (by show h.2.1 + 92 = _; omega)
  have nq := fun e => na_q (h := h) (a := 1000) (n := 256) (s := 4102) (m := 2) (b := 1256) (q := 1261) (w := 27) (e := e) (mi := 2) rfl (by omega) (by omega) (by omega)
  have x9 : ∀ e, ru_ev z 9 [.ref 1257] (am_new (am_set (am_set (blH h 257 4104) 1000 e) 1256 (rfR 6 2 1261 27 0)) (.inr (7, [.null])) 1) = some (.inl none, am_set (am_set (blH h 260 4125) 1000 e) 1256 (rfR 6 2 1261 27 0)) := fun e => by
    have k := b9 (z := z) (h := am_set (am_set (blH h 257 4104) 1000 e) 1256 (rfR 6 2 1261 27 0)) (by show h.2.1 + 257 = _; omega)
    rw [blH_set (by show 1256 < h.2.1 + 257; omega), blH_set (by show 1000 < h.2.1 + 257; omega), blH_bl] at k
    exact k
  have x10 : ∀ e, am_na (am_set (am_set (blH h 260 4125) 1000 e) 1256 (rfR 6 2 1261 27 0)) 0 (wI 20) = some (am_set (am_set (blH h 261 4145) 1000 e) 1256 (rfR 6 2 1261 27 0)) := fun e => by
    have r1 : HI.1 1260 = some (.inl (0, 20, .inl (fun _ => wI 0))) := HI_100 (q := 1260) (by decide +kernel) (by omega)
    have k := na_k (h := am_set (am_set (blH h 260 4125) 1000 e) 1256 (rfR 6 2 1261 27 0)) (m := 20) (by omega) 0
    rw [if_pos (by omega), nw_set (by show 1256 < h.2.1 + 260; omega), nw_set (by show 1000 < h.2.1 + 260; omega), nw_bl, ha, bl_fin (by omega) (by omega) r1] at k
    exact k
  have k := b1l (z := z) (h := h) ha (fs := (((((((((([Value.null, .null, .null, .null, .null, .null, .null, .null, .null, .null].set 0 (.ref 1001)).set 1 (.ref 1003)).set 2 (.ref 1034)).set 3 (.ref 1065)).set 4 (.ref 1070)).set 5 (.ref 1081)).set 6 (.ref 1092)).set 7 (.ref 1256)).set 8 (.ref 1257)).set 9 (.ref 1260))) rfl 2 0 (by omega)
  have fin : am_set (am_set (blH h 315 4759) 1000 (.inr (0, (((((((((([Value.null, .null, .null, .null, .null, .null, .null, .null, .null, .null].set 0 (.ref 1001)).set 1 (.ref 1003)).set 2 (.ref 1034)).set 3 (.ref 1065)).set 4 (.ref 1070)).set 5 (.ref 1081)).set 6 (.ref 1092)).set 7 (.ref 1256)).set 8 (.ref 1257)).set 9 (.ref 1260))))) 1256 (rfR 6 2 1261 27 2) = blH h 315 4759 := by
    have e1 : HI.1 1000 = some (.inr (0, (((((((((([Value.null, .null, .null, .null, .null, .null, .null, .null, .null, .null].set 0 (.ref 1001)).set 1 (.ref 1003)).set 2 (.ref 1034)).set 3 (.ref 1065)).set 4 (.ref 1070)).set 5 (.ref 1081)).set 6 (.ref 1092)).set 7 (.ref 1256)).set 8 (.ref 1257)).set 9 (.ref 1260)))) := (clP0 (q := 1000) (by decide +kernel) (by omega) : HI.1 1000 = some (.inr (0, clL0 C0i 1000)))
    have e2 : HI.1 1256 = some (rfR 6 2 1261 27 2) := (clP106 (q := 1256) (by decide +kernel) (by omega) : HI.1 1256 = _)
    rw [bl_fin (by omega) (by omega) e1, bl_fin (by omega) (by omega) e2]
  rw [fin] at k
  rw [show ((0 : Nat) : Int) = 0 from rfl] at k
  simp only [Nat.mul_zero, Nat.add_zero] at k
  rw [nw_0, ha]
  simp (disch := omega) only [e1_0, e1_1, e1_4, e1_5, e1_8, e1_9, e1_12, e1_15, e1_16, e1_19, e1_20, e1_23, e1_26, e1_27, e1_30, e1_31, e1_34, e1_37, e1_38, e1_41, e1_42, e1_45, e1_48, e1_49, e1_52, e1_53, e1_56, e1_59, e1_60, e1_63, e1_64, e1_67, e1_70, e1_71, e1_74, e1_75, e1_78, e1_81, e1_82, e1_83, e1_86, e1_89, e1_90, e1_93, e1_94, e1_97, e1_100, e1_101, e1_103, e1_105, e1_108, e1_109, en1, ↓reduceIte, Bool.false_eq_true, not_false_eq_true, not_true_eq_false, Nat.reduceLeDiff, Nat.reduceAdd, Nat.reduceEqDiff, Int.reduceToNat, Int.toNat_natCast, iB0, iB1, ru_klI, ru_klR, ru_klF, ru_klJ, ru_kl0, ru_cs0, ru_csI, ru_csR, ru_csF, ru_csJ, wI_add, wI_sub, wI_mul, wI_lt, wI_le, wI_inj, ru_fdE, ru_fdN, ru_iaN, ru_baN, ru_laN, ru_qaN, ru_pfN, ru_isN, ru_bsN, ru_jsN, ru_qsN, ru_set2, Nat.add_right_cancel_iff, if_true, if_false, ite_self, Int.reduceEq, and_self, Int.add_neg_cancel_right, Int.add_zero, Int.zero_add, ha, x2, x3, x4, x5, x6, x7, x8, nq, x9, x10, k, ru_setE, bl_2, pf_2, pf_0, bl_nx, List.length_set, List.length_nil, List.length_cons, Nat.zero_le, Nat.reduceLT, and_self, ru_ctR, Option.map_some]
end CTOR3
