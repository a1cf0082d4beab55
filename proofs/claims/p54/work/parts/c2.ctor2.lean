/-! ===== the other constructors (printed by wip/gen/genc2.py) ===== -/
theorem pf_0 {h : am_H} {a c k : Nat} {v : Int32} {fs : List Value} (hc : c < 50) : am_pf (am_set h a (.inr (c, fs))) a c k 0 (.int v) = if c < 50 ∧ k < fs.length then some (am_set h a (.inr (c, fs.set k (.int v)))) else none := by
  by_cases e : c < 50 ∧ k < fs.length
  · rw [if_pos e, ru_pfE0 e]
  · rw [if_neg e]
    unfold am_pf
    rw [ru_setE]
    dsimp only
    rw [if_neg (fun h => e ⟨hc, h.2.2⟩)]
theorem pf_4 {h : am_H} {a c k : Nat} {fs : List Value} (hc : c < 50) : am_pf (am_set h a (.inr (c, fs))) a c k 4 (.int (wI 0)) = if c < 50 ∧ k < fs.length then some (am_set h a (.inr (c, fs.set k (.int (wI 0))))) else none := by
  by_cases e : c < 50 ∧ k < fs.length
  · rw [if_pos e, ru_pf4 (ru_setE h a _) e (by decide +kernel), set_set]
  · rw [if_neg e]
    unfold am_pf
    rw [ru_setE]
    dsimp only
    rw [if_neg (fun h => e ⟨hc, h.2.2⟩)]
theorem bl_nx {h : am_H} {a n s m t : Nat} {e : am_C} (ha : a < h.2.1 + n) : blH (am_set (blH h n s) a e) m t = am_set (blH h (n + m) (s + t)) a e := by
  rw [blH_set (by rw [bl_2]; exact ha), blH_bl]
section CTOR2
variable {z : Bool} {h : am_H}
theorem b4 {a : Nat} (k0 : clk a = 3) (k1 : clk (a + 1) = 103) (k2 : clk (a + 2) = 103) (n1 : cln (a + 1) = 20) (n2 : cln (a + 2) = 20) (hl : 1002 ≤ a) (ha : h.2.1 = a) : ru_ev z 4 [.ref a] (am_new h (.inr (3, [.int (wI 0), .null, .null])) 3) = some (.inl none, blH h 3 43) := by
  have r1 := HI_103 k1 (by omega)
  have r2 := HI_103 k2 (by omega)
  rw [n1] at r1
  rw [n2] at r2
  have a1 := fun e s => na_bl (h := h) (a := a) (n := 1) (s := s) (e := e) (k := 3) (m := 20) (mi := 20) rfl (by omega) (by omega) rfl (by rw [ha]; exact r1)
  have a2 := fun e s => na_bl (h := h) (a := a) (n := 2) (s := s) (e := e) (k := 3) (m := 20) (mi := 20) rfl (by omega) (by omega) rfl (by rw [ha]; exact r2)
  have fin : am_set (blH h 3 43) a (.inr (3, (([Value.int (wI 0), Value.null, Value.null].set 1 (.ref (a + 1))).set 2 (.ref (a + 2))))) = blH h 3 43 := by
    refine bl_fin (by omega) (by omega) ?_
    have e6 : HI.1 a = some (.inr (3, clL3 C0i a)) := clP3 k0 (by omega)
    rw [e6]
    unfold clL3
    rw [C0i_0 (by omega)]
    rfl
  rw [nw_0, ha]
  simp (disch := omega) only [en4, e4_0, e4_1, e4_4, e4_5, e4_7, e4_9, e4_12, e4_13, e4_15, e4_17, e4_20, ↓reduceIte, Bool.false_eq_true, not_false_eq_true, not_true_eq_false, Nat.reduceLeDiff, Nat.reduceAdd, Nat.reduceEqDiff, Int.reduceToNat, Int.toNat_natCast, iB0, iB1, ru_klI, ru_klR, ru_klF, ru_klJ, ru_kl0, ru_cs0, ru_csI, ru_csR, ru_csF, ru_csJ, wI_add, wI_sub, wI_mul, wI_lt, wI_le, wI_inj, ru_fdE, ru_fdN, ru_iaN, ru_baN, ru_laN, ru_qaN, ru_pfN, ru_isN, ru_bsN, ru_jsN, ru_qsN, ru_set2, Nat.add_right_cancel_iff, if_true, if_false, ite_self, Int.reduceEq, and_self, Int.add_neg_cancel_right, Int.add_zero, Int.zero_add, a1, a2, ha, fin, ru_setE, bl_2, pf_2, pf_0, bl_nx, List.length_set, List.length_nil, List.length_cons, Nat.zero_le, Nat.reduceLT, and_self, ru_ctR]
theorem b7 {a : Nat} (hp : a = 1070 ∨ a = 1081) (ha : h.2.1 = a) : ru_ev z 7 [.ref a] (am_new h (.inr (4, [.int (wI 0), .int (wI 0), .null, .null, .null, .null, .null, .null, .null, .null, .null, .null])) 12) = some (.inl none, blH h 11 133) := by
  have k0 : clk a = 4 := by rcases hp with rfl | rfl <;> decide +kernel
  have k1 : clk (a + 1) = 100 ∧ cln (a + 1) = 12 := by rcases hp with rfl | rfl <;> decide +kernel
  have k2 : clk (a + 2) = 100 ∧ cln (a + 2) = 12 := by rcases hp with rfl | rfl <;> decide +kernel
  have k3 : clk (a + 3) = 100 ∧ cln (a + 3) = 12 := by rcases hp with rfl | rfl <;> decide +kernel
  have k4 : clk (a + 4) = 100 ∧ cln (a + 4) = 12 := by rcases hp with rfl | rfl <;> decide +kernel
  have k5 : clk (a + 5) = 100 ∧ cln (a + 5) = 12 := by rcases hp with rfl | rfl <;> decide +kernel
  have k6 : clk (a + 6) = 100 ∧ cln (a + 6) = 12 := by rcases hp with rfl | rfl <;> decide +kernel
  have k7 : clk (a + 7) = 100 ∧ cln (a + 7) = 13 := by rcases hp with rfl | rfl <;> decide +kernel
  have k8 : clk (a + 8) = 100 ∧ cln (a + 8) = 12 := by rcases hp with rfl | rfl <;> decide +kernel
  have k9 : clk (a + 9) = 100 ∧ cln (a + 9) = 12 := by rcases hp with rfl | rfl <;> decide +kernel
  have k10 : clk (a + 10) = 100 ∧ cln (a + 10) = 12 := by rcases hp with rfl | rfl <;> decide +kernel
  have r1 := HI_100 k1.1 (by omega)
  rw [k1.2] at r1
  have r2 := HI_100 k2.1 (by omega)
  rw [k2.2] at r2
  have r3 := HI_100 k3.1 (by omega)
  rw [k3.2] at r3
  have r4 := HI_100 k4.1 (by omega)
  rw [k4.2] at r4
  have r5 := HI_100 k5.1 (by omega)
  rw [k5.2] at r5
  have r6 := HI_100 k6.1 (by omega)
  rw [k6.2] at r6
  have r7 := HI_100 k7.1 (by omega)
  rw [k7.2] at r7
  have r8 := HI_100 k8.1 (by omega)
  rw [k8.2] at r8
  have r9 := HI_100 k9.1 (by omega)
  rw [k9.2] at r9
  have r10 := HI_100 k10.1 (by omega)
  rw [k10.2] at r10
  have a1 := fun e s => na_bl (h := h) (a := a) (n := 1) (s := s) (e := e) (k := 0) (m := 12) (mi := 12) rfl (by omega) (by omega) rfl (by rw [ha]; exact r1)
  have a2 := fun e s => na_bl (h := h) (a := a) (n := 2) (s := s) (e := e) (k := 0) (m := 12) (mi := 12) rfl (by omega) (by omega) rfl (by rw [ha]; exact r2)
  have a3 := fun e s => na_bl (h := h) (a := a) (n := 3) (s := s) (e := e) (k := 0) (m := 12) (mi := 12) rfl (by omega) (by omega) rfl (by rw [ha]; exact r3)
  have a4 := fun e s => na_bl (h := h) (a := a) (n := 4) (s := s) (e := e) (k := 0) (m := 12) (mi := 12) rfl (by omega) (by omega) rfl (by rw [ha]; exact r4)
  have a5 := fun e s => na_bl (h := h) (a := a) (n := 5) (s := s) (e := e) (k := 0) (m := 12) (mi := 12) rfl (by omega) (by omega) rfl (by rw [ha]; exact r5)
  have a6 := fun e s => na_bl (h := h) (a := a) (n := 6) (s := s) (e := e) (k := 0) (m := 12) (mi := 12) rfl (by omega) (by omega) rfl (by rw [ha]; exact r6)
  have a7 := fun e s => na_bl (h := h) (a := a) (n := 7) (s := s) (e := e) (k := 0) (m := 13) (mi := 13) rfl (by omega) (by omega) rfl (by rw [ha]; exact r7)
  have a8 := fun e s => na_bl (h := h) (a := a) (n := 8) (s := s) (e := e) (k := 0) (m := 12) (mi := 12) rfl (by omega) (by omega) rfl (by rw [ha]; exact r8)
  have a9 := fun e s => na_bl (h := h) (a := a) (n := 9) (s := s) (e := e) (k := 0) (m := 12) (mi := 12) rfl (by omega) (by omega) rfl (by rw [ha]; exact r9)
  have a10 := fun e s => na_bl (h := h) (a := a) (n := 10) (s := s) (e := e) (k := 0) (m := 12) (mi := 12) rfl (by omega) (by omega) rfl (by rw [ha]; exact r10)
  have fin : am_set (blH h 11 133) a (.inr (4, (((((((((([Value.int (wI 0), Value.int (wI 0), Value.null, Value.null, Value.null, Value.null, Value.null, Value.null, Value.null, Value.null, Value.null, Value.null].set 2 (.ref (a + 1))).set 3 (.ref (a + 2))).set 4 (.ref (a + 3))).set 5 (.ref (a + 4))).set 6 (.ref (a + 5))).set 7 (.ref (a + 6))).set 8 (.ref (a + 7))).set 9 (.ref (a + 8))).set 10 (.ref (a + 9))).set 11 (.ref (a + 10))))) = blH h 11 133 := by
    refine bl_fin (by omega) (by omega) ?_
    have e6 : HI.1 a = some (.inr (4, clL4 C0i a)) := clP4 k0 (by omega)
    rw [e6]
    unfold clL4
    rw [C0i_0 (by omega), C0i_0 (by omega)]
    rfl
  rw [nw_0, ha]
  simp (disch := omega) only [en7, e7_0, e7_1, e7_4, e7_5, e7_7, e7_9, e7_12, e7_13, e7_15, e7_17, e7_20, e7_21, e7_23, e7_25, e7_28, e7_29, e7_31, e7_33, e7_36, e7_37, e7_39, e7_41, e7_44, e7_45, e7_47, e7_49, e7_52, e7_53, e7_55, e7_57, e7_60, e7_61, e7_63, e7_65, e7_68, e7_69, e7_71, e7_73, e7_76, e7_77, e7_79, e7_81, e7_84, ↓reduceIte, Bool.false_eq_true, not_false_eq_true, not_true_eq_false, Nat.reduceLeDiff, Nat.reduceAdd, Nat.reduceEqDiff, Int.reduceToNat, Int.toNat_natCast, iB0, iB1, ru_klI, ru_klR, ru_klF, ru_klJ, ru_kl0, ru_cs0, ru_csI, ru_csR, ru_csF, ru_csJ, wI_add, wI_sub, wI_mul, wI_lt, wI_le, wI_inj, ru_fdE, ru_fdN, ru_iaN, ru_baN, ru_laN, ru_qaN, ru_pfN, ru_isN, ru_bsN, ru_jsN, ru_qsN, ru_set2, Nat.add_right_cancel_iff, if_true, if_false, ite_self, Int.reduceEq, and_self, Int.add_neg_cancel_right, Int.add_zero, Int.zero_add, a1, a2, a3, a4, a5, a6, a7, a8, a9, a10, ha, fin, ru_setE, bl_2, pf_2, pf_0, bl_nx, List.length_set, List.length_nil, List.length_cons, Nat.zero_le, Nat.reduceLT, and_self, ru_ctR]
theorem b12 (ha : h.2.1 = 1315) : ru_ev z 12 [.ref 1315] (am_new h (.inr (10, [Value.int (wI 0), Value.int (wI 0), Value.null, Value.null, Value.int (wI 0), Value.null, Value.null, Value.int (wI 0), Value.int (wI 0), Value.int (wI 0), Value.int (wI 0), Value.int (wI 0), Value.int (wI 0), Value.int (wI 0), Value.null, Value.int (wI 0), Value.int (wI 0), Value.int (wI 0), Value.int (wI 0), Value.null, Value.int (wI 0), Value.null, Value.int (wI 0), Value.null, Value.int (wI 0), Value.int (wI 0), Value.null, Value.null, Value.int (wI 0), Value.int (wI 0), Value.null, Value.null, Value.null, Value.null, Value.int (wI 0), Value.int (wI 0), Value.null, Value.null, Value.int (wI 0)])) 39) = some (.inl none, blH h 17 6021) := by
  have r1 : HI.1 1316 = some (.inl (0, 270, .inl (fun _ => wI 0))) := (clPut_o (by omega)).trans (mdC0 (mdAt_put _ M0i))
  have r2 : HI.1 1317 = some (.inl (0, 2430, .inl (fun _ => wI 0))) := (clPut_o (by omega)).trans (mdC1 (mdAt_put _ M0i))
  have r3 : HI.1 1318 = some (.inl (2, 2, .inl (fun _ => wI 0))) := (clPut_o (by omega)).trans (mdC2 (mdAt_put _ M0i))
  have r4 : HI.1 1319 = some (.inl (0, 1200, .inl (fun _ => wI 0))) := (clPut_o (by omega)).trans (mdC3 (mdAt_put _ M0i))
  have r5 : HI.1 1320 = some (.inl (0, 8, .inl (fun _ => wI 0))) := (clPut_o (by omega)).trans (mdC4 (mdAt_put _ M0i))
  have r6 : HI.1 1321 = some (.inl (0, 320, .inl (fun _ => wI 0))) := (clPut_o (by omega)).trans (mdC5 (mdAt_put _ M0i))
  have r7 : HI.1 1322 = some (.inl (0, 320, .inl (fun _ => wI 0))) := (clPut_o (by omega)).trans (mdC6 (mdAt_put _ M0i))
  have r8 : HI.1 1323 = some (.inl (0, 104, .inl (fun _ => wI 0))) := (clPut_o (by omega)).trans (mdC7 (mdAt_put _ M0i))
  have r9 : HI.1 1324 = some (.inl (0, 5, .inl (fun _ => wI 0))) := (clPut_o (by omega)).trans (mdC8 (mdAt_put _ M0i))
  have r10 : HI.1 1325 = some (.inl (0, 5, .inl (fun _ => wI 0))) := (clPut_o (by omega)).trans (mdC9 (mdAt_put _ M0i))
  have r11 : HI.1 1326 = some (.inl (0, 270, .inl (fun _ => wI 0))) := (clPut_o (by omega)).trans (mdC10 (mdAt_put _ M0i))
  have r12 : HI.1 1327 = some (.inl (0, 12, .inl (fun _ => wI 0))) := (clPut_o (by omega)).trans (mdC11 (mdAt_put _ M0i))
  have r13 : HI.1 1328 = some (.inl (0, 12, .inl (fun _ => wI 0))) := (clPut_o (by omega)).trans (mdC12 (mdAt_put _ M0i))
  have r14 : HI.1 1329 = some (.inl (0, 12, .inl (fun _ => wI 0))) := (clPut_o (by omega)).trans (mdC13 (mdAt_put _ M0i))
  have r15 : HI.1 1330 = some (.inl (0, 12, .inl (fun _ => wI 0))) := (clPut_o (by omega)).trans (mdC14 (mdAt_put _ M0i))
  have r16 : HI.1 1331 = some (.inl (0, 1000, .inl (fun _ => wI 0))) := (clPut_o (by omega)).trans (mdC15 (mdAt_put _ M0i))
  have a1 := fun e s => na_bl (h := h) (a := 1315) (n := 1) (s := s) (e := e) (k := 0) (m := 270) (mi := 270) rfl (by omega) (by omega) rfl (by rw [ha]; exact r1)
  have a2 := fun e s => na_bl (h := h) (a := 1315) (n := 2) (s := s) (e := e) (k := 0) (m := 2430) (mi := 2430) rfl (by omega) (by omega) rfl (by rw [ha]; exact r2)
  have a3 := fun e s => na_bl (h := h) (a := 1315) (n := 3) (s := s) (e := e) (k := 2) (m := 2) (mi := 2) rfl (by omega) (by omega) rfl (by rw [ha]; exact r3)
  have a4 := fun e s => na_bl (h := h) (a := 1315) (n := 4) (s := s) (e := e) (k := 0) (m := 1200) (mi := 1200) rfl (by omega) (by omega) rfl (by rw [ha]; exact r4)
  have a5 := fun e s => na_bl (h := h) (a := 1315) (n := 5) (s := s) (e := e) (k := 0) (m := 8) (mi := 8) rfl (by omega) (by omega) rfl (by rw [ha]; exact r5)
  have a6 := fun e s => na_bl (h := h) (a := 1315) (n := 6) (s := s) (e := e) (k := 0) (m := 320) (mi := 320) rfl (by omega) (by omega) rfl (by rw [ha]; exact r6)
  have a7 := fun e s => na_bl (h := h) (a := 1315) (n := 7) (s := s) (e := e) (k := 0) (m := 320) (mi := 320) rfl (by omega) (by omega) rfl (by rw [ha]; exact r7)
  have a8 := fun e s => na_bl (h := h) (a := 1315) (n := 8) (s := s) (e := e) (k := 0) (m := 104) (mi := 104) rfl (by omega) (by omega) rfl (by rw [ha]; exact r8)
  have a9 := fun e s => na_bl (h := h) (a := 1315) (n := 9) (s := s) (e := e) (k := 0) (m := 5) (mi := 5) rfl (by omega) (by omega) rfl (by rw [ha]; exact r9)
  have a10 := fun e s => na_bl (h := h) (a := 1315) (n := 10) (s := s) (e := e) (k := 0) (m := 5) (mi := 5) rfl (by omega) (by omega) rfl (by rw [ha]; exact r10)
  have a11 := fun e s => na_bl (h := h) (a := 1315) (n := 11) (s := s) (e := e) (k := 0) (m := 270) (mi := 270) rfl (by omega) (by omega) rfl (by rw [ha]; exact r11)
  have a12 := fun e s => na_bl (h := h) (a := 1315) (n := 12) (s := s) (e := e) (k := 0) (m := 12) (mi := 12) rfl (by omega) (by omega) rfl (by rw [ha]; exact r12)
  have a13 := fun e s => na_bl (h := h) (a := 1315) (n := 13) (s := s) (e := e) (k := 0) (m := 12) (mi := 12) rfl (by omega) (by omega) rfl (by rw [ha]; exact r13)
  have a14 := fun e s => na_bl (h := h) (a := 1315) (n := 14) (s := s) (e := e) (k := 0) (m := 12) (mi := 12) rfl (by omega) (by omega) rfl (by rw [ha]; exact r14)
  have a15 := fun e s => na_bl (h := h) (a := 1315) (n := 15) (s := s) (e := e) (k := 0) (m := 12) (mi := 12) rfl (by omega) (by omega) rfl (by rw [ha]; exact r15)
  have a16 := fun e s => na_bl (h := h) (a := 1315) (n := 16) (s := s) (e := e) (k := 0) (m := 1000) (mi := 1000) rfl (by omega) (by omega) rfl (by rw [ha]; exact r16)
  have fin : am_set (blH h 17 6021) 1315 (.inr (10, ((((((((((((((((([Value.int (wI 0), Value.int (wI 0), Value.null, Value.null, Value.int (wI 0), Value.null, Value.null, Value.int (wI 0), Value.int (wI 0), Value.int (wI 0), Value.int (wI 0), Value.int (wI 0), Value.int (wI 0), Value.int (wI 0), Value.null, Value.int (wI 0), Value.int (wI 0), Value.int (wI 0), Value.int (wI 0), Value.null, Value.int (wI 0), Value.null, Value.int (wI 0), Value.null, Value.int (wI 0), Value.int (wI 0), Value.null, Value.null, Value.int (wI 0), Value.int (wI 0), Value.null, Value.null, Value.null, Value.null, Value.int (wI 0), Value.int (wI 0), Value.null, Value.null, Value.int (wI 0)].set 2 (.ref 1316)).set 3 (.ref 1317)).set 5 (.ref 1318)).set 6 (.ref 1319)).set 9 (.int (wI (-1)))).set 14 (.ref 1320)).set 19 (.ref 1321)).set 21 (.ref 1322)).set 23 (.ref 1323)).set 26 (.ref 1324)).set 27 (.ref 1325)).set 30 (.ref 1326)).set 31 (.ref 1327)).set 32 (.ref 1328)).set 33 (.ref 1329)).set 36 (.ref 1330)).set 37 (.ref 1331)))) = blH h 17 6021 := by
    refine bl_fin (by omega) (by omega) ?_
    have e6 : HI.1 1315 = some (.inr (10, mdL M0i)) := (clPut_o (by omega)).trans (mdAt_put _ M0i).1
    rw [e6]
    rfl
  rw [nw_0, ha]
  simp (disch := omega) only [en12, e12_0, e12_1, e12_4, e12_5, e12_8, e12_10, e12_13, e12_14, e12_17, e12_19, e12_22, e12_23, e12_24, e12_26, e12_29, e12_30, e12_33, e12_35, e12_38, e12_39, e12_40, e12_43, e12_44, e12_46, e12_48, e12_51, e12_52, e12_55, e12_57, e12_60, e12_61, e12_64, e12_66, e12_69, e12_70, e12_72, e12_74, e12_77, e12_78, e12_79, e12_81, e12_84, e12_85, e12_86, e12_88, e12_91, e12_92, e12_95, e12_97, e12_100, e12_101, e12_103, e12_105, e12_108, e12_109, e12_111, e12_113, e12_116, e12_117, e12_119, e12_121, e12_124, e12_125, e12_127, e12_129, e12_132, e12_133, e12_136, e12_138, e12_141, ↓reduceIte, Bool.false_eq_true, not_false_eq_true, not_true_eq_false, Nat.reduceLeDiff, Nat.reduceAdd, Nat.reduceEqDiff, Int.reduceToNat, Int.toNat_natCast, iB0, iB1, ru_klI, ru_klR, ru_klF, ru_klJ, ru_kl0, ru_cs0, ru_csI, ru_csR, ru_csF, ru_csJ, wI_add, wI_sub, wI_mul, wI_lt, wI_le, wI_inj, ru_fdE, ru_fdN, ru_iaN, ru_baN, ru_laN, ru_qaN, ru_pfN, ru_isN, ru_bsN, ru_jsN, ru_qsN, ru_set2, Nat.add_right_cancel_iff, if_true, if_false, ite_self, Int.reduceEq, and_self, Int.add_neg_cancel_right, Int.add_zero, Int.zero_add, a1, a2, a3, a4, a5, a6, a7, a8, a9, a10, a11, a12, a13, a14, a15, a16, ha, fin, Int.reduceNeg, ru_setE, bl_2, pf_2, pf_0, bl_nx, List.length_set, List.length_nil, List.length_cons, Nat.zero_le, Nat.reduceLT, and_self, ru_ctR]
theorem b11 (ha : h.2.1 = 1258) : ru_ev z 11 [.ref 1258, .int (wI 16)] (am_new h (.inr (11, [.null, .int (wI 0), .int (wI 0), .int (wI 0)])) 4) = some (.inl none, blH h 2 20) := by
  have r1 : HI.1 1259 = some (.inl (1, 16, .inl (fun _ => wI 0))) := (clPut_o (by omega)).trans ((mdPut_o (by omega)).trans rfl)
  have a1 := fun e s => na_bl (h := h) (a := 1258) (n := 1) (s := s) (e := e) (k := 1) (m := 16) (mi := 16) rfl (by omega) (by omega) rfl (by rw [ha]; exact r1)
  have fin : am_set (blH h 2 20) 1258 (.inr (11, (([.null, .int (wI 0), .int (wI 0), .int (wI 0)] : List Value).set 0 (.ref 1259)).set 1 (.int (wI 0)))) = blH h 2 20 := by
    refine bl_fin (by omega) (by omega) ?_
    have e6 : HI.1 1258 = some (.inr (11, clL11 C0i 1258)) := clP11 (by decide +kernel) (by omega)
    rw [e6]
    rfl
  have d0 : ((1 : Int) = 0) = False := eq_false (by decide)
  rw [nw_0, ha]
  simp (disch := omega) only [en11, e11_0, e11_1, e11_4, e11_7, e11_10, e11_11, e11_12, e11_14, e11_17, e11_18, e11_19, e11_22, e11_38, ↓reduceIte, Bool.false_eq_true, not_false_eq_true, not_true_eq_false, Nat.reduceLeDiff, Nat.reduceAdd, Nat.reduceEqDiff, Int.reduceToNat, Int.toNat_natCast, iB0, iB1, ru_klI, ru_klR, ru_klF, ru_klJ, ru_kl0, ru_cs0, ru_csI, ru_csR, ru_csF, ru_csJ, wI_add, wI_sub, wI_mul, wI_lt, wI_le, wI_inj, ru_fdE, ru_fdN, ru_iaN, ru_baN, ru_laN, ru_qaN, ru_pfN, ru_isN, ru_bsN, ru_jsN, ru_qsN, ru_set2, Nat.add_right_cancel_iff, if_true, if_false, ite_self, Int.reduceEq, and_self, Int.add_neg_cancel_right, Int.add_zero, Int.zero_add, a1, ha, fin, d0, pf_4, ru_setE, bl_2, pf_2, pf_0, bl_nx, List.length_set, List.length_nil, List.length_cons, Nat.zero_le, Nat.reduceLT, and_self, ru_ctR]
theorem b10 (ha : h.2.1 = 1258) : ru_ev z 10 [.ref 1258] (am_new h (.inr (11, [.null, .int (wI 0), .int (wI 0), .int (wI 0)])) 4) = some (.inl none, blH h 2 20) := by
  have k := b11 (z := z) (h := h) ha
  have e0 : (am_new h (.inr (11, [.null, .int (wI 0), .int (wI 0), .int (wI 0)])) 4).1 1258 = some (.inr (11, [.null, .int (wI 0), .int (wI 0), .int (wI 0)])) := if_pos ha.symm
  simp (disch := omega) only [en10, e10_0, e10_1, e10_3, e10_6, ↓reduceIte, Bool.false_eq_true, not_false_eq_true, not_true_eq_false, Nat.reduceLeDiff, Nat.reduceAdd, Nat.reduceEqDiff, Int.reduceToNat, Int.toNat_natCast, iB0, iB1, ru_klI, ru_klR, ru_klF, ru_klJ, ru_kl0, ru_cs0, ru_csI, ru_csR, ru_csF, ru_csJ, wI_add, wI_sub, wI_mul, wI_lt, wI_le, wI_inj, ru_fdE, ru_fdN, ru_iaN, ru_baN, ru_laN, ru_qaN, ru_pfN, ru_isN, ru_bsN, ru_jsN, ru_qsN, ru_set2, Nat.add_right_cancel_iff, if_true, if_false, ite_self, Int.reduceEq, and_self, Int.add_neg_cancel_right, Int.add_zero, Int.zero_add, e0, k]
theorem b9 (ha : h.2.1 = 1257) : ru_ev z 9 [.ref 1257] (am_new h (.inr (7, [.null])) 1) = some (.inl none, blH h 3 21) := by
  have k := fun e => b10 (z := z) (h := am_set (blH h 1 1) 1257 e) (by show h.2.1 + 1 = _; omega)
  have fin : am_set (blH h 3 21) 1257 (.inr (7, ([.null] : List Value).set 0 (.ref 1258))) = blH h 3 21 := by
    refine bl_fin (by omega) (by omega) ?_
    have e6 : HI.1 1257 = some (.inr (7, clL7 C0i 1257)) := clP7 (by decide +kernel) (by omega)
    rw [e6]
    rfl
  rw [nw_0, ha]
  simp (disch := omega) only [en9, e9_0, e9_1, e9_4, e9_5, e9_8, e9_9, e9_12, e9_15, ↓reduceIte, Bool.false_eq_true, not_false_eq_true, not_true_eq_false, Nat.reduceLeDiff, Nat.reduceAdd, Nat.reduceEqDiff, Int.reduceToNat, Int.toNat_natCast, iB0, iB1, ru_klI, ru_klR, ru_klF, ru_klJ, ru_kl0, ru_cs0, ru_csI, ru_csR, ru_csF, ru_csJ, wI_add, wI_sub, wI_mul, wI_lt, wI_le, wI_inj, ru_fdE, ru_fdN, ru_iaN, ru_baN, ru_laN, ru_qaN, ru_pfN, ru_isN, ru_bsN, ru_jsN, ru_qsN, ru_set2, Nat.add_right_cancel_iff, if_true, if_false, ite_self, Int.reduceEq, and_self, Int.add_neg_cancel_right, Int.add_zero, Int.zero_add, k, ha, fin, ru_setE, bl_2, pf_2, pf_0, bl_nx, List.length_set, List.length_nil, List.length_cons, Nat.zero_le, Nat.reduceLT, and_self, ru_ctR]
theorem b2 (ha : h.2.1 = 1001) : ru_ev z 2 [.ref 1001] (am_new h (.inr (1, [.null, .int (wI 0), .int (wI 0), .int (wI 0), .int (wI 0), .int (wI 0), .int (wI 0), .null, .long 0, .int (wI 0)])) 10) = some (.inl none, blH h 2 1210) := by
  have r1 : HI.1 1002 = some (.inl (1, 1200, .inl (fun _ => wI 0))) := clP101 (q := 1002) (by decide +kernel) (by omega)
  have a1 := fun e s => na_bl (h := h) (a := 1001) (n := 1) (s := s) (e := e) (k := 1) (m := 1200) (mi := 1200) rfl (by omega) (by omega) rfl (by rw [ha]; exact r1)
  have fin : am_set (blH h 2 1210) 1001 (.inr (1, ((([.null, .int (wI 0), .int (wI 0), .int (wI 0), .int (wI 0), .int (wI 0), .int (wI 0), .null, .long 0, .int (wI 0)] : List Value).set 0 (.ref 1002)).set 3 (.int (wI (-1)))).set 7 (.ref 205))) = blH h 2 1210 := by
    refine bl_fin (by omega) (by omega) ?_
    have e6 : HI.1 1001 = some (.inr (1, clL1 C0i 1001)) := clP1 (by decide +kernel) (by omega)
    rw [e6]
    rfl
  rw [nw_0, ha]
  simp (disch := omega) only [en2, e2_0, e2_1, e2_4, e2_5, e2_8, e2_10, e2_13, e2_14, e2_15, e2_18, e2_19, e2_22, e2_25, ↓reduceIte, Bool.false_eq_true, not_false_eq_true, not_true_eq_false, Nat.reduceLeDiff, Nat.reduceAdd, Nat.reduceEqDiff, Int.reduceToNat, Int.toNat_natCast, iB0, iB1, ru_klI, ru_klR, ru_klF, ru_klJ, ru_kl0, ru_cs0, ru_csI, ru_csR, ru_csF, ru_csJ, wI_add, wI_sub, wI_mul, wI_lt, wI_le, wI_inj, ru_fdE, ru_fdN, ru_iaN, ru_baN, ru_laN, ru_qaN, ru_pfN, ru_isN, ru_bsN, ru_jsN, ru_qsN, ru_set2, Nat.add_right_cancel_iff, if_true, if_false, ite_self, Int.reduceEq, and_self, Int.add_neg_cancel_right, Int.add_zero, Int.zero_add, a1, ha, fin, Int.reduceNeg, ru_setE, bl_2, pf_2, pf_0, bl_nx, List.length_set, List.length_nil, List.length_cons, Nat.zero_le, Nat.reduceLT, and_self, ru_ctR]
theorem b3 {a : Nat} (hp : a = 1003 ∨ a = 1034) (ha : h.2.1 = a) : ru_ev z 3 [.ref a] (am_new h (.inr (2, [.int (wI 0), .null, .null])) 3) = some (.inl none, blH h 31 353) := by
  have k0 : clk a = 2 ∧ clk (a + 1) = 3 ∧ clk (a + 1 + 1) = 103 ∧ clk (a + 1 + 2) = 103 ∧ cln (a + 1 + 1) = 20 ∧ cln (a + 1 + 2) = 20 := by rcases hp with rfl | rfl <;> decide +kernel
  have hst : isSt (a + 4) := by
    unfold isSt
    rcases hp with rfl | rfl <;> decide +kernel
  have x4 := fun e => b4 (z := z) (h := am_set (blH h 1 3) a e) k0.2.1 k0.2.2.1 k0.2.2.2.1 k0.2.2.2.2.1 k0.2.2.2.2.2 (by omega) (by show h.2.1 + 1 = _; omega)
  have x5 := fun e => b5 (z := z) (h := am_set (blH h 4 46) a e) hst (by show h.2.1 + 4 = _; omega)
  have fin : am_set (blH h 31 353) a (.inr (2, (([.int (wI 0), .null, .null] : List Value).set 1 (.ref (a + 1))).set 2 (.ref (a + 4)))) = blH h 31 353 := by
    refine bl_fin (by omega) (by omega) ?_
    have e6 : HI.1 a = some (.inr (2, clL2 C0i a)) := clP2 k0.1 (by omega)
    rw [e6]
    unfold clL2
    rw [C0i_0 (by omega)]
    rfl
  rw [nw_0, ha]
  simp (disch := omega) only [en3, e3_0, e3_1, e3_4, e3_5, e3_8, e3_9, e3_12, e3_15, e3_16, e3_19, e3_20, e3_23, e3_26, ↓reduceIte, Bool.false_eq_true, not_false_eq_true, not_true_eq_false, Nat.reduceLeDiff, Nat.reduceAdd, Nat.reduceEqDiff, Int.reduceToNat, Int.toNat_natCast, iB0, iB1, ru_klI, ru_klR, ru_klF, ru_klJ, ru_kl0, ru_cs0, ru_csI, ru_csR, ru_csF, ru_csJ, wI_add, wI_sub, wI_mul, wI_lt, wI_le, wI_inj, ru_fdE, ru_fdN, ru_iaN, ru_baN, ru_laN, ru_qaN, ru_pfN, ru_isN, ru_bsN, ru_jsN, ru_qsN, ru_set2, Nat.add_right_cancel_iff, if_true, if_false, ite_self, Int.reduceEq, and_self, Int.add_neg_cancel_right, Int.add_zero, Int.zero_add, x4, x5, ha, fin, ru_setE, bl_2, pf_2, pf_0, bl_nx, List.length_set, List.length_nil, List.length_cons, Nat.zero_le, Nat.reduceLT, and_self, ru_ctR]
end CTOR2
