/-! ===== the StringBuilder of the class ===== -/
/-- it holds the text l, its row has room for cap -/
def sbS (H : am_H) (C : tCl) (l : List Nat) (cap : Nat) : Prop := C.1 1258 1 = 0 ∧ C.1 1258 3 = (l.length : Int) ∧ l.length ≤ cap ∧ cap ≤ 1002 ∧ (C.2.2.2 1258 0 = 1259 ∨ 1334 ≤ C.2.2.2 1258 0) ∧ C.2.2.2 1258 0 < H.2.1 ∧ 1334 ≤ H.2.1 ∧ ∃ f : Nat → Int, H.1 (C.2.2.2 1258 0) = some (.inl (1, cap, .inl (fun i => wI (f i)))) ∧ ∀ i, i < l.length → f i = ((l.getD i 0 : Nat) : Int)
/-- what an operation on it leaves -/
def sbOn (H H' : am_H) (C C' : tCl) (cap cap' : Nat) : Prop := (∀ q, q < H.2.1 → q ≠ C.2.2.2 1258 0 → H'.1 q = H.1 q) ∧ H.2.1 ≤ H'.2.1 ∧ H'.2.1 + cap ≤ H.2.1 + cap' ∧ H'.2.2 + 2 * cap ≤ H.2.2 + 2 * cap' ∧ (C'.2.2.2 1258 0 = C.2.2.2 1258 0 ∨ H.2.1 ≤ C'.2.2.2 1258 0) ∧ (∀ q, q ≠ 1258 → C'.1 q = C.1 q) ∧ C'.2.1 = C.2.1 ∧ C'.2.2.1 = C.2.2.1 ∧ ∀ q, q ≠ 1258 → C'.2.2.2 q = C.2.2.2 q
theorem sbOn_refl (H : am_H) (C : tCl) (cap : Nat) : sbOn H H C C cap cap := ⟨fun _ _ _ => rfl, Nat.le_refl _, Nat.le_refl _, Nat.le_refl _, Or.inl rfl, fun _ _ => rfl, rfl, rfl, fun _ _ => rfl⟩
theorem sbOn_tr {H H1 H2 : am_H} {C C1 C2 : tCl} {c c1 c2 : Nat} (h : sbOn H H1 C C1 c c1) (k : sbOn H1 H2 C1 C2 c1 c2) : sbOn H H2 C C2 c c2 := by
  obtain ⟨a1, a2, a3, a4, a5, a6, a7, a8, a9⟩ := h
  obtain ⟨b1, b2, b3, b4, b5, b6, b7, b8, b9⟩ := k
  exact ⟨fun q h1 h2 => by rw [b1 q (by omega) (by omega), a1 q h1 h2], by omega, by omega, by omega, by omega, fun q hq => by rw [b6 q hq, a6 q hq], b7.trans a7, b8.trans a8, fun q hq => by rw [b9 q hq, a9 q hq]⟩
theorem cl_new {h : am_H} {C : tCl} {e : am_C} {n : Nat} (hh : 1334 ≤ h.2.1) : am_new (clPut h C) e n = clPut (am_new h e n) C := by
  refine Prod.ext (funext fun q => ?_) rfl
  show (if q = h.2.1 then some e else (if 1000 ≤ q ∧ q ≤ 1314 ∧ q ≠ 1259 then clCell C q else h.1 q)) = (if 1000 ≤ q ∧ q ≤ 1314 ∧ q ≠ 1259 then clCell C q else (if q = h.2.1 then some e else h.1 q))
  by_cases c : q = h.2.1
  · rw [if_pos c, if_neg (by omega), if_pos c]
  · rw [if_neg c, if_neg c]
section SB
variable {z : Bool} {H : am_H} {C : tCl} {l : List Nat} {cap : Nat}
theorem sb_e : (clPut H C).1 1258 = some (.inr (11, clL11 C 1258)) := clP11 (by decide +kernel) (by decide)
theorem sb_al (h : sbS H C l cap) : am_al (clPut H C) (C.2.2.2 1258 0) = some (wI cap) := by
  obtain ⟨a1, a2, a3, a4, a5, a6, a7, f, a8, a9⟩ := h
  exact ru_al (by rw [clPut_o (by omega)]; exact a8) (by decide)
theorem k305 {a b c : Nat} (ha : a ≤ 1002) (hb : b ≤ 1002) (hc : 1 ≤ c) (hc2 : c ≤ 1004) {h : am_H} : ru_ev z 305 [.int (wI a), .int (wI b), .int (wI c)] h = some (.inl (some (.int (wI ((a + (if c ≤ b then b else c) : Nat) : Int)))), h) := by
  have m := m271 (z := z) (h := h) (a := (b : Int)) (b := (c : Int)) (by omega) (by omega)
  by_cases e : c ≤ b
  · rw [if_pos (by omega)] at m
    rw [if_pos e]
    have d1 : ((a : Int) + (b : Int) ≤ 0) = False := eq_false (by omega)
    have d2 : (2147483639 < (a : Int) + (b : Int)) = False := eq_false (by omega)
    simp (disch := omega) only [en305, e305_0, e305_1, e305_2, e305_3, e305_6, e305_7, e305_8, e305_9, e305_10, e305_13, e305_14, e305_16, e305_19, e305_20, ↓reduceIte, Bool.false_eq_true, not_false_eq_true, not_true_eq_false, Nat.reduceLeDiff, Nat.reduceAdd, Nat.reduceEqDiff, Int.reduceToNat, Int.toNat_natCast, iB0, iB1, ru_klI, ru_klR, ru_klF, ru_klJ, ru_kl0, ru_cs0, ru_csI, ru_csR, ru_csF, ru_csJ, wI_add, wI_sub, wI_mul, wI_lt, wI_le, wI_inj, ru_fdE, ru_fdN, ru_iaN, ru_baN, ru_laN, ru_qaN, ru_pfN, ru_isN, ru_bsN, ru_jsN, ru_qsN, ru_set2, Nat.add_right_cancel_iff, if_true, if_false, ite_self, Int.reduceEq, and_self, Int.add_neg_cancel_right, Int.add_zero, Int.zero_add, m, d1, d2, Int.natCast_add]
  · rw [if_neg (by omega)] at m
    rw [if_neg e]
    have d1 : ((a : Int) + (c : Int) ≤ 0) = False := eq_false (by omega)
    have d2 : (2147483639 < (a : Int) + (c : Int)) = False := eq_false (by omega)
    simp (disch := omega) only [en305, e305_0, e305_1, e305_2, e305_3, e305_6, e305_7, e305_8, e305_9, e305_10, e305_13, e305_14, e305_16, e305_19, e305_20, ↓reduceIte, Bool.false_eq_true, not_false_eq_true, not_true_eq_false, Nat.reduceLeDiff, Nat.reduceAdd, Nat.reduceEqDiff, Int.reduceToNat, Int.toNat_natCast, iB0, iB1, ru_klI, ru_klR, ru_klF, ru_klJ, ru_kl0, ru_cs0, ru_csI, ru_csR, ru_csF, ru_csJ, wI_add, wI_sub, wI_mul, wI_lt, wI_le, wI_inj, ru_fdE, ru_fdN, ru_iaN, ru_baN, ru_laN, ru_qaN, ru_pfN, ru_isN, ru_bsN, ru_jsN, ru_qsN, ru_set2, Nat.add_right_cancel_iff, if_true, if_false, ite_self, Int.reduceEq, and_self, Int.add_neg_cancel_right, Int.add_zero, Int.zero_add, m, d1, d2, Int.natCast_add]
theorem wI_sh0 {a : Nat} (ha : a ≤ 5000) : wI a >>> (wI 0 &&& 31) = wI a ∧ wI a <<< (wI 0 &&& 31) = wI a ∧ wI 2 <<< (wI 0 &&& 31) = wI 2 := by
  have e0 : (wI 0 &&& 31) = 0 := by decide +kernel
  rw [e0]
  refine ⟨?_, ?_, by decide +kernel⟩
  · apply Int32.toBitVec_inj.mp
    rw [Int32.toBitVec_shiftRight]
    have e1 : (0 : Int32).toBitVec.smod 32 = 0#32 := by decide +kernel
    rw [e1]
    simp
  · apply Int32.toBitVec_inj.mp
    rw [Int32.toBitVec_shiftLeft]
    have e1 : (0 : Int32).toBitVec.smod 32 = 0#32 := by decide +kernel
    rw [e1]
    simp
def nwC (cap m : Nat) : Nat := cap + (if cap + 2 ≤ m - cap then m - cap else cap + 2)
theorem k304 (h : sbS H C l cap) {m : Nat} (hm : m ≤ 500) (hc : cap < m) : ru_ev z 304 [.ref 1258, .int (wI m)] (clPut H C) = some (.inl (some (.int (wI (nwC cap m : Nat)))), clPut H C) := by
  have al := sb_al h
  obtain ⟨a1, a2, a3, a4, a5, a6, a7, f, a8, a9⟩ := h
  have g1 := cl_g11_1 (h := H) (C := C)
  rw [a1] at g1
  have s := wI_sh0 (a := m) (by omega)
  have k := k305 (z := z) (a := cap) (b := m - cap) (c := cap + 2) (by omega) (by omega) (by omega) (by omega) (h := clPut H C)
  have e2 : nwC cap m = cap + (if cap + 2 ≤ m - cap then m - cap else cap + 2) := rfl
  rw [← e2, show (((m - cap : Nat)) : Int) = (m : Int) - (cap : Int) by omega, show ((cap + 2 : Nat) : Int) = (cap : Int) + 2 by omega] at k
  have hn : nwC cap m ≤ 1002 := by unfold nwC; split <;> omega
  have s2 := wI_sh0 (a := nwC cap m) (by omega)
  have d1 : (((nwC cap m : Nat) : Int) = 2147483647) = False := eq_false (by omega)
  simp (disch := omega) only [en304, e304_0, e304_1, e304_4, e304_5, e304_6, e304_7, e304_8, e304_11, e304_12, e304_13, e304_14, e304_15, e304_16, e304_18, e304_19, e304_21, e304_22, e304_23, e304_24, e304_27, e304_28, e304_29, e304_32, e304_34, e304_36, e304_38, e304_51, e304_53, e304_54, e304_57, e304_58, ↓reduceIte, Bool.false_eq_true, not_false_eq_true, not_true_eq_false, Nat.reduceLeDiff, Nat.reduceAdd, Nat.reduceEqDiff, Int.reduceToNat, Int.toNat_natCast, iB0, iB1, ru_klI, ru_klR, ru_klF, ru_klJ, ru_kl0, ru_cs0, ru_csI, ru_csR, ru_csF, ru_csJ, wI_add, wI_sub, wI_mul, wI_lt, wI_le, wI_inj, ru_fdE, ru_fdN, ru_iaN, ru_baN, ru_laN, ru_qaN, ru_pfN, ru_isN, ru_bsN, ru_jsN, ru_qsN, ru_set2, Nat.add_right_cancel_iff, if_true, if_false, ite_self, Int.reduceEq, and_self, Int.add_neg_cancel_right, Int.add_zero, Int.zero_add, sb_e, cl_g11_0, g1, al, s.1, s.2.1, s.2.2, s2.1, k, d1, not_false_iff]
theorem k306 (h : sbS H C l cap) {m : Nat} (hm : m ≤ 1002) (hc : cap < m) : ∃ (H' : am_H) (f' : Nat → Int), ru_ev z 306 [.ref (C.2.2.2 1258 0), .int (wI m)] (clPut H C) = some (.inl (some (.ref H.2.1)), clPut H' C) ∧ H'.1 H.2.1 = some (.inl (1, m, .inl (fun i => wI (f' i)))) ∧ (∀ i, i < l.length → f' i = ((l.getD i 0 : Nat) : Int)) ∧ (∀ q, q < H.2.1 → H'.1 q = H.1 q) ∧ H'.2.1 = H.2.1 + 1 ∧ H'.2.2 = H.2.2 + m := by
  have al := sb_al h
  obtain ⟨a1, a2, a3, a4, a5, a6, a7, f, a8, a9⟩ := h
  have e0 : am_na (clPut H C) 1 (wI m) = some (clPut (am_new H (.inl (1, m, .inl (fun _ => 0))) m) C) := by
    unfold am_na
    have e1 : (wI m).toNatClampNeg = m := by rw [wI_clamp (by omega) (by omega)]; exact Int.toNat_natCast m
    rw [e1, if_pos ⟨by rw [wI_0, wI_lt (by omega) (by omega) (by omega) (by omega)]; omega, by omega⟩, if_pos (by decide), cl_new a7]
  have e2 : (clPut (am_new H (.inl (1, m, .inl (fun _ => 0))) m) C).1 (C.2.2.2 1258 0) = some (.inl (1, cap, .inl (fun i => wI (f i)))) := by
    rw [clPut_o (by omega)]
    show (if C.2.2.2 1258 0 = H.2.1 then _ else H.1 (C.2.2.2 1258 0)) = _
    rw [if_neg (by omega), a8]
  have e3 : (clPut (am_new H (.inl (1, m, .inl (fun _ => 0))) m) C).1 H.2.1 = some (.inl (1, m, .inl (fun _ => 0))) := by
    rw [clPut_o (by omega)]
    show (if H.2.1 = H.2.1 then _ else _) = _
    rw [if_pos rfl]
  have al2 : am_al (clPut (am_new H (.inl (1, m, .inl (fun _ => 0))) m) C) (C.2.2.2 1258 0) = some (wI cap) := ru_al e2 (by decide)
  have e4 : am_ac (clPut (am_new H (.inl (1, m, .inl (fun _ => 0))) m) C) (C.2.2.2 1258 0) (wI 0) H.2.1 (wI 0) (wI cap) = some (clPut (am_set (am_new H (.inl (1, m, .inl (fun _ => 0))) m) H.2.1 (.inl (1, m, .inl (va_cpy (fun i => wI (f i)) (fun _ => 0) 0 0 cap)))) C) := by
    unfold am_ac
    rw [e2, e3]
    dsimp only
    have t0 : (wI 0).toNatClampNeg = 0 := by decide +kernel
    have t1 : (wI cap).toNatClampNeg = cap := by rw [wI_clamp (by omega) (by omega)]; exact Int.toNat_natCast cap
    have l0 : ¬ wI 0 < 0 := by decide +kernel
    have l1 : ¬ wI cap < 0 := by rw [wI_0, wI_lt (by omega) (by omega) (by omega) (by omega)]; omega
    rw [t0, t1, if_pos ⟨Or.inl rfl, rfl, l0, l0, l1, by omega, by omega, by omega⟩, cl_seto (by omega)]
  have mn := m264 (z := z) (h := clPut (am_new H (.inl (1, m, .inl (fun _ => 0))) m) C) (a := (cap : Int)) (b := (m : Int)) (by omega) (by omega)
  rw [if_pos (by omega)] at mn
  have d1 : ((m : Int) = (cap : Int)) = False := eq_false (by omega)
  have e5 : (clPut H C).2.1 = H.2.1 := rfl
  refine ⟨am_set (am_new H (.inl (1, m, .inl (fun _ => 0))) m) H.2.1 (.inl (1, m, .inl (va_cpy (fun i => wI (f i)) (fun _ => 0) 0 0 cap))), fun i => if i < cap then f i else 0, ?_, ?_, fun i hi => by dsimp only; rw [if_pos (by omega), a9 i hi], fun q hq => ?_, rfl, rfl⟩
  · simp (disch := omega) only [en306, e306_0, e306_1, e306_2, e306_3, e306_14, e306_15, e306_17, e306_18, e306_19, e306_20, e306_21, e306_22, e306_23, e306_24, e306_25, e306_28, e306_31, e306_32, ↓reduceIte, Bool.false_eq_true, not_false_eq_true, not_true_eq_false, Nat.reduceLeDiff, Nat.reduceAdd, Nat.reduceEqDiff, Int.reduceToNat, Int.toNat_natCast, iB0, iB1, ru_klI, ru_klR, ru_klF, ru_klJ, ru_kl0, ru_cs0, ru_csI, ru_csR, ru_csF, ru_csJ, wI_add, wI_sub, wI_mul, wI_lt, wI_le, wI_inj, ru_fdE, ru_fdN, ru_iaN, ru_baN, ru_laN, ru_qaN, ru_pfN, ru_isN, ru_bsN, ru_jsN, ru_qsN, ru_set2, Nat.add_right_cancel_iff, if_true, if_false, ite_self, Int.reduceEq, and_self, Int.add_neg_cancel_right, Int.add_zero, Int.zero_add, al, e0, al2, mn, e4, d1, not_false_iff, e5]
  · rw [ru_setE]
    have e6 : va_cpy (fun i => wI (f i)) (fun _ => 0) 0 0 cap = fun i => wI (if i < cap then f i else 0) := by
      funext i
      unfold va_cpy
      by_cases c : i < cap
      · rw [if_pos c]; simp [c]
      · rw [if_neg c]; simp [c, wI_0]
    rw [e6]
  · rw [ru_setN (by omega)]
    show (if q = H.2.1 then _ else H.1 q) = _
    rw [if_neg (by omega)]
end SB
