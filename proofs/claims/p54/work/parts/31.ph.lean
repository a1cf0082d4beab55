/-! ===== a photo: its numbers (0 width, 1 height, 2 left, 3 top, 4 right, 5 bottom, 6 flipped, 7 people), its rows (0 x, 1 y, 2 away, 3 name) ===== -/
abbrev tPh : Type := (Nat → Int) × (Nat → Nat → Int)
def phAt (h : am_H) (a : Nat) (q : tPh) : Prop :=
  h.1 a = some (.inr (6, [.int (wI (q.1 0)), .int (wI (q.1 1)), .int (wI (q.1 2)), .int (wI (q.1 3)), .int (wI (q.1 4)), .int (wI (q.1 5)), .int (wI (q.1 6)), .int (wI (q.1 7)), .ref (a + 1), .ref (a + 2), .ref (a + 3), .ref (a + 4)])) ∧
  h.1 (a + 1) = some (.inl (0, 12, .inl (fun i => wI (q.2 0 i)))) ∧ h.1 (a + 2) = some (.inl (0, 12, .inl (fun i => wI (q.2 1 i)))) ∧ h.1 (a + 3) = some (.inl (2, 12, .inl (fun i => wI (q.2 2 i)))) ∧ h.1 (a + 4) = some (.inl (0, 12, .inl (fun i => wI (q.2 3 i))))
def phR (q : tPh) : Prop := (∀ k, 0 ≤ q.1 k ∧ q.1 k ≤ 999) ∧ q.1 6 ≤ 1 ∧ q.1 7 ≤ 12 ∧ (∀ c i, -1 ≤ q.2 c i ∧ q.2 c i ≤ 999) ∧ (∀ i, 0 ≤ q.2 2 i ∧ q.2 2 i ≤ 1) ∧ ∀ i, q.2 3 i ≤ 19
theorem phR_s {q : tPh} (hr : phR q) : (0 ≤ q.1 0 ∧ q.1 0 ≤ 999) ∧ (0 ≤ q.1 1 ∧ q.1 1 ≤ 999) ∧ (0 ≤ q.1 2 ∧ q.1 2 ≤ 999) ∧ (0 ≤ q.1 3 ∧ q.1 3 ≤ 999) ∧ (0 ≤ q.1 4 ∧ q.1 4 ≤ 999) ∧ (0 ≤ q.1 5 ∧ q.1 5 ≤ 999) ∧ (0 ≤ q.1 6 ∧ q.1 6 ≤ 1) ∧ (0 ≤ q.1 7 ∧ q.1 7 ≤ 12) :=
  ⟨hr.1 0, hr.1 1, hr.1 2, hr.1 3, hr.1 4, hr.1 5, ⟨(hr.1 6).1, hr.2.1⟩, ⟨(hr.1 7).1, hr.2.2.1⟩⟩
theorem phR_i {q : tPh} (hr : phR q) (i : Nat) : (-1 ≤ q.2 0 i ∧ q.2 0 i ≤ 999) ∧ (-1 ≤ q.2 1 i ∧ q.2 1 i ≤ 999) ∧ (0 ≤ q.2 2 i ∧ q.2 2 i ≤ 1) ∧ (-1 ≤ q.2 3 i ∧ q.2 3 i ≤ 19) :=
  ⟨hr.2.2.2.1 0 i, hr.2.2.2.1 1 i, hr.2.2.2.2.1 i, ⟨(hr.2.2.2.1 3 i).1, hr.2.2.2.2.2 i⟩⟩
theorem phF {h : am_H} {a : Nat} {q : tPh} (hp : phAt h a q) : am_fd h a 6 0 = some (.int (wI (q.1 0))) ∧ am_fd h a 6 1 = some (.int (wI (q.1 1))) ∧ am_fd h a 6 2 = some (.int (wI (q.1 2))) ∧ am_fd h a 6 3 = some (.int (wI (q.1 3))) ∧ am_fd h a 6 4 = some (.int (wI (q.1 4))) ∧ am_fd h a 6 5 = some (.int (wI (q.1 5))) ∧ am_fd h a 6 6 = some (.int (wI (q.1 6))) ∧ am_fd h a 6 7 = some (.int (wI (q.1 7))) ∧ am_fd h a 6 8 = some (.ref (a + 1)) ∧ am_fd h a 6 9 = some (.ref (a + 2)) ∧ am_fd h a 6 10 = some (.ref (a + 3)) ∧ am_fd h a 6 11 = some (.ref (a + 4)) :=
  ⟨ru_fd hp.1 rfl, ru_fd hp.1 rfl, ru_fd hp.1 rfl, ru_fd hp.1 rfl, ru_fd hp.1 rfl, ru_fd hp.1 rfl, ru_fd hp.1 rfl, ru_fd hp.1 rfl, ru_fd hp.1 rfl, ru_fd hp.1 rfl, ru_fd hp.1 rfl, ru_fd hp.1 rfl⟩
theorem phA0 {h : am_H} {a : Nat} {q : tPh} (hp : phAt h a q) {z : Int} (h1 : 0 ≤ z) (h2 : z < 12) : am_ia h (a + 1) (wI z) = some (wI (q.2 0 z.toNat)) := ru_ia hp.2.1 h1 (by omega) (by omega)
theorem phA1 {h : am_H} {a : Nat} {q : tPh} (hp : phAt h a q) {z : Int} (h1 : 0 ≤ z) (h2 : z < 12) : am_ia h (a + 2) (wI z) = some (wI (q.2 1 z.toNat)) := ru_ia hp.2.2.1 h1 (by omega) (by omega)
theorem phA2 {h : am_H} {a : Nat} {q : tPh} (hp : phAt h a q) {z : Int} (h1 : 0 ≤ z) (h2 : z < 12) : am_ba h (a + 3) (wI z) = some (wI (q.2 2 z.toNat)) := ru_ba hp.2.2.2.1 (Or.inr (Or.inl rfl)) h1 (by omega) (by omega)
theorem phA3 {h : am_H} {a : Nat} {q : tPh} (hp : phAt h a q) {z : Int} (h1 : 0 ≤ z) (h2 : z < 12) : am_ia h (a + 4) (wI z) = some (wI (q.2 3 z.toNat)) := ru_ia hp.2.2.2.2 h1 (by omega) (by omega)
/-- the shown position, and who is in the picture -/
def shX (q : tPh) (i : Nat) : Int := if q.1 6 = 0 then q.2 0 i - q.1 2 else q.1 4 - q.2 0 i
def shY (q : tPh) (i : Nat) : Int := q.2 1 i - q.1 3
def shw (q : tPh) (i : Nat) : Bool := decide (q.2 2 i = 0 ∧ q.1 2 ≤ q.2 0 i ∧ q.2 0 i ≤ q.1 4 ∧ q.1 3 ≤ q.2 1 i ∧ q.2 1 i ≤ q.1 5)
section PH
variable {z : Bool} {h : am_H} {a : Nat} {q : tPh} {i : Int}
theorem m83 (hp : phAt h a q) (hr : phR q) (h1 : 0 ≤ i) (h2 : i < 12) : ru_ev z 83 [.ref a, .int (wI i)] h = some (.inl (some (.int (wI (shX q i.toNat)))), h) := by
  have s := phR_s hr
  have s2 := phR_i hr i.toNat
  simp (disch := omega) only [en83, e83_0, e83_1, e83_4, e83_7, e83_8, e83_11, e83_12, e83_15, e83_16, e83_17, e83_18, e83_21, e83_22, e83_25, e83_26, e83_27, e83_28, e83_31, e83_32, ↓reduceIte, Bool.false_eq_true, not_false_eq_true, not_true_eq_false, Nat.reduceLeDiff, Nat.reduceAdd, Nat.reduceEqDiff, Int.reduceToNat, Int.toNat_natCast, iB0, iB1, ru_klI, ru_klR, ru_klF, ru_klJ, ru_kl0, ru_cs0, ru_csI, ru_csR, ru_csF, ru_csJ, wI_add, wI_sub, wI_mul, wI_lt, wI_le, wI_inj, ru_fdE, ru_fdN, ru_iaN, ru_baN, ru_laN, ru_qaN, ru_pfN, ru_isN, ru_bsN, ru_jsN, ru_qsN, ru_set2, Nat.add_right_cancel_iff, if_true, if_false, ite_self, hp.1, phF hp, phA0 hp]
  unfold shX
  split <;> rfl
theorem m84 (hp : phAt h a q) (h1 : 0 ≤ i) (h2 : i < 12) : ru_ev z 84 [.ref a, .int (wI i)] h = some (.inl (some (.int (wI (shY q i.toNat)))), h) := by
  simp (disch := omega) only [en84, e84_0, e84_1, e84_4, e84_5, e84_6, e84_7, e84_10, e84_11, ↓reduceIte, Bool.false_eq_true, not_false_eq_true, not_true_eq_false, Nat.reduceLeDiff, Nat.reduceAdd, Nat.reduceEqDiff, Int.reduceToNat, Int.toNat_natCast, iB0, iB1, ru_klI, ru_klR, ru_klF, ru_klJ, ru_kl0, ru_cs0, ru_csI, ru_csR, ru_csF, ru_csJ, wI_add, wI_sub, wI_mul, wI_lt, wI_le, wI_inj, ru_fdE, ru_fdN, ru_iaN, ru_baN, ru_laN, ru_qaN, ru_pfN, ru_isN, ru_bsN, ru_jsN, ru_qsN, ru_set2, Nat.add_right_cancel_iff, if_true, if_false, ite_self, hp.1, phF hp, phA1 hp]
  rfl
theorem m82 (hp : phAt h a q) (hr : phR q) (h1 : 0 ≤ i) (h2 : i < 12) : ru_ev z 82 [.ref a, .int (wI i)] h = some (.inl (some (.int (wI (if shw q i.toNat = true then 1 else 0)))), h) := by
  have s := phR_s hr
  have s2 := phR_i hr i.toNat
  simp (disch := omega) only [en82, e82_0, e82_1, e82_4, e82_5, e82_6, e82_9, e82_10, e82_13, e82_14, e82_15, e82_16, e82_19, e82_22, e82_23, e82_26, e82_27, e82_28, e82_29, e82_32, e82_35, e82_36, e82_39, e82_40, e82_41, e82_42, e82_45, e82_48, e82_49, e82_52, e82_53, e82_54, e82_55, e82_58, e82_61, e82_62, e82_65, e82_66, ↓reduceIte, Bool.false_eq_true, not_false_eq_true, not_true_eq_false, Nat.reduceLeDiff, Nat.reduceAdd, Nat.reduceEqDiff, Int.reduceToNat, Int.toNat_natCast, iB0, iB1, ru_klI, ru_klR, ru_klF, ru_klJ, ru_kl0, ru_cs0, ru_csI, ru_csR, ru_csF, ru_csJ, wI_add, wI_sub, wI_mul, wI_lt, wI_le, wI_inj, ru_fdE, ru_fdN, ru_iaN, ru_baN, ru_laN, ru_qaN, ru_pfN, ru_isN, ru_bsN, ru_jsN, ru_qsN, ru_set2, Nat.add_right_cancel_iff, if_true, if_false, ite_self, hp.1, phF hp, phA0 hp, phA1 hp, phA2 hp, wI_and1]
  unfold shw
  simp only [decide_eq_true_eq]
  repeat' split
  all_goals first | rfl | (exfalso; omega)
end PH
