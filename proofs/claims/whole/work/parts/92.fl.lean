/-! ===== floats: quotients of small whole numbers are numbers, and equal to themselves ===== -/
theorem fl_k32 : FP.Core.Fmt.tails FP.Core.b32 = 8388608 ∧ FP.Core.Fmt.exps FP.Core.b32 = 256 ∧ FP.Core.Fmt.qmin FP.Core.b32 = -149 ∧ FP.Core.Fmt.qmax FP.Core.b32 = 104 ∧ 2 ^ FP.Core.b32.p = 16777216 := by decide +kernel
theorem fl_k64 : FP.Core.Fmt.tails FP.Core.b64 = 4503599627370496 ∧ FP.Core.Fmt.exps FP.Core.b64 = 2048 ∧ FP.Core.Fmt.qmin FP.Core.b64 = -1074 ∧ FP.Core.Fmt.qmax FP.Core.b64 = 971 ∧ 2 ^ FP.Core.b64.p = 9007199254740992 := by decide +kernel
theorem fl_e32 {c : Nat} {q : Int} (hc : c < 16777216) (h1 : -149 ≤ q) (h2 : q ≤ 104) : FP.Core.encode FP.Core.b32 (.fin false c q) ≤ 2139095040 := by
  obtain ⟨k1, k2, k3, k4, k5⟩ := fl_k32
  unfold FP.Core.encode FP.Core.assemble
  simp only [k1, k2, k3, Bool.toNat_false]
  split <;> omega
theorem fl_e64 {c : Nat} {q : Int} (hc : c < 9007199254740992) (h1 : -1074 ≤ q) (h2 : q ≤ 971) : FP.Core.encode FP.Core.b64 (.fin false c q) ≤ 9218868437227405312 := by
  obtain ⟨k1, k2, k3, k4, k5⟩ := fl_k64
  unfold FP.Core.encode FP.Core.assemble
  simp only [k1, k2, k3, Bool.toNat_false]
  split <;> omega
theorem fl_i32 : FP.Core.encode FP.Core.b32 (.inf false) = 2139095040 := by decide +kernel
theorem fl_i64 : FP.Core.encode FP.Core.b64 (.inf false) = 9218868437227405312 := by decide +kernel
theorem fl_b32 {c : Nat} {q : Int} (hc : c < 16777216) (h1 : -149 ≤ q) : FP.Core.encode FP.Core.b32 (FP.Core.bound FP.Core.b32 false c q) ≤ 2139095040 := by
  obtain ⟨k1, k2, k3, k4, k5⟩ := fl_k32
  unfold FP.Core.bound
  rw [k4]
  split
  · exact fl_e32 hc h1 (by assumption)
  · rw [fl_i32]; exact Nat.le_refl _
theorem fl_b64 {c : Nat} {q : Int} (hc : c < 9007199254740992) (h1 : -1074 ≤ q) : FP.Core.encode FP.Core.b64 (FP.Core.bound FP.Core.b64 false c q) ≤ 9218868437227405312 := by
  obtain ⟨k1, k2, k3, k4, k5⟩ := fl_k64
  unfold FP.Core.bound
  rw [k4]
  split
  · exact fl_e64 hc h1 (by assumption)
  · rw [fl_i64]; exact Nat.le_refl _
theorem fl_r32 (num den : Nat) (e : Int) : FP.Core.encode FP.Core.b32 (FP.Core.roundRatio FP.Core.b32 false num den e) ≤ 2139095040 := by
  obtain ⟨k1, k2, k3, k4, k5⟩ := fl_k32
  unfold FP.Core.roundRatio
  split
  · rw [k3]; exact fl_e32 (by omega) (by omega) (by omega)
  · unfold FP.Core.roundAt FP.Core.settle
    have hq : -149 ≤ FP.Core.quantum FP.Core.b32 num den e := by unfold FP.Core.quantum; rw [k3]; omega
    generalize FP.Core.quantum FP.Core.b32 num den e = q at *
    rw [k5, k1]
    split
    · exact fl_b32 (by assumption) hq
    · exact fl_b32 (by omega) (by omega)
theorem fl_r64 (num den : Nat) (e : Int) : FP.Core.encode FP.Core.b64 (FP.Core.roundRatio FP.Core.b64 false num den e) ≤ 9218868437227405312 := by
  obtain ⟨k1, k2, k3, k4, k5⟩ := fl_k64
  unfold FP.Core.roundRatio
  split
  · rw [k3]; exact fl_e64 (by omega) (by omega) (by omega)
  · unfold FP.Core.roundAt FP.Core.settle
    have hq : -1074 ≤ FP.Core.quantum FP.Core.b64 num den e := by unfold FP.Core.quantum; rw [k3]; omega
    generalize FP.Core.quantum FP.Core.b64 num den e = q at *
    rw [k5, k1]
    split
    · exact fl_b64 (by assumption) hq
    · exact fl_b64 (by omega) (by omega)
/-- small whole numbers as floats -/
def flI (a : Nat) : Bool := match FP.Core.decode FP.Core.b32 (FP.i2f (wI a)).toNat with
  | .fin s c _ => !s && (decide (c = 0) == decide (a = 0))
  | _ => false
theorem fl_i (a : Nat) (ha : a ≤ 1000) : ∃ c q, FP.Core.decode FP.Core.b32 (FP.i2f (wI a)).toNat = .fin false c q ∧ (c = 0 ↔ a = 0) := by
  have key : ∀ a : Fin 1001, flI a.val = true := by decide +kernel
  have k := key ⟨a, by omega⟩
  unfold flI at k
  split at k
  · rename_i s c q e
    simp only [Bool.and_eq_true, Bool.not_eq_true', beq_iff_eq, decide_eq_decide] at k
    obtain ⟨rfl, k2⟩ := k
    exact ⟨c, q, e, k2⟩
  · cases k
/-- the quotient -/
def flQ (a b : Nat) : UInt32 := FP.fdiv (FP.i2f (wI a)) (FP.i2f (wI b))
theorem flQ_n {a b : Nat} (ha : a ≤ 1000) (hb : 1 ≤ b) (hb2 : b ≤ 1000) : (flQ a b).toNat ≤ 2139095040 := by
  obtain ⟨c, q, e1, e2⟩ := fl_i a ha
  obtain ⟨d, r, e3, e4⟩ := fl_i b hb2
  have hd : ¬ d = 0 := by omega
  have e5 : flQ a b = UInt32.ofNat (FP.Core.encode FP.Core.b32 (FP.Core.quotient FP.Core.b32 (FP.Core.decode FP.Core.b32 (FP.i2f (wI a)).toNat) (FP.Core.decode FP.Core.b32 (FP.i2f (wI b)).toNat))) := rfl
  rw [e5, e1, e3]
  have e6 : FP.Core.quotient FP.Core.b32 (.fin false c q) (.fin false d r) = FP.Core.roundRatio FP.Core.b32 false c d (q - r) := by
    show (if d = 0 then _ else FP.Core.roundRatio FP.Core.b32 (false != false) c d (q - r)) = _
    rw [if_neg hd]; rfl
  rw [e6]
  have := fl_r32 c d (q - r)
  rw [UInt32.toNat_ofNat']
  exact Nat.le_trans (Nat.mod_le _ _) this
theorem fl_dec32 {n : Nat} (hn : n ≤ 2139095040) : FP.Core.decode FP.Core.b32 n = .inf false ∨ ∃ c q, FP.Core.decode FP.Core.b32 n = .fin false c q := by
  obtain ⟨k1, k2, k3, k4, k5⟩ := fl_k32
  have hs : FP.Core.fieldS FP.Core.b32 n = false := by
    unfold FP.Core.fieldS
    rw [k1, k2]
    have : n / 8388608 / 256 = 0 := by omega
    rw [this]; rfl
  unfold FP.Core.decode
  rw [hs]
  unfold FP.Core.fieldE FP.Core.fieldT
  rw [k1, k2]
  split
  · rw [if_pos (by omega)]; exact Or.inl rfl
  · split
    · exact Or.inr ⟨_, _, rfl⟩
    · exact Or.inr ⟨_, _, rfl⟩
theorem fl_dec64 {n : Nat} (hn : n ≤ 9218868437227405312) : FP.Core.decode FP.Core.b64 n = .inf false ∨ ∃ c q, FP.Core.decode FP.Core.b64 n = .fin false c q := by
  obtain ⟨k1, k2, k3, k4, k5⟩ := fl_k64
  have hs : FP.Core.fieldS FP.Core.b64 n = false := by
    unfold FP.Core.fieldS
    rw [k1, k2]
    have : n / 4503599627370496 / 2048 = 0 := by omega
    rw [this]; rfl
  unfold FP.Core.decode
  rw [hs]
  unfold FP.Core.fieldE FP.Core.fieldT
  rw [k1, k2]
  split
  · rw [if_pos (by omega)]; exact Or.inl rfl
  · split
    · exact Or.inr ⟨_, _, rfl⟩
    · exact Or.inr ⟨_, _, rfl⟩
theorem fl_d_n {x : UInt32} (hx : x.toNat ≤ 2139095040) : (FP.f2d x).toNat ≤ 9218868437227405312 := by
  have hd := fl_dec32 hx
  have hn : FP.Core.fIsNaN x = false := by
    unfold FP.Core.fIsNaN FP.Core.isNaN
    apply decide_eq_false
    rcases hd with h | ⟨c, q, h⟩ <;> rw [h] <;> exact fun h9 => by cases h9
  have e5 : FP.f2d x = UInt64.ofNat (FP.Core.encode FP.Core.b64 (FP.Core.round FP.Core.b64 (FP.Core.decode FP.Core.b32 x.toNat))) := by
    unfold FP.f2d
    rw [hn]; rfl
  rw [e5, UInt64.toNat_ofNat']
  refine Nat.le_trans (Nat.mod_le _ _) ?_
  rcases hd with h | ⟨c, q, h⟩
  · rw [h]
    show FP.Core.encode FP.Core.b64 (.inf false) ≤ _
    rw [fl_i64]; exact Nat.le_refl _
  · rw [h]
    exact fl_r64 c 1 q
theorem fl_and32 {x : UInt32} (hx : x.toNat ≤ 2139095040) : x &&& 0x7fffffff ≤ 0x7f800000 := by
  rw [UInt32.le_iff_toNat_le, UInt32.toNat_and]
  exact Nat.le_trans Nat.and_le_left hx
theorem fl_and64 {x : UInt64} (hx : x.toNat ≤ 9218868437227405312) : x &&& 0x7fffffffffffffff ≤ 0x7ff0000000000000 := by
  rw [UInt64.le_iff_toNat_le, UInt64.toNat_and]
  exact Nat.le_trans Nat.and_le_left hx
theorem fl_cmp {x : UInt64} (hx : x.toNat ≤ 9218868437227405312) (o : CmpOp) : Op.cmpValue (FP.dcmp x x) o = wI 0 := by
  have e : FP.dcmp x x = FP.Core.order (FP.Core.decode FP.Core.b64 x.toNat) (FP.Core.decode FP.Core.b64 x.toNat) := rfl
  have e2 : FP.dcmp x x = some .eq := by
    rw [e]
    rcases fl_dec64 hx with h | ⟨c, q, h⟩
    · rw [h]; decide
    · rw [h]
      show some (compare (FP.Core.signed false (FP.Core.inUnits c q (min q q))) (FP.Core.signed false (FP.Core.inUnits c q (min q q)))) = some .eq
      simp [compare, compareOfLessAndEq]
  rw [e2]
  cases o <;> decide +kernel
