/-! ===== the law's loop (printed by wip/gen/genc0.py) ===== -/
/-- a case's step, wherever the loop stands -/
def stpP (z : Bool) (pc : Nat) : Prop := ∀ (g : am_H) (C : tCl) (M : tMd) (xs : Nat → Int32) (L i cap : Nat), fuI g C M cap → gI g L xs → i + 6 ≤ L → L ≤ 3072 → stF z pc g C M i cap L xs
def swL : List Nat := [264, 337, 393, 461, 474, 487, 500, 513, 569, 637, 700, 775, 843, 899, 955, 1023, 1103, 1171, 1239, 1307, 1399, 1412, 1468, 1536, 1604, 1660, 1716, 1772, 1840, 1908, 1983, 2051, 2107, 2197, 2275, 2379, 2459, 2527, 2583, 2639, 2695, 2799, 2862, 2918, 3021, 3101, 3181, 3249, 3293, 3306, 3362, 3418]
theorem sw_k : ∀ k : Fin 64, am_sw 45 3373 0 50 #[219, 292, 348, 416, 429, 442, 455, 468, 524, 592, 655, 730, 798, 854, 910, 978, 1058, 1126, 1194, 1262, 1354, 1367, 1423, 1491, 1559, 1615, 1671, 1727, 1795, 1863, 1938, 2006, 2062, 2152, 2230, 2334, 2414, 2482, 2538, 2594, 2650, 2754, 2817, 2873, 2976, 3056, 3136, 3204, 3248, 3261, 3317] (wI ((k.val : Nat) : Int)) ∈ swL := by decide +kernel
theorem wI_a63 (a : Int32) : ∃ k : Fin 64, a &&& wI 63 = wI ((k.val : Nat) : Int) := by
  have h : a.toBitVec.toNat &&& 63 ≤ 63 := Nat.and_le_right
  refine ⟨⟨a.toBitVec.toNat &&& 63, by omega⟩, ?_⟩
  apply Int32.toBitVec_inj.mp
  rw [Int32.toBitVec_and]
  simp only [wI, Int32.toBitVec_ofInt]
  rw [BitVec.ofInt_natCast]
  apply BitVec.eq_of_toNat_eq
  rw [BitVec.toNat_and, BitVec.toNat_ofNat, Nat.mod_eq_of_lt (by omega)]
  rfl
theorem lp_ia {X : am_H} {L : Nat} {xs : Nat → Int32} (h : X.1 1 = some (.inl (10, L, .inl xs))) {i : Nat} (hi : i < L) (hL : L ≤ 3072) : am_ia X 1 (wI i) = some (xs i) := by
  have k := ru_ia10 (z := (i : Int)) h (by omega) (by omega) (by omega)
  rw [Int.toNat_natCast] at k
  exact k