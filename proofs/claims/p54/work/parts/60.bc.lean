/-! ===== the count of bits ===== -/
theorem bc_and {a c m n : Nat} (ha : a < 256) (hm : m < 256) : (a + 256 * c) &&& (m + 256 * n) = (a &&& m) + 256 * (c &&& n) := by
  have h1 : a &&& m < 2 ^ 8 := Nat.and_lt_two_pow a hm
  apply Nat.eq_of_testBit_eq
  intro i
  rw [Nat.add_comm a, Nat.add_comm m, Nat.add_comm (a &&& m), show 256 = 2 ^ 8 from rfl, Nat.testBit_and, Nat.testBit_two_pow_mul_add _ (by omega), Nat.testBit_two_pow_mul_add _ (by omega), Nat.testBit_two_pow_mul_add _ h1]
  split
  · rw [Nat.testBit_and]
  · rw [Nat.testBit_and]
def bc1 (m x : Nat) : Nat := x - ((x / 2) &&& m)
def bc2 (m x : Nat) : Nat := (x &&& m) + ((x / 4) &&& m)
def bc3 (m x : Nat) : Nat := (x + x / 16) &&& m
theorem bc1_k : ∀ b, b < 256 → ∀ r, r < 2 → ((b / 2 + 128 * r) &&& 0x55 = (b / 2) &&& 0x55 ∧ (b / 2) &&& 0x55 ≤ b) := by decide +kernel
theorem bc2_k : ∀ b, b < 256 → ∀ r, r < 4 → (b / 4 + 64 * r) &&& 0x33 = (b / 4) &&& 0x33 := by decide +kernel
theorem bc3_k : ∀ b, b < 69 → ∀ r, r < 5 → (b + b / 16 + 16 * r) &&& 0x0f = (b + b / 16) &&& 0x0f := by decide +kernel
theorem bc_1 {b c n : Nat} (hb : b < 256) : bc1 (0x55 + 256 * n) (b + 256 * c) = bc1 0x55 b + 256 * bc1 n c := by
  unfold bc1
  have e1 : (b + 256 * c) / 2 = (b / 2 + 128 * (c % 2)) + 256 * (c / 2) := by omega
  obtain ⟨k1, k2⟩ := bc1_k b hb (c % 2) (by omega)
  rw [e1, bc_and (by omega) (by omega), k1]
  have h2 : c / 2 &&& n ≤ c := Nat.le_trans Nat.and_le_left (by omega)
  omega
theorem bc_2 {b c n : Nat} (hb : b < 256) : bc2 (0x33 + 256 * n) (b + 256 * c) = bc2 0x33 b + 256 * bc2 n c := by
  unfold bc2
  have e1 : (b + 256 * c) / 4 = (b / 4 + 64 * (c % 4)) + 256 * (c / 4) := by omega
  have k1 := bc2_k b hb (c % 4) (by omega)
  rw [e1, bc_and (by omega) (by omega), bc_and (by omega) (by omega), k1]
  omega
theorem bc_3 {b c n : Nat} (hb : b < 69) (hc : c % 16 < 5) : bc3 (0x0f + 256 * n) (b + 256 * c) = bc3 0x0f b + 256 * bc3 n c := by
  unfold bc3
  have e1 : b + 256 * c + (b + 256 * c) / 16 = (b + b / 16 + 16 * (c % 16)) + 256 * (c + c / 16) := by omega
  have k1 := bc3_k b hb (c % 16) (by omega)
  rw [e1, bc_and (by omega) (by omega), k1]
def bcP (b : Nat) : Nat := pcN b 8
theorem bc_8 : ∀ b, b < 256 → (bc1 0x55 b < 256 ∧ bc2 0x33 (bc1 0x55 b) < 69 ∧ bc2 0x33 (bc1 0x55 b) % 16 < 5 ∧ bc3 0x0f (bc2 0x33 (bc1 0x55 b)) = pcN b 8 ∧ pcN b 8 ≤ 8) := by decide +kernel
theorem bc_16 : ∀ b, b < 256 → (bc1 0x5555 b < 256 ∧ bc2 0x3333 (bc1 0x5555 b) % 16 < 5 ∧ bc3 0x0f0f (bc2 0x3333 (bc1 0x5555 b)) = pcN b 8) := by decide +kernel
theorem pcN_split {b c : Nat} (hb : b < 256) : ∀ k, pcN (b + 256 * c) (8 + k) = pcN b 8 + pcN c k
  | 0 => by
    have key : ∀ j, j ≤ 8 → pcN (b + 256 * c) j = pcN b j := by
      intro j
      induction j with
      | zero => intro _; rfl
      | succ j ih =>
        intro hj
        have t : (b + 256 * c).testBit j = b.testBit j := by
          rw [Nat.add_comm b, show 256 = 2 ^ 8 from rfl, Nat.testBit_two_pow_mul_add _ (by omega), if_pos (by omega)]
        show pcN (b + 256 * c) j + _ = pcN b j + _
        rw [ih (by omega), t]
    exact key 8 (Nat.le_refl _)
  | k + 1 => by
    have ih := pcN_split hb (c := c) k
    have t : (b + 256 * c).testBit (8 + k) = c.testBit k := by
      rw [Nat.add_comm b, show 256 = 2 ^ 8 from rfl, Nat.testBit_two_pow_mul_add _ (by omega), if_neg (by omega), show 8 + k - 8 = k by omega]
    show pcN (b + 256 * c) (8 + k) + (if (b + 256 * c).testBit (8 + k) = true then 1 else 0) = pcN b 8 + (pcN c k + (if c.testBit k = true then 1 else 0))
    rw [ih, t]
    omega
theorem bc_m1 : 0x55555555 = 0x55 + 256 * (0x55 + 256 * 0x5555) := by decide
theorem bc_m2 : 0x33333333 = 0x33 + 256 * (0x33 + 256 * 0x3333) := by decide
theorem bc_m3 : 0x0f0f0f0f = 0x0f + 256 * (0x0f + 256 * 0x0f0f) := by decide
theorem bc_all {s : Nat} (hs : s < 1048576) : bc3 0x0f0f0f0f (bc2 0x33333333 (bc1 0x55555555 s)) = pcN (s % 256) 8 + 256 * (pcN (s / 256 % 256) 8 + 256 * pcN (s / 65536) 8) ∧ pcN s 20 = pcN (s % 256) 8 + pcN (s / 256 % 256) 8 + pcN (s / 65536) 4 := by
  have e0 : s = s % 256 + 256 * (s / 256 % 256 + 256 * (s / 65536)) := by omega
  have h0 : s % 256 < 256 := by omega
  have h1 : s / 256 % 256 < 256 := by omega
  have h2 : s / 65536 < 256 := by omega
  obtain ⟨a1, a2, a3, a4, a5⟩ := bc_8 _ h0
  obtain ⟨b1, b2, b3, b4, b5⟩ := bc_8 _ h1
  obtain ⟨c1, c2, c3⟩ := bc_16 _ h2
  constructor
  · conv => lhs; rw [e0, bc_m1, bc_m2, bc_m3, bc_1 h0, bc_1 h1, bc_2 a1, bc_2 b1]
    rw [bc_3 a2 (by omega), bc_3 b2 c2, a4, b4, c3]
  · conv => lhs; rw [e0, pcN_split h0 12, pcN_split h1 4]
    omega
theorem wI_ushr {s k : Nat} (hs : s < 2147483648) (hk : k < 32) : ((wI s).toUInt32 >>> ((wI k).toUInt32 &&& Int32.toUInt32 31)).toInt32 = wI ((s / 2 ^ k : Nat) : Int) := by
  have h1 : (wI (s : Int)).toUInt32 = UInt32.ofNat s := by
    apply UInt32.toNat_inj.mp
    rw [UInt32.toNat_ofNat_of_lt' (by show s < 4294967296; omega)]
    show (wI (s : Int)).toBitVec.toNat = s
    rw [← wI_nI]
    show (BitVec.ofNat 32 s).toNat = s
    rw [BitVec.toNat_ofNat]; omega
  have h2 : (wI (k : Int)).toUInt32 &&& Int32.toUInt32 31 = UInt32.ofNat k := by
    have key : ∀ k, k < 32 → (wI ((k : Nat) : Int)).toUInt32 &&& Int32.toUInt32 31 = UInt32.ofNat k := by decide +kernel
    exact key k hk
  rw [h1, h2]
  have h4 : s / 2 ^ k ≤ s := Nat.div_le_self _ _
  apply Int32.toInt_inj.mp
  have h5 : s / 2 ^ k < 2147483648 := by omega
  have h6 : -2147483648 ≤ ((s / 2 ^ k : Nat) : Int) ∧ ((s / 2 ^ k : Nat) : Int) < 2147483648 := by
    generalize s / 2 ^ k = m at h5 ⊢
    omega
  rw [wI_toInt h6.1 h6.2]
  show (UInt32.ofNat s >>> UInt32.ofNat k).toBitVec.toInt = _
  have h3 : (UInt32.ofNat s >>> UInt32.ofNat k).toBitVec.toNat = s / 2 ^ k := by
    show (UInt32.ofNat s >>> UInt32.ofNat k).toNat = _
    rw [UInt32.toNat_shiftRight, UInt32.toNat_ofNat_of_lt' (by show s < 4294967296; omega), UInt32.toNat_ofNat_of_lt' (by show k < 4294967296; omega), Nat.mod_eq_of_lt hk, Nat.shiftRight_eq_div_pow]
  rw [BitVec.toInt_eq_toNat_of_lt (by rw [h3]; omega), h3]
theorem bc_fin {p0 p1 p2 w : Nat} (h0 : p0 ≤ 8) (h1 : p1 ≤ 8) (h2 : p2 ≤ 8) (hw : w = p0 + 256 * (p1 + 256 * p2)) : (w + w / 256 + (w + w / 256) / 65536) % 64 = p0 + p1 + p2 := by
  have k1 : w / 256 = p1 + 256 * p2 := by omega
  have k2 : (w + w / 256) / 65536 = p2 := by omega
  omega
section BC
variable {z : Bool} {h : am_H}
theorem m233 {s : Nat} (hs : s < 1048576) : ru_ev z 233 [.int (wI s)] h = some (.inl (some (.int (wI (pcN s 20 : Nat)))), h) := by
  obtain ⟨k1, k2⟩ := bc_all hs
  have b1 := pcN_le (s % 256) 8
  have b2 := pcN_le (s / 256 % 256) 8
  have b3 := pcN_le (s / 65536) 8
  have b4 : pcN (s / 65536) 4 = pcN (s / 65536) 8 := by
    have key : ∀ c, c < 16 → pcN c 4 = pcN c 8 := by decide +kernel
    exact key _ (by omega)
  have l1 : (s / 2 &&& 1431655765) ≤ s := Nat.le_trans Nat.and_le_left (by omega)
  have l2 : bc1 0x55555555 s ≤ s := by unfold bc1; omega
  have q1 : wI (s : Int) - wI ((s / 2 &&& 1431655765 : Nat) : Int) = wI (bc1 0x55555555 s : Nat) := by
    rw [wI_sub]; congr 1; unfold bc1; omega
  generalize hx : bc1 0x55555555 s = x at k1 l2 q1
  have l3 : (x &&& 858993459) ≤ x := Nat.and_le_left
  have l4 : (x / 4 &&& 858993459) ≤ x := Nat.le_trans Nat.and_le_left (by omega)
  have q2 : wI ((x &&& 858993459 : Nat) : Int) + wI ((x / 4 &&& 858993459 : Nat) : Int) = wI (bc2 0x33333333 x : Nat) := by
    rw [wI_add]; congr 1
  have l5 : bc2 0x33333333 x ≤ 2 * x := by unfold bc2; omega
  generalize hy : bc2 0x33333333 x = y at k1 l5 q2
  have q3 : wI (y : Int) + wI ((y / 16 : Nat) : Int) = wI ((y + y / 16 : Nat) : Int) := by
    rw [wI_add]; congr 1
  have q4 : y + y / 16 &&& 252645135 = bc3 0x0f0f0f0f y := rfl
  generalize hw : bc3 0x0f0f0f0f y = w at k1 q4
  have q5 : wI (w : Int) + wI ((w / 256 : Nat) : Int) = wI ((w + w / 256 : Nat) : Int) := by rw [wI_add]; congr 1
  have q6 : wI ((w + w / 256 : Nat) : Int) + wI (((w + w / 256) / 65536 : Nat) : Int) = wI ((w + w / 256 + (w + w / 256) / 65536 : Nat) : Int) := by rw [wI_add]; congr 1
  have q7 : (w + w / 256 + (w + w / 256) / 65536) &&& 63 = pcN s 20 := by
    rw [show 63 = 2 ^ 6 - 1 from rfl, Nat.and_two_pow_sub_one_eq_mod, k2, b4]
    exact bc_fin b1 b2 b3 k1
  have u (k a : Nat) (hk : k < 32) (ha : a < 2147483648) := wI_ushr (s := a) (k := k) ha hk
  have u1 : ((wI (s : Int)).toUInt32 >>> ((wI 1).toUInt32 &&& Int32.toUInt32 31)).toInt32 = wI ((s / 2 : Nat) : Int) := u 1 s (by omega) (by omega)
  have u2 : ((wI (x : Int)).toUInt32 >>> ((wI 2).toUInt32 &&& Int32.toUInt32 31)).toInt32 = wI ((x / 4 : Nat) : Int) := u 2 x (by omega) (by omega)
  have u4 : ((wI (y : Int)).toUInt32 >>> ((wI 4).toUInt32 &&& Int32.toUInt32 31)).toInt32 = wI ((y / 16 : Nat) : Int) := u 4 y (by omega) (by omega)
  have u8 : ((wI (w : Int)).toUInt32 >>> ((wI 8).toUInt32 &&& Int32.toUInt32 31)).toInt32 = wI ((w / 256 : Nat) : Int) := u 8 w (by omega) (by omega)
  have u16 : ((wI ((w + w / 256 : Nat) : Int)).toUInt32 >>> ((wI 16).toUInt32 &&& Int32.toUInt32 31)).toInt32 = wI (((w + w / 256) / 65536 : Nat) : Int) := u 16 (w + w / 256) (by omega) (by omega)
  have n1 : wI ((s / 2 : Nat) : Int) &&& wI 1431655765 = wI ((s / 2 &&& 1431655765 : Nat) : Int) := wI_nat_and (a := s / 2) (b := 1431655765) (by omega) (by omega)
  have n2 : wI (x : Int) &&& wI 858993459 = wI ((x &&& 858993459 : Nat) : Int) := wI_nat_and (a := x) (b := 858993459) (by omega) (by omega)
  have n3 : wI ((x / 4 : Nat) : Int) &&& wI 858993459 = wI ((x / 4 &&& 858993459 : Nat) : Int) := wI_nat_and (a := x / 4) (b := 858993459) (by omega) (by omega)
  have n4 : wI ((y + y / 16 : Nat) : Int) &&& wI 252645135 = wI (w : Int) := by rw [← q4]; exact wI_nat_and (a := y + y / 16) (b := 252645135) (by omega) (by omega)
  have n5 : wI ((w + w / 256 + (w + w / 256) / 65536 : Nat) : Int) &&& wI 63 = wI (pcN s 20 : Nat) := by rw [← q7]; exact wI_nat_and (b := 63) (by omega) (by omega)
  simp only [en233, e233_0, e233_1, e233_2, e233_3, e233_4, e233_7, e233_8, e233_9, e233_10, e233_11, e233_14, e233_15, e233_16, e233_17, e233_18, e233_21, e233_22, e233_23, e233_24, e233_25, e233_26, e233_27, e233_28, e233_29, e233_32, e233_33, e233_34, e233_35, e233_36, e233_38, e233_39, e233_40, e233_41, e233_42, e233_43, e233_45, e233_46, e233_47, e233_48, e233_49, e233_51, e233_52, u1, n1, q1, n2, u2, n3, q2, u4, q3, n4, u8, q5, u16, q6, n5]
end BC
