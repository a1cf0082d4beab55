/-! ===== words: eight letters as a long, five bits a letter, the first letter highest ===== -/
def ltI (x : Int) : Nat := (x - 96).toNat
def wdS (f : Nat → Int) : Nat → Nat → Nat
  | 0, _ => 0
  | d + 1, k => ltI (f k) * 32 ^ d + wdS f d (k + 1)
def wdL (f : Nat → Int) : Int64 := Int64.ofNat (wdS f 8 0)
def ltR (f : Nat → Int) : Prop := ∀ k, k < 8 → f k = 0 ∨ (97 ≤ f k ∧ f k ≤ 122)
/-- a word's letters: then nothing more -/
def wdR (f : Nat → Int) : Prop := ltR f ∧ ∀ k, k < 7 → f k = 0 → f (k + 1) = 0
theorem ltI_26 {f : Nat → Int} (h : ltR f) {k : Nat} (hk : k < 8) : ltI (f k) ≤ 26 ∧ (ltI (f k) = 0 ↔ f k = 0) ∧ ((ltI (f k) : Nat) : Int) = if f k = 0 then 0 else f k - 96 := by
  have := h k hk
  unfold ltI
  refine ⟨by omega, by omega, ?_⟩
  split <;> omega
theorem wdS_lt {f : Nat → Int} (h : ltR f) : ∀ d k, k + d ≤ 8 → wdS f d k < 32 ^ d
  | 0, _, _ => Nat.zero_lt_one
  | d + 1, k, hk => by
    have a1 := wdS_lt h d (k + 1) (by omega)
    have a2 := (ltI_26 h (show k < 8 by omega)).1
    have a3 : ltI (f k) * 32 ^ d ≤ 26 * 32 ^ d := Nat.mul_le_mul_right _ a2
    show ltI (f k) * 32 ^ d + wdS f d (k + 1) < 32 ^ (d + 1)
    rw [Nat.pow_succ]
    omega
theorem wdS_8 {f : Nat → Int} (h : ltR f) : wdS f 8 0 < 1099511627776 := wdS_lt h 8 0 (by omega)
theorem wdS_at {f : Nat → Int} (h : ltR f) {p : Nat} (hp : p < 8) : wdS f 8 0 / 2 ^ (5 * (7 - p)) % 32 = ltI (f p) := by
  have b0 := (ltI_26 h (show 0 < 8 by omega)).1
  have b1 := (ltI_26 h (show 1 < 8 by omega)).1
  have b2 := (ltI_26 h (show 2 < 8 by omega)).1
  have b3 := (ltI_26 h (show 3 < 8 by omega)).1
  have b4 := (ltI_26 h (show 4 < 8 by omega)).1
  have b5 := (ltI_26 h (show 5 < 8 by omega)).1
  have b6 := (ltI_26 h (show 6 < 8 by omega)).1
  have b7 := (ltI_26 h (show 7 < 8 by omega)).1
  simp only [wdS, Nat.reducePow, Nat.reduceAdd]
  have hc : p = 0 ∨ p = 1 ∨ p = 2 ∨ p = 3 ∨ p = 4 ∨ p = 5 ∨ p = 6 ∨ p = 7 := by omega
  rcases hc with rfl | rfl | rfl | rfl | rfl | rfl | rfl | rfl <;> simp only [Nat.reduceSub, Nat.reduceMul, Nat.reducePow] <;> omega
/-- words differ where letters do, and stand as their first different letters -/
def agN (f g : Nat → Int) : Nat → Nat → Int
  | 0, _ => 0
  | d + 1, k => if f k = g k then agN f g d (k + 1) else f k - g k
theorem wdS_ag {f g : Nat → Int} (hf : ltR f) (hg : ltR g) : ∀ d k, k + d ≤ 8 → (agN f g d k < 0 ↔ wdS f d k < wdS g d k) ∧ (agN f g d k = 0 ↔ wdS f d k = wdS g d k) ∧ (agN f g d k = 0 ↔ ∀ i, k ≤ i → i < k + d → f i = g i)
  | 0, k, _ => ⟨by simp [agN, wdS], by simp [agN, wdS], by simp only [agN, true_iff]; intro i h1 h2; omega⟩
  | d + 1, k, hk => by
    obtain ⟨i1, i2, i3⟩ := wdS_ag hf hg d (k + 1) (by omega)
    have a1 := wdS_lt hf d (k + 1) (by omega)
    have a2 := wdS_lt hg d (k + 1) (by omega)
    have b1 := ltI_26 hf (show k < 8 by omega)
    have b2 := ltI_26 hg (show k < 8 by omega)
    by_cases e : f k = g k
    · have eA : agN f g (d + 1) k = agN f g d (k + 1) := if_pos e
      have eW : wdS f (d + 1) k = ltI (g k) * 32 ^ d + wdS f d (k + 1) := by show ltI (f k) * 32 ^ d + _ = _; rw [e]
      have eV : wdS g (d + 1) k = ltI (g k) * 32 ^ d + wdS g d (k + 1) := rfl
      rw [eA, eW, eV]
      refine ⟨by omega, by omega, ?_⟩
      rw [i3]
      constructor
      · intro h i h1 h2
        by_cases c : i = k
        · rw [c]; exact e
        · exact h i (by omega) (by omega)
      · intro h i h1 h2
        exact h i (by omega) (by omega)
    · have eA : agN f g (d + 1) k = f k - g k := if_neg e
      have eW : wdS f (d + 1) k = ltI (f k) * 32 ^ d + wdS f d (k + 1) := rfl
      have eV : wdS g (d + 1) k = ltI (g k) * 32 ^ d + wdS g d (k + 1) := rfl
      have hlt : (f k < g k ↔ ltI (f k) < ltI (g k)) ∧ ltI (f k) ≠ ltI (g k) := by
        have c1 := b1.2.2
        have c2 := b2.2.2
        have c3 := hf k (by omega)
        have c4 := hg k (by omega)
        split at c1 <;> split at c2 <;> omega
      rw [eA, eW, eV]
      have key : ∀ x y : Nat, x < y → x * 32 ^ d + 32 ^ d ≤ y * 32 ^ d := fun x y hxy => by
        have := Nat.mul_le_mul_right (32 ^ d) (show x + 1 ≤ y from hxy)
        rw [Nat.add_mul, Nat.one_mul] at this
        exact this
      have n3 : ¬ (f k - g k = 0) := by omega
      by_cases c : ltI (f k) < ltI (g k)
      · have := key _ _ c
        refine ⟨by omega, by omega, ?_⟩
        exact ⟨fun h => absurd h n3, fun h => absurd (h k (Nat.le_refl _) (by omega)) e⟩
      · have := key _ _ (show ltI (g k) < ltI (f k) by omega)
        refine ⟨by omega, by omega, ?_⟩
        exact ⟨fun h => absurd h n3, fun h => absurd (h k (Nat.le_refl _) (by omega)) e⟩
/-- longs of natural numbers -/
theorem lgN_lt {a b : Nat} (ha : a < 1099511627776) (hb : b < 1099511627776) : (Int64.ofNat a < Int64.ofNat b) ↔ a < b := by
  rw [Int64.lt_iff_toInt_lt, Int64.toInt_ofNat_of_lt (by omega), Int64.toInt_ofNat_of_lt (by omega)]
  omega
theorem lgN_inj {a b : Nat} (ha : a < 1099511627776) (hb : b < 1099511627776) : (Int64.ofNat a = Int64.ofNat b) ↔ a = b := by
  constructor
  · intro h
    have := congrArg Int64.toInt h
    rw [Int64.toInt_ofNat_of_lt (by omega), Int64.toInt_ofNat_of_lt (by omega)] at this
    omega
  · intro h; rw [h]
theorem lg_c0 (a b : Int64) : (lg_cmp a b = wI 0) = (a = b) := by rw [← wI_0]; exact propext (lg_cmp_eq a b)
theorem lg_cge (a b : Int64) : (wI 0 ≤ lg_cmp a b) = (b ≤ a) := by rw [← wI_0]; exact propext (lg_cmp_ge a b)
theorem wdL_eq {f g : Nat → Int} (hf : ltR f) (hg : ltR g) : (wdL f = wdL g) = (∀ i, i < 8 → f i = g i) := by
  have k := wdS_ag hf hg 8 0 (by omega)
  apply propext
  unfold wdL
  rw [lgN_inj (wdS_8 hf) (wdS_8 hg), ← k.2.1, k.2.2]
  exact ⟨fun h i hi => h i (Nat.zero_le _) (by omega), fun h i _ hi => h i (by omega)⟩
theorem wdL_le {f g : Nat → Int} (hf : ltR f) (hg : ltR g) : (wdL f ≤ wdL g) = ¬ (agN g f 8 0 < 0) := by
  have k := wdS_ag hg hf 8 0 (by omega)
  apply propext
  unfold wdL
  rw [k.1, ← lgN_lt (wdS_8 hg) (wdS_8 hf), Int64.lt_iff_toInt_lt, Int64.le_iff_toInt_le]
  omega
theorem lg_sh {N s : Nat} (hs : s ≤ 35) : (Int64.ofNat N >>> Int64.ofNat s).toInt32 &&& wI 31 = wI ((N / 2 ^ s % 32 : Nat) : Int) := by
  apply Int32.toBitVec_inj.mp
  rw [Int32.toBitVec_and, Int64.toBitVec_toInt32, Int64.toBitVec_shiftRight]
  have e1 : (Int64.ofNat s).toBitVec.smod 64 = BitVec.ofNat 64 s := by
    have : ∀ s : Fin 36, (Int64.ofNat s.val).toBitVec.smod 64 = BitVec.ofNat 64 s.val := by decide +kernel
    exact this ⟨s, by omega⟩
  have e2 : (BitVec.ofNat 64 s).toNat = s := by rw [BitVec.toNat_ofNat]; exact Nat.mod_eq_of_lt (by omega)
  have e9 : (Int64.ofNat N).toBitVec = BitVec.ofNat 64 N := rfl
  rw [e1, e9, show (BitVec.ofNat 64 N).sshiftRight' (BitVec.ofNat 64 s) = (BitVec.ofNat 64 N).sshiftRight s from by rw [BitVec.sshiftRight', e2], BitVec.signExtend_eq_setWidth_of_le _ (by decide)]
  simp only [wI, Int32.toBitVec_ofInt]
  rw [BitVec.ofInt_natCast]
  apply BitVec.eq_of_getLsbD_eq
  intro i hi
  rw [BitVec.getLsbD_and, BitVec.getLsbD_setWidth, BitVec.getLsbD_sshiftRight, BitVec.getLsbD_ofNat]
  have e3 : (31 : Int) = ((31 : Nat) : Int) := rfl
  have e4 : (BitVec.ofInt 32 31).getLsbD i = decide (i < 5) := by
    have : ∀ i : Fin 32, (BitVec.ofInt 32 31).getLsbD i.val = decide (i.val < 5) := by decide +kernel
    exact this ⟨i, hi⟩
  have e5 : (N / 2 ^ s % 32).testBit i = (decide (i < 5) && N.testBit (s + i)) := by
    rw [show (32 : Nat) = 2 ^ 5 from rfl, Nat.testBit_mod_two_pow, Nat.testBit_div_two_pow, Nat.add_comm]
  rw [e4, BitVec.getLsbD_ofNat, e5]
  have d0 : decide (i < 32) = true := decide_eq_true hi
  have d3 : decide (64 ≤ i) = false := decide_eq_false (by omega)
  by_cases h5 : i < 5
  · have h7 : s + i < 64 := by omega
    have d4 : decide (s + i < 64) = true := decide_eq_true h7
    have d5 : decide (i < 5) = true := decide_eq_true h5
    rw [if_pos h7, d0, d3, d4, d5]
    simp
  · have d5 : decide (i < 5) = false := decide_eq_false h5
    rw [d5]
    simp
