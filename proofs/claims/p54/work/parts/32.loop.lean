/-! ===== what was just written; sets of bits; loops ===== -/
theorem ru_iaE {h : am_H} {a n : Nat} {f : Nat → Int32} {i : Int} (h1 : 0 ≤ i) (h2 : i < n) (h3 : i < 2147483648) : am_ia (am_set h a (.inl (0, n, .inl f))) a (wI i) = some (f i.toNat) := ru_ia (ru_setE _ _ _) h1 h2 h3
theorem ru_zaE {h : am_H} {a n : Nat} {f : Nat → Int32} {i : Int} (h1 : 0 ≤ i) (h2 : i < n) (h3 : i < 2147483648) : am_ba (am_set h a (.inl (2, n, .inl f))) a (wI i) = some (f i.toNat) := ru_ba (ru_setE _ _ _) (Or.inr (Or.inl rfl)) h1 h2 h3
theorem ru_baE {h : am_H} {a n : Nat} {f : Nat → Int32} {i : Int} (h1 : 0 ≤ i) (h2 : i < n) (h3 : i < 2147483648) : am_ba (am_set h a (.inl (1, n, .inl f))) a (wI i) = some (f i.toNat) := ru_ba (ru_setE _ _ _) (Or.inl rfl) h1 h2 h3
theorem ru_laE {h : am_H} {a n : Nat} {f : Nat → Int64} {i : Int} (h1 : 0 ≤ i) (h2 : i < n) (h3 : i < 2147483648) : am_la (am_set h a (.inl (3, n, .inr (.inl f)))) a (wI i) = some (f i.toNat) := ru_la (ru_setE _ _ _) h1 h2 h3
theorem ru_isE {h : am_H} {a n : Nat} {f : Nat → Int32} {i : Int} {v : Int32} (h1 : 0 ≤ i) (h2 : i < n) (h3 : i < 2147483648) : am_is (am_set h a (.inl (0, n, .inl f))) a (wI i) v = some (am_set h a (.inl (0, n, .inl (am_up f i.toNat v)))) := by
  rw [ru_is (ru_setE _ _ _) h1 h2 h3, ru_setset]
theorem ru_zsE {h : am_H} {a n : Nat} {f : Nat → Int32} {i : Int} {v : Int32} (h1 : 0 ≤ i) (h2 : i < n) (h3 : i < 2147483648) : am_bs (am_set h a (.inl (2, n, .inl f))) a (wI i) v = some (am_set h a (.inl (2, n, .inl (am_up f i.toNat (v &&& 1))))) := by
  rw [ru_zs (ru_setE _ _ _) h1 h2 h3, ru_setset]
theorem ru_bsE {h : am_H} {a n : Nat} {f : Nat → Int32} {i : Int} {v : Int32} (h1 : 0 ≤ i) (h2 : i < n) (h3 : i < 2147483648) : am_bs (am_set h a (.inl (1, n, .inl f))) a (wI i) v = some (am_set h a (.inl (1, n, .inl (am_up f i.toNat (am_nb v))))) := by
  rw [ru_bs (ru_setE _ _ _) h1 h2 h3, ru_setset]
theorem ru_jsE {h : am_H} {a n : Nat} {f : Nat → Int64} {i : Int} {v : Int64} (h1 : 0 ≤ i) (h2 : i < n) (h3 : i < 2147483648) : am_js (am_set h a (.inl (3, n, .inr (.inl f)))) a (wI i) v = some (am_set h a (.inl (3, n, .inr (.inl (am_up f i.toNat v))))) := by
  rw [ru_js (ru_setE _ _ _) h1 h2 h3, ru_setset]
theorem ru_pfE0 {h : am_H} {a c k : Nat} {fs : List Value} {v : Int32} (hc : c < 50 ∧ k < fs.length) : am_pf (am_set h a (.inr (c, fs))) a c k 0 (.int v) = some (am_set h a (.inr (c, fs.set k (.int v)))) := by
  rw [ru_pf0 (ru_setE _ _ _) hc, ru_setset]
theorem ru_pfE1 {h : am_H} {a c k : Nat} {fs : List Value} {v : Int64} (hc : c < 50 ∧ k < fs.length) : am_pf (am_set h a (.inr (c, fs))) a c k 1 (.long v) = some (am_set h a (.inr (c, fs.set k (.long v)))) := by
  rw [ru_pf1 (ru_setE _ _ _) hc, ru_setset]
theorem ru_pfE2 {h : am_H} {a c k v : Nat} {fs : List Value} (hc : c < 50 ∧ k < fs.length) : am_pf (am_set h a (.inr (c, fs))) a c k 2 (.ref v) = some (am_set h a (.inr (c, fs.set k (.ref v)))) := by
  rw [ru_pf2 (ru_setE _ _ _) hc, ru_setset]
theorem ru_pfE3 {h : am_H} {a c k : Nat} {fs : List Value} {v : Int} (hc : c < 50 ∧ k < fs.length) (hv : 0 ≤ v) (hw : v ≤ 1) : am_pf (am_set h a (.inr (c, fs))) a c k 3 (.int (wI v)) = some (am_set h a (.inr (c, fs.set k (.int (wI v))))) := by
  rw [ru_pf3 (ru_setE _ _ _) hc hv hw, ru_setset]
theorem ru_setself {h : am_H} {a : Nat} {e : am_C} (he : h.1 a = some e) : am_set h a e = h := by
  unfold am_set
  have : (fun q => if q = a then some e else h.1 q) = h.1 := by
    funext q
    split
    · rename_i hq; rw [hq, he]
    · rfl
  rw [this]
theorem ru_upup {α : Type} (f : Nat → α) (k : Nat) (v w : α) : am_up (am_up f k v) k w = am_up f k w := by
  funext j; unfold am_up; split <;> rfl
theorem wI_b0 {c : Prop} [Decidable c] : (wI (if c then 1 else 0) = wI 0) = ¬ c := by
  by_cases hc : c
  · rw [if_pos hc]; exact propext ⟨fun h => absurd h (by decide +kernel), fun h => absurd hc h⟩
  · rw [if_neg hc]; exact propext ⟨fun _ => hc, fun _ => rfl⟩
theorem wI_b1 {c : Prop} [Decidable c] : (wI (if c then 1 else 0) = wI 1) = c := by
  by_cases hc : c
  · rw [if_pos hc]; exact propext ⟨fun _ => hc, fun _ => rfl⟩
  · rw [if_neg hc]; exact propext ⟨fun h => absurd h (by decide +kernel), fun h => absurd h hc⟩
theorem wI_bz {c : Prop} [Decidable c] : wI (if c then 1 else 0) &&& 1 = wI (if c then 1 else 0) := by
  by_cases hc : c
  · rw [if_pos hc]; decide +kernel
  · rw [if_neg hc]; decide +kernel
/-- the bits below k of those that P has -/
def bsN (P : Nat → Bool) : Nat → Nat
  | 0 => 0
  | k + 1 => if P k = true then bsN P k ||| 2 ^ k else bsN P k
theorem bsN_lt (P : Nat → Bool) : ∀ k, bsN P k < 2 ^ k
  | 0 => by show 0 < 1; decide
  | k + 1 => by
    have h1 := bsN_lt P k
    have h2 : 2 ^ k < 2 ^ (k + 1) := Nat.pow_lt_pow_right (by decide) (by omega)
    unfold bsN
    split
    · exact Nat.or_lt_two_pow (by omega) h2
    · omega
theorem bsN_t {P : Nat → Bool} {k : Nat} (h : P k = true) : bsN P (k + 1) = bsN P k ||| 2 ^ k := by rw [bsN, if_pos h]
theorem bsN_f {P : Nat → Bool} {k : Nat} (h : ¬ P k = true) : bsN P (k + 1) = bsN P k := by rw [bsN, if_neg h]
theorem bsN_bit (P : Nat → Bool) (i : Nat) : ∀ k, (bsN P k).testBit i = (decide (i < k) && P i)
  | 0 => by simp [bsN]
  | k + 1 => by
    unfold bsN
    split
    · rename_i hp
      rw [Nat.testBit_or, bsN_bit P i k, Nat.testBit_two_pow]
      by_cases hi : i = k
      · subst hi; simp [hp]
      · have e1 : decide (k = i) = false := by simp; omega
        have e2 : decide (i < k + 1) = decide (i < k) := by simp; omega
        rw [e1, e2, Bool.or_false]
    · rename_i hp
      rw [bsN_bit P i k]
      by_cases hi : i = k
      · subst hi; simp [hp]
      · have e2 : decide (i < k + 1) = decide (i < k) := by simp; omega
        rw [e2]
theorem bsN_b {P : Nat → Bool} {k : Nat} (hk : k ≤ 12) : bsN P k < 4096 ∧ 2 ^ k ≤ 4096 := by
  have h1 := bsN_lt P k
  have h2 : 2 ^ k ≤ 2 ^ 12 := Nat.pow_le_pow_right (by decide) hk
  omega
