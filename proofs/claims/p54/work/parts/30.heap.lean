/-! ===== the rules of the heap, for a run by rewriting ===== -/
theorem ru_fdE {h : am_H} {a c k : Nat} {fs : List Value} : am_fd (am_set h a (.inr (c, fs))) a c k = fs[k]? := by simp [am_fd, am_set]
theorem ru_fdN {h : am_H} {a b c k : Nat} {e : am_C} (hne : a ≠ b) : am_fd (am_set h b e) a c k = am_fd h a c k := by simp [am_fd, am_set, hne]
theorem ru_iaN {h : am_H} {a b : Nat} {e : am_C} {i : Int32} (hne : a ≠ b) : am_ia (am_set h b e) a i = am_ia h a i := by simp [am_ia, am_set, hne]
theorem ru_baN {h : am_H} {a b : Nat} {e : am_C} {i : Int32} (hne : a ≠ b) : am_ba (am_set h b e) a i = am_ba h a i := by simp [am_ba, am_set, hne]
theorem ru_laN {h : am_H} {a b : Nat} {e : am_C} {i : Int32} (hne : a ≠ b) : am_la (am_set h b e) a i = am_la h a i := by simp [am_la, am_set, hne]
theorem ru_qaN {h : am_H} {a b : Nat} {e : am_C} {i : Int32} (hne : a ≠ b) : am_qa (am_set h b e) a i = am_qa h a i := by simp [am_qa, am_set, hne]
theorem ru_setcomm {h : am_H} {a b : Nat} {e f : am_C} (hne : a ≠ b) : am_set (am_set h b e) a f = am_set (am_set h a f) b e := by
  unfold am_set
  congr 1
  funext q
  dsimp only
  by_cases h1 : q = a
  · subst h1; simp [hne]
  · by_cases h2 : q = b
    · subst h2; simp [h1]
    · simp [h1, h2]
theorem ru_pfN {h : am_H} {a b c k ty : Nat} {e : am_C} {v : Value} (hne : a ≠ b) : am_pf (am_set h b e) a c k ty v = (am_pf h a c k ty v).map (fun h' => am_set h' b e) := by
  have e1 : (am_set h b e).1 a = h.1 a := ru_setN hne
  unfold am_pf
  rw [e1]
  cases h.1 a with
  | none => rfl
  | some q =>
    obtain q | ⟨q, fs⟩ := q
    · rfl
    · dsimp only
      by_cases hc : c = q ∧ (c < 50 ∨ c = 50 ∧ fs[0]? = some Value.null) ∧ k < fs.length
      · by_cases hc2 : q = c ∧ (c < 50 ∨ c = 50 ∧ fs[0]? = some Value.null) ∧ k < fs.length
        · rw [if_pos hc2, if_pos hc2]
          split <;> first | (simp only [Option.map_some, ru_setcomm hne]; done) | (split <;> simp only [Option.map_some, Option.map_none, ru_setcomm hne]) | rfl
        · rw [if_neg hc2, if_neg hc2]; rfl
      · have hc2 : ¬ (q = c ∧ (c < 50 ∨ c = 50 ∧ fs[0]? = some Value.null) ∧ k < fs.length) := fun h9 => hc ⟨h9.1.symm, h9.2⟩
        rw [if_neg hc2, if_neg hc2]; rfl
theorem ru_isN {h : am_H} {a b : Nat} {e : am_C} {i v : Int32} (hne : a ≠ b) : am_is (am_set h b e) a i v = (am_is h a i v).map (fun h' => am_set h' b e) := by
  have e1 : (am_set h b e).1 a = h.1 a := ru_setN hne
  unfold am_is
  rw [e1]
  split
  · split <;> simp only [Option.map_some, Option.map_none, ru_setcomm hne]
  · rfl
theorem ru_bsN {h : am_H} {a b : Nat} {e : am_C} {i v : Int32} (hne : a ≠ b) : am_bs (am_set h b e) a i v = (am_bs h a i v).map (fun h' => am_set h' b e) := by
  have e1 : (am_set h b e).1 a = h.1 a := ru_setN hne
  unfold am_bs
  rw [e1]
  split
  · split
    · split
      · simp only [Option.map_some, ru_setcomm hne]
      · split <;> simp only [Option.map_some, Option.map_none, ru_setcomm hne]
    · rfl
  · rfl
theorem ru_jsN {h : am_H} {a b : Nat} {e : am_C} {i : Int32} {v : Int64} (hne : a ≠ b) : am_js (am_set h b e) a i v = (am_js h a i v).map (fun h' => am_set h' b e) := by
  have e1 : (am_set h b e).1 a = h.1 a := ru_setN hne
  unfold am_js
  rw [e1]
  split
  · split <;> simp only [Option.map_some, Option.map_none, ru_setcomm hne]
  · rfl
theorem ru_qsN {h : am_H} {a b x : Nat} {e : am_C} {i : Int32} (hne : a ≠ b) (hx : x ≠ b) : am_qs (am_set h b e) a i x = (am_qs h a i x).map (fun h' => am_set h' b e) := by
  have e1 : (am_set h b e).1 a = h.1 a := ru_setN hne
  have e2 : (am_set h b e).1 x = h.1 x := ru_setN hx
  unfold am_qs
  rw [e1, e2]
  split
  · split <;> simp only [Option.map_some, Option.map_none, ru_setcomm hne]
  · rfl
/-! ===== sets as numbers ===== -/
theorem wI_nat_or {a b : Nat} (ha : a < 2147483648) (hb : b < 2147483648) : wI a ||| wI b = wI ((a ||| b : Nat) : Int) := by
  apply Int32.toBitVec_inj.mp
  rw [Int32.toBitVec_or]
  simp only [wI, Int32.toBitVec_ofInt]
  rw [BitVec.ofInt_natCast, BitVec.ofInt_natCast, BitVec.ofInt_natCast]
  apply BitVec.eq_of_toNat_eq
  have h3 : a ||| b < 2 ^ 31 := Nat.or_lt_two_pow ha hb
  rw [BitVec.toNat_or]
  simp only [BitVec.toNat_ofNat]
  rw [Nat.mod_eq_of_lt (by omega), Nat.mod_eq_of_lt (by omega), Nat.mod_eq_of_lt (by omega)]
theorem wI_nat_and {a b : Nat} (ha : a < 2147483648) (hb : b < 2147483648) : wI a &&& wI b = wI ((a &&& b : Nat) : Int) := by
  apply Int32.toBitVec_inj.mp
  rw [Int32.toBitVec_and]
  simp only [wI, Int32.toBitVec_ofInt]
  rw [BitVec.ofInt_natCast, BitVec.ofInt_natCast, BitVec.ofInt_natCast]
  apply BitVec.eq_of_toNat_eq
  have h3 : a &&& b ≤ a := Nat.and_le_left
  rw [BitVec.toNat_and]
  simp only [BitVec.toNat_ofNat]
  rw [Nat.mod_eq_of_lt (by omega), Nat.mod_eq_of_lt (by omega), Nat.mod_eq_of_lt (by omega)]
theorem wI_shl1 {k : Int} (h1 : 0 ≤ k) (h2 : k ≤ 30) : wI 1 <<< (wI k &&& 31) = wI ((2 ^ k.toNat : Nat) : Int) := by
  obtain ⟨n, rfl⟩ := Int.eq_ofNat_of_zero_le h1
  have hn : n ≤ 30 := by omega
  have : ∀ n : Fin 31, wI 1 <<< (wI ((n : Nat) : Int) &&& 31) = wI ((2 ^ (n : Nat) : Nat) : Int) := by decide +kernel
  exact this ⟨n, by omega⟩
theorem wI_bit {s : Nat} {k : Int} (hs : s < 2147483648) (h1 : 0 ≤ k) (h2 : k ≤ 30) : (wI s >>> (wI k &&& 31)) &&& wI 1 = wI (if s.testBit k.toNat then 1 else 0) := by
  obtain ⟨n, rfl⟩ := Int.eq_ofNat_of_zero_le h1
  have hn : n ≤ 30 := by omega
  apply Int32.toBitVec_inj.mp
  rw [Int32.toBitVec_and, Int32.toBitVec_shiftRight]
  have e1 : (wI ((n : Nat) : Int) &&& 31).toBitVec.smod 32 = BitVec.ofNat 32 n := by
    have : ∀ n : Fin 31, (wI ((n : Nat) : Int) &&& 31).toBitVec.smod 32 = BitVec.ofNat 32 n := by decide +kernel
    exact this ⟨n, by omega⟩
  rw [e1]
  simp only [wI, Int32.toBitVec_ofInt]
  rw [BitVec.ofInt_natCast]
  apply BitVec.eq_of_getLsbD_eq
  intro i hi
  rw [BitVec.getLsbD_and]
  have e2 : (BitVec.ofNat 32 n).toNat = n := by rw [BitVec.toNat_ofNat]; exact Nat.mod_eq_of_lt (by omega)
  rw [show (BitVec.ofNat 32 s).sshiftRight' (BitVec.ofNat 32 n) = (BitVec.ofNat 32 s).sshiftRight n from by rw [BitVec.sshiftRight', e2]]
  rw [BitVec.getLsbD_sshiftRight]
  by_cases hi0 : i = 0
  · subst hi0
    have e4 : (BitVec.ofInt 32 1).getLsbD 0 = true := by decide
    have e5 : n + 0 < 32 := by omega
    rw [e4, Bool.and_true, if_pos e5, BitVec.getLsbD_ofNat]
    have e6 : (((n : Nat) : Int)).toNat = n := rfl
    rw [e6]
    have e7 : decide (n + 0 < 32) = true := decide_eq_true e5
    rw [e7, Bool.true_and, Nat.add_zero]
    cases s.testBit n <;> decide
  · have e5 : (BitVec.ofInt 32 1).getLsbD i = false := by
      have : ∀ i : Fin 32, i.val ≠ 0 → (BitVec.ofInt 32 1).getLsbD i = false := by decide
      exact this ⟨i, hi⟩ hi0
    have e6 : (BitVec.ofInt 32 0).getLsbD i = false := by
      have : ∀ i : Fin 32, (BitVec.ofInt 32 0).getLsbD i = false := by decide
      exact this ⟨i, hi⟩
    rw [e5, Bool.and_false]
    split
    · exact e5.symm
    · exact e6.symm
theorem iB0 {c : Prop} [Decidable c] : ((if c then (1 : Int) else 0) = 0) = ¬ c := by
  by_cases hc : c
  · rw [if_pos hc]; exact propext ⟨fun h => absurd h (by decide), fun h => absurd hc h⟩
  · rw [if_neg hc]; exact propext ⟨fun _ => hc, fun _ => rfl⟩
theorem iB1 {c : Prop} [Decidable c] : ((if c then (1 : Int) else 0) = 1) = c := by
  by_cases hc : c
  · rw [if_pos hc]; exact propext ⟨fun _ => hc, fun _ => rfl⟩
  · rw [if_neg hc]; exact propext ⟨fun h => absurd h (by decide), fun h => absurd h hc⟩
