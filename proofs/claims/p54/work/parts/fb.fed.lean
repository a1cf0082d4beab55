/-! ===== the law feeds a text: four letters a number ===== -/
theorem wI_shl8 {v : Nat} (hv : v < 8388608) : wI v <<< (wI 8 &&& 31) = wI ((v * 256 : Nat) : Int) := by
  apply Int32.toBitVec_inj.mp
  rw [Int32.toBitVec_shiftLeft]
  have e1 : (wI 8 &&& 31).toBitVec.smod 32 = BitVec.ofNat 32 8 := by decide +kernel
  rw [e1]
  simp only [wI, Int32.toBitVec_ofInt]
  rw [BitVec.ofInt_natCast, BitVec.ofInt_natCast]
  apply BitVec.eq_of_toNat_eq
  rw [BitVec.shiftLeft_eq', BitVec.toNat_shiftLeft]
  have e2 : (BitVec.ofNat 32 8).toNat = 8 := by decide
  rw [e2, BitVec.toNat_ofNat, BitVec.toNat_ofNat, Nat.shiftLeft_eq, show (2 : Nat) ^ 8 = 256 from rfl, Nat.mod_eq_of_lt (show v < 2 ^ 32 by omega)]
theorem wI_sar {v k : Nat} (hv : v < 2147483648) (hk : k ≤ 30) : wI v >>> (wI k &&& 31) = wI ((v / 2 ^ k : Nat) : Int) := by
  apply Int32.toBitVec_inj.mp
  rw [Int32.toBitVec_shiftRight]
  have e1 : (wI ((k : Nat) : Int) &&& 31).toBitVec.smod 32 = BitVec.ofNat 32 k := by
    have : ∀ n : Fin 31, (wI ((n : Nat) : Int) &&& 31).toBitVec.smod 32 = BitVec.ofNat 32 n := by decide +kernel
    exact this ⟨k, by omega⟩
  rw [e1]
  have e2 : (BitVec.ofNat 32 k).toNat = k := by rw [BitVec.toNat_ofNat]; exact Nat.mod_eq_of_lt (by omega)
  have h4 : v / 2 ^ k ≤ v := Nat.div_le_self _ _
  simp only [wI, Int32.toBitVec_ofInt]
  rw [BitVec.ofInt_natCast, BitVec.ofInt_natCast]
  rw [show (BitVec.ofNat 32 v).sshiftRight' (BitVec.ofNat 32 k) = (BitVec.ofNat 32 v).sshiftRight k from by rw [BitVec.sshiftRight', e2]]
  have e3 : (BitVec.ofNat 32 v).msb = false := by
    rw [BitVec.msb_eq_decide, decide_eq_false_iff_not, BitVec.toNat_ofNat, Nat.mod_eq_of_lt (by omega)]
    omega
  rw [BitVec.sshiftRight_eq_of_msb_false e3]
  apply BitVec.eq_of_toNat_eq
  rw [BitVec.toNat_ushiftRight, BitVec.toNat_ofNat, BitVec.toNat_ofNat, Nat.mod_eq_of_lt (by omega), Nat.shiftRight_eq_div_pow]
  generalize v / 2 ^ k = u at h4 ⊢
  rw [Nat.mod_eq_of_lt (by omega)]
/-- the number of the first m letters of word q -/
def wvN (c : Nat → Nat) (q : Nat) : Nat → Nat
  | 0 => 0
  | m + 1 => wvN c q m * 256 + c (4 * q + m)
theorem wvN_b {c : Nat → Nat} {q : Nat} (hc : ∀ j, c j ≤ 127) : wvN c q 1 ≤ 127 ∧ wvN c q 2 ≤ 32639 ∧ wvN c q 3 ≤ 8355711 ∧ wvN c q 4 ≤ 2139062143 := by
  have h0 : wvN c q 0 = 0 := rfl
  have h1 : wvN c q 1 = wvN c q 0 * 256 + c (4 * q + 0) := rfl
  have h2 : wvN c q 2 = wvN c q 1 * 256 + c (4 * q + 1) := rfl
  have h3 : wvN c q 3 = wvN c q 2 * 256 + c (4 * q + 2) := rfl
  have h4 : wvN c q 4 = wvN c q 3 * 256 + c (4 * q + 3) := rfl
  have c0 := hc (4 * q + 0)
  have c1 := hc (4 * q + 1)
  have c2 := hc (4 * q + 2)
  have c3 := hc (4 * q + 3)
  omega
theorem wvN_b3 {c : Nat → Nat} {q m : Nat} (hc : ∀ j, c j ≤ 127) (hm : m < 4) : wvN c q m ≤ 8355711 := by
  obtain ⟨b1, b2, b3, b4⟩ := wvN_b (q := q) hc
  have h0 : wvN c q 0 = 0 := rfl
  have : m = 0 ∨ m = 1 ∨ m = 2 ∨ m = 3 := by omega
  rcases this with rfl | rfl | rfl | rfl <;> omega
theorem wI_put {v c : Nat} (hv : v ≤ 8355711) (hc : c ≤ 127) : wI v <<< (wI 8 &&& 31) ||| wI c = wI ((v * 256 + c : Nat) : Int) := by
  rw [wI_shl8 (by omega), wI_nat_or (by omega) (by omega)]
  have e := Nat.shiftLeft_add_eq_or_of_lt (i := 8) (b := c) (by omega) v
  rw [Nat.shiftLeft_eq, show (2 : Nat) ^ 8 = 256 from rfl] at e
  rw [← e]
/-- byte k of such a number -/
theorem byB_wv {c : Nat → Nat} {q k : Nat} (hc : ∀ j, c j ≤ 127) (hk : k < 4) : byB (wI ((wvN c q 4 : Nat) : Int)) k = ((c (4 * q + k) : Nat) : Int) := by
  obtain ⟨b1, b2, b3, b4⟩ := wvN_b (q := q) hc
  have h0 : wvN c q 0 = 0 := rfl
  have h1 : wvN c q 1 = wvN c q 0 * 256 + c (4 * q + 0) := rfl
  have h2 : wvN c q 2 = wvN c q 1 * 256 + c (4 * q + 1) := rfl
  have h3 : wvN c q 3 = wvN c q 2 * 256 + c (4 * q + 2) := rfl
  have h4 : wvN c q 4 = wvN c q 3 * 256 + c (4 * q + 3) := rfl
  have c0 := hc (4 * q + 0)
  have c1 := hc (4 * q + 1)
  have c2 := hc (4 * q + 2)
  have c3 := hc (4 * q + 3)
  unfold byB
  rw [show (24 - 8 * (k : Int)) = ((24 - 8 * k : Nat) : Int) by omega, wI_sar (by omega) (by omega), am_nb_toInt]
  have h5 : wvN c q 4 / 2 ^ (24 - 8 * k) ≤ wvN c q 4 := Nat.div_le_self _ _
  have h6 : -2147483648 ≤ ((wvN c q 4 / 2 ^ (24 - 8 * k) : Nat) : Int) ∧ ((wvN c q 4 / 2 ^ (24 - 8 * k) : Nat) : Int) < 2147483648 := by
    generalize wvN c q 4 / 2 ^ (24 - 8 * k) = u at h5
    omega
  rw [wI_toInt h6.1 h6.2, Int.bmod_def]
  have : k = 0 ∨ k = 1 ∨ k = 2 ∨ k = 3 := by omega
  rcases this with rfl | rfl | rfl | rfl
  · have e : wvN c q 4 / 2 ^ (24 - 8 * 0) = c (4 * q + 0) := by rw [show (2 : Nat) ^ (24 - 8 * 0) = 16777216 from rfl]; omega
    rw [e, if_pos (by omega)]; omega
  · have e : wvN c q 4 / 2 ^ (24 - 8 * 1) % 256 = c (4 * q + 1) := by rw [show (2 : Nat) ^ (24 - 8 * 1) = 65536 from rfl]; omega
    generalize wvN c q 4 / 2 ^ (24 - 8 * 1) = u at e ⊢
    rw [if_pos (by omega)]; omega
  · have e : wvN c q 4 / 2 ^ (24 - 8 * 2) % 256 = c (4 * q + 2) := by rw [show (2 : Nat) ^ (24 - 8 * 2) = 256 from rfl]; omega
    generalize wvN c q 4 / 2 ^ (24 - 8 * 2) = u at e ⊢
    rw [if_pos (by omega)]; omega
  · have e : wvN c q 4 / 2 ^ (24 - 8 * 3) % 256 = c (4 * q + 3) := by rw [show (2 : Nat) ^ (24 - 8 * 3) = 1 from rfl]; omega
    generalize wvN c q 4 / 2 ^ (24 - 8 * 3) = u at e ⊢
    rw [if_pos (by omega)]; omega
/-- the five numbers behind k letters -/
def wrF (c : Nat → Nat) (k : Nat) : Nat → Int := fun q => ((wvN c q (if k ≤ 4 * q then 0 else if 4 * q + 4 ≤ k then 4 else k - 4 * q) : Nat) : Int)
theorem wrF_0 (c : Nat → Nat) : wrF c 0 = fun _ => 0 := funext fun q => by
  unfold wrF
  rw [if_pos (by omega)]
  rfl
theorem wrF_20 {c : Nat → Nat} {q : Nat} (hq : q < 5) : wrF c 20 q = ((wvN c q 4 : Nat) : Int) := by
  unfold wrF
  rw [if_neg (by omega), if_pos (by omega)]
theorem wrF_k {c : Nat → Nat} {k : Nat} : wrF c k (k / 4) = ((wvN c (k / 4) (k % 4) : Nat) : Int) := by
  unfold wrF
  by_cases h : k ≤ 4 * (k / 4)
  · rw [if_pos h, show k % 4 = 0 by omega]
  · rw [if_neg h, if_neg (by omega), show k - 4 * (k / 4) = k % 4 by omega]
theorem wrF_s {c : Nat → Nat} {k : Nat} : up1 (wrF c k) (k / 4) ((wvN c (k / 4) (k % 4) * 256 + c k : Nat) : Int) = wrF c (k + 1) := funext fun q => by
  by_cases e : q = k / 4
  · subst e
    rw [up1_e]
    unfold wrF
    rw [if_neg (by omega)]
    have e1 : wvN c (k / 4) (k % 4 + 1) = wvN c (k / 4) (k % 4) * 256 + c k := by
      rw [wvN, show 4 * (k / 4) + k % 4 = k by omega]
    rw [← e1]
    by_cases h : 4 * (k / 4) + 4 ≤ k + 1
    · rw [if_pos h, show k % 4 + 1 = 4 by omega]
    · rw [if_neg h, show k + 1 - 4 * (k / 4) = k % 4 + 1 by omega]
  · rw [up1_n e]
    unfold wrF
    by_cases h : k ≤ 4 * q
    · rw [if_pos h]
      by_cases h2 : k + 1 ≤ 4 * q
      · rw [if_pos h2]
      · omega
    · rw [if_neg h, if_neg (show ¬ k + 1 ≤ 4 * q by omega), if_pos (show 4 * q + 4 ≤ k by omega), if_pos (show 4 * q + 4 ≤ k + 1 by omega)]
section FED
variable {z : Bool}
theorem g31 {X : am_H} {S V : Nat} {t : List Nat} (hg : gT X S V t) (ht : t.length ≤ 1000) (hb : ∀ j, j < t.length → t.getD j 0 ≤ 127) {i : Nat} (hi : i < t.length) : ru_ev z 31 [.ref S, .int (wI i)] X = some (.inl (some (.int (wI ((t.getD i 0 : Nat) : Int)))), X) := by
  obtain ⟨h, k, f, hk, h2, h3⟩ := hg
  have f0 : am_fd X S 50 0 = some (.ref V) := ru_fd h rfl
  have f1 : am_fd X S 50 1 = some (.int (wI 0)) := ru_fd h rfl
  have al : am_al X V = some (wI (t.length : Nat)) := ru_al h2 (by omega)
  have n0 : am_nb (wI 0) = wI 0 := by decide +kernel
  have a1 : wI 1 &&& 1 = wI 1 := by decide +kernel
  have d0 : ((1 : Int) = 0) = False := eq_false (by decide)
  have kc := k34 (z := z) (X := X) (i := (i : Int)) (n := ((t.length : Nat) : Int)) (by omega) (by omega) (by omega)
  have rd := ru_ba (z := (i : Int)) h2 (by omega) (by omega) (by omega) (by omega)
  rw [Int.toNat_natCast, h3 i hi] at rd
  have hbi := hb i hi
  obtain ⟨c1, c2⟩ := am_ch (v := ((t.getD i 0 : Nat) : Int)) (by omega) (by omega)
  have e33 : ru_ev z 33 [.ref V, .int (wI i)] X = some (.inl (some (.int (wI ((t.getD i 0 : Nat) : Int)))), X) := by
    simp (disch := omega) only [en33, e33_0, e33_1, e33_2, e33_3, e33_6, e33_7, e33_8, e33_9, e33_12, e33_13, e33_14, ↓reduceIte, Bool.false_eq_true, not_false_eq_true, not_true_eq_false, Nat.reduceLeDiff, Nat.reduceAdd, Nat.reduceEqDiff, Int.reduceToNat, Int.toNat_natCast, iB0, iB1, ru_klI, ru_klR, ru_klF, ru_klJ, ru_kl0, ru_cs0, ru_csI, ru_csR, ru_csF, ru_csJ, wI_add, wI_sub, wI_mul, wI_lt, wI_le, wI_inj, ru_fdE, ru_fdN, ru_iaN, ru_baN, ru_laN, ru_qaN, ru_pfN, ru_isN, ru_bsN, ru_jsN, ru_qsN, ru_set2, Nat.add_right_cancel_iff, if_true, if_false, ite_self, Int.reduceEq, and_self, Int.add_neg_cancel_right, Int.add_zero, Int.zero_add, al, kc, rd, c1, c2]
  have e32 : ru_ev z 32 [.ref S] X = some (.inl (some (.int (wI 1))), X) := by
    simp (disch := omega) only [en32, e32_0, e32_3, e32_6, e32_7, e32_10, e32_13, e32_14, e32_18, ↓reduceIte, Bool.false_eq_true, not_false_eq_true, not_true_eq_false, Nat.reduceLeDiff, Nat.reduceAdd, Nat.reduceEqDiff, Int.reduceToNat, Int.toNat_natCast, iB0, iB1, ru_klI, ru_klR, ru_klF, ru_klJ, ru_kl0, ru_cs0, ru_csI, ru_csR, ru_csF, ru_csJ, wI_add, wI_sub, wI_mul, wI_lt, wI_le, wI_inj, ru_fdE, ru_fdN, ru_iaN, ru_baN, ru_laN, ru_qaN, ru_pfN, ru_isN, ru_bsN, ru_jsN, ru_qsN, ru_set2, Nat.add_right_cancel_iff, if_true, if_false, ite_self, Int.reduceEq, and_self, Int.add_neg_cancel_right, Int.add_zero, Int.zero_add, h, f1, n0, a1, d0]
  simp (disch := omega) only [en31, e31_0, e31_1, e31_4, e31_7, e31_8, e31_11, e31_12, e31_15, ↓reduceIte, Bool.false_eq_true, not_false_eq_true, not_true_eq_false, Nat.reduceLeDiff, Nat.reduceAdd, Nat.reduceEqDiff, Int.reduceToNat, Int.toNat_natCast, iB0, iB1, ru_klI, ru_klR, ru_klF, ru_klJ, ru_kl0, ru_cs0, ru_csI, ru_csR, ru_csF, ru_csJ, wI_add, wI_sub, wI_mul, wI_lt, wI_le, wI_inj, ru_fdE, ru_fdN, ru_iaN, ru_baN, ru_laN, ru_qaN, ru_pfN, ru_isN, ru_bsN, ru_jsN, ru_qsN, ru_set2, Nat.add_right_cancel_iff, if_true, if_false, ite_self, Int.reduceEq, and_self, Int.add_neg_cancel_right, Int.add_zero, Int.zero_add, h, f0, e32, e33, d0, c2]
/-- the letters of a round: of the text, and blanks behind it -/
def chF (t : List Nat) (i : Nat) : Nat → Nat := fun k => if i + k < t.length then t.getD (i + k) 0 else 32
theorem chF_b {t : List Nat} (hb : ∀ j, j < t.length → t.getD j 0 ≤ 127) (i j : Nat) : chF t i j ≤ 127 := by
  unfold chF
  split
  · exact hb _ (by assumption)
  · omega
theorem d402i {X : am_H} {Q V i : Nat} {t : List Nat} (hg : ∀ g : Nat → Int, gT (am_new X (ylI 0 5 g) 5) Q V t) (ht : t.length ≤ 900) (hb : ∀ j, j < t.length → t.getD j 0 ≤ 127) (hi : i ≤ 1000) : ∀ d k : Nat, k + d = 20 → ru_n z 402 17 [some (.ref 1000), some (.ref Q), some (.int (wI i)), some (.ref X.2.1), some (.int (wI k))] [] (am_new X (ylI 0 5 (wrF (chF t i) k)) 5) = ru_n z 402 70 [some (.ref 1000), some (.ref Q), some (.int (wI i)), some (.ref X.2.1), some (.int (wI 20))] [] (am_new X (ylI 0 5 (wrF (chF t i) 20)) 5) := by
  intro d
  induction d with
  | zero =>
    intro k hk
    obtain rfl : k = 20 := by omega
    have d1 : ((20 : Int) ≤ ((20 : Nat) : Int)) = True := eq_true (by omega)
    simp (disch := omega) only [e402_17, e402_19, e402_21, ↓reduceIte, Bool.false_eq_true, not_false_eq_true, not_true_eq_false, Nat.reduceLeDiff, Nat.reduceAdd, Nat.reduceEqDiff, Int.reduceToNat, Int.toNat_natCast, iB0, iB1, ru_klI, ru_klR, ru_klF, ru_klJ, ru_kl0, ru_cs0, ru_csI, ru_csR, ru_csF, ru_csJ, wI_add, wI_sub, wI_mul, wI_lt, wI_le, wI_inj, ru_fdE, ru_fdN, ru_iaN, ru_baN, ru_laN, ru_qaN, ru_pfN, ru_isN, ru_bsN, ru_jsN, ru_qsN, ru_set2, Nat.add_right_cancel_iff, if_true, if_false, ite_self, Int.reduceEq, and_self, Int.add_neg_cancel_right, Int.add_zero, Int.zero_add, d1]
    rfl
  | succ d ih =>
    intro k hk
    rw [← ih (k + 1) (by omega), e402_17]
    have d1 : ((20 : Int) ≤ (k : Int)) = False := eq_false (by omega)
    have dv : wI (k : Int) / wI 4 = wI ((k / 4 : Nat) : Int) := by rw [wI_div (by omega) (by omega) (by omega) (by omega)]; rfl
    have d4 : (wI 4 = 0) = False := wI_ne0 (by omega) (by omega)
    have hl := g29 (z := z) (hg (wrF (chF t i) k)) (by omega)
    have rd : am_ia (am_new X (ylI 0 5 (wrF (chF t i) k)) 5) X.2.1 (wI ((k / 4 : Nat) : Int)) = some (wI ((wvN (chF t i) (k / 4) (k % 4) : Nat) : Int)) := by
      rw [nw_ia (by omega) (by omega) (by omega), Int.toNat_natCast, wrF_k]
    have pt := wI_put (v := wvN (chF t i) (k / 4) (k % 4)) (c := chF t i k) (wvN_b3 (chF_b hb i) (by omega)) (chF_b hb i k)
    have wr : am_is (am_new X (ylI 0 5 (wrF (chF t i) k)) 5) X.2.1 (wI ((k / 4 : Nat) : Int)) (wI ((wvN (chF t i) (k / 4) (k % 4) * 256 + chF t i k : Nat) : Int)) = some (am_new X (ylI 0 5 (wrF (chF t i) (k + 1))) 5) := by
      rw [nw_is (by omega) (by omega) (by omega), Int.toNat_natCast, wrF_s]
    simp only [Int.natCast_add, Int.natCast_one]
    by_cases c : i + k < t.length
    · have d2 : ((t.length : Int) ≤ (i : Int) + (k : Int)) = False := eq_false (by omega)
      have ch := g31 (z := z) (hg (wrF (chF t i) k)) (by omega) hb (i := i + k) c
      rw [Int.natCast_add] at ch
      have ec : chF t i k = t.getD (i + k) 0 := if_pos c
      rw [ec] at pt wr
      simp (disch := omega) only [e402_19, e402_21, e402_24, e402_25, e402_27, e402_28, e402_29, e402_30, e402_32, e402_33, e402_34, e402_35, e402_37, e402_38, e402_39, e402_41, e402_42, e402_43, e402_46, e402_49, e402_50, e402_51, e402_53, e402_54, e402_57, e402_60, e402_62, e402_63, e402_64, e402_67, ↓reduceIte, Bool.false_eq_true, not_false_eq_true, not_true_eq_false, Nat.reduceLeDiff, Nat.reduceAdd, Nat.reduceEqDiff, Int.reduceToNat, Int.toNat_natCast, iB0, iB1, ru_klI, ru_klR, ru_klF, ru_klJ, ru_kl0, ru_cs0, ru_csI, ru_csR, ru_csF, ru_csJ, wI_add, wI_sub, wI_mul, wI_lt, wI_le, wI_inj, ru_fdE, ru_fdN, ru_iaN, ru_baN, ru_laN, ru_qaN, ru_pfN, ru_isN, ru_bsN, ru_jsN, ru_qsN, ru_set2, Nat.add_right_cancel_iff, if_true, if_false, ite_self, Int.reduceEq, and_self, Int.add_neg_cancel_right, Int.add_zero, Int.zero_add, d1, dv, d4, rd, hl, d2, ch, pt, wr]
    · have d2 : ((t.length : Int) ≤ (i : Int) + (k : Int)) = True := eq_true (by omega)
      have ec : chF t i k = 32 := if_neg c
      rw [ec] at pt wr
      have pt' : wI ((wvN (chF t i) (k / 4) (k % 4) : Nat) : Int) <<< (wI 8 &&& 31) ||| wI 32 = wI ((wvN (chF t i) (k / 4) (k % 4) * 256 + 32 : Nat) : Int) := pt
      simp (disch := omega) only [e402_19, e402_21, e402_24, e402_25, e402_27, e402_28, e402_29, e402_30, e402_32, e402_33, e402_34, e402_35, e402_37, e402_38, e402_39, e402_41, e402_42, e402_43, e402_46, e402_49, e402_50, e402_51, e402_53, e402_54, e402_57, e402_60, e402_62, e402_63, e402_64, e402_67, ↓reduceIte, Bool.false_eq_true, not_false_eq_true, not_true_eq_false, Nat.reduceLeDiff, Nat.reduceAdd, Nat.reduceEqDiff, Int.reduceToNat, Int.toNat_natCast, iB0, iB1, ru_klI, ru_klR, ru_klF, ru_klJ, ru_kl0, ru_cs0, ru_csI, ru_csR, ru_csF, ru_csJ, wI_add, wI_sub, wI_mul, wI_lt, wI_le, wI_inj, ru_fdE, ru_fdN, ru_iaN, ru_baN, ru_laN, ru_qaN, ru_pfN, ru_isN, ru_bsN, ru_jsN, ru_qsN, ru_set2, Nat.add_right_cancel_iff, if_true, if_false, ite_self, Int.reduceEq, and_self, Int.add_neg_cancel_right, Int.add_zero, Int.zero_add, d1, dv, d4, rd, hl, d2, pt', wr]
end FED
