/-! ===== the class arranges a picture: places, order ===== -/
theorem up_654 (G : Nat → Nat → Int) (T B L T' B' : Nat → Int) : upC (upC (upC (upC G 6 T) 5 B) 4 L) 6 T' = upC (upC (upC G 6 T') 5 B) 4 L ∧ upC (upC (upC (upC G 6 T) 5 B) 4 L) 5 B' = upC (upC (upC G 6 T) 5 B') 4 L := by
  constructor
  · funext c
    unfold upC
    by_cases e4 : c = 4
    · subst e4; rfl
    · by_cases e5 : c = 5
      · subst e5; rfl
      · by_cases e6 : c = 6
        · subst e6; rfl
        · simp only [e4, e5, e6, if_false]
  · funext c
    unfold upC
    by_cases e4 : c = 4
    · subst e4; rfl
    · by_cases e5 : c = 5
      · subst e5; rfl
      · by_cases e6 : c = 6
        · subst e6; rfl
        · simp only [e4, e5, e6, if_false]
def rvF (row : Nat → Int) (e : Nat → Nat) : Nat → Int
  | 0 => -1
  | i + 1 => row (e i)
section ARR2
variable {z : Bool} {h : am_H} {C : tCl} {P : Nat}
theorem k87a (hP : isPi P) {p : tPi} {n : Nat} {o : Nat → Nat} {row x : Nat → Int} (hn : n ≤ 12) (h0 : p.1 0 = (n : Int)) (ho : ∀ i, i < n → p.2 2 i = (o i : Int) ∧ o i < 12 ∧ p.2 3 (o i) = row (o i) ∧ p.2 0 (o i) = x (o i)) : ∀ d i, i + d = n → ∀ (f : Nat → Int) (l2 l3 : Option Value), (∀ j, j < i → f j = kyR row x (o j)) → ∃ (f' : Nat → Int) (l2' : Option Value), (∀ j, j < n → f' j = kyR row x (o j)) ∧
    ru_n z 87 2 [some (.ref P), some (.int (wI i)), l2, l3] [] (clPut h (piPut C P (p.1, upC p.2 7 f))) = ru_n z 87 51 [some (.ref P), some (.int (wI n)), l2', l3] [] (clPut h (piPut C P (p.1, upC p.2 7 f'))) := by
  intro d
  induction d with
  | zero =>
    intro i hi f l2 l3 hf
    obtain rfl : i = n := by omega
    refine ⟨f, l2, hf, ?_⟩
    have c : ((i : Int) ≤ (i : Int)) = True := eq_true (Int.le_refl _)
    simp (disch := omega) only [e87_2, e87_3, e87_4, e87_7, ↓reduceIte, Bool.false_eq_true, not_false_eq_true, not_true_eq_false, Nat.reduceLeDiff, Nat.reduceAdd, Nat.reduceEqDiff, Int.reduceToNat, Int.toNat_natCast, iB0, iB1, ru_klI, ru_klR, ru_klF, ru_klJ, ru_kl0, ru_cs0, ru_csI, ru_csR, ru_csF, ru_csJ, wI_add, wI_sub, wI_mul, wI_lt, wI_le, wI_inj, ru_fdE, ru_fdN, ru_iaN, ru_baN, ru_laN, ru_qaN, ru_pfN, ru_isN, ru_bsN, ru_jsN, ru_qsN, ru_set2, Nat.add_right_cancel_iff, if_true, if_false, ite_self, pi_e hP, pi_f0 hP, pi_s0 hP, pi_f1 hP, pi_s1 hP, pi_f2 hP, pi_a0 hP, pi_w0 hP, pi_f3 hP, pi_a1 hP, pi_w1 hP, pi_f4 hP, pi_a2 hP, pi_w2 hP, pi_f5 hP, pi_a3 hP, pi_w3 hP, pi_f6 hP, pi_a4 hP, pi_w4 hP, pi_f7 hP, pi_a5 hP, pi_w5 hP, pi_f8 hP, pi_a6 hP, pi_w6 hP, pi_f9 hP, pi_a7 hP, pi_w7 hP, pi_f10 hP, pi_a8 hP, pi_w8 hP, pi_f11 hP, pi_a9 hP, pi_w9 hP, ru_ctR, ru_ctI, upC_e, upC_n, upC_up, up1_e, up1_n, h0, c]
  | succ d ih =>
    intro i hi f l2 l3 hf
    obtain ⟨o1, o2, o3, o4⟩ := ho i (by omega)
    obtain ⟨f', l2', t1, t2⟩ := ih (i + 1) (by omega) (up1 f i (kyR row x (o i))) (some (.int (wI (o i)))) l3 (fun j hj => by
      unfold up1
      by_cases e : j = i
      · subst e; rw [if_pos rfl]
      · rw [if_neg e]; exact hf j (by omega))
    refine ⟨f', l2', t1, ?_⟩
    rw [← t2]
    have c : ((n : Int) ≤ (i : Int)) = False := eq_false (by omega)
    have ek : (row (o i) * 1000 + x (o i)) * 12 + ((o i : Nat) : Int) = kyR row x (o i) := rfl
    rw [e87_2]
    simp (disch := omega) only [e87_3, e87_4, e87_7, e87_10, e87_11, e87_14, e87_15, e87_16, e87_17, e87_18, e87_21, e87_22, e87_23, e87_26, e87_27, e87_28, e87_31, e87_32, e87_33, e87_36, e87_37, e87_38, e87_39, e87_41, e87_42, e87_43, e87_44, e87_45, e87_48, ↓reduceIte, Bool.false_eq_true, not_false_eq_true, not_true_eq_false, Nat.reduceLeDiff, Nat.reduceAdd, Nat.reduceEqDiff, Int.reduceToNat, Int.toNat_natCast, iB0, iB1, ru_klI, ru_klR, ru_klF, ru_klJ, ru_kl0, ru_cs0, ru_csI, ru_csR, ru_csF, ru_csJ, wI_add, wI_sub, wI_mul, wI_lt, wI_le, wI_inj, ru_fdE, ru_fdN, ru_iaN, ru_baN, ru_laN, ru_qaN, ru_pfN, ru_isN, ru_bsN, ru_jsN, ru_qsN, ru_set2, Nat.add_right_cancel_iff, if_true, if_false, ite_self, pi_e hP, pi_f0 hP, pi_s0 hP, pi_f1 hP, pi_s1 hP, pi_f2 hP, pi_a0 hP, pi_w0 hP, pi_f3 hP, pi_a1 hP, pi_w1 hP, pi_f4 hP, pi_a2 hP, pi_w2 hP, pi_f5 hP, pi_a3 hP, pi_w3 hP, pi_f6 hP, pi_a4 hP, pi_w4 hP, pi_f7 hP, pi_a5 hP, pi_w5 hP, pi_f8 hP, pi_a6 hP, pi_w6 hP, pi_f9 hP, pi_a7 hP, pi_w7 hP, pi_f10 hP, pi_a8 hP, pi_w8 hP, pi_f11 hP, pi_a9 hP, pi_w9 hP, ru_ctR, ru_ctI, upC_e, upC_n, upC_up, up1_e, up1_n, h0, c, o1, o3, o4, ek, Int.natCast_add, Int.natCast_one]
theorem k87b (hP : isPi P) {p : tPi} {S : Nat → Bool} {n : Nat} {e : Nat → Nat} {row x : Nat → Int} (hn : n ≤ 12) (h0 : p.1 0 = (n : Int)) (hE : enO S (kyR row x) n e) (hx : ∀ k, k < 12 → S k = true → 0 ≤ x k ∧ x k ≤ 999) (hw : ∀ k, k < 12 → S k = true → 0 ≤ row k ∧ row k < 12) (he : ∀ i, i < n → p.2 7 i % 12 = (e i : Int) ∧ 0 ≤ p.2 7 i ∧ p.2 7 i < 2147483648 ∧ p.2 3 (e i) = row (e i)) : ∀ d i, i + d = n → ∀ (T B L : Nat → Int) (l3 : Option Value),
    (∀ j, j < i → B j = (e j : Int) ∧ T (row (e j)).toNat = (rsN S row (row (e j)) : Nat) ∧ L (e j) = (lfN S row x (e j) : Nat)) → (∀ k, k < 12 → (∀ j, j < i → e j ≠ k) → L k = -1) → ∃ (T' B' L' : Nat → Int) (l1 l2 l3' : Option Value), (∀ j, j < n → B' j = (e j : Int) ∧ T' (row (e j)).toNat = (rsN S row (row (e j)) : Nat) ∧ L' (e j) = (lfN S row x (e j) : Nat)) ∧ (∀ k, k < 12 → (∀ j, j < n → e j ≠ k) → L' k = -1) ∧
    ru_n z 87 59 [some (.ref P), some (.int (wI (rvF row e i))), some (.int (wI i)), l3] [] (clPut h (piPut C P (p.1, upC (upC (upC p.2 6 T) 5 B) 4 L))) = ru_n z 87 128 [some (.ref P), l1, l2, l3'] [] (clPut h (piPut C P (p.1, upC (upC (upC p.2 6 T') 5 B') 4 L'))) := by
  intro d
  induction d with
  | zero =>
    intro i hi T B L l3 h1 h2
    obtain rfl : i = n := by omega
    refine ⟨T, B, L, some (.int (wI (rvF row e i))), some (.int (wI i)), l3, h1, h2, ?_⟩
    have c : ((i : Int) ≤ (i : Int)) = True := eq_true (Int.le_refl _)
    simp (disch := omega) only [e87_59, e87_60, e87_61, e87_64, ↓reduceIte, Bool.false_eq_true, not_false_eq_true, not_true_eq_false, Nat.reduceLeDiff, Nat.reduceAdd, Nat.reduceEqDiff, Int.reduceToNat, Int.toNat_natCast, iB0, iB1, ru_klI, ru_klR, ru_klF, ru_klJ, ru_kl0, ru_cs0, ru_csI, ru_csR, ru_csF, ru_csJ, wI_add, wI_sub, wI_mul, wI_lt, wI_le, wI_inj, ru_fdE, ru_fdN, ru_iaN, ru_baN, ru_laN, ru_qaN, ru_pfN, ru_isN, ru_bsN, ru_jsN, ru_qsN, ru_set2, Nat.add_right_cancel_iff, if_true, if_false, ite_self, pi_e hP, pi_f0 hP, pi_s0 hP, pi_f1 hP, pi_s1 hP, pi_f2 hP, pi_a0 hP, pi_w0 hP, pi_f3 hP, pi_a1 hP, pi_w1 hP, pi_f4 hP, pi_a2 hP, pi_w2 hP, pi_f5 hP, pi_a3 hP, pi_w3 hP, pi_f6 hP, pi_a4 hP, pi_w4 hP, pi_f7 hP, pi_a5 hP, pi_w5 hP, pi_f8 hP, pi_a6 hP, pi_w6 hP, pi_f9 hP, pi_a7 hP, pi_w7 hP, pi_f10 hP, pi_a8 hP, pi_w8 hP, pi_f11 hP, pi_a9 hP, pi_w9 hP, ru_ctR, ru_ctI, upC_e, upC_n, upC_up, up1_e, up1_n, h0, c]
  | succ d ih =>
    intro i hi T B L l3 h1 h2
    obtain ⟨o1, o2, o3, o4⟩ := he i (by omega)
    have hS := hE.1 i (by omega)
    have hW := hw _ hS.1 hS.2
    have hrk := enO_rk hE (show i < n by omega)
    rw [rk_kyR hx hS.1 hS.2] at hrk
    have ht : ((row (e i)).toNat : Int) = row (e i) := by omega
    have key : ∃ T' : Nat → Int, (∀ j, j ≤ i → T' (row (e j)).toNat = (rsN S row (row (e j)) : Nat)) ∧
        ru_n z 87 59 [some (.ref P), some (.int (wI (rvF row e i))), some (.int (wI i)), l3] [] (clPut h (piPut C P (p.1, upC (upC (upC p.2 6 T) 5 B) 4 L))) = ru_n z 87 101 [some (.ref P), some (.int (wI (row (e i)))), some (.int (wI i)), some (.int (wI (e i)))] [] (clPut h (piPut C P (p.1, upC (upC (upC p.2 6 T') 5 B) 4 L))) := by
      have c : ((n : Int) ≤ (i : Int)) = False := eq_false (by omega)
      have hv : -1 ≤ rvF row e i ∧ rvF row e i < 12 := by
        cases i with
        | zero => simp only [rvF]; omega
        | succ i =>
          have := hE.1 i (by omega)
          have := hw _ this.1 this.2
          simp only [rvF]; omega
      by_cases hq : row (e i) = rvF row e i
      · refine ⟨T, fun j hj => ?_, ?_⟩
        · by_cases ej : j = i
          · subst ej
            cases j with
            | zero => simp only [rvF] at hq; omega
            | succ j =>
              simp only [rvF] at hq
              rw [hq]
              exact (h1 j (by omega)).2.1
          · exact (h1 j (by omega)).2.1
        · have c2 : (row (e i) = rvF row e i) = True := eq_true hq
          simp (disch := omega) only [e87_59, e87_60, e87_61, e87_64, e87_67, e87_68, e87_71, e87_72, e87_73, e87_75, e87_76, e87_77, e87_78, e87_81, e87_82, e87_83, e87_84, ↓reduceIte, Bool.false_eq_true, not_false_eq_true, not_true_eq_false, Nat.reduceLeDiff, Nat.reduceAdd, Nat.reduceEqDiff, Int.reduceToNat, Int.toNat_natCast, iB0, iB1, ru_klI, ru_klR, ru_klF, ru_klJ, ru_kl0, ru_cs0, ru_csI, ru_csR, ru_csF, ru_csJ, wI_add, wI_sub, wI_mul, wI_lt, wI_le, wI_inj, ru_fdE, ru_fdN, ru_iaN, ru_baN, ru_laN, ru_qaN, ru_pfN, ru_isN, ru_bsN, ru_jsN, ru_qsN, ru_set2, Nat.add_right_cancel_iff, if_true, if_false, ite_self, pi_e hP, pi_f0 hP, pi_s0 hP, pi_f1 hP, pi_s1 hP, pi_f2 hP, pi_a0 hP, pi_w0 hP, pi_f3 hP, pi_a1 hP, pi_w1 hP, pi_f4 hP, pi_a2 hP, pi_w2 hP, pi_f5 hP, pi_a3 hP, pi_w3 hP, pi_f6 hP, pi_a4 hP, pi_w4 hP, pi_f7 hP, pi_a5 hP, pi_w5 hP, pi_f8 hP, pi_a6 hP, pi_w6 hP, pi_f9 hP, pi_a7 hP, pi_w7 hP, pi_f10 hP, pi_a8 hP, pi_w8 hP, pi_f11 hP, pi_a9 hP, pi_w9 hP, ru_ctR, ru_ctI, upC_e, upC_n, upC_up, up1_e, up1_n, h0, c, o1, o4, wI_rem, wI_ne0, c2]
          rw [hq]
      · refine ⟨up1 T (row (e i)).toNat i, fun j hj => ?_, ?_⟩
        · have hf : rsN S row (row (e i)) = i := by
            refine er_first hE hx (by omega) ?_
            cases i with
            | zero => exact Or.inl rfl
            | succ i => exact Or.inr (fun c => hq (by rw [Nat.add_sub_cancel] at c; exact c.symm))
          unfold up1
          by_cases c2 : (row (e j)).toNat = (row (e i)).toNat
          · rw [if_pos c2]
            have hSj := hE.1 j (by omega)
            have hWj := hw _ hSj.1 hSj.2
            have : row (e j) = row (e i) := by omega
            rw [this, hf]
          · rw [if_neg c2]
            by_cases ej : j = i
            · subst ej; exact absurd rfl c2
            · exact (h1 j (by omega)).2.1
        · have c2 : (row (e i) = rvF row e i) = False := eq_false hq
          have hu := (up_654 p.2 T B L (up1 T (row (e i)).toNat i) B).1
          simp (disch := omega) only [e87_59, e87_60, e87_61, e87_64, e87_67, e87_68, e87_71, e87_72, e87_73, e87_75, e87_76, e87_77, e87_78, e87_81, e87_82, e87_83, e87_84, e87_87, e87_88, e87_91, e87_92, e87_93, e87_94, e87_95, e87_98, e87_99, e87_100, ↓reduceIte, Bool.false_eq_true, not_false_eq_true, not_true_eq_false, Nat.reduceLeDiff, Nat.reduceAdd, Nat.reduceEqDiff, Int.reduceToNat, Int.toNat_natCast, iB0, iB1, ru_klI, ru_klR, ru_klF, ru_klJ, ru_kl0, ru_cs0, ru_csI, ru_csR, ru_csF, ru_csJ, wI_add, wI_sub, wI_mul, wI_lt, wI_le, wI_inj, ru_fdE, ru_fdN, ru_iaN, ru_baN, ru_laN, ru_qaN, ru_pfN, ru_isN, ru_bsN, ru_jsN, ru_qsN, ru_set2, Nat.add_right_cancel_iff, if_true, if_false, ite_self, pi_e hP, pi_f0 hP, pi_s0 hP, pi_f1 hP, pi_s1 hP, pi_f2 hP, pi_a0 hP, pi_w0 hP, pi_f3 hP, pi_a1 hP, pi_w1 hP, pi_f4 hP, pi_a2 hP, pi_w2 hP, pi_f5 hP, pi_a3 hP, pi_w3 hP, pi_f6 hP, pi_a4 hP, pi_w4 hP, pi_f7 hP, pi_a5 hP, pi_w5 hP, pi_f8 hP, pi_a6 hP, pi_w6 hP, pi_f9 hP, pi_a7 hP, pi_w7 hP, pi_f10 hP, pi_a8 hP, pi_w8 hP, pi_f11 hP, pi_a9 hP, pi_w9 hP, ru_ctR, ru_ctI, upC_e, upC_n, upC_up, up1_e, up1_n, h0, c, o1, o4, wI_rem, wI_ne0, c2, hu]
    obtain ⟨T2, k1, k2⟩ := key
    obtain ⟨T', B', L', l1, l2, l3', t1, t2, t3⟩ := ih (i + 1) (by omega) T2 (up1 B i (e i)) (up1 L (e i) (lfN S row x (e i) : Nat)) (some (.int (wI (e i)))) (fun j hj => by
      refine ⟨?_, k1 j (by omega), ?_⟩
      · unfold up1
        by_cases c : j = i
        · subst c; rw [if_pos rfl]
        · rw [if_neg c]; exact (h1 j (by omega)).1
      · unfold up1
        by_cases c : e j = e i
        · rw [if_pos c, c]
        · rw [if_neg c]
          by_cases c2 : j = i
          · subst c2; exact absurd rfl c
          · exact (h1 j (by omega)).2.2) (fun k hk hne => by
      unfold up1
      rw [if_neg (fun c => hne i (by omega) c.symm)]
      exact h2 k hk (fun j hj => hne j (by omega)))
    refine ⟨T', B', L', l1, l2, l3', t1, t2, ?_⟩
    rw [← t3, k2]
    have e3 := k1 i (Nat.le_refl _)
    have e4 : (i : Int) - ((rsN S row (row (e i)) : Nat) : Int) = (lfN S row x (e i) : Nat) := by omega
    have e5 : rvF row e (i + 1) = row (e i) := rfl
    have hu := (up_654 p.2 T2 B L T2 (up1 B i (e i))).2
    simp (disch := omega) only [e87_101, e87_102, e87_105, e87_106, e87_107, e87_108, e87_109, e87_112, e87_113, e87_114, e87_115, e87_118, e87_119, e87_120, e87_121, e87_122, e87_125, ↓reduceIte, Bool.false_eq_true, not_false_eq_true, not_true_eq_false, Nat.reduceLeDiff, Nat.reduceAdd, Nat.reduceEqDiff, Int.reduceToNat, Int.toNat_natCast, iB0, iB1, ru_klI, ru_klR, ru_klF, ru_klJ, ru_kl0, ru_cs0, ru_csI, ru_csR, ru_csF, ru_csJ, wI_add, wI_sub, wI_mul, wI_lt, wI_le, wI_inj, ru_fdE, ru_fdN, ru_iaN, ru_baN, ru_laN, ru_qaN, ru_pfN, ru_isN, ru_bsN, ru_jsN, ru_qsN, ru_set2, Nat.add_right_cancel_iff, if_true, if_false, ite_self, pi_e hP, pi_f0 hP, pi_s0 hP, pi_f1 hP, pi_s1 hP, pi_f2 hP, pi_a0 hP, pi_w0 hP, pi_f3 hP, pi_a1 hP, pi_w1 hP, pi_f4 hP, pi_a2 hP, pi_w2 hP, pi_f5 hP, pi_a3 hP, pi_w3 hP, pi_f6 hP, pi_a4 hP, pi_w4 hP, pi_f7 hP, pi_a5 hP, pi_w5 hP, pi_f8 hP, pi_a6 hP, pi_w6 hP, pi_f9 hP, pi_a7 hP, pi_w7 hP, pi_f10 hP, pi_a8 hP, pi_w8 hP, pi_f11 hP, pi_a9 hP, pi_w9 hP, ru_ctR, ru_ctI, upC_e, upC_n, upC_up, up1_e, up1_n, hu, e3, e4, e5, Int.natCast_add, Int.natCast_one]
theorem k87 (hP : isPi P) {p : tPi} {S : Nat → Bool} {row x y : Nat → Int} {gap rc : Int} {n : Nat} {o : Nat → Nat} (hn : n ≤ 12) (h0 : p.1 0 = (n : Int)) (h1 : p.1 1 = rc) (ho : enO S (fun k => (k : Int)) n o) (hp2 : ∀ i, i < n → p.2 2 i = (o i : Int)) (hx : ∀ k, k < 12 → S k = true → p.2 0 k = x k ∧ 0 ≤ x k ∧ x k ≤ 999) (hrow : p.2 3 = row) (hw : rwOK S y gap row rc) (hm : ∀ k, k < 12 → p.2 4 k = -1) : ∃ (g T B L : Nat → Int) (er : Nat → Nat), enO S (kyR row x) n er ∧ (∀ i, i < n → B i = (er i : Int)) ∧ (∀ k, k < 12 → L k = plF S row x k) ∧ (∀ r : Nat, (r : Int) ≤ rc → T r = (rsN S row r : Nat)) ∧
    ru_ev z 87 [.ref P] (clPut h (piPut C P p)) = some (.inl none, clPut h (piPut C P (p.1, upC (upC (upC (upC p.2 7 g) 6 T) 5 B) 4 L))) := by
  have hwr : ∀ k, k < 12 → S k = true → 0 ≤ row k ∧ row k < 12 := fun k hk hs => by have := rwOK_rng hw hk hs; omega
  have hxr : ∀ k, k < 12 → S k = true → 0 ≤ x k ∧ x k ≤ 999 := fun k hk hs => (hx k hk hs).2
  obtain ⟨f, l2, f1, f2⟩ := k87a (z := z) (h := h) (C := C) hP (p := p) (o := o) (row := row) (x := x) hn h0 (fun i hi => by
    have k1 := ho.1 i hi
    exact ⟨hp2 i hi, k1.1, by rw [hrow], (hx _ k1.1 k1.2).1⟩) n 0 (by omega) (p.2 7) none none (fun j hj => by omega)
  have kr : ∀ k, k < 12 → S k = true → 0 ≤ kyR row x k ∧ kyR row x k < 20000000 ∧ kyR row x k % 12 = (k : Int) := fun k hk hs => kyR_rng (by have := hwr k hk hs; omega) (hxr k hk hs) hk
  obtain ⟨g, g1, g2⟩ := k86 (z := z) (h := h) (C := C) hP (p := (p.1, upC p.2 7 f)) hn h0 (fun j hj => by
    have k1 := ho.1 j hj
    have k2 := kr _ k1.1 k1.2
    dsimp only; rw [upC_e, f1 j hj]; omega) (fun a b ha hb hab => by
    dsimp only at hab; rw [upC_e, f1 a ha, f1 b hb] at hab
    have k1 := ho.1 a ha
    have k2 := ho.1 b hb
    have k3 := kr _ k1.1 k1.2
    have k4 := kr _ k2.1 k2.2
    exact enO_inj ho ha hb (by rw [hab] at k3; omega))
  dsimp only at g1
  rw [upC_e] at g1
  have g1' : srtB (fun i => kyR row x (o i)) g n := ⟨g1.1, fun i hi => by
    obtain ⟨j, hj, e⟩ := g1.2.1 i hi
    exact ⟨j, hj, by rw [e, f1 j hj]⟩, fun j hj => by
    obtain ⟨i, hi, e⟩ := g1.2.2 j hj
    exact ⟨i, hi, by rw [e, f1 j hj]⟩⟩
  obtain ⟨s1, s2⟩ := srt_en' (S := S) (key := kyR row x) (fun k hk hs => (kr k hk hs).2.2) ho.1 ho.2.2 g1'
  obtain ⟨T, B, L, l1, l2', l3, t1, t2, t3⟩ := k87b (z := z) (h := h) (C := C) hP (p := (p.1, upC p.2 7 g)) (S := S) (e := fun i => (g i % 12).toNat) (row := row) (x := x) hn h0 s1 hxr hwr (fun i hi => by
    have k1 := s1.1 i hi
    have k3 := s2 i hi
    have k4 := kr _ k1.1 k1.2
    rw [k3.1] at k4
    refine ⟨by dsimp only; rw [upC_e]; exact k3.2, by dsimp only; rw [upC_e]; omega, by dsimp only; rw [upC_e]; omega, by dsimp only; rw [upC_n (by decide), hrow]⟩) n 0 (by omega) (p.2 6) (p.2 5) (p.2 4) none (fun j hj => by omega) (fun k hk _ => hm k hk)
  have hrc := rwOK_rc hw
  refine ⟨g, up1 T rc.toNat n, B, L, _, s1, fun i hi => (t1 i hi).1, fun k hk => ?_, fun r hr => ?_, ?_⟩
  · unfold plF
    by_cases hs : S k = true
    · rw [if_pos hs]
      obtain ⟨i, hi, hik⟩ := s1.2.2 k hk hs
      have := (t1 i hi).2.2
      dsimp only at this hik
      rw [hik] at this
      exact this
    · rw [if_neg hs]
      exact t2 k hk (fun j hj he => hs (by rw [← he]; exact (s1.1 j hj).2))
  · unfold up1
    by_cases e : r = rc.toNat
    · rw [if_pos e]
      have e2 : (r : Int) = rc := by omega
      rw [e2, ← enO_n s1]
      congr 1
      unfold rsN
      refine cnB_congr fun k hk => ?_
      by_cases hs : S k = true
      · have := rwOK_rng hw hk hs
        rw [hs, Bool.true_and, decide_eq_true this.2.1]
      · simp [hs]
    · rw [if_neg e]
      obtain ⟨k, k1, k2, k3⟩ := rwOK_surj hw (r := r) (by omega)
      obtain ⟨i, hi, hik⟩ := s1.2.2 k k1 k2
      have := (t1 i hi).2.1
      dsimp only at this hik
      rw [hik, k3] at this
      exact this
  · rw [upC_self] at f2
    simp (disch := omega) only [upC_up] at g2
    have e1 : rvF row (fun i => (g i % 12).toNat) 0 = -1 := rfl
    have e2 : upC (upC (upC (upC p.2 7 g) 6 (p.2 6)) 5 (p.2 5)) 4 (p.2 4) = upC p.2 7 g := by
      funext c j
      unfold upC
      by_cases e4 : c = 4
      · subst e4; rfl
      · by_cases e5 : c = 5
        · subst e5; rfl
        · by_cases e6 : c = 6
          · subst e6; rfl
          · simp only [e4, e5, e6, if_false]
    rw [e1, e2] at t3
    rw [show ((0 : Nat) : Int) = 0 from rfl] at f2 t3
    have hu := (up_654 (upC p.2 7 g) T B L (up1 T rc.toNat n) B).1
    simp (disch := omega) only [en87, e87_0, e87_1, ↓reduceIte, Bool.false_eq_true, not_false_eq_true, not_true_eq_false, Nat.reduceLeDiff, Nat.reduceAdd, Nat.reduceEqDiff, Int.reduceToNat, Int.toNat_natCast, iB0, iB1, ru_klI, ru_klR, ru_klF, ru_klJ, ru_kl0, ru_cs0, ru_csI, ru_csR, ru_csF, ru_csJ, wI_add, wI_sub, wI_mul, wI_lt, wI_le, wI_inj, ru_fdE, ru_fdN, ru_iaN, ru_baN, ru_laN, ru_qaN, ru_pfN, ru_isN, ru_bsN, ru_jsN, ru_qsN, ru_set2, Nat.add_right_cancel_iff, if_true, if_false, ite_self, pi_e hP, pi_f0 hP, pi_s0 hP, pi_f1 hP, pi_s1 hP, pi_f2 hP, pi_a0 hP, pi_w0 hP, pi_f3 hP, pi_a1 hP, pi_w1 hP, pi_f4 hP, pi_a2 hP, pi_w2 hP, pi_f5 hP, pi_a3 hP, pi_w3 hP, pi_f6 hP, pi_a4 hP, pi_w4 hP, pi_f7 hP, pi_a5 hP, pi_w5 hP, pi_f8 hP, pi_a6 hP, pi_w6 hP, pi_f9 hP, pi_a7 hP, pi_w7 hP, pi_f10 hP, pi_a8 hP, pi_w8 hP, pi_f11 hP, pi_a9 hP, pi_w9 hP, ru_ctR, ru_ctI, upC_e, upC_n, upC_up, up1_e, up1_n]
    rw [f2]
    simp (disch := omega) only [e87_51, e87_52, e87_55, e87_56, e87_57, e87_58, ↓reduceIte, Bool.false_eq_true, not_false_eq_true, not_true_eq_false, Nat.reduceLeDiff, Nat.reduceAdd, Nat.reduceEqDiff, Int.reduceToNat, Int.toNat_natCast, iB0, iB1, ru_klI, ru_klR, ru_klF, ru_klJ, ru_kl0, ru_cs0, ru_csI, ru_csR, ru_csF, ru_csJ, wI_add, wI_sub, wI_mul, wI_lt, wI_le, wI_inj, ru_fdE, ru_fdN, ru_iaN, ru_baN, ru_laN, ru_qaN, ru_pfN, ru_isN, ru_bsN, ru_jsN, ru_qsN, ru_set2, Nat.add_right_cancel_iff, if_true, if_false, ite_self, pi_e hP, pi_f0 hP, pi_s0 hP, pi_f1 hP, pi_s1 hP, pi_f2 hP, pi_a0 hP, pi_w0 hP, pi_f3 hP, pi_a1 hP, pi_w1 hP, pi_f4 hP, pi_a2 hP, pi_w2 hP, pi_f5 hP, pi_a3 hP, pi_w3 hP, pi_f6 hP, pi_a4 hP, pi_w4 hP, pi_f7 hP, pi_a5 hP, pi_w5 hP, pi_f8 hP, pi_a6 hP, pi_w6 hP, pi_f9 hP, pi_a7 hP, pi_w7 hP, pi_f10 hP, pi_a8 hP, pi_w8 hP, pi_f11 hP, pi_a9 hP, pi_w9 hP, ru_ctR, ru_ctI, upC_e, upC_n, upC_up, up1_e, up1_n, g2, t3]
    simp (disch := omega) only [e87_128, e87_129, e87_132, e87_133, e87_136, e87_137, e87_140, e87_141, ↓reduceIte, Bool.false_eq_true, not_false_eq_true, not_true_eq_false, Nat.reduceLeDiff, Nat.reduceAdd, Nat.reduceEqDiff, Int.reduceToNat, Int.toNat_natCast, iB0, iB1, ru_klI, ru_klR, ru_klF, ru_klJ, ru_kl0, ru_cs0, ru_csI, ru_csR, ru_csF, ru_csJ, wI_add, wI_sub, wI_mul, wI_lt, wI_le, wI_inj, ru_fdE, ru_fdN, ru_iaN, ru_baN, ru_laN, ru_qaN, ru_pfN, ru_isN, ru_bsN, ru_jsN, ru_qsN, ru_set2, Nat.add_right_cancel_iff, if_true, if_false, ite_self, pi_e hP, pi_f0 hP, pi_s0 hP, pi_f1 hP, pi_s1 hP, pi_f2 hP, pi_a0 hP, pi_w0 hP, pi_f3 hP, pi_a1 hP, pi_w1 hP, pi_f4 hP, pi_a2 hP, pi_w2 hP, pi_f5 hP, pi_a3 hP, pi_w3 hP, pi_f6 hP, pi_a4 hP, pi_w4 hP, pi_f7 hP, pi_a5 hP, pi_w5 hP, pi_f8 hP, pi_a6 hP, pi_w6 hP, pi_f9 hP, pi_a7 hP, pi_w7 hP, pi_f10 hP, pi_a8 hP, pi_w8 hP, pi_f11 hP, pi_a9 hP, pi_w9 hP, ru_ctR, ru_ctI, upC_e, upC_n, upC_up, up1_e, up1_n, h0, h1, hu]
theorem k88a (hP : isPi P) {p : tPi} {n : Nat} {o : Nat → Nat} {x y : Nat → Int} (hn : n ≤ 12) (h0 : p.1 0 = (n : Int)) (ho : ∀ i, i < n → p.2 2 i = (o i : Int) ∧ o i < 12 ∧ p.2 0 (o i) = x (o i) ∧ p.2 1 (o i) = y (o i)) : ∀ d i, i + d = n → ∀ (f : Nat → Int) (l2 l3 : Option Value), (∀ j, j < i → f j = kyO x y (o j)) → ∃ (f' : Nat → Int) (l2' l3' : Option Value), (∀ j, j < n → f' j = kyO x y (o j)) ∧
    ru_n z 88 2 [some (.ref P), some (.int (wI i)), l2, l3] [] (clPut h (piPut C P (p.1, upC p.2 7 f))) = ru_n z 88 57 [some (.ref P), some (.int (wI n)), l2', l3'] [] (clPut h (piPut C P (p.1, upC p.2 7 f'))) := by
  intro d
  induction d with
  | zero =>
    intro i hi f l2 l3 hf
    obtain rfl : i = n := by omega
    refine ⟨f, l2, l3, hf, ?_⟩
    have c : ((i : Int) ≤ (i : Int)) = True := eq_true (Int.le_refl _)
    simp (disch := omega) only [e88_2, e88_3, e88_4, e88_7, ↓reduceIte, Bool.false_eq_true, not_false_eq_true, not_true_eq_false, Nat.reduceLeDiff, Nat.reduceAdd, Nat.reduceEqDiff, Int.reduceToNat, Int.toNat_natCast, iB0, iB1, ru_klI, ru_klR, ru_klF, ru_klJ, ru_kl0, ru_cs0, ru_csI, ru_csR, ru_csF, ru_csJ, wI_add, wI_sub, wI_mul, wI_lt, wI_le, wI_inj, ru_fdE, ru_fdN, ru_iaN, ru_baN, ru_laN, ru_qaN, ru_pfN, ru_isN, ru_bsN, ru_jsN, ru_qsN, ru_set2, Nat.add_right_cancel_iff, if_true, if_false, ite_self, pi_e hP, pi_f0 hP, pi_s0 hP, pi_f1 hP, pi_s1 hP, pi_f2 hP, pi_a0 hP, pi_w0 hP, pi_f3 hP, pi_a1 hP, pi_w1 hP, pi_f4 hP, pi_a2 hP, pi_w2 hP, pi_f5 hP, pi_a3 hP, pi_w3 hP, pi_f6 hP, pi_a4 hP, pi_w4 hP, pi_f7 hP, pi_a5 hP, pi_w5 hP, pi_f8 hP, pi_a6 hP, pi_w6 hP, pi_f9 hP, pi_a7 hP, pi_w7 hP, pi_f10 hP, pi_a8 hP, pi_w8 hP, pi_f11 hP, pi_a9 hP, pi_w9 hP, ru_ctR, ru_ctI, upC_e, upC_n, upC_up, up1_e, up1_n, h0, c]
  | succ d ih =>
    intro i hi f l2 l3 hf
    obtain ⟨o1, o2, o3, o4⟩ := ho i (by omega)
    obtain ⟨f', l2', l3', t1, t2⟩ := ih (i + 1) (by omega) (up1 f i (kyO x y (o i))) (some (.int (wI (o i)))) (some (.int (wI (x (o i) * 1000 + 999 - y (o i))))) (fun j hj => by
      unfold up1
      by_cases e : j = i
      · subst e; rw [if_pos rfl]
      · rw [if_neg e]; exact hf j (by omega))
    refine ⟨f', l2', l3', t1, ?_⟩
    rw [← t2]
    have c : ((n : Int) ≤ (i : Int)) = False := eq_false (by omega)
    have ek : (x (o i) * 1000 + 999 - y (o i)) * 12 + ((o i : Nat) : Int) = kyO x y (o i) := rfl
    rw [e88_2]
    simp (disch := omega) only [e88_3, e88_4, e88_7, e88_10, e88_11, e88_14, e88_15, e88_16, e88_17, e88_18, e88_21, e88_22, e88_23, e88_26, e88_27, e88_30, e88_31, e88_32, e88_35, e88_36, e88_37, e88_38, e88_39, e88_40, e88_43, e88_44, e88_45, e88_47, e88_48, e88_49, e88_50, e88_51, e88_54, ↓reduceIte, Bool.false_eq_true, not_false_eq_true, not_true_eq_false, Nat.reduceLeDiff, Nat.reduceAdd, Nat.reduceEqDiff, Int.reduceToNat, Int.toNat_natCast, iB0, iB1, ru_klI, ru_klR, ru_klF, ru_klJ, ru_kl0, ru_cs0, ru_csI, ru_csR, ru_csF, ru_csJ, wI_add, wI_sub, wI_mul, wI_lt, wI_le, wI_inj, ru_fdE, ru_fdN, ru_iaN, ru_baN, ru_laN, ru_qaN, ru_pfN, ru_isN, ru_bsN, ru_jsN, ru_qsN, ru_set2, Nat.add_right_cancel_iff, if_true, if_false, ite_self, pi_e hP, pi_f0 hP, pi_s0 hP, pi_f1 hP, pi_s1 hP, pi_f2 hP, pi_a0 hP, pi_w0 hP, pi_f3 hP, pi_a1 hP, pi_w1 hP, pi_f4 hP, pi_a2 hP, pi_w2 hP, pi_f5 hP, pi_a3 hP, pi_w3 hP, pi_f6 hP, pi_a4 hP, pi_w4 hP, pi_f7 hP, pi_a5 hP, pi_w5 hP, pi_f8 hP, pi_a6 hP, pi_w6 hP, pi_f9 hP, pi_a7 hP, pi_w7 hP, pi_f10 hP, pi_a8 hP, pi_w8 hP, pi_f11 hP, pi_a9 hP, pi_w9 hP, ru_ctR, ru_ctI, upC_e, upC_n, upC_up, up1_e, up1_n, h0, c, o1, o3, o4, ek, Int.natCast_add, Int.natCast_one]
theorem k88b (hP : isPi P) {p : tPi} {n : Nat} {e : Nat → Nat} (hn : n ≤ 12) (h0 : p.1 0 = (n : Int)) (he : ∀ i, i < n → p.2 7 i % 12 = (e i : Int) ∧ 0 ≤ p.2 7 i ∧ p.2 7 i < 2147483648) : ∀ d i, i + d = n → ∀ (O : Nat → Int) (l2 l3 : Option Value), (∀ j, j < i → O j = (e j : Int)) → ∃ O' : Nat → Int, (∀ j, j < n → O' j = (e j : Int)) ∧
    ru_n z 88 63 [some (.ref P), some (.int (wI i)), l2, l3] [] (clPut h (piPut C P (p.1, upC p.2 2 O))) = some (.inl none, clPut h (piPut C P (p.1, upC p.2 2 O'))) := by
  intro d
  induction d with
  | zero =>
    intro i hi O l2 l3 hO
    obtain rfl : i = n := by omega
    refine ⟨O, hO, ?_⟩
    have c : ((i : Int) ≤ (i : Int)) = True := eq_true (Int.le_refl _)
    simp (disch := omega) only [e88_63, e88_64, e88_65, e88_68, e88_92, ↓reduceIte, Bool.false_eq_true, not_false_eq_true, not_true_eq_false, Nat.reduceLeDiff, Nat.reduceAdd, Nat.reduceEqDiff, Int.reduceToNat, Int.toNat_natCast, iB0, iB1, ru_klI, ru_klR, ru_klF, ru_klJ, ru_kl0, ru_cs0, ru_csI, ru_csR, ru_csF, ru_csJ, wI_add, wI_sub, wI_mul, wI_lt, wI_le, wI_inj, ru_fdE, ru_fdN, ru_iaN, ru_baN, ru_laN, ru_qaN, ru_pfN, ru_isN, ru_bsN, ru_jsN, ru_qsN, ru_set2, Nat.add_right_cancel_iff, if_true, if_false, ite_self, pi_e hP, pi_f0 hP, pi_s0 hP, pi_f1 hP, pi_s1 hP, pi_f2 hP, pi_a0 hP, pi_w0 hP, pi_f3 hP, pi_a1 hP, pi_w1 hP, pi_f4 hP, pi_a2 hP, pi_w2 hP, pi_f5 hP, pi_a3 hP, pi_w3 hP, pi_f6 hP, pi_a4 hP, pi_w4 hP, pi_f7 hP, pi_a5 hP, pi_w5 hP, pi_f8 hP, pi_a6 hP, pi_w6 hP, pi_f9 hP, pi_a7 hP, pi_w7 hP, pi_f10 hP, pi_a8 hP, pi_w8 hP, pi_f11 hP, pi_a9 hP, pi_w9 hP, ru_ctR, ru_ctI, upC_e, upC_n, upC_up, up1_e, up1_n, h0, c]
  | succ d ih =>
    intro i hi O l2 l3 hO
    obtain ⟨o1, o2, o3⟩ := he i (by omega)
    obtain ⟨O', t1, t2⟩ := ih (i + 1) (by omega) (up1 O i (e i)) l2 l3 (fun j hj => by
      unfold up1
      by_cases c : j = i
      · subst c; rw [if_pos rfl]
      · rw [if_neg c]; exact hO j (by omega))
    refine ⟨O', t1, ?_⟩
    rw [← t2]
    have c : ((n : Int) ≤ (i : Int)) = False := eq_false (by omega)
    rw [e88_63]
    simp (disch := omega) only [e88_64, e88_65, e88_68, e88_71, e88_72, e88_75, e88_76, e88_77, e88_80, e88_81, e88_82, e88_84, e88_85, e88_86, e88_89, ↓reduceIte, Bool.false_eq_true, not_false_eq_true, not_true_eq_false, Nat.reduceLeDiff, Nat.reduceAdd, Nat.reduceEqDiff, Int.reduceToNat, Int.toNat_natCast, iB0, iB1, ru_klI, ru_klR, ru_klF, ru_klJ, ru_kl0, ru_cs0, ru_csI, ru_csR, ru_csF, ru_csJ, wI_add, wI_sub, wI_mul, wI_lt, wI_le, wI_inj, ru_fdE, ru_fdN, ru_iaN, ru_baN, ru_laN, ru_qaN, ru_pfN, ru_isN, ru_bsN, ru_jsN, ru_qsN, ru_set2, Nat.add_right_cancel_iff, if_true, if_false, ite_self, pi_e hP, pi_f0 hP, pi_s0 hP, pi_f1 hP, pi_s1 hP, pi_f2 hP, pi_a0 hP, pi_w0 hP, pi_f3 hP, pi_a1 hP, pi_w1 hP, pi_f4 hP, pi_a2 hP, pi_w2 hP, pi_f5 hP, pi_a3 hP, pi_w3 hP, pi_f6 hP, pi_a4 hP, pi_w4 hP, pi_f7 hP, pi_a5 hP, pi_w5 hP, pi_f8 hP, pi_a6 hP, pi_w6 hP, pi_f9 hP, pi_a7 hP, pi_w7 hP, pi_f10 hP, pi_a8 hP, pi_w8 hP, pi_f11 hP, pi_a9 hP, pi_w9 hP, ru_ctR, ru_ctI, upC_e, upC_n, upC_up, up1_e, up1_n, h0, c, o1, wI_rem, wI_ne0, Int.natCast_add, Int.natCast_one]
theorem k88 (hP : isPi P) {p : tPi} {S : Nat → Bool} {x y : Nat → Int} {n : Nat} {o : Nat → Nat} (hn : n ≤ 12) (h0 : p.1 0 = (n : Int)) (ho : enO S (fun k => (k : Int)) n o) (hp2 : ∀ i, i < n → p.2 2 i = (o i : Int)) (hx : ∀ k, k < 12 → S k = true → p.2 0 k = x k ∧ 0 ≤ x k ∧ x k ≤ 999) (hy : ∀ k, k < 12 → S k = true → p.2 1 k = y k ∧ 0 ≤ y k ∧ y k ≤ 999) : ∃ (g O : Nat → Int) (eo : Nat → Nat), enO S (kyO x y) n eo ∧ (∀ i, i < n → O i = (eo i : Int)) ∧
    ru_ev z 88 [.ref P] (clPut h (piPut C P p)) = some (.inl none, clPut h (piPut C P (p.1, upC (upC p.2 7 g) 2 O))) := by
  obtain ⟨f, l2, l3, f1, f2⟩ := k88a (z := z) (h := h) (C := C) hP (p := p) (o := o) (x := x) (y := y) hn h0 (fun i hi => by
    have k1 := ho.1 i hi
    exact ⟨hp2 i hi, k1.1, (hx _ k1.1 k1.2).1, (hy _ k1.1 k1.2).1⟩) n 0 (by omega) (p.2 7) none none (fun j hj => by omega)
  have kr : ∀ k, k < 12 → S k = true → 0 ≤ kyO x y k ∧ kyO x y k < 20000000 ∧ kyO x y k % 12 = (k : Int) := fun k hk hs => kyO_rng (hy k hk hs).2 (hx k hk hs).2 hk
  obtain ⟨g, g1, g2⟩ := k86 (z := z) (h := h) (C := C) hP (p := (p.1, upC p.2 7 f)) hn h0 (fun j hj => by
    have k1 := ho.1 j hj
    have k2 := kr _ k1.1 k1.2
    dsimp only; rw [upC_e, f1 j hj]; omega) (fun a b ha hb hab => by
    dsimp only at hab; rw [upC_e, f1 a ha, f1 b hb] at hab
    have k1 := ho.1 a ha
    have k2 := ho.1 b hb
    have k3 := kr _ k1.1 k1.2
    have k4 := kr _ k2.1 k2.2
    exact enO_inj ho ha hb (by rw [hab] at k3; omega))
  dsimp only at g1
  rw [upC_e] at g1
  have g1' : srtB (fun i => kyO x y (o i)) g n := ⟨g1.1, fun i hi => by
    obtain ⟨j, hj, e⟩ := g1.2.1 i hi
    exact ⟨j, hj, by rw [e, f1 j hj]⟩, fun j hj => by
    obtain ⟨i, hi, e⟩ := g1.2.2 j hj
    exact ⟨i, hi, by rw [e, f1 j hj]⟩⟩
  obtain ⟨s1, s2⟩ := srt_en' (S := S) (key := kyO x y) (fun k hk hs => (kr k hk hs).2.2) ho.1 ho.2.2 g1'
  obtain ⟨O, t1, t2⟩ := k88b (z := z) (h := h) (C := C) hP (p := (p.1, upC p.2 7 g)) (e := fun i => (g i % 12).toNat) hn h0 (fun i hi => by
    have k1 := s1.1 i hi
    have k3 := s2 i hi
    have k4 := kr _ k1.1 k1.2
    rw [k3.1] at k4
    refine ⟨by dsimp only; rw [upC_e]; exact k3.2, by dsimp only; rw [upC_e]; omega, by dsimp only; rw [upC_e]; omega⟩) n 0 (by omega) (p.2 2) l2 l3 (fun j hj => by omega)
  refine ⟨g, O, _, s1, t1, ?_⟩
  rw [upC_self] at f2
  simp (disch := omega) only [upC_up] at g2
  have e2 : upC (upC p.2 7 g) 2 (p.2 2) = upC p.2 7 g := by
    funext c j
    unfold upC
    by_cases e4 : c = 2
    · subst e4; rfl
    · simp only [e4, if_false]
  rw [e2] at t2
  rw [show ((0 : Nat) : Int) = 0 from rfl] at f2 t2
  simp (disch := omega) only [en88, e88_0, e88_1, ↓reduceIte, Bool.false_eq_true, not_false_eq_true, not_true_eq_false, Nat.reduceLeDiff, Nat.reduceAdd, Nat.reduceEqDiff, Int.reduceToNat, Int.toNat_natCast, iB0, iB1, ru_klI, ru_klR, ru_klF, ru_klJ, ru_kl0, ru_cs0, ru_csI, ru_csR, ru_csF, ru_csJ, wI_add, wI_sub, wI_mul, wI_lt, wI_le, wI_inj, ru_fdE, ru_fdN, ru_iaN, ru_baN, ru_laN, ru_qaN, ru_pfN, ru_isN, ru_bsN, ru_jsN, ru_qsN, ru_set2, Nat.add_right_cancel_iff, if_true, if_false, ite_self, pi_e hP, pi_f0 hP, pi_s0 hP, pi_f1 hP, pi_s1 hP, pi_f2 hP, pi_a0 hP, pi_w0 hP, pi_f3 hP, pi_a1 hP, pi_w1 hP, pi_f4 hP, pi_a2 hP, pi_w2 hP, pi_f5 hP, pi_a3 hP, pi_w3 hP, pi_f6 hP, pi_a4 hP, pi_w4 hP, pi_f7 hP, pi_a5 hP, pi_w5 hP, pi_f8 hP, pi_a6 hP, pi_w6 hP, pi_f9 hP, pi_a7 hP, pi_w7 hP, pi_f10 hP, pi_a8 hP, pi_w8 hP, pi_f11 hP, pi_a9 hP, pi_w9 hP, ru_ctR, ru_ctI, upC_e, upC_n, upC_up, up1_e, up1_n]
  rw [f2]
  simp (disch := omega) only [e88_57, e88_58, e88_61, e88_62, ↓reduceIte, Bool.false_eq_true, not_false_eq_true, not_true_eq_false, Nat.reduceLeDiff, Nat.reduceAdd, Nat.reduceEqDiff, Int.reduceToNat, Int.toNat_natCast, iB0, iB1, ru_klI, ru_klR, ru_klF, ru_klJ, ru_kl0, ru_cs0, ru_csI, ru_csR, ru_csF, ru_csJ, wI_add, wI_sub, wI_mul, wI_lt, wI_le, wI_inj, ru_fdE, ru_fdN, ru_iaN, ru_baN, ru_laN, ru_qaN, ru_pfN, ru_isN, ru_bsN, ru_jsN, ru_qsN, ru_set2, Nat.add_right_cancel_iff, if_true, if_false, ite_self, pi_e hP, pi_f0 hP, pi_s0 hP, pi_f1 hP, pi_s1 hP, pi_f2 hP, pi_a0 hP, pi_w0 hP, pi_f3 hP, pi_a1 hP, pi_w1 hP, pi_f4 hP, pi_a2 hP, pi_w2 hP, pi_f5 hP, pi_a3 hP, pi_w3 hP, pi_f6 hP, pi_a4 hP, pi_w4 hP, pi_f7 hP, pi_a5 hP, pi_w5 hP, pi_f8 hP, pi_a6 hP, pi_w6 hP, pi_f9 hP, pi_a7 hP, pi_w7 hP, pi_f10 hP, pi_a8 hP, pi_w8 hP, pi_f11 hP, pi_a9 hP, pi_w9 hP, ru_ctR, ru_ctI, upC_e, upC_n, upC_up, up1_e, up1_n, g2, t2]
end ARR2
