/-! ===== what load reads: how class and reference stand while they read ===== -/
def ldC (B : Nat) (C C' : tCl) : Prop := (∀ q, q ≠ 1001 → (q ≤ B ∨ B + 30 < q) → C'.1 q = C.1 q) ∧ (∀ q, (q < B ∨ B + 30 < q) → C'.2.1 q = C.2.1 q) ∧ (∀ q j, ¬ (q = 1001 ∧ j = 8) → q ≠ B + 2 → q ≠ B + 3 → C'.2.2.1 q j = C.2.2.1 q j) ∧ ∀ q j, ¬ (q = 1001 ∧ j = 7) → C'.2.2.2 q j = C.2.2.2 q j
def ldM (M M' : tMd) : Prop := (∀ k, (k < 10 ∨ 18 < k) → k ≠ 22 → k ≠ 29 → M'.1 k = M.1 k) ∧ ∀ c, c ≠ 4 → c ≠ 6 → c ≠ 7 → c ≠ 10 → M'.2 c = M.2 c
def spR (B : Nat) (C : tCl) : Prop := ∀ i, i < 5 → phR (cph C (B + 6 + 5 * i))
def rdN (B : Nat) (C : tCl) (M : tMd) : Prop := C.1 (B + 1) 0 = M.1 22 ∧ (0 ≤ M.1 22 ∧ M.1 22 ≤ 20) ∧ ∀ n : Nat, (n : Int) < M.1 22 → wdR (wF M 6 (16 * n)) ∧ wdR (wF M 6 (16 * n + 8)) ∧ C.2.2.1 (B + 2) n = wdL (wF M 6 (16 * n)) ∧ C.2.2.1 (B + 3) n = wdL (wF M 6 (16 * n + 8)) ∧ ∀ m : Nat, m < n → ¬ ((∀ i, i < 8 → wF M 6 (16 * n) i = wF M 6 (16 * m) i) ∧ ∀ i, i < 8 → wF M 6 (16 * n + 8) i = wF M 6 (16 * m + 8) i)
def rdW (S : Nat → Int) (o : Nat) : Nat → Int := fun f => S (54 * f + o) + 1
def rdS (S : Nat → Int) (P : Int) : Prop := (∀ j, j < 270 → 0 ≤ S j ∧ S j ≤ 998) ∧ ∀ f, f < 5 → S (54 * f) = 0 ∧ S (54 * f + 1) = 0 ∧ S (54 * f + 4) = 0 ∧ S (54 * f + 5) ≤ 12 ∧ (P ≤ (f : Int) → S (54 * f + 5) = 0) ∧ ∀ i, i < 12 → S (54 * f + 6 + 4 * i + 2) = 0 ∧ S (54 * f + 6 + 4 * i + 3) = 0
def rdP (B : Nat) (C : tCl) (M : tMd) : Prop := C.1 (B + 4) 0 = M.1 29 ∧ (0 ≤ M.1 29 ∧ M.1 29 ≤ 5) ∧ rdS (M.2 10) (M.1 29) ∧ ∀ f : Nat, (f : Int) < M.1 29 → pheq (cph C (B + 6 + 5 * f)) (msf (M.2 10) (rdW (M.2 10) 2) (rdW (M.2 10) 3) f)
def rdI (B : Nat) (C0 : tCl) (M0 : tMd) (C : tCl) (M : tMd) : Prop := ldC B C0 C ∧ (∀ i, i < 4 → C.1 1001 i = C0.1 1001 i) ∧ ldM M0 M ∧ M.1 17 = 0 ∧ spR B C ∧ rdN B C M ∧ rdP B C M
def erI (B : Nat) (C0 : tCl) (M0 : tMd) (C : tCl) (M : tMd) : Prop := ldC B C0 C ∧ C.1 1001 1 = C0.1 1001 1 ∧ C.1 1001 2 = M.1 17 ∧ C.1 1001 3 = M.1 18 ∧ (1 ≤ M.1 17 ∧ M.1 17 ≤ 9) ∧ (0 ≤ M.1 18 ∧ M.1 18 ≤ 1200) ∧ ldM M0 M ∧ spR B C
theorem ldC_trans {B : Nat} {C D E : tCl} (h : ldC B C D) (k : ldC B D E) : ldC B C E :=
  ⟨fun q h1 h2 => (k.1 q h1 h2).trans (h.1 q h1 h2), fun q h1 => (k.2.1 q h1).trans (h.2.1 q h1), fun q j h1 h2 h3 => (k.2.2.1 q j h1 h2 h3).trans (h.2.2.1 q j h1 h2 h3), fun q j h1 => (k.2.2.2 q j h1).trans (h.2.2.2 q j h1)⟩
theorem ldC_refl {B : Nat} {C : tCl} : ldC B C C := ⟨fun _ _ _ => rfl, fun _ _ => rfl, fun _ _ _ _ _ => rfl, fun _ _ _ => rfl⟩
theorem ldM_trans {M N O : tMd} (h : ldM M N) (k : ldM N O) : ldM M O := ⟨fun q h1 h2 h3 => (k.1 q h1 h2 h3).trans (h.1 q h1 h2 h3), fun c h1 h2 h3 h4 => (k.2 c h1 h2 h3 h4).trans (h.2 c h1 h2 h3 h4)⟩
theorem ldM_refl {M : tMd} : ldM M M := ⟨fun _ _ _ _ => rfl, fun _ _ _ _ _ => rfl⟩
theorem ldC_S {B : Nat} {C C' : tCl} (h : inS C C') : ldC B C C' := ⟨fun q h1 _ => h.1 q h1, fun q _ => by rw [h.2.2.1], fun q j h1 _ _ => h.2.2.2.1 q j h1, fun q j h1 => h.2.2.2.2 q j h1⟩
theorem ldM_S {M M' : tMd} (h : scS M M') : ldM M M' := ⟨fun k h1 _ _ => h.1 k (by omega), fun c h1 _ _ _ => h.2 c h1⟩
section RDI
variable {B : Nat} {C0 C C' : tCl} {M0 M M' : tMd} {n s : Nat}
theorem rd_byI (hB : B = 1003 ∨ B = 1034) (h : byI C0 M0 n) (hr : rdI B C0 M0 C M) : byI C M n := by
  unfold byI at h ⊢
  rw [hr.1.2.1 1002 (by omega), hr.2.2.1.2 3 (by decide) (by decide) (by decide) (by decide)]; exact h
theorem spR_S (hB : B = 1003 ∨ B = 1034) (h : inS C C') (hr : spR B C) : spR B C' := fun i hi => by
  rw [cph_eq (h.1 _ (by omega)) (fun c hc => by rw [h.2.2.1])]; exact hr i hi
theorem rdN_of (h : rdN B C M) (h1 : C'.1 (B + 1) 0 = C.1 (B + 1) 0) (h2 : C'.2.2.1 (B + 2) = C.2.2.1 (B + 2)) (h3 : C'.2.2.1 (B + 3) = C.2.2.1 (B + 3)) (h4 : M'.1 22 = M.1 22) (h5 : M'.2 6 = M.2 6) : rdN B C' M' := by
  unfold rdN wF at h ⊢
  rw [h1, h2, h3, h4, h5]; exact h
theorem rdP_of (h : rdP B C M) (h1 : C'.1 (B + 4) 0 = C.1 (B + 4) 0) (h2 : ∀ f, f < 5 → cph C' (B + 6 + 5 * f) = cph C (B + 6 + 5 * f)) (h4 : M'.1 29 = M.1 29) (h5 : M'.2 10 = M.2 10) : rdP B C' M' := by
  unfold rdP at h ⊢
  rw [h1, h4, h5]
  refine ⟨h.1, h.2.1, h.2.2.1, fun f hf => ?_⟩
  rw [h2 f (by omega)]; exact h.2.2.2 f hf
theorem rd_tok (hB : B = 1003 ∨ B = 1034) (hr : rdI B C0 M0 C M) (h : inS C C') (k : scS M M') : rdI B C0 M0 C' M' := by
  obtain ⟨a1, a2, a3, a4, a5, a6, a7⟩ := hr
  refine ⟨ldC_trans a1 (ldC_S h), fun i hi => by rw [h.2.1 i (by omega)]; exact a2 i hi, ldM_trans a3 (ldM_S k), by rw [k.1 17 (by omega)]; exact a4, spR_S hB h a5, ?_, ?_⟩
  · refine rdN_of a6 (by rw [h.1 _ (by omega)]) (funext fun j => h.2.2.2.1 _ j (by omega)) (funext fun j => h.2.2.2.1 _ j (by omega)) (k.1 22 (by omega)) (k.2 6 (by decide))
  · refine rdP_of a7 (by rw [h.1 _ (by omega)]) (fun f hf => cph_eq (h.1 _ (by omega)) (fun c hc => by rw [h.2.2.1])) (k.1 29 (by omega)) (k.2 10 (by decide))
theorem er_tk (hB : B = 1003 ∨ B = 1034) (hr : rdI B C0 M0 C M) (ht : tkR C M n s) (hn : n ≤ 1200) {t : Int} (h1 : 1 ≤ t ∧ t ≤ 9) : erI B C0 M0 (erC C t) (erM M t) := by
  obtain ⟨a1, a2, a3, a4, a5, a6, a7⟩ := hr
  obtain ⟨t1, t2, t3, t4, t5, -⟩ := ht
  have e17 : (erM M t).1 17 = t := rfl
  have e18 : (erM M t).1 18 = M.1 12 := rfl
  have eo : ∀ q, q ≠ 1001 → (erC C t).1 q = C.1 q := fun q hq => by
    funext j
    show (if q = 1001 then _ else (if q = 1001 then _ else C.1 q j)) = _
    rw [if_neg hq, if_neg hq]
  refine ⟨ldC_trans a1 ⟨fun q h1 _ => eo q h1, fun _ _ => rfl, fun _ _ _ _ _ => rfl, fun _ _ _ => rfl⟩, a2 1 (by decide), rfl, ?_, by rw [e17]; exact h1, by rw [e18, t5]; omega, ldM_trans a3 ⟨fun k h1 _ _ => ?_, fun _ _ _ _ _ => rfl⟩, fun i hi => ?_⟩
  · rw [e18, t5]; exact t4
  · show up1 (up1 M.1 17 t) 18 (M.1 12) k = _
    rw [up1_n (by omega), up1_n (by omega)]
  · rw [cph_eq (eo _ (by omega)) (fun c hc => rfl)]; exact a5 i hi
theorem er_mono {C'' : tCl} {M'' : tMd} (hr : ldC B C0 C) (k : ldM M0 M) (h : erI B C M C' M') (h1 : C.1 1001 1 = C0.1 1001 1) : erI B C0 M0 C' M' := by
  obtain ⟨a1, a2, a3, a4, a5, a6, a7, a8⟩ := h
  exact ⟨ldC_trans hr a1, a2.trans h1, a3, a4, a5, a6, ldM_trans k a7, a8⟩
/-- the word that the token is -/
theorem tkR_w (ht : tkR C M n s) (h13 : M.1 13 = 1) : C.2.2.1 1001 8 = wdL (M.2 4) ∧ wdR (M.2 4) ∧ ∀ q, q < 8 → 0 ≤ M.2 4 q ∧ M.2 4 q ≤ 122 := by
  obtain ⟨a1, a2, a3, a4, a5, a6⟩ := ht
  rcases a6 with ⟨-, k1⟩ | ⟨t, t1, t2, t3, t4, q⟩
  · omega
  rcases q with ⟨k1, k2, k3, k4, k5, k6, k7⟩ | ⟨-, k1, -⟩ | ⟨-, k1⟩ | ⟨-, k1⟩ | ⟨-, k1⟩
  · have hl : ltR (lwF C s (t - s)) := lwF_R k6
    have hm : ∀ q, q < 8 → M.2 4 q = lwF C s (t - s) q := fun q hq => k5 q hq
    have hr : ltR (M.2 4) := fun k hk => by rw [hm k hk]; exact hl k hk
    refine ⟨?_, ⟨hr, fun k hk e => ?_⟩, fun q hq => ?_⟩
    · rw [k7, wdL_eq hl hr]; exact fun i hi => (hm i hi).symm
    · have e1 := k5 k (by omega)
      have e2 := k5 (k + 1) (by omega)
      by_cases c : k < t - s
      · rw [if_pos c] at e1; have := k6 k c; omega
      · rw [e2, if_neg (by omega)]
    · rw [k5 q hq]
      by_cases c : q < t - s
      · rw [if_pos c]; have := k6 q c; omega
      · rw [if_neg c]; omega
  · omega
  · omega
  · omega
  · omega
theorem isW_13 {T : List Nat} (h : isW M T = true) : M.1 13 = 1 := by
  unfold isW at h
  rw [Bool.and_eq_true, decide_eq_true_eq] at h
  exact h.1.1
theorem nmTk_13 (h : nmTk M = true) : M.1 13 = 1 := by
  unfold nmTk at h
  rw [Bool.and_eq_true, decide_eq_true_eq] at h
  exact h.1
theorem tkR_of (ht : tkR C M n s) (h1 : C'.1 1001 = C.1 1001) (h2 : C'.2.1 1002 = C.2.1 1002) (h3 : C'.2.2.1 1001 8 = C.2.2.1 1001 8) (h4 : C'.2.2.2 1001 7 = C.2.2.2 1001 7) (h5 : ∀ k, 10 ≤ k → k ≤ 16 → M'.1 k = M.1 k) (h6 : M'.2 4 = M.2 4) : tkR C' M' n s := by
  unfold tkR lwF at ht ⊢
  rw [h1, h2, h3, h4, h6, h5 10 (by omega) (by omega), h5 11 (by omega) (by omega), h5 12 (by omega) (by omega), h5 13 (by omega) (by omega), h5 15 (by omega) (by omega), h5 16 (by omega) (by omega)]
  exact ht
end RDI
/-! ===== the reference, mute ===== -/
def mutM (M : tMd) : Prop := (1 ≤ M.1 17 ∧ M.1 17 ≤ 9) ∧ (0 ≤ M.1 13 ∧ M.1 13 ≤ 5) ∧ (M.1 13 = 2 → 0 ≤ M.1 16 ∧ M.1 16 ≤ 9999)
section MUT
variable {z : Bool} {C : tCl} {M : tMd} {n s : Nat}
theorem mut_er (ht : tkR C M n s) {t : Int} (h : 1 ≤ t ∧ t ≤ 9) : mutM (erM M t) := by
  obtain ⟨-, k1, -, -, -, -, -, k9⟩ := tkR_k ht
  exact ⟨h, k1, fun e => (k9 e).2⟩
theorem u62 {h : am_H} {S : Nat} (hm : mutM M) : ru_ev z 62 [.ref 1315, .ref S] (mdPut h M) = some (.inl (some (.int (wI 0))), mdPut h M) := p62m (by have := hm.1; omega) (by have := hm.1; omega)
theorem u63 {h : am_H} {c : Int} (hm : mutM M) : ru_ev z 63 [.ref 1315, .int (wI c)] (mdPut h M) = some (.inl none, mdPut h M) := by
  rw [p63 (by have := hm.1; omega), if_neg (by have := hm.1; omega)]
theorem u66 {h : am_H} (hm : mutM M) : ru_ev z 66 [.ref 1315] (mdPut h M) = some (.inl none, mdPut h M) := p66m (by have := hm.1; omega) (by have := hm.1; omega)
theorem u65 {h : am_H} (hm : mutM M) {lo hi : Int} (g1 : -2147483648 ≤ lo ∧ lo < 2147483648) (g2 : -2147483648 ≤ hi ∧ hi < 2147483648) : ru_ev z 65 [.ref 1315, .int (wI lo), .int (wI hi)] (mdPut h M) = some (.inl (some (.int (wI lo))), mdPut h M) := by
  have f1 := u63 (z := z) (h := h) (c := 1) hm
  have f2 := u63 (z := z) (h := h) (c := 2) hm
  obtain ⟨m1, m2, m3⟩ := hm
  have d9 : (M.1 17 = 0) = False := eq_false (by omega)
  have d0 : ((0 : Int) = 0) = True := eq_true rfl
  have d4 : ((1 : Int) = 0) = False := eq_false (by decide)
  by_cases c1 : M.1 13 = 2
  · have d1 : (M.1 13 = 2) = True := eq_true c1
    have n2 := m3 c1
    have m := m53 (z := z) (h := mdPut h M) (v := M.1 16) (a := lo) (b := hi) (by omega) g1 g2
    by_cases c2 : lo ≤ M.1 16 ∧ M.1 16 ≤ hi
    · rw [if_pos c2] at m
      simp (disch := omega) only [en65, e65_0, e65_1, e65_4, e65_5, e65_8, e65_9, e65_10, e65_13, e65_16, e65_17, e65_20, e65_21, e65_22, e65_25, e65_28, e65_29, e65_30, e65_33, e65_34, e65_37, e65_40, e65_41, e65_44, e65_45, e65_48, ↓reduceIte, Bool.false_eq_true, not_false_eq_true, not_true_eq_false, Nat.reduceLeDiff, Nat.reduceAdd, Nat.reduceEqDiff, Int.reduceToNat, Int.toNat_natCast, iB0, iB1, ru_klI, ru_klR, ru_klF, ru_klJ, ru_kl0, ru_cs0, ru_csI, ru_csR, ru_csF, ru_csJ, wI_add, wI_sub, wI_mul, wI_lt, wI_le, wI_inj, ru_fdE, ru_fdN, ru_iaN, ru_baN, ru_laN, ru_qaN, ru_pfN, ru_isN, ru_bsN, ru_jsN, ru_qsN, ru_set2, Nat.add_right_cancel_iff, if_true, if_false, ite_self, Int.reduceEq, and_self, Int.add_neg_cancel_right, Int.add_zero, Int.zero_add, md_e, md_f13, md_f16, md_f17, d1, m, d4, d0, d9, f2, not_true, not_false_iff]
    · rw [if_neg c2] at m
      simp (disch := omega) only [en65, e65_0, e65_1, e65_4, e65_5, e65_8, e65_9, e65_10, e65_13, e65_16, e65_17, e65_20, e65_21, e65_22, e65_25, e65_28, e65_29, e65_30, e65_33, e65_34, e65_37, e65_40, e65_41, e65_44, e65_45, e65_48, ↓reduceIte, Bool.false_eq_true, not_false_eq_true, not_true_eq_false, Nat.reduceLeDiff, Nat.reduceAdd, Nat.reduceEqDiff, Int.reduceToNat, Int.toNat_natCast, iB0, iB1, ru_klI, ru_klR, ru_klF, ru_klJ, ru_kl0, ru_cs0, ru_csI, ru_csR, ru_csF, ru_csJ, wI_add, wI_sub, wI_mul, wI_lt, wI_le, wI_inj, ru_fdE, ru_fdN, ru_iaN, ru_baN, ru_laN, ru_qaN, ru_pfN, ru_isN, ru_bsN, ru_jsN, ru_qsN, ru_set2, Nat.add_right_cancel_iff, if_true, if_false, ite_self, Int.reduceEq, and_self, Int.add_neg_cancel_right, Int.add_zero, Int.zero_add, md_e, md_f13, md_f16, md_f17, d1, m, d4, d0, d9, f2, not_true, not_false_iff]
  · have d1 : (M.1 13 = 2) = False := eq_false c1
    simp (disch := omega) only [en65, e65_0, e65_1, e65_4, e65_5, e65_8, e65_9, e65_10, e65_13, e65_16, e65_17, e65_20, e65_21, e65_22, e65_25, e65_28, e65_29, e65_30, e65_33, e65_34, e65_37, e65_40, e65_41, e65_44, e65_45, e65_48, ↓reduceIte, Bool.false_eq_true, not_false_eq_true, not_true_eq_false, Nat.reduceLeDiff, Nat.reduceAdd, Nat.reduceEqDiff, Int.reduceToNat, Int.toNat_natCast, iB0, iB1, ru_klI, ru_klR, ru_klF, ru_klJ, ru_kl0, ru_cs0, ru_csI, ru_csR, ru_csF, ru_csJ, wI_add, wI_sub, wI_mul, wI_lt, wI_le, wI_inj, ru_fdE, ru_fdN, ru_iaN, ru_baN, ru_laN, ru_qaN, ru_pfN, ru_isN, ru_bsN, ru_jsN, ru_qsN, ru_set2, Nat.add_right_cancel_iff, if_true, if_false, ite_self, Int.reduceEq, and_self, Int.add_neg_cancel_right, Int.add_zero, Int.zero_add, md_e, md_f13, md_f17, d1, d4, d0, d9, f1, not_true, not_false_iff]
theorem u64 {h : am_H} (hm : mutM M) {lo hi : Int} (g1 : -2147483648 ≤ lo ∧ lo < 2147483648) (g2 : -2147483648 ≤ hi ∧ hi < 2147483648) : ru_ev z 64 [.ref 1315, .int (wI lo), .int (wI hi)] (mdPut h M) = some (.inl (some (.int (wI lo))), mdPut h M) := by
  have x := u65 (z := z) (h := h) hm g1 g2
  have y := u66 (z := z) (h := h) hm
  simp (disch := omega) only [en64, e64_0, e64_1, e64_2, e64_3, e64_6, e64_7, e64_8, e64_11, e64_12, ↓reduceIte, Bool.false_eq_true, not_false_eq_true, not_true_eq_false, Nat.reduceLeDiff, Nat.reduceAdd, Nat.reduceEqDiff, Int.reduceToNat, Int.toNat_natCast, iB0, iB1, ru_klI, ru_klR, ru_klF, ru_klJ, ru_kl0, ru_cs0, ru_csI, ru_csR, ru_csF, ru_csJ, wI_add, wI_sub, wI_mul, wI_lt, wI_le, wI_inj, ru_fdE, ru_fdN, ru_iaN, ru_baN, ru_laN, ru_qaN, ru_pfN, ru_isN, ru_bsN, ru_jsN, ru_qsN, ru_set2, Nat.add_right_cancel_iff, if_true, if_false, ite_self, Int.reduceEq, and_self, Int.add_neg_cancel_right, Int.add_zero, Int.zero_add, md_e, x, y]
theorem u69 {h : am_H} (hm : mutM M) : ru_ev z 69 [.ref 1315] (mdPut h M) = some (.inl (some (.int (wI 0))), mdPut h M) := by
  obtain ⟨m1, m2, m3⟩ := hm
  have d9 : (M.1 17 = 0) = False := eq_false (by omega)
  simp (disch := omega) only [en69, e69_0, e69_1, e69_4, e69_7, e69_8, e69_11, e69_12, e69_15, e69_16, e69_18, e69_21, e69_24, e69_25, e69_27, e69_30, e69_33, e69_34, e69_36, e69_39, e69_42, e69_43, e69_45, e69_48, e69_51, e69_52, e69_54, e69_57, e69_60, e69_61, e69_63, e69_66, e69_69, e69_70, e69_72, e69_75, e69_78, e69_79, e69_81, e69_84, e69_87, e69_88, e69_90, e69_93, e69_96, e69_97, e69_100, e69_101, ↓reduceIte, Bool.false_eq_true, not_false_eq_true, not_true_eq_false, Nat.reduceLeDiff, Nat.reduceAdd, Nat.reduceEqDiff, Int.reduceToNat, Int.toNat_natCast, iB0, iB1, ru_klI, ru_klR, ru_klF, ru_klJ, ru_kl0, ru_cs0, ru_csI, ru_csR, ru_csF, ru_csJ, wI_add, wI_sub, wI_mul, wI_lt, wI_le, wI_inj, ru_fdE, ru_fdN, ru_iaN, ru_baN, ru_laN, ru_qaN, ru_pfN, ru_isN, ru_bsN, ru_jsN, ru_qsN, ru_set2, Nat.add_right_cancel_iff, if_true, if_false, ite_self, Int.reduceEq, and_self, Int.add_neg_cancel_right, Int.add_zero, Int.zero_add, md_e, md_f17, d9, not_false_iff, wI_and1]
theorem u68 {h : am_H} {off : Int} (hm : mutM M) : ru_ev z 68 [.ref 1315, .ref 1323, .int (wI off)] (mdPut h M) = some (.inl none, mdPut h M) := by
  have x := u69 (z := z) (h := h) hm
  have f1 := u63 (z := z) (h := h) (c := 1) hm
  obtain ⟨m1, m2, m3⟩ := hm
  have d9 : (M.1 17 = 0) = False := eq_false (by omega)
  have d0 : ((0 : Int) = 0) = True := eq_true rfl
  have d8 : ((8 : Int) ≤ 0) = False := eq_false (by decide)
  simp (disch := omega) only [en68, e68_0, e68_1, e68_4, e68_7, e68_8, e68_9, e68_12, e68_13, e68_14, e68_15, e68_17, e68_20, e68_21, e68_24, e68_27, e68_28, e68_29, e68_30, e68_31, e68_32, e68_35, e68_36, e68_37, e68_38, e68_41, e68_44, ↓reduceIte, Bool.false_eq_true, not_false_eq_true, not_true_eq_false, Nat.reduceLeDiff, Nat.reduceAdd, Nat.reduceEqDiff, Int.reduceToNat, Int.toNat_natCast, iB0, iB1, ru_klI, ru_klR, ru_klF, ru_klJ, ru_kl0, ru_cs0, ru_csI, ru_csR, ru_csF, ru_csJ, wI_add, wI_sub, wI_mul, wI_lt, wI_le, wI_inj, ru_fdE, ru_fdN, ru_iaN, ru_baN, ru_laN, ru_qaN, ru_pfN, ru_isN, ru_bsN, ru_jsN, ru_qsN, ru_set2, Nat.add_right_cancel_iff, if_true, if_false, ite_self, Int.reduceEq, and_self, Int.add_neg_cancel_right, Int.add_zero, Int.zero_add, md_e, md_f17, x, f1, d9, d0, d8, not_true, not_false_iff]
/-- no word of a name stands here -/
theorem p68e {h : am_H} {off : Int} (hst : strs h) (ht : tkR C M n s) (h17 : M.1 17 = 0) (hk : ¬ nmTk M = true) : ru_ev z 68 [.ref 1315, .ref 1323, .int (wI off)] (mdPut h M) = some (.inl none, mdPut h (erM M 1)) := by
  have x := p69 (z := z) hst ht h17
  rw [if_neg hk] at x
  have f1 : ru_ev z 63 [.ref 1315, .int (wI 1)] (mdPut h M) = some (.inl none, mdPut h (erM M 1)) := by
    rw [p63 (by omega), if_pos h17]; rfl
  have d0 : ((0 : Int) = 0) = True := eq_true rfl
  have d1 : ((1 : Int) = 0) = False := eq_false (by decide)
  have d8 : ((8 : Int) ≤ 0) = False := eq_false (by decide)
  have g17 : am_fd (mdPut h (erM M 1)) 1315 10 17 = some (.int (wI 1)) := by rw [md_f17]; rfl
  simp (disch := omega) only [en68, e68_0, e68_1, e68_4, e68_7, e68_8, e68_9, e68_12, e68_13, e68_14, e68_15, e68_17, e68_20, e68_21, e68_24, e68_27, e68_28, e68_29, e68_30, e68_31, e68_32, e68_35, e68_36, e68_37, e68_38, e68_41, e68_44, ↓reduceIte, Bool.false_eq_true, not_false_eq_true, not_true_eq_false, Nat.reduceLeDiff, Nat.reduceAdd, Nat.reduceEqDiff, Int.reduceToNat, Int.toNat_natCast, iB0, iB1, ru_klI, ru_klR, ru_klF, ru_klJ, ru_kl0, ru_cs0, ru_csI, ru_csR, ru_csF, ru_csJ, wI_add, wI_sub, wI_mul, wI_lt, wI_le, wI_inj, ru_fdE, ru_fdN, ru_iaN, ru_baN, ru_laN, ru_qaN, ru_pfN, ru_isN, ru_bsN, ru_jsN, ru_qsN, ru_set2, Nat.add_right_cancel_iff, if_true, if_false, ite_self, Int.reduceEq, and_self, Int.add_neg_cancel_right, Int.add_zero, Int.zero_add, md_e, x, f1, g17, d0, d1, d8, not_true, not_false_iff]
/-- a fault told where none was -/
theorem f63 {h : am_H} (h17 : M.1 17 = 0) {c : Int} : ru_ev z 63 [.ref 1315, .int (wI c)] (mdPut h M) = some (.inl none, mdPut h (erM M c)) := by
  rw [p63 (by omega), if_pos h17]; rfl
end MUT
