/-! ===== phrases: an item: its gifts ===== -/
/-- class and reference after i gifts -/
def itG (n : Nat) (P : Nat → Nat) (V : Nat → Int) (C : tCl) (M : tMd) : Nat → tCl × tMd
  | 0 => (C, M)
  | i + 1 => (gvC (itG n P V C M i).1 (P i) (V i), gvM (itG n P V C M i).2 n (P i) (V i))
section ITM
variable {z : Bool} {M M0 : tMd} {C C0 : tCl} {n l s A N R nm : Nat} {gv rc : Int}
theorem u61 {h : am_H} {S : Nat} (hm : mutM M) : ru_ev z 61 [.ref 1315, .ref S] (mdPut h M) = some (.inl (some (.int (wI 0))), mdPut h M) := by
  have x := u62 (z := z) (h := h) (S := S) hm
  have d0 : ((0 : Int) = 0) = True := eq_true rfl
  simp (disch := omega) only [en61, e61_0, e61_1, e61_2, e61_5, e61_6, e61_7, e61_10, e61_11, e61_14, e61_15, ↓reduceIte, Bool.false_eq_true, not_false_eq_true, not_true_eq_false, Nat.reduceLeDiff, Nat.reduceAdd, Nat.reduceEqDiff, Int.reduceToNat, Int.toNat_natCast, iB0, iB1, ru_klI, ru_klR, ru_klF, ru_klJ, ru_kl0, ru_cs0, ru_csI, ru_csR, ru_csF, ru_csJ, wI_add, wI_sub, wI_mul, wI_lt, wI_le, wI_inj, ru_fdE, ru_fdN, ru_iaN, ru_baN, ru_laN, ru_qaN, ru_pfN, ru_isN, ru_bsN, ru_jsN, ru_qsN, ru_set2, Nat.add_right_cancel_iff, if_true, if_false, ite_self, Int.reduceEq, and_self, Int.add_neg_cancel_right, Int.add_zero, Int.zero_add, md_e, x, d0, wI_and1]
theorem p61 {h : am_H} {M' : tMd} {S : Nat} {b : Bool} (k : ru_ev z 62 [.ref 1315, .ref S] (mdPut h M) = some (.inl (some (.int (wI (if b = true then 1 else 0)))), mdPut h M)) (k2 : b = true → ru_ev z 57 [.ref 1315] (mdPut h M) = some (.inl none, mdPut h M')) : ru_ev z 61 [.ref 1315, .ref S] (mdPut h M) = some (.inl (some (.int (wI (if b = true then 1 else 0)))), mdPut h (if b = true then M' else M)) := by
  cases b
  · rw [if_neg (by decide)] at k
    rw [if_neg (by decide), if_neg (by decide)]
    have d0 : ((0 : Int) = 0) = True := eq_true rfl
    simp (disch := omega) only [en61, e61_0, e61_1, e61_2, e61_5, e61_6, e61_7, e61_10, e61_11, e61_14, e61_15, ↓reduceIte, Bool.false_eq_true, not_false_eq_true, not_true_eq_false, Nat.reduceLeDiff, Nat.reduceAdd, Nat.reduceEqDiff, Int.reduceToNat, Int.toNat_natCast, iB0, iB1, ru_klI, ru_klR, ru_klF, ru_klJ, ru_kl0, ru_cs0, ru_csI, ru_csR, ru_csF, ru_csJ, wI_add, wI_sub, wI_mul, wI_lt, wI_le, wI_inj, ru_fdE, ru_fdN, ru_iaN, ru_baN, ru_laN, ru_qaN, ru_pfN, ru_isN, ru_bsN, ru_jsN, ru_qsN, ru_set2, Nat.add_right_cancel_iff, if_true, if_false, ite_self, Int.reduceEq, and_self, Int.add_neg_cancel_right, Int.add_zero, Int.zero_add, md_e, k, d0, wI_and1]
  · rw [if_pos rfl] at k
    rw [if_pos rfl, if_pos rfl]
    have d1 : ((1 : Int) = 0) = False := eq_false (by decide)
    simp (disch := omega) only [en61, e61_0, e61_1, e61_2, e61_5, e61_6, e61_7, e61_10, e61_11, e61_14, e61_15, ↓reduceIte, Bool.false_eq_true, not_false_eq_true, not_true_eq_false, Nat.reduceLeDiff, Nat.reduceAdd, Nat.reduceEqDiff, Int.reduceToNat, Int.toNat_natCast, iB0, iB1, ru_klI, ru_klR, ru_klF, ru_klJ, ru_kl0, ru_cs0, ru_csI, ru_csR, ru_csF, ru_csJ, wI_add, wI_sub, wI_mul, wI_lt, wI_le, wI_inj, ru_fdE, ru_fdN, ru_iaN, ru_baN, ru_laN, ru_qaN, ru_pfN, ru_isN, ru_bsN, ru_jsN, ru_qsN, ru_set2, Nat.add_right_cancel_iff, if_true, if_false, ite_self, Int.reduceEq, and_self, Int.add_neg_cancel_right, Int.add_zero, Int.zero_add, md_e, k, k2 rfl, d1, wI_and1]
theorem u138a {h : am_H} {f row isL x6 : Int32} {t c : Nat} {l7 : Option Value} (hc : 1 ≤ c ∧ c ≤ 100) (hm : mutM M) : ru_n z 138 78 [some (.ref 1315), some (.int f), some (.int row), some (.int isL), some (.int (wI ((t : Nat) : Int))), some (.int (wI ((c : Nat) : Int))), some (.int x6), l7] [] (mdPut h M) = some (.inl (some (.int (wI ((t : Int) + (c : Int))))), mdPut h M) := by
  have u1 := u66 (z := z) (h := h) hm
  have u3 := u69 (z := z) (h := h) hm
  have u4 := u63 (z := z) (h := h) (c := 1) hm
  have r17 := hm.1
  have d9 : (M.1 17 = 0) = False := eq_false (by omega)
  have d0 : ((0 : Int) = 0) = True := eq_true rfl
  have dc : ((c : Int) ≤ 0) = False := eq_false (by omega)
  simp (disch := omega) only [e138_78, e138_79, e138_82, e138_85, e138_86, e138_87, e138_90, e138_91, e138_93, e138_95, e138_97, e138_100, e138_101, e138_104, e138_107, e138_108, e138_109, e138_112, e138_113, e138_116, e138_117, e138_120, e138_122, e138_124, e138_125, e138_128, e138_129, e138_132, e138_133, e138_135, e138_138, e138_141, e138_144, e138_145, e138_147, e138_149, e138_151, e138_154, e138_155, e138_158, e138_161, e138_162, e138_163, e138_164, e138_165, e138_166, e138_167, e138_169, e138_171, e138_172, e138_175, e138_176, e138_177, e138_180, e138_181, e138_184, e138_185, e138_188, e138_190, e138_192, e138_193, e138_196, e138_199, e138_200, e138_201, e138_204, e138_205, e138_206, e138_209, e138_212, e138_215, e138_216, e138_219, e138_221, e138_223, e138_224, ↓reduceIte, Bool.false_eq_true, not_false_eq_true, not_true_eq_false, Nat.reduceLeDiff, Nat.reduceAdd, Nat.reduceEqDiff, Int.reduceToNat, Int.toNat_natCast, iB0, iB1, ru_klI, ru_klR, ru_klF, ru_klJ, ru_kl0, ru_cs0, ru_csI, ru_csR, ru_csF, ru_csJ, wI_add, wI_sub, wI_mul, wI_lt, wI_le, wI_inj, ru_fdE, ru_fdN, ru_iaN, ru_baN, ru_laN, ru_qaN, ru_pfN, ru_isN, ru_bsN, ru_jsN, ru_qsN, ru_set2, Nat.add_right_cancel_iff, if_true, if_false, ite_self, Int.reduceEq, and_self, Int.add_neg_cancel_right, Int.add_zero, Int.zero_add, md_e, md_f17, u1, u3, u4, d9, d0, dc, not_true, not_false_iff]
theorem u138b {h : am_H} {f row isL x6 : Int32} {t c : Nat} {l7 : Option Value} (hc : c ≤ 20) (hm : mutM M) : ru_n z 138 60 [some (.ref 1315), some (.int f), some (.int row), some (.int isL), some (.int (wI ((t : Nat) : Int))), some (.int (wI ((c : Nat) : Int))), some (.int x6), l7] [] (mdPut h M) = some (.inl (some (.int (wI ((t : Int) + ((c + 1 : Nat) : Int))))), mdPut h M) := by
  have u1 := u66 (z := z) (h := h) hm
  have u2 := u61 (z := z) (h := h) (S := 364) hm
  have y := u138a (z := z) (h := h) (f := f) (row := row) (isL := isL) (x6 := wI 0) (t := t) (c := c + 1) (l7 := l7) (by omega) hm
  have d0 : ((0 : Int) = 0) = True := eq_true rfl
  rw [← y]
  simp only [Int.natCast_add, Int.natCast_one]
  simp (disch := omega) only [e138_60, e138_63, e138_64, e138_67, e138_68, e138_70, e138_73, e138_75, e138_6, e138_8, ↓reduceIte, Bool.false_eq_true, not_false_eq_true, not_true_eq_false, Nat.reduceLeDiff, Nat.reduceAdd, Nat.reduceEqDiff, Int.reduceToNat, Int.toNat_natCast, iB0, iB1, ru_klI, ru_klR, ru_klF, ru_klJ, ru_kl0, ru_cs0, ru_csI, ru_csR, ru_csF, ru_csJ, wI_add, wI_sub, wI_mul, wI_lt, wI_le, wI_inj, ru_fdE, ru_fdN, ru_iaN, ru_baN, ru_laN, ru_qaN, ru_pfN, ru_isN, ru_bsN, ru_jsN, ru_qsN, ru_set2, Nat.add_right_cancel_iff, if_true, if_false, ite_self, Int.reduceEq, and_self, Int.add_neg_cancel_right, Int.add_zero, Int.zero_add, md_e, u1, u2, d0, not_true, not_false_iff]
theorem itG_2 {P : Nat → Nat} {V : Nat → Int} : ∀ i, (∀ c, c ≠ 0 → (itG n P V C M i).2.2 c = M.2 c) ∧ (∀ k, k ≠ 35 → (itG n P V C M i).2.1 k = M.1 k)
  | 0 => ⟨fun _ _ => rfl, fun _ _ => rfl⟩
  | i + 1 => ⟨fun c hc => (gvM_n hc).trans ((itG_2 i).1 c hc), fun k hk => (gvM_1 hk).trans ((itG_2 i).2 k hk)⟩
theorem itG_pr (hs : prS A N n C0 M0) (hq0 : phR (mph M0 n)) {P : Nat → Nat} {V : Nat → Int} (hr : prI n C0 M0 C M gv) (ht : tkR C M l s) : ∀ i, (∀ j, j < i → shS (mph M0 n) (P j) = true ∧ 0 ≤ V j ∧ V j < (N : Int)) → prI n C0 M0 (itG n P V C M i).1 (itG n P V C M i).2 (gv + i) ∧ tkR (itG n P V C M i).1 (itG n P V C M i).2 l s
  | 0, _ => ⟨by rw [show gv + ((0 : Nat) : Int) = gv by omega]; exact hr, ht⟩
  | i + 1, h => by
    obtain ⟨k1, k2⟩ := itG_pr hs hq0 hr ht i (fun j hj => h j (by omega))
    obtain ⟨h1, h2, h3⟩ := h i (by omega)
    have e20 : (itG n P V C M i).2.1 20 = (N : Int) := by rw [k1.2.2.1.1 20 (by omega) (by decide)]; exact hs.2.2.1
    have hkc : (P i : Int) < (cph (itG n P V C M i).1 1065).1 7 := by
      rw [k1.2.2.2.2.2.2.2.2.2.1.1 7 (by decide), k1.2.2.2.2.2.2.2.2.2.2.1.1 7 (by decide)]; exact shS_lt h1
    have g := gv_pr hs.2.2.2.2.1 k1 hkc (nm := V i) (by omega)
    rw [show gv + ((i + 1 : Nat) : Int) = gv + (i : Int) + 1 by omega]
    exact ⟨g, gv_tk k2⟩
/-- the class's gifts from the first to the j-th -/
theorem c98g (hR : 1315 ≤ R) {H : am_H} (hs : prS A N n C0 M0) (hq0 : phR (mph M0 n)) {P : Nat → Nat} {V : Nat → Int} (hr : prI n C0 M0 C M gv) (ht : tkR C M l s) {T t cnt : Nat} {Q : Nat → Int} {F : Nat → Int64} {fw : Nat → Nat → Int} {lw : Nat → Int} {l2 : Option Value} (hT : T ≤ 12) (hc : t + cnt ≤ T) (hQ : ∀ i, i < cnt → Q (t + i) = (P i : Int)) (hF : ∀ i, i < cnt → F i = wdL (fw i) ∧ ltR (fw i)) (hlw : ltR lw) (hV : ∀ i, i < cnt → V i = fdV M0 N (fw i) lw) {l2i : Int32} (hl2 : l2 = some (.int l2i)) : ∀ d i : Nat, i + d ≤ cnt → (∀ j, j < i + d → shS (mph M0 n) (P j) = true ∧ 0 ≤ V j ∧ V j < (N : Int)) →
    ru_n z 98 156 [some (.ref R), some (.int (wI ((cnt : Nat) : Int))), l2, some (.long (wdL lw)), none, some (.int (wI ((i : Nat) : Int)))] [] (clPut (rdH H R (A + 1) (gv + i, (T : Int), (t : Int), Q, F)) (itG n P V C M i).1) = ru_n z 98 156 [some (.ref R), some (.int (wI ((cnt : Nat) : Int))), l2, some (.long (wdL lw)), none, some (.int (wI ((i + d : Nat) : Int)))] [] (clPut (rdH H R (A + 1) (gv + (i + d : Nat), (T : Int), (t : Int), Q, F)) (itG n P V C M (i + d)).1) := by
  subst hl2
  intro d
  induction d with
  | zero => intro i hi hj; rfl
  | succ d ih =>
    intro i hi hj
    have ih1 := ih (i + 1) (by omega) (fun j h => hj j (by omega))
    rw [show i + 1 + d = i + (d + 1) by omega] at ih1
    obtain ⟨k1, k2⟩ := itG_pr hs hq0 hr ht i (fun j h => hj j (by omega))
    obtain ⟨h1, h2, h3⟩ := hj i (by omega)
    have N20 := hs.2.2.2.1
    obtain ⟨Ci, hCi⟩ : ∃ Ci, Ci = (itG n P V C M i).1 := ⟨_, rfl⟩
    obtain ⟨Mi, hMi⟩ : ∃ Mi, Mi = (itG n P V C M i).2 := ⟨_, rfl⟩
    have eC : (itG n P V C M (i + 1)).1 = gvC Ci (P i) (V i) := by rw [hCi]; rfl
    rw [← hCi, ← hMi] at k1 k2
    rw [eC] at ih1
    rw [← hCi]
    have cc : ((cnt : Int) ≤ (i : Int)) = False := eq_false (by omega)
    have rq := rd_q (h := H) (C := Ci) (R := R) (nm := A + 1) (S := (gv + (i : Int), (T : Int), (t : Int), Q, F)) hR (i := (t : Int) + (i : Int)) (by omega) (by omega)
    have rl := rd_l (h := H) (C := Ci) (R := R) (nm := A + 1) (S := (gv + (i : Int), (T : Int), (t : Int), Q, F)) hR (i := (i : Int)) (by omega) (by omega)
    dsimp only at rq rl
    rw [show ((t : Int) + (i : Int)).toNat = t + i by omega, hQ i (by omega)] at rq
    rw [Int.toNat_natCast, (hF i (by omega)).1] at rl
    have f7 : am_fd (clPut (rdH H R (A + 1) (gv + (i : Int), (T : Int), (t : Int), Q, F)) Ci) R 8 7 = some (.int (wI (t : Int))) := rd_f7 hR
    have kf := f43 (z := z) hs k1 (hF i (by omega)).2 hlw (rdH H R (A + 1) (gv + (i : Int), (T : Int), (t : Int), Q, F))
    rw [← hV i (by omega)] at kf
    have y := c36 (z := z) (h := rdH H R (A + 1) (gv + (i : Int), (T : Int), (t : Int), Q, F)) (C := Ci) (b := 1) (Or.inr rfl) (c := 6)
    rw [if_pos rfl] at y
    have dv : (V i = -1) = False := eq_false (by omega)
    have eA : (clPut (rdH H R (A + 1) (gv + (i : Int), (T : Int), (t : Int), Q, F)) Ci).1 (A + 1) = some (.inr (3, clL3 Ci (A + 1))) := (sprF hs.1).2.2.2.2.1
    have x99 : ru_ev z 99 [.ref R, .long (wdL (fw i)), .long (wdL lw)] (clPut (rdH H R (A + 1) (gv + (i : Int), (T : Int), (t : Int), Q, F)) Ci) = some (.inl (some (.int (wI (V i)))), clPut (rdH H R (A + 1) (gv + (i : Int), (T : Int), (t : Int), Q, F)) Ci) := by
      simp (disch := omega) only [en99, e99_0, e99_1, e99_4, e99_5, e99_6, e99_9, e99_11, e99_12, e99_15, e99_17, e99_18, e99_21, e99_22, e99_25, e99_26, e99_28, e99_31, e99_33, ↓reduceIte, Bool.false_eq_true, not_false_eq_true, not_true_eq_false, Nat.reduceLeDiff, Nat.reduceAdd, Nat.reduceEqDiff, Int.reduceToNat, Int.toNat_natCast, iB0, iB1, ru_klI, ru_klR, ru_klF, ru_klJ, ru_kl0, ru_cs0, ru_csI, ru_csR, ru_csF, ru_csJ, wI_add, wI_sub, wI_mul, wI_lt, wI_le, wI_inj, ru_fdE, ru_fdN, ru_iaN, ru_baN, ru_laN, ru_qaN, ru_pfN, ru_isN, ru_bsN, ru_jsN, ru_qsN, ru_set2, Nat.add_right_cancel_iff, if_true, if_false, ite_self, Int.reduceEq, and_self, Int.add_neg_cancel_right, Int.add_zero, Int.zero_add, rd_e hR, rd_f0 hR, rd_f1 hR, cl_e1, eA, kf, dv, y, not_true, not_false_iff]
    have hkc : (P i : Int) < (cph Ci 1065).1 7 := by
      rw [k1.2.2.2.2.2.2.2.2.2.1.1 7 (by decide), k1.2.2.2.2.2.2.2.2.2.2.1.1 7 (by decide)]; exact shS_lt h1
    have x100 := gv_cl (z := z) (nn := A + 1) (S := (gv + (i : Int), (T : Int), (t : Int), Q, F)) hR k1 hkc (nm := V i) (by omega) (h := H)
    dsimp only at x100
    rw [show gv + (i : Int) + 1 = gv + ((i + 1 : Nat) : Int) by omega] at x100
    rw [← ih1, e98_156]
    simp only [Int.natCast_add, Int.natCast_one] at x100 ⊢
    simp (disch := omega) only [e98_158, e98_159, e98_162, e98_163, e98_164, e98_167, e98_168, e98_171, e98_173, e98_174, e98_175, e98_176, e98_177, e98_180, e98_182, e98_183, e98_184, e98_187, e98_190, e98_193, ↓reduceIte, Bool.false_eq_true, not_false_eq_true, not_true_eq_false, Nat.reduceLeDiff, Nat.reduceAdd, Nat.reduceEqDiff, Int.reduceToNat, Int.toNat_natCast, iB0, iB1, ru_klI, ru_klR, ru_klF, ru_klJ, ru_kl0, ru_cs0, ru_csI, ru_csR, ru_csF, ru_csJ, wI_add, wI_sub, wI_mul, wI_lt, wI_le, wI_inj, ru_fdE, ru_fdN, ru_iaN, ru_baN, ru_laN, ru_qaN, ru_pfN, ru_isN, ru_bsN, ru_jsN, ru_qsN, ru_set2, Nat.add_right_cancel_iff, if_true, if_false, ite_self, Int.reduceEq, and_self, Int.add_neg_cancel_right, Int.add_zero, Int.zero_add, rd_e hR, rd_f5 hR, rd_f8 hR, f7, cc, rq, rl, x99, x100]
/-- the reference's gifts -/
theorem p138g (hs : prS A N n C0 M0) (hp : prR n C0 M0 rc) {P : Nat → Nat} {V : Nat → Int} (hr : prI n C0 M0 C M gv) (ht : tkR C M l s) {row isL : Int} (hrow : row = -1 ∨ (0 ≤ row ∧ row < rc)) (hL : isL = 0 ∨ isL = 1) {t cnt : Nat} (hc : t + cnt ≤ 12) (hQ : ∀ i, i < cnt → nxV M0 n row isL (t + i) = (P i : Int)) (hF : ∀ i, i < cnt → ltR (wF M 7 (8 * i))) (hlw : ltR (M.2 4)) (hV : ∀ i, i < cnt → V i = fdV M0 N (wF M 7 (8 * i)) (M.2 4)) {h : am_H} {x6 : Int32} : ∀ d i : Nat, i + d ≤ cnt → (∀ j, j < i + d → shS (mph M0 n) (P j) = true ∧ 0 ≤ V j ∧ V j < (N : Int)) →
    ru_n z 138 147 [some (.ref 1315), some (.int (wI n)), some (.int (wI row)), some (.int (wI isL)), some (.int (wI ((t : Nat) : Int))), some (.int (wI ((cnt : Nat) : Int))), some (.int x6), some (.int (wI ((i : Nat) : Int)))] [] (mdPut h (itG n P V C M i).2) = ru_n z 138 147 [some (.ref 1315), some (.int (wI n)), some (.int (wI row)), some (.int (wI isL)), some (.int (wI ((t : Nat) : Int))), some (.int (wI ((cnt : Nat) : Int))), some (.int x6), some (.int (wI ((i + d : Nat) : Int)))] [] (mdPut h (itG n P V C M (i + d)).2) := by
  intro d
  induction d with
  | zero => intro i hi hj; rfl
  | succ d ih =>
    intro i hi hj
    have ih1 := ih (i + 1) (by omega) (fun j h => hj j (by omega))
    rw [show i + 1 + d = i + (d + 1) by omega] at ih1
    obtain ⟨k1, k2⟩ := itG_pr hs hp.2.2.2.2.1 hr ht i (fun j h => hj j (by omega))
    obtain ⟨h1, h2, h3⟩ := hj i (by omega)
    obtain ⟨m2, m1⟩ := itG_2 (n := n) (P := P) (V := V) (C := C) (M := M) i
    have N20 := hs.2.2.2.1
    obtain ⟨Ci, hCi⟩ : ∃ Ci, Ci = (itG n P V C M i).1 := ⟨_, rfl⟩
    obtain ⟨Mi, hMi⟩ : ∃ Mi, Mi = (itG n P V C M i).2 := ⟨_, rfl⟩
    have eM : (itG n P V C M (i + 1)).2 = gvM Mi n (P i) (V i) := by rw [hMi]; rfl
    rw [← hCi, ← hMi] at k1 k2
    rw [← hMi] at m2 m1
    rw [eM] at ih1
    rw [← hMi]
    have cc : ((cnt : Int) ≤ (i : Int)) = False := eq_false (by omega)
    have d0 : ((0 : Int) = 0) = True := eq_true rfl
    have g17 : am_fd (mdPut h Mi) 1315 10 17 = some (.int (wI 0)) := by rw [md_f17, k1.2.2.2.1]
    have g20 : am_fd (mdPut h Mi) 1315 10 20 = some (.int (wI N)) := by rw [md_f20, k1.2.2.1.1 20 (by omega) (by decide), hs.2.2.1]
    have x133 := p133 (z := z) (h := h) hs.2.2.2.2.1 k1 hp hrow hL (t := t + i) (by omega)
    rw [hQ i (by omega)] at x133
    have ew : wF Mi 7 (8 * i) = wF M 7 (8 * i) := by unfold wF; rw [m2 7 (by decide)]
    have x70 := f70 (z := z) hs k1 (off := 8 * i) (by omega) (by rw [ew]; exact hF i (by omega)) (by rw [m2 4 (by decide)]; exact hlw) h
    rw [ew, m2 4 (by decide), ← hV i (by omega)] at x70
    have k12 := (shS_rng hp.2.2.2.2.1 h1).2.2.2.1
    have x139 := gv_md (z := z) (h := h) hs.2.2.2.2.1 k1 k12 (nm := V i) (by omega)
    have g35 : am_fd (mdPut h (Mi.1, upC Mi.2 0 (gvA (Mi.2 0) (mph Mi n) n (P i) (V i)))) 1315 10 35 = some (.int (wI (Mi.1 35))) := md_f35
    have s35 : am_pf (mdPut h (Mi.1, upC Mi.2 0 (gvA (Mi.2 0) (mph Mi n) n (P i) (V i)))) 1315 10 35 0 (.int (wI (Mi.1 35 + 1))) = some (mdPut h (gvM Mi n (P i) (V i))) := md_s35
    simp only [Int.natCast_add, Int.natCast_mul, show ((8 : Nat) : Int) = 8 from rfl] at x133 x70
    rw [← ih1, e138_147]
    simp only [Int.natCast_add, Int.natCast_one]
    simp (disch := omega) only [e138_149, e138_151, e138_154, e138_155, e138_158, e138_161, e138_162, e138_163, e138_164, e138_165, e138_166, e138_167, e138_169, e138_171, e138_172, e138_175, e138_176, e138_177, e138_180, e138_181, e138_184, e138_185, e138_188, e138_190, e138_192, e138_193, e138_196, e138_199, e138_200, e138_201, e138_204, e138_205, e138_206, e138_209, e138_212, ↓reduceIte, Bool.false_eq_true, not_false_eq_true, not_true_eq_false, Nat.reduceLeDiff, Nat.reduceAdd, Nat.reduceEqDiff, Int.reduceToNat, Int.toNat_natCast, iB0, iB1, ru_klI, ru_klR, ru_klF, ru_klJ, ru_kl0, ru_cs0, ru_csI, ru_csR, ru_csF, ru_csJ, wI_add, wI_sub, wI_mul, wI_lt, wI_le, wI_inj, ru_fdE, ru_fdN, ru_iaN, ru_baN, ru_laN, ru_qaN, ru_pfN, ru_isN, ru_bsN, ru_jsN, ru_qsN, ru_set2, Nat.add_right_cancel_iff, if_true, if_false, ite_self, Int.reduceEq, and_self, Int.add_neg_cancel_right, Int.add_zero, Int.zero_add, ru_ctR, ru_ctI, md_e, md_f19, md_f23, g17, g20, cc, d0, x133, x70, x139, g35, s35, not_true, not_false_iff]
/-- the reference looks the names up -/
theorem p138k (hs : prS A N n C0 M0) (hr : prI n C0 M0 C M gv) {row isL : Int} {t cnt : Nat} (hc : cnt ≤ 12) {V : Nat → Int} (hF : ∀ i, i < cnt → ltR (wF M 7 (8 * i))) (hlw : ltR (M.2 4)) (hV : ∀ i, i < cnt → V i = fdV M0 N (wF M 7 (8 * i)) (M.2 4)) {h : am_H} {x6 : Int32} : ∀ d i : Nat, i + d ≤ cnt → (∀ j, j < i + d → 0 ≤ V j ∧ V j < (N : Int)) →
    ru_n z 138 93 [some (.ref 1315), some (.int (wI n)), some (.int (wI row)), some (.int (wI isL)), some (.int (wI ((t : Nat) : Int))), some (.int (wI ((cnt : Nat) : Int))), some (.int x6), some (.int (wI ((i : Nat) : Int)))] [] (mdPut h M) = ru_n z 138 93 [some (.ref 1315), some (.int (wI n)), some (.int (wI row)), some (.int (wI isL)), some (.int (wI ((t : Nat) : Int))), some (.int (wI ((cnt : Nat) : Int))), some (.int x6), some (.int (wI ((i + d : Nat) : Int)))] [] (mdPut h M) := by
  intro d
  induction d with
  | zero => intro i hi hj; rfl
  | succ d ih =>
    intro i hi hj
    have ih1 := ih (i + 1) (by omega) (fun j h => hj j (by omega))
    rw [show i + 1 + d = i + (d + 1) by omega] at ih1
    obtain ⟨h2, h3⟩ := hj i (by omega)
    have N20 := hs.2.2.2.1
    have cc : ((cnt : Int) ≤ (i : Int)) = False := eq_false (by omega)
    have d0 : ((0 : Int) = 0) = True := eq_true rfl
    have dv : (V i = -1) = False := eq_false (by omega)
    have g17 : am_fd (mdPut h M) 1315 10 17 = some (.int (wI 0)) := by rw [md_f17, hr.2.2.2.1]
    have g20 : am_fd (mdPut h M) 1315 10 20 = some (.int (wI N)) := by rw [md_f20, hr.2.2.1.1 20 (by omega) (by decide), hs.2.2.1]
    have x70 := f70 (z := z) hs hr (off := 8 * i) (by omega) (hF i (by omega)) hlw h
    rw [← hV i (by omega)] at x70
    simp only [Int.natCast_mul, show ((8 : Nat) : Int) = 8 from rfl] at x70
    rw [← ih1, e138_93]
    simp only [Int.natCast_add, Int.natCast_one]
    simp (disch := omega) only [e138_95, e138_97, e138_100, e138_101, e138_104, e138_107, e138_108, e138_109, e138_112, e138_113, e138_116, e138_117, e138_120, e138_122, e138_124, e138_125, e138_128, e138_129, e138_132, e138_133, e138_135, e138_138, e138_141, ↓reduceIte, Bool.false_eq_true, not_false_eq_true, not_true_eq_false, Nat.reduceLeDiff, Nat.reduceAdd, Nat.reduceEqDiff, Int.reduceToNat, Int.toNat_natCast, iB0, iB1, ru_klI, ru_klR, ru_klF, ru_klJ, ru_kl0, ru_cs0, ru_csI, ru_csR, ru_csF, ru_csJ, wI_add, wI_sub, wI_mul, wI_lt, wI_le, wI_inj, ru_fdE, ru_fdN, ru_iaN, ru_baN, ru_laN, ru_qaN, ru_pfN, ru_isN, ru_bsN, ru_jsN, ru_qsN, ru_set2, Nat.add_right_cancel_iff, if_true, if_false, ite_self, Int.reduceEq, and_self, Int.add_neg_cancel_right, Int.add_zero, Int.zero_add, md_e, md_f19, md_f23, g17, g20, cc, d0, dv, x70, not_true, not_false_iff]
end ITM
