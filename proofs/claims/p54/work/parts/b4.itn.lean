/-! ===== phrases: an item ===== -/
theorem fst_no (V : Nat → Int) : ∀ c, (∀ i, i < c → ¬ V i = -1) ∨ ∃ i, i < c ∧ V i = -1 ∧ ∀ j, j < i → ¬ V j = -1
  | 0 => Or.inl fun i hi => absurd hi (Nat.not_lt_zero _)
  | c + 1 => by
    rcases fst_no V c with h | ⟨i, h1, h2, h3⟩
    · by_cases e : V c = -1
      · exact Or.inr ⟨c, by omega, e, fun j hj => h j (by omega)⟩
      · refine Or.inl fun i hi => ?_
        by_cases c1 : i = c
        · rw [c1]; exact e
        · exact h i (by omega)
    · exact Or.inr ⟨i, by omega, h2, h3⟩
section ITN
variable {z : Bool} {M M0 : tMd} {C C0 : tCl} {n l s A N R nm : Nat} {gv rc : Int}
theorem nx_sh (hp : prR n C0 M0 rc) {row isL : Int} (hrow : row = -1 ∨ (0 ≤ row ∧ row < rc)) {t : Nat} (ht : t < nxT M0 n row) : ∃ k : Nat, nxV M0 n row isL t = (k : Int) ∧ shS (mph M0 n) k = true := by
  have e : nxV M0 n row isL t = sqV M0 n row (if isL = 1 then t else nxT M0 n row - 1 - t) := if_neg (by omega)
  rw [e]
  by_cases c : isL = 1
  · rw [if_pos c]; exact sq_sh hp hrow ht
  · rw [if_neg c]; exact sq_sh hp hrow (by omega)
/-- the queue stands as the reference's order says -/
def quI (M0 : tMd) (n : Nat) (row isL : Int) (t : Nat) (gv : Int) (S : tRd) : Prop := S.1 = gv ∧ S.2.1 = (nxT M0 n row : Nat) ∧ S.2.2.1 = (t : Int) ∧ t ≤ nxT M0 n row ∧ ∀ j, j < nxT M0 n row → S.2.2.2.1 j = nxV M0 n row isL j
def fiI (M : tMd) (S : tRd) (c : Nat) : Prop := ∀ i, i < c → S.2.2.2.2 i = wdL (wF M 7 (8 * i)) ∧ ltR (wF M 7 (8 * i))
def itO (H : am_H) (R A n l : Nat) (C0 : tCl) (M0 : tMd) (row isL : Int) (s : Nat) (cr : tRd → tCl → Prop) (ce : tRd → tCl → Prop) (rf : Int → tMd → Prop) : Prop :=
  (∃ C' S' M' s' gv' t', cr S' C' ∧ rf ((t' : Nat) : Int) M' ∧ tkR C' M' l s' ∧ prI n C0 M0 C' M' gv' ∧ quI M0 n row isL t' gv' S' ∧ s < s') ∨ ∃ C' S' M' V, ce S' C' ∧ rf V M' ∧ epI n C0 M0 C' M'
theorem la_j (hR : 1315 ≤ R) {H : am_H} (hH : strs H) (hs : prS A N n C0 M0) (hp : prR n C0 M0 rc) (hb0 : byI C0 M0 l) {S : tRd} {row isL : Int} (hrow : row = -1 ∨ (0 ≤ row ∧ row < rc)) (hL : isL = 0 ∨ isL = 1) {t cnt : Nat} (h1 : 1 ≤ cnt) (hc : t + cnt ≤ nxT M0 n row) (ht : tkR C M l s) (hr : prI n C0 M0 C M gv) (hq : quI M0 n row isL t gv S) (hf : fiI M S cnt) {l2 : Int32} {l3 : Option Value} :
    itO H R A n l C0 M0 row isL s (fun S' C' => ru_n z 98 145 [some (.ref R), some (.int (wI ((cnt : Nat) : Int))), some (.int l2), l3, none, none] [] (clPut (rdH H R (A + 1) S) C) = some (.inl none, clPut (rdH H R (A + 1) S') C'))
      (fun S' C' => ru_n z 98 145 [some (.ref R), some (.int (wI ((cnt : Nat) : Int))), some (.int l2), l3, none, none] [] (clPut (rdH H R (A + 1) S) C) = some (.inr 2, clPut (rdH (thr H) R (A + 1) S') C'))
      (fun V M' => ∀ h, strs h → ru_n z 138 78 [some (.ref 1315), some (.int (wI n)), some (.int (wI row)), some (.int (wI isL)), some (.int (wI ((t : Nat) : Int))), some (.int (wI ((cnt : Nat) : Int))), some (.int (wI 0)), none] [] (mdPut h M) = some (.inl (some (.int (wI V))), mdPut h M')) := by
  obtain ⟨T, hT⟩ : ∃ T, T = nxT M0 n row := ⟨_, rfl⟩
  have T12 := (nxT_12 hp hrow).1
  obtain ⟨g, T', t', Q, F⟩ := S
  obtain ⟨q1, q2, q3, q4, q5⟩ := id hq
  dsimp only at q1 q2 q3 q5
  subst q1 q2 q3
  have hb := pr_byI hb0 hr
  have h17 := hr.2.2.2.1
  have hn := hb0.1
  have hq0 := hp.2.2.2.2.1
  have d0 : ((0 : Int) = 0) = True := eq_true rfl
  have d1 : ((1 : Int) = 0) = False := eq_false (by decide)
  have dc : ((cnt : Int) ≤ 0) = False := eq_false (by omega)
  have sS : strs (rdH H R (A + 1) (g, ((nxT M0 n row : Nat) : Int), (t : Int), Q, F)) := strs_rd hR hH
  by_cases cw : nmTk M = true
  rotate_left
  · right
    have hm := mut_er ht (t := 1) (by decide)
    refine ⟨_, (g, ((nxT M0 n row : Nat) : Int), (t : Int), Q, F), _, (t : Int) + (cnt : Int), ?_, fun h hS => ?_, ep_of hr ht hn (t := 1) (by decide)⟩
    · have x := c42 (z := z) sS ht hb
      rw [if_neg cw] at x
      simp (disch := omega) only [e98_145, e98_146, e98_149, ↓reduceIte, Bool.false_eq_true, not_false_eq_true, not_true_eq_false, Nat.reduceLeDiff, Nat.reduceAdd, Nat.reduceEqDiff, Int.reduceToNat, Int.toNat_natCast, iB0, iB1, ru_klI, ru_klR, ru_klF, ru_klJ, ru_kl0, ru_cs0, ru_csI, ru_csR, ru_csF, ru_csJ, wI_add, wI_sub, wI_mul, wI_lt, wI_le, wI_inj, ru_fdE, ru_fdN, ru_iaN, ru_baN, ru_laN, ru_qaN, ru_pfN, ru_isN, ru_bsN, ru_jsN, ru_qsN, ru_set2, Nat.add_right_cancel_iff, if_true, if_false, ite_self, Int.reduceEq, and_self, Int.add_neg_cancel_right, Int.add_zero, Int.zero_add, rd_e hR, rd_f0 hR, cl_e1, x]
      rfl
    · have x := p69 (z := z) hS ht h17
      rw [if_neg cw] at x
      have u1 := u66 (z := z) (h := h) hm
      have g17 : am_fd (mdPut h (erM M 1)) 1315 10 17 = some (.int (wI 1)) := by rw [md_f17]; rfl
      simp (disch := omega) only [e138_78, e138_79, e138_82, e138_85, e138_86, e138_87, e138_90, e138_91, e138_93, e138_95, e138_97, e138_100, e138_101, e138_104, e138_107, e138_108, e138_109, e138_112, e138_113, e138_116, e138_117, e138_120, e138_122, e138_124, e138_125, e138_128, e138_129, e138_132, e138_133, e138_135, e138_138, e138_141, e138_144, e138_145, e138_147, e138_149, e138_151, e138_154, e138_155, e138_158, e138_161, e138_162, e138_163, e138_164, e138_165, e138_166, e138_167, e138_169, e138_171, e138_172, e138_175, e138_176, e138_177, e138_180, e138_181, e138_184, e138_185, e138_188, e138_190, e138_192, e138_193, e138_196, e138_199, e138_200, e138_201, e138_204, e138_205, e138_206, e138_209, e138_212, e138_215, e138_216, e138_219, e138_221, e138_223, e138_224, ↓reduceIte, Bool.false_eq_true, not_false_eq_true, not_true_eq_false, Nat.reduceLeDiff, Nat.reduceAdd, Nat.reduceEqDiff, Int.reduceToNat, Int.toNat_natCast, iB0, iB1, ru_klI, ru_klR, ru_klF, ru_klJ, ru_kl0, ru_cs0, ru_csI, ru_csR, ru_csF, ru_csJ, wI_add, wI_sub, wI_mul, wI_lt, wI_le, wI_inj, ru_fdE, ru_fdN, ru_iaN, ru_baN, ru_laN, ru_qaN, ru_pfN, ru_isN, ru_bsN, ru_jsN, ru_qsN, ru_set2, Nat.add_right_cancel_iff, if_true, if_false, ite_self, Int.reduceEq, and_self, Int.add_neg_cancel_right, Int.add_zero, Int.zero_add, md_e, x, f63 h17, u1, g17, dc, d0, d1, not_true, not_false_iff]
  obtain ⟨e1, e2, e3⟩ := tkR_w ht (nmTk_13 cw)
  have kk1 : ru_ev z 42 [.ref 1001] (clPut (rdH H R (A + 1) (g, ((nxT M0 n row : Nat) : Int), (t : Int), Q, F)) C) = some (.inl (some (.long (wdL (M.2 4)))), clPut (rdH H R (A + 1) (g, ((nxT M0 n row : Nat) : Int), (t : Int), Q, F)) C) := by rw [c42 sS ht hb, if_pos cw, e1]
  obtain ⟨P, hP⟩ : ∃ P : Nat → Nat, P = fun i => (nxV M0 n row isL (t + i)).toNat := ⟨_, rfl⟩
  obtain ⟨V, hV⟩ : ∃ V : Nat → Int, V = fun i => fdV M0 N (wF M 7 (8 * i)) (M.2 4) := ⟨_, rfl⟩
  have hPx : ∀ i, i < cnt → nxV M0 n row isL (t + i) = (P i : Int) ∧ shS (mph M0 n) (P i) = true := fun i hi => by
    obtain ⟨k, w1, w2⟩ := nx_sh hp hrow (isL := isL) (t := t + i) (by omega)
    have : P i = k := by rw [hP]; show (nxV M0 n row isL (t + i)).toNat = k; rw [w1, Int.toNat_natCast]
    rw [this]
    exact ⟨w1, w2⟩
  have hVx : ∀ i, V i = fdV M0 N (wF M 7 (8 * i)) (M.2 4) := fun i => by rw [hV]
  have hVb : ∀ i, -1 ≤ V i ∧ V i < (N : Int) := fun i => by rw [hVx i]; exact fdV_b N _ _
  have hF : ∀ i, i < cnt → F i = wdL (wF M 7 (8 * i)) ∧ ltR (wF M 7 (8 * i)) := hf
  have gS := fun (d : Nat) (hd : d ≤ cnt) (hk : ∀ j, j < d → ¬ V j = -1) => c98g (z := z) (P := P) (V := V) (cnt := cnt) (Q := Q) (F := F) (T := nxT M0 n row) (t := t) (fw := fun i => wF M 7 (8 * i)) (lw := M.2 4) (l2 := some (.int l2)) hR (H := H) hs hq0 hr ht T12 hc (fun i hi => by rw [q5 _ (by omega)]; exact (hPx i hi).1) hF e2.1 (fun i hi => hVx i) rfl d 0 (by omega) (fun j hj => ⟨(hPx j (by omega)).2, by have := hVb j; have := hk j (by omega); omega, (hVb j).2⟩)
  have kS := fun (h : am_H) (d : Nat) (hd : d ≤ cnt) (hk : ∀ j, j < d → ¬ V j = -1) => p138k (z := z) (h := h) (row := row) (isL := isL) (t := t) (cnt := cnt) (V := V) (x6 := wI 0) hs hr (by omega) (fun i hi => (hF i hi).2) e2.1 (fun i hi => hVx i) d 0 (by omega) (fun j hj => ⟨by have := hVb j; have := hk j (by omega); omega, (hVb j).2⟩)
  have x69 : ∀ h, strs h → ru_ev z 69 [.ref 1315] (mdPut h M) = some (.inl (some (.int (wI 1))), mdPut h M) := fun h hS => by
    have x := p69 (z := z) hS ht h17
    rw [if_pos cw] at x; exact x
  have z0 : ((0 : Nat) : Int) = 0 := rfl
  rcases fst_no V cnt with hk | ⟨i0, hi0, hv0, hk⟩
  · -- all names are known
    left
    obtain ⟨k1, k2⟩ := itG_pr (P := P) (V := V) hs hq0 hr ht cnt (fun j hj => ⟨(hPx j hj).2, by have := hVb j; have := hk j hj; omega, (hVb j).2⟩)
    obtain ⟨m2, m1⟩ := itG_2 (n := n) (P := P) (V := V) (C := C) (M := M) cnt
    have G1 := gS cnt (Nat.le_refl _) hk
    obtain ⟨Cc, hCc⟩ : ∃ Cc, Cc = (itG n P V C M cnt).1 := ⟨_, rfl⟩
    obtain ⟨Mc, hMc⟩ : ∃ Mc, Mc = (itG n P V C M cnt).2 := ⟨_, rfl⟩
    have pS := fun h => p138g (z := z) (P := P) (V := V) (cnt := cnt) (t := t) (h := h) (x6 := wI 0) hs hp hr ht hrow hL (by omega) (fun i hi => (hPx i hi).1) (fun i hi => (hF i hi).2) e2.1 (fun i hi => hVx i) cnt 0 (by omega) (fun j hj => ⟨(hPx j (by omega)).2, by have := hVb j; have := hk j (by omega); omega, (hVb j).2⟩)
    simp only [Nat.zero_add, ← hMc] at pS
    rw [← hCc, ← hMc] at k1 k2
    rw [← hMc] at m1
    simp only [Nat.zero_add, ← hCc] at G1
    obtain ⟨C3, M3, s3, j1, j2, j3, j4, j5, j6⟩ := tk_adv (z := z) k2 (by rw [m1 13 (by decide), nmTk_13 cw]; decide) (pr_byI hb0 k1)
    refine ⟨C3, (g + (cnt : Int), ((nxT M0 n row : Nat) : Int), (t : Int) + (cnt : Int), Q, F), M3, s3, g + (cnt : Int), t + cnt, ?_, fun h hS => ?_, j3, prI_tok k1 j4 j5, ⟨rfl, rfl, rfl, hc, q5⟩, j6⟩
    · have s7 := rd_s7 (h := H) (C := Cc) (R := R) (nm := A + 1) (S := (g + (cnt : Int), ((nxT M0 n row : Nat) : Int), (t : Int), Q, F)) hR (v := (t : Int) + (cnt : Int))
      have f7 : am_fd (clPut (rdH H R (A + 1) (g + (cnt : Int), ((nxT M0 n row : Nat) : Int), (t : Int), Q, F)) Cc) R 8 7 = some (.int (wI (t : Int))) := rd_f7 hR
      dsimp only at s7
      have G2 : ru_n z 98 156 [some (.ref R), some (.int (wI ((cnt : Nat) : Int))), some (.int l2), some (.long (wdL (M.2 4))), none, some (.int (wI 0))] [] (clPut (rdH H R (A + 1) (g, ((nxT M0 n row : Nat) : Int), (t : Int), Q, F)) C) = some (.inl none, clPut (rdH H R (A + 1) (g + (cnt : Int), ((nxT M0 n row : Nat) : Int), (t : Int) + (cnt : Int), Q, F)) C3) := by
        have e0 : g + ((0 : Nat) : Int) = g := by omega
        rw [e0] at G1
        have G1' : ru_n z 98 156 [some (.ref R), some (.int (wI ((cnt : Nat) : Int))), some (.int l2), some (.long (wdL (M.2 4))), none, some (.int (wI 0))] [] (clPut (rdH H R (A + 1) (g, ((nxT M0 n row : Nat) : Int), (t : Int), Q, F)) C) = _ := G1
        rw [G1']
        simp (disch := omega) only [e98_156, e98_158, e98_159, e98_196, e98_197, e98_198, e98_201, e98_202, e98_203, e98_206, e98_207, e98_210, e98_213, ↓reduceIte, Bool.false_eq_true, not_false_eq_true, not_true_eq_false, Nat.reduceLeDiff, Nat.reduceAdd, Nat.reduceEqDiff, Int.reduceToNat, Int.toNat_natCast, iB0, iB1, ru_klI, ru_klR, ru_klF, ru_klJ, ru_kl0, ru_cs0, ru_csI, ru_csR, ru_csF, ru_csJ, wI_add, wI_sub, wI_mul, wI_lt, wI_le, wI_inj, ru_fdE, ru_fdN, ru_iaN, ru_baN, ru_laN, ru_qaN, ru_pfN, ru_isN, ru_bsN, ru_jsN, ru_qsN, ru_set2, Nat.add_right_cancel_iff, if_true, if_false, ite_self, Int.reduceEq, and_self, Int.add_neg_cancel_right, Int.add_zero, Int.zero_add, ru_ctR, ru_ctI, rd_e hR, rd_f0 hR, f7, s7, cl_e1, j1, Int.le_refl]
      simp (disch := omega) only [e98_145, e98_146, e98_149, e98_152, e98_153, e98_154, ↓reduceIte, Bool.false_eq_true, not_false_eq_true, not_true_eq_false, Nat.reduceLeDiff, Nat.reduceAdd, Nat.reduceEqDiff, Int.reduceToNat, Int.toNat_natCast, iB0, iB1, ru_klI, ru_klR, ru_klF, ru_klJ, ru_kl0, ru_cs0, ru_csI, ru_csR, ru_csF, ru_csJ, wI_add, wI_sub, wI_mul, wI_lt, wI_le, wI_inj, ru_fdE, ru_fdN, ru_iaN, ru_baN, ru_laN, ru_qaN, ru_pfN, ru_isN, ru_bsN, ru_jsN, ru_qsN, ru_set2, Nat.add_right_cancel_iff, if_true, if_false, ite_self, Int.reduceEq, and_self, Int.add_neg_cancel_right, Int.add_zero, Int.zero_add, rd_e hR, rd_f0 hR, cl_e1, kk1, G2]
    · have y := p66 (z := z) (h := h) (M := Mc) k1.2.2.2.1 (j2 h)
      have k2 := kS h cnt (Nat.le_refl _) hk
      simp only [Nat.zero_add] at k2
      rw [z0] at k2
      have pS' : ru_n z 138 147 [some (.ref 1315), some (.int (wI n)), some (.int (wI row)), some (.int (wI isL)), some (.int (wI ((t : Nat) : Int))), some (.int (wI ((cnt : Nat) : Int))), some (.int (wI 0)), some (.int (wI 0))] [] (mdPut h M) = some (.inl (some (.int (wI ((t + cnt : Nat) : Int)))), mdPut h M3) := by
        have p1 : ru_n z 138 147 [some (.ref 1315), some (.int (wI n)), some (.int (wI row)), some (.int (wI isL)), some (.int (wI ((t : Nat) : Int))), some (.int (wI ((cnt : Nat) : Int))), some (.int (wI 0)), some (.int (wI 0))] [] (mdPut h M) = _ := pS h
        rw [p1]
        simp only [Int.natCast_add]
        simp (disch := omega) only [e138_147, e138_149, e138_151, e138_215, e138_216, e138_219, e138_221, e138_223, e138_224, ↓reduceIte, Bool.false_eq_true, not_false_eq_true, not_true_eq_false, Nat.reduceLeDiff, Nat.reduceAdd, Nat.reduceEqDiff, Int.reduceToNat, Int.toNat_natCast, iB0, iB1, ru_klI, ru_klR, ru_klF, ru_klJ, ru_kl0, ru_cs0, ru_csI, ru_csR, ru_csF, ru_csJ, wI_add, wI_sub, wI_mul, wI_lt, wI_le, wI_inj, ru_fdE, ru_fdN, ru_iaN, ru_baN, ru_laN, ru_qaN, ru_pfN, ru_isN, ru_bsN, ru_jsN, ru_qsN, ru_set2, Nat.add_right_cancel_iff, if_true, if_false, ite_self, Int.reduceEq, and_self, Int.add_neg_cancel_right, Int.add_zero, Int.zero_add, md_e, y, Int.le_refl]
      have k3 : ru_n z 138 93 [some (.ref 1315), some (.int (wI n)), some (.int (wI row)), some (.int (wI isL)), some (.int (wI ((t : Nat) : Int))), some (.int (wI ((cnt : Nat) : Int))), some (.int (wI 0)), some (.int (wI 0))] [] (mdPut h M) = some (.inl (some (.int (wI ((t + cnt : Nat) : Int)))), mdPut h M3) := by
        rw [k2]
        simp (disch := omega) only [e138_93, e138_95, e138_97, e138_144, e138_145, ↓reduceIte, Bool.false_eq_true, not_false_eq_true, not_true_eq_false, Nat.reduceLeDiff, Nat.reduceAdd, Nat.reduceEqDiff, Int.reduceToNat, Int.toNat_natCast, iB0, iB1, ru_klI, ru_klR, ru_klF, ru_klJ, ru_kl0, ru_cs0, ru_csI, ru_csR, ru_csF, ru_csJ, wI_add, wI_sub, wI_mul, wI_lt, wI_le, wI_inj, ru_fdE, ru_fdN, ru_iaN, ru_baN, ru_laN, ru_qaN, ru_pfN, ru_isN, ru_bsN, ru_jsN, ru_qsN, ru_set2, Nat.add_right_cancel_iff, if_true, if_false, ite_self, Int.reduceEq, and_self, Int.add_neg_cancel_right, Int.add_zero, Int.zero_add, md_e, pS', Int.le_refl]
      simp (disch := omega) only [e138_78, e138_79, e138_82, e138_85, e138_86, e138_87, e138_90, e138_91, ↓reduceIte, Bool.false_eq_true, not_false_eq_true, not_true_eq_false, Nat.reduceLeDiff, Nat.reduceAdd, Nat.reduceEqDiff, Int.reduceToNat, Int.toNat_natCast, iB0, iB1, ru_klI, ru_klR, ru_klF, ru_klJ, ru_kl0, ru_cs0, ru_csI, ru_csR, ru_csF, ru_csJ, wI_add, wI_sub, wI_mul, wI_lt, wI_le, wI_inj, ru_fdE, ru_fdN, ru_iaN, ru_baN, ru_laN, ru_qaN, ru_pfN, ru_isN, ru_bsN, ru_jsN, ru_qsN, ru_set2, Nat.add_right_cancel_iff, if_true, if_false, ite_self, Int.reduceEq, and_self, Int.add_neg_cancel_right, Int.add_zero, Int.zero_add, md_e, x69 h hS, d1, k3, not_true, not_false_iff]
  · -- the first name that is not known
    right
    obtain ⟨k1, k2⟩ := itG_pr (P := P) (V := V) hs hq0 hr ht i0 (fun j hj => ⟨(hPx j (by omega)).2, by have := hVb j; have := hk j hj; omega, (hVb j).2⟩)
    have G1 := gS i0 (by omega) hk
    obtain ⟨Cc, hCc⟩ : ∃ Cc, Cc = (itG n P V C M i0).1 := ⟨_, rfl⟩
    obtain ⟨Mc, hMc⟩ : ∃ Mc, Mc = (itG n P V C M i0).2 := ⟨_, rfl⟩
    rw [← hCc, ← hMc] at k1 k2
    simp only [Nat.zero_add, ← hCc] at G1
    have E1 := ep_of k1 k2 hn (t := 6) (by decide)
    have E2 := ep_of hr ht hn (t := 6) (by decide)
    have hm := mut_er ht (t := 6) (by decide)
    have eE : epI n C0 M0 (erC Cc 6) (erM M 6) := by
      obtain ⟨b1, b2, b3, b4, b5, b6, b7, b8, b9⟩ := E1
      obtain ⟨c1, c2, c3, c4, c5, c6, c7, c8, c9⟩ := E2
      refine ⟨b1, b2, rfl, ?_, c5, c6, b7, c8, c9⟩
      have e1 : (erM M 6).1 18 = M.1 12 := rfl
      have e2 : (erC Cc 6).1 1001 3 = Cc.1 1001 5 := rfl
      rw [e1, e2, k2.2.2.2.1, ht.2.2.2.2.1]
    refine ⟨erC Cc 6, (g + (i0 : Int), ((nxT M0 n row : Nat) : Int), (t : Int), Q, F), erM M 6, (t : Int) + (cnt : Int), ?_, fun h hS => ?_, eE⟩
    · have cc : ((cnt : Int) ≤ (i0 : Int)) = False := eq_false (by omega)
      have rq := rd_q (h := H) (C := Cc) (R := R) (nm := A + 1) (S := (g + (i0 : Int), ((nxT M0 n row : Nat) : Int), (t : Int), Q, F)) hR (i := (t : Int) + (i0 : Int)) (by omega) (by omega)
      have rl := rd_l (h := H) (C := Cc) (R := R) (nm := A + 1) (S := (g + (i0 : Int), ((nxT M0 n row : Nat) : Int), (t : Int), Q, F)) hR (i := (i0 : Int)) (by omega) (by omega)
      dsimp only at rq rl
      rw [Int.toNat_natCast, (hF i0 hi0).1] at rl
      have f7 : am_fd (clPut (rdH H R (A + 1) (g + (i0 : Int), ((nxT M0 n row : Nat) : Int), (t : Int), Q, F)) Cc) R 8 7 = some (.int (wI (t : Int))) := rd_f7 hR
      have kf := f43 (z := z) hs k1 (hF i0 hi0).2 e2.1 (rdH H R (A + 1) (g + (i0 : Int), ((nxT M0 n row : Nat) : Int), (t : Int), Q, F))
      rw [← hVx i0, hv0] at kf
      have y := c36 (z := z) (h := rdH H R (A + 1) (g + (i0 : Int), ((nxT M0 n row : Nat) : Int), (t : Int), Q, F)) (C := Cc) (b := 0) (Or.inl rfl) (c := 6)
      rw [if_neg (by decide)] at y
      have dm : ((-1 : Int) = -1) = True := eq_true rfl
      have eA : (clPut (rdH H R (A + 1) (g + (i0 : Int), ((nxT M0 n row : Nat) : Int), (t : Int), Q, F)) Cc).1 (A + 1) = some (.inr (3, clL3 Cc (A + 1))) := (sprF hs.1).2.2.2.2.1
      have x99 : ru_ev z 99 [.ref R, .long (wdL (wF M 7 (8 * i0))), .long (wdL (M.2 4))] (clPut (rdH H R (A + 1) (g + (i0 : Int), ((nxT M0 n row : Nat) : Int), (t : Int), Q, F)) Cc) = some (.inr 2, clPut (rdH (thr H) R (A + 1) (g + (i0 : Int), ((nxT M0 n row : Nat) : Int), (t : Int), Q, F)) (erC Cc 6)) := by
        simp (disch := omega) only [en99, e99_0, e99_1, e99_4, e99_5, e99_6, e99_9, e99_11, e99_12, e99_15, e99_17, e99_18, e99_21, e99_22, e99_25, e99_26, e99_28, e99_31, e99_33, ↓reduceIte, Bool.false_eq_true, not_false_eq_true, not_true_eq_false, Nat.reduceLeDiff, Nat.reduceAdd, Nat.reduceEqDiff, Int.reduceToNat, Int.toNat_natCast, iB0, iB1, ru_klI, ru_klR, ru_klF, ru_klJ, ru_kl0, ru_cs0, ru_csI, ru_csR, ru_csF, ru_csJ, wI_add, wI_sub, wI_mul, wI_lt, wI_le, wI_inj, ru_fdE, ru_fdN, ru_iaN, ru_baN, ru_laN, ru_qaN, ru_pfN, ru_isN, ru_bsN, ru_jsN, ru_qsN, ru_set2, Nat.add_right_cancel_iff, if_true, if_false, ite_self, Int.reduceEq, and_self, Int.add_neg_cancel_right, Int.add_zero, Int.zero_add, rd_e hR, rd_f0 hR, rd_f1 hR, cl_e1, eA, kf, dm, y, not_true, not_false_iff]
        rfl
      have G2 : ru_n z 98 156 [some (.ref R), some (.int (wI ((cnt : Nat) : Int))), some (.int l2), some (.long (wdL (M.2 4))), none, some (.int (wI 0))] [] (clPut (rdH H R (A + 1) (g, ((nxT M0 n row : Nat) : Int), (t : Int), Q, F)) C) = some (.inr 2, clPut (rdH (thr H) R (A + 1) (g + (i0 : Int), ((nxT M0 n row : Nat) : Int), (t : Int), Q, F)) (erC Cc 6)) := by
        have e0 : g + ((0 : Nat) : Int) = g := by omega
        rw [e0] at G1
        have G1' : ru_n z 98 156 [some (.ref R), some (.int (wI ((cnt : Nat) : Int))), some (.int l2), some (.long (wdL (M.2 4))), none, some (.int (wI 0))] [] (clPut (rdH H R (A + 1) (g, ((nxT M0 n row : Nat) : Int), (t : Int), Q, F)) C) = _ := G1
        rw [G1']
        simp (disch := omega) only [e98_156, e98_158, e98_159, e98_162, e98_163, e98_164, e98_167, e98_168, e98_171, e98_173, e98_174, e98_175, e98_176, e98_177, e98_180, e98_182, e98_183, e98_184, ↓reduceIte, Bool.false_eq_true, not_false_eq_true, not_true_eq_false, Nat.reduceLeDiff, Nat.reduceAdd, Nat.reduceEqDiff, Int.reduceToNat, Int.toNat_natCast, iB0, iB1, ru_klI, ru_klR, ru_klF, ru_klJ, ru_kl0, ru_cs0, ru_csI, ru_csR, ru_csF, ru_csJ, wI_add, wI_sub, wI_mul, wI_lt, wI_le, wI_inj, ru_fdE, ru_fdN, ru_iaN, ru_baN, ru_laN, ru_qaN, ru_pfN, ru_isN, ru_bsN, ru_jsN, ru_qsN, ru_set2, Nat.add_right_cancel_iff, if_true, if_false, ite_self, Int.reduceEq, and_self, Int.add_neg_cancel_right, Int.add_zero, Int.zero_add, rd_e hR, rd_f5 hR, rd_f8 hR, f7, cc, rq, rl, x99]
      simp (disch := omega) only [e98_145, e98_146, e98_149, e98_152, e98_153, e98_154, ↓reduceIte, Bool.false_eq_true, not_false_eq_true, not_true_eq_false, Nat.reduceLeDiff, Nat.reduceAdd, Nat.reduceEqDiff, Int.reduceToNat, Int.toNat_natCast, iB0, iB1, ru_klI, ru_klR, ru_klF, ru_klJ, ru_kl0, ru_cs0, ru_csI, ru_csR, ru_csF, ru_csJ, wI_add, wI_sub, wI_mul, wI_lt, wI_le, wI_inj, ru_fdE, ru_fdN, ru_iaN, ru_baN, ru_laN, ru_qaN, ru_pfN, ru_isN, ru_bsN, ru_jsN, ru_qsN, ru_set2, Nat.add_right_cancel_iff, if_true, if_false, ite_self, Int.reduceEq, and_self, Int.add_neg_cancel_right, Int.add_zero, Int.zero_add, rd_e hR, rd_f0 hR, cl_e1, kk1, G2]
    · have k2 := kS h i0 (by omega) hk
      simp only [Nat.zero_add] at k2
      rw [z0] at k2
      have cc : ((cnt : Int) ≤ (i0 : Int)) = False := eq_false (by omega)
      have g17 : am_fd (mdPut h M) 1315 10 17 = some (.int (wI 0)) := by rw [md_f17, h17]
      have g20 : am_fd (mdPut h M) 1315 10 20 = some (.int (wI N)) := by rw [md_f20, hr.2.2.1.1 20 (by omega) (by decide), hs.2.2.1]
      have x70 := f70 (z := z) hs hr (off := 8 * i0) (by omega) (hF i0 hi0).2 e2.1 h
      rw [← hVx i0, hv0] at x70
      simp only [Int.natCast_mul, show ((8 : Nat) : Int) = 8 from rfl] at x70
      have u1 := u66 (z := z) (h := h) hm
      have e17 : am_fd (mdPut h (erM M 6)) 1315 10 17 = some (.int (wI 6)) := by rw [md_f17]; rfl
      have d6 : ((6 : Int) = 0) = False := eq_false (by decide)
      have dm : ((-1 : Int) = -1) = True := eq_true rfl
      have k3 : ru_n z 138 93 [some (.ref 1315), some (.int (wI n)), some (.int (wI row)), some (.int (wI isL)), some (.int (wI ((t : Nat) : Int))), some (.int (wI ((cnt : Nat) : Int))), some (.int (wI 0)), some (.int (wI 0))] [] (mdPut h M) = some (.inl (some (.int (wI ((t : Int) + (cnt : Int))))), mdPut h (erM M 6)) := by
        rw [k2, e138_93]
        by_cases c2 : i0 + 1 < cnt
        · have c3 : ((cnt : Int) ≤ (i0 : Int) + 1) = False := eq_false (by omega)
          simp (disch := omega) only [e138_93, e138_95, e138_97, e138_100, e138_101, e138_104, e138_107, e138_108, e138_109, e138_112, e138_113, e138_116, e138_117, e138_120, e138_122, e138_124, e138_125, e138_128, e138_129, e138_132, e138_133, e138_135, e138_138, e138_141, e138_144, e138_145, e138_147, e138_149, e138_151, e138_154, e138_155, e138_158, e138_161, e138_162, e138_163, e138_164, e138_165, e138_166, e138_167, e138_169, e138_171, e138_172, e138_175, e138_176, e138_177, e138_180, e138_181, e138_184, e138_185, e138_188, e138_190, e138_192, e138_193, e138_196, e138_199, e138_200, e138_201, e138_204, e138_205, e138_206, e138_209, e138_212, e138_215, e138_216, e138_219, e138_221, e138_223, e138_224, ↓reduceIte, Bool.false_eq_true, not_false_eq_true, not_true_eq_false, Nat.reduceLeDiff, Nat.reduceAdd, Nat.reduceEqDiff, Int.reduceToNat, Int.toNat_natCast, iB0, iB1, ru_klI, ru_klR, ru_klF, ru_klJ, ru_kl0, ru_cs0, ru_csI, ru_csR, ru_csF, ru_csJ, wI_add, wI_sub, wI_mul, wI_lt, wI_le, wI_inj, ru_fdE, ru_fdN, ru_iaN, ru_baN, ru_laN, ru_qaN, ru_pfN, ru_isN, ru_bsN, ru_jsN, ru_qsN, ru_set2, Nat.add_right_cancel_iff, if_true, if_false, ite_self, Int.reduceEq, and_self, Int.add_neg_cancel_right, Int.add_zero, Int.zero_add, md_e, md_f19, md_f23, g17, g20, cc, c3, x70, f63 h17, e17, d6, dm, dc, u1, d0, not_true, not_false_iff]
        · have c3 : ((cnt : Int) ≤ (i0 : Int) + 1) = True := eq_true (by omega)
          simp (disch := omega) only [e138_93, e138_95, e138_97, e138_100, e138_101, e138_104, e138_107, e138_108, e138_109, e138_112, e138_113, e138_116, e138_117, e138_120, e138_122, e138_124, e138_125, e138_128, e138_129, e138_132, e138_133, e138_135, e138_138, e138_141, e138_144, e138_145, e138_147, e138_149, e138_151, e138_154, e138_155, e138_158, e138_161, e138_162, e138_163, e138_164, e138_165, e138_166, e138_167, e138_169, e138_171, e138_172, e138_175, e138_176, e138_177, e138_180, e138_181, e138_184, e138_185, e138_188, e138_190, e138_192, e138_193, e138_196, e138_199, e138_200, e138_201, e138_204, e138_205, e138_206, e138_209, e138_212, e138_215, e138_216, e138_219, e138_221, e138_223, e138_224, ↓reduceIte, Bool.false_eq_true, not_false_eq_true, not_true_eq_false, Nat.reduceLeDiff, Nat.reduceAdd, Nat.reduceEqDiff, Int.reduceToNat, Int.toNat_natCast, iB0, iB1, ru_klI, ru_klR, ru_klF, ru_klJ, ru_kl0, ru_cs0, ru_csI, ru_csR, ru_csF, ru_csJ, wI_add, wI_sub, wI_mul, wI_lt, wI_le, wI_inj, ru_fdE, ru_fdN, ru_iaN, ru_baN, ru_laN, ru_qaN, ru_pfN, ru_isN, ru_bsN, ru_jsN, ru_qsN, ru_set2, Nat.add_right_cancel_iff, if_true, if_false, ite_self, Int.reduceEq, and_self, Int.add_neg_cancel_right, Int.add_zero, Int.zero_add, md_e, md_f19, md_f23, g17, g20, cc, c3, x70, f63 h17, e17, d6, dm, dc, u1, d0, not_true, not_false_iff]
      simp (disch := omega) only [e138_78, e138_79, e138_82, e138_85, e138_86, e138_87, e138_90, e138_91, ↓reduceIte, Bool.false_eq_true, not_false_eq_true, not_true_eq_false, Nat.reduceLeDiff, Nat.reduceAdd, Nat.reduceEqDiff, Int.reduceToNat, Int.toNat_natCast, iB0, iB1, ru_klI, ru_klR, ru_klF, ru_klJ, ru_kl0, ru_cs0, ru_csI, ru_csR, ru_csF, ru_csJ, wI_add, wI_sub, wI_mul, wI_lt, wI_le, wI_inj, ru_fdE, ru_fdN, ru_iaN, ru_baN, ru_laN, ru_qaN, ru_pfN, ru_isN, ru_bsN, ru_jsN, ru_qsN, ru_set2, Nat.add_right_cancel_iff, if_true, if_false, ite_self, Int.reduceEq, and_self, Int.add_neg_cancel_right, Int.add_zero, Int.zero_add, md_e, x69 h hS, d1, k3, not_true, not_false_iff]
end ITN
