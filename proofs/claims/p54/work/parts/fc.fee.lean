/-! ===== the law feeds a text to the class ===== -/
/-- the class's cells and new ones may change -/
def agC (X Y : am_H) (c s : Nat) : Prop := (∀ q, q < X.2.1 → (q < 1000 ∨ 1315 ≤ q) → Y.1 q = X.1 q) ∧ X.2.1 ≤ Y.2.1 ∧ Y.2.1 ≤ X.2.1 + c ∧ Y.2.2 ≤ X.2.2 + s
theorem agC_r {X : am_H} : agC X X 0 0 := ⟨fun _ _ _ => rfl, Nat.le_refl _, Nat.le_refl _, Nat.le_refl _⟩
theorem agC_x {X Y : am_H} {c s : Nat} (h : agX X Y c s) : agC X Y c s := ⟨fun q hq _ => h.1 q hq, h.2⟩
theorem agC_t {X Y W : am_H} {c s c' s' : Nat} (h : agC X Y c s) (k : agC Y W c' s') : agC X W (c + c') (s + s') := by
  obtain ⟨h1, h2, h3, h4⟩ := h
  obtain ⟨k1, k2, k3, k4⟩ := k
  exact ⟨fun q hq hq2 => (k1 q (by omega) hq2).trans (h1 q hq hq2), by omega, by omega, by omega⟩
theorem agC_m {X Y : am_H} {c s c' s' : Nat} (h : agC X Y c s) (h1 : c ≤ c') (h2 : s ≤ s') : agC X Y c' s' := ⟨h.1, h.2.1, by have := h.2.2.1; omega, by have := h.2.2.2; omega⟩
theorem agC_c {X : am_H} {C : tCl} : agC X (clPut X C) 0 0 := ⟨fun q _ hq => clPut_o (by omega), Nat.le_refl _, Nat.le_refl _, Nat.le_refl _⟩
/-- the class's cells lie in X as C says -/
def clI (X : am_H) (C : tCl) : Prop := X = clPut X C
theorem clI_at {X : am_H} {C : tCl} (h : clI X C) {q : Nat} (hq : 1000 ≤ q ∧ q ≤ 1314 ∧ q ≠ 1259) : X.1 q = clCell C q := by
  have e : X.1 q = (clPut X C).1 q := congrArg (fun Y : am_H => Y.1 q) h
  rw [e, clPut_i hq]
theorem clI_same {X Y : am_H} {C : tCl} (h : clI X C) (k : ∀ q, 1000 ≤ q → q ≤ 1314 → Y.1 q = X.1 q) : clI Y C := by
  refine Prod.ext (funext fun q => ?_) rfl
  show Y.1 q = if 1000 ≤ q ∧ q ≤ 1314 ∧ q ≠ 1259 then clCell C q else Y.1 q
  by_cases e : 1000 ≤ q ∧ q ≤ 1314 ∧ q ≠ 1259
  · rw [if_pos e, k q e.1 e.2.1]; exact clI_at h e
  · rw [if_neg e]
theorem clI_put (X : am_H) (C : tCl) : clI (clPut X C) C := (clPut_put X C C).symm
theorem clI_x {X Y : am_H} {C : tCl} {c s : Nat} (h : clI X C) (k : agX X Y c s) (hX : 1315 ≤ X.2.1) : clI Y C := clI_same h (fun q _ h2 => k.1 q (by omega))
theorem ibP_ib {C : tCl} {n m : Int} {f g : Nat → Int} : ibP (ibP C n f) m g = ibP C m g := by
  refine Prod.ext (funext fun q => funext fun j => ?_) (Prod.ext (funext fun q => ?_) rfl)
  · show (if q = 1001 then (if j = 1 then m else (if q = 1001 then (if j = 1 then n else C.1 q j) else C.1 q j)) else (if q = 1001 then (if j = 1 then n else C.1 q j) else C.1 q j)) = if q = 1001 then (if j = 1 then m else C.1 q j) else C.1 q j
    by_cases e : q = 1001
    · rw [if_pos e, if_pos e, if_pos e]
      by_cases e2 : j = 1
      · rw [if_pos e2, if_pos e2]
      · rw [if_neg e2, if_neg e2, if_neg e2]
    · rw [if_neg e, if_neg e, if_neg e]
  · show (if q = 1002 then g else if q = 1002 then f else C.2.1 q) = if q = 1002 then g else C.2.1 q
    by_cases e : q = 1002
    · rw [if_pos e, if_pos e]
    · rw [if_neg e, if_neg e, if_neg e]
theorem ibP_1 {C : tCl} {n : Int} {f : Nat → Int} : (ibP C n f).1 1001 1 = n := rfl
theorem ibP_2 {C : tCl} {n : Int} {f : Nat → Int} : (ibP C n f).2.1 1002 = f := rfl
theorem gT_cl {X : am_H} {C : tCl} {Q V : Nat} {t : List Nat} (h : gT X Q V t) (hQ : Q < 1000 ∨ 1315 ≤ Q) (hV : V < 1000 ∨ 1315 ≤ V) : gT (clPut X C) Q V t := by
  obtain ⟨h1, k, f, hk, h2, h3⟩ := h
  exact ⟨by rw [clPut_o (by omega)]; exact h1, k, f, hk, by rw [clPut_o (by omega)]; exact h2, h3⟩
theorem x5_wr {g : Nat → Int} {q : Nat} (hq : q < 5) : x5 (wI (g 0)) (wI (g 1)) (wI (g 2)) (wI (g 3)) (wI (g 4)) q = wI (g q) := by
  have : q = 0 ∨ q = 1 ∨ q = 2 ∨ q = 3 ∨ q = 4 := by omega
  rcases this with rfl | rfl | rfl | rfl | rfl <;> rfl
section FEE
variable {z : Bool} {C0 : tCl} {Q V : Nat} {t : List Nat}
theorem d402l (hQ : Q < 1000 ∨ 1315 ≤ Q) (hV : V < 1000 ∨ 1315 ≤ V) (ht : t.length ≤ 900) (hb : ∀ j, j < t.length → t.getD j 0 ≤ 127) : ∀ (d : Nat) (X : am_H) (n : Nat) (f : Nat → Int) (l3 l4 : Option Value), clI X (ibP C0 (n : Int) f) → gT X Q V t → Q < X.2.1 → V < X.2.1 → 1315 ≤ X.2.1 → t.length ≤ n + 20 * d → n ≤ t.length + 19 → (∀ q, q < n → q < t.length → f q = ((t.getD q 0 : Nat) : Int)) →
    ∃ (Y : am_H) (n' : Nat) (f' : Nat → Int), ru_n z 402 2 [some (.ref 1000), some (.ref Q), some (.int (wI n)), l3, l4] [] X = some (.inl (some (.int (wI 1))), Y) ∧ clI Y (ibP C0 (n' : Int) f') ∧ t.length ≤ n' ∧ n' ≤ 1000 ∧ (∀ q, q < t.length → f' q = ((t.getD q 0 : Nat) : Int)) ∧ agC X Y d (5 * d) := by
  intro d
  have a1 : wI 1 &&& 1 = wI 1 := by decide +kernel
  have stop : ∀ (d : Nat) (X : am_H) (n : Nat) (f : Nat → Int) (l3 l4 : Option Value), clI X (ibP C0 (n : Int) f) → gT X Q V t → t.length ≤ n → n ≤ t.length + 19 → (∀ q, q < n → q < t.length → f q = ((t.getD q 0 : Nat) : Int)) →
      ∃ (Y : am_H) (n' : Nat) (f' : Nat → Int), ru_n z 402 2 [some (.ref 1000), some (.ref Q), some (.int (wI n)), l3, l4] [] X = some (.inl (some (.int (wI 1))), Y) ∧ clI Y (ibP C0 (n' : Int) f') ∧ t.length ≤ n' ∧ n' ≤ 1000 ∧ (∀ q, q < t.length → f' q = ((t.getD q 0 : Nat) : Int)) ∧ agC X Y d (5 * d) := by
    intro d X n f l3 l4 hc hg h1 h2 hf
    have hl := g29 (z := z) hg (by omega)
    have d1 : ((t.length : Int) ≤ (n : Int)) = True := eq_true (by omega)
    refine ⟨X, n, f, ?_, hc, h1, by omega, fun q hq => hf q (by omega) hq, agC_m agC_r (Nat.zero_le _) (Nat.zero_le _)⟩
    simp (disch := omega) only [e402_2, e402_3, e402_4, e402_7, e402_104, e402_105, ↓reduceIte, Bool.false_eq_true, not_false_eq_true, not_true_eq_false, Nat.reduceLeDiff, Nat.reduceAdd, Nat.reduceEqDiff, Int.reduceToNat, Int.toNat_natCast, iB0, iB1, ru_klI, ru_klR, ru_klF, ru_klJ, ru_kl0, ru_cs0, ru_csI, ru_csR, ru_csF, ru_csJ, wI_add, wI_sub, wI_mul, wI_lt, wI_le, wI_inj, ru_fdE, ru_fdN, ru_iaN, ru_baN, ru_laN, ru_qaN, ru_pfN, ru_isN, ru_bsN, ru_jsN, ru_qsN, ru_set2, Nat.add_right_cancel_iff, if_true, if_false, ite_self, Int.reduceEq, and_self, Int.add_neg_cancel_right, Int.add_zero, Int.zero_add, hl, d1, a1]
  induction d with
  | zero =>
    intro X n f l3 l4 hc hg hq hv hX h1 h2 hf
    exact stop 0 X n f l3 l4 hc hg (by omega) h2 hf
  | succ d ih =>
    intro X n f l3 l4 hc hg hq hv hX h1 h2 hf
    by_cases c : t.length ≤ n
    · exact stop (d + 1) X n f l3 l4 hc hg c h2 hf
    have hl := g29 (z := z) hg (by omega)
    have d1 : ((t.length : Int) ≤ (n : Int)) = False := eq_false (by omega)
    have hg2 : ∀ g : Nat → Int, gT (am_new X (ylI 0 5 g) 5) Q V t := fun g => gT_ag hg (fun q hq => nw_lo hq) hq hv
    have k17 := d402i (z := z) (i := n) hg2 ht hb (by omega) 20 0 (by omega)
    rw [wrF_0] at k17
    have na5 : am_na X 0 (wI 5) = some (am_new X (ylI 0 5 (fun _ => 0)) 5) := yl_na (N := 5) (by omega)
    obtain ⟨W, hW⟩ : ∃ W, W = am_new X (ylI 0 5 (wrF (chF t n) 20)) 5 := ⟨_, rfl⟩
    have hW2 : W.2.1 = X.2.1 + 1 ∧ W.2.2 = X.2.2 + 5 := by rw [hW]; exact ⟨rfl, rfl⟩
    have hWx : agX X W 1 5 := by rw [hW]; exact agX_new
    have hWc := clI_x hc hWx hX
    have rd : ∀ q : Nat, q < 5 → am_ia W X.2.1 (wI ((q : Nat) : Int)) = some (wI (wrF (chF t n) 20 q)) := fun q hq => by
      rw [hW, nw_ia (by omega) (by omega) (by omega), Int.toNat_natCast]
    obtain ⟨F, f1, f2, k13⟩ := c13 (z := z) (h := W) (C := ibP C0 (n : Int) f) (by rw [ibP_1]; omega) (a := wI (wrF (chF t n) 20 0)) (b := wI (wrF (chF t n) 20 1)) (c := wI (wrF (chF t n) 20 2)) (d := wI (wrF (chF t n) 20 3)) (e := wI (wrF (chF t n) 20 4))
    rw [ibP_1] at f1 f2 k13
    rw [if_pos (by omega), if_pos (by omega), ibP_ib, ← hWc] at k13
    have eF : ∀ q, q < n + 20 → q < t.length → F q = ((t.getD q 0 : Nat) : Int) := fun q h3 h4 => by
      by_cases c2 : q < n
      · rw [f1 q (by omega), ibP_2]; exact hf q c2 h4
      · have h5 := f2 (q - n) (by omega)
        rw [Int.toNat_natCast, show n + (q - n) = q by omega, x5_wr (by omega), wrF_20 (by omega), byB_wv (chF_b hb n) (by omega), show 4 * ((q - n) / 4) + (q - n) % 4 = q - n by omega] at h5
        rw [h5]
        unfold chF
        rw [if_pos (by omega), show n + (q - n) = q by omega]
    have hg3 : gT (clPut W (ibP C0 ((n : Int) + 20) F)) Q V t := gT_cl (by rw [hW]; exact hg2 _) hQ hV
    have hc3 : clI (clPut W (ibP C0 ((n : Int) + 20) F)) (ibP C0 ((n : Int) + 20) F) := clI_put _ _
    have hn20 : (n : Int) + 20 = ((n + 20 : Nat) : Int) := by omega
    obtain ⟨Y, n', f', y1, y2, y3, y4, y5, y6⟩ := ih (clPut W (ibP C0 ((n : Int) + 20) F)) (n + 20) F (some (.ref X.2.1)) (some (.int (wI 20))) (by rw [← hn20]; exact hc3) hg3 (by show Q < W.2.1; omega) (by show V < W.2.1; omega) (by show 1315 ≤ W.2.1; omega) (by omega) (by omega) eF
    refine ⟨Y, n', f', ?_, y2, y3, y4, y5, ?_⟩
    · rw [← y1, e402_2]
      have z0 := rd 0 (by omega)
      have z1 := rd 1 (by omega)
      have z2 := rd 2 (by omega)
      have z3 := rd 3 (by omega)
      have z4 := rd 4 (by omega)
      simp only [Int.natCast_add, Int.cast_ofNat_Int, Int.natCast_zero, Int.natCast_one] at z0 z1 z2 z3 z4 k17 ⊢
      rw [← hW] at k17
      have t0 : (am_new X (ylI 0 5 (fun _ => 0)) 5).2.1 = X.2.1 + 1 := rfl
      have t1 : (am_new X (ylI 0 5 (fun _ => 0)) 5).2.1 - 1 = X.2.1 := by rw [t0]; omega
      simp (disch := omega) only [e402_3, e402_4, e402_7, e402_10, e402_11, e402_13, e402_14, e402_15, e402_70, e402_71, e402_72, e402_73, e402_74, e402_75, e402_76, e402_77, e402_78, e402_79, e402_80, e402_81, e402_82, e402_83, e402_84, e402_85, e402_86, e402_89, e402_90, e402_92, e402_93, e402_98, e402_101, ↓reduceIte, Bool.false_eq_true, not_false_eq_true, not_true_eq_false, Nat.reduceLeDiff, Nat.reduceAdd, Nat.reduceEqDiff, Int.reduceToNat, Int.toNat_natCast, iB0, iB1, ru_klI, ru_klR, ru_klF, ru_klJ, ru_kl0, ru_cs0, ru_csI, ru_csR, ru_csF, ru_csJ, wI_add, wI_sub, wI_mul, wI_lt, wI_le, wI_inj, ru_fdE, ru_fdN, ru_iaN, ru_baN, ru_laN, ru_qaN, ru_pfN, ru_isN, ru_bsN, ru_jsN, ru_qsN, ru_set2, Nat.add_right_cancel_iff, if_true, if_false, ite_self, Int.reduceEq, and_self, Int.add_neg_cancel_right, Int.add_zero, Int.zero_add, hl, d1, na5, k17, z0, z1, z2, z3, z4, k13]
    · have h9 : agC W (clPut W (ibP C0 ((n : Int) + 20) F)) 0 0 := agC_c
      exact agC_m (agC_t (agC_x hWx) (agC_t h9 y6)) (by omega) (by omega)
/-- a text is fed -/
theorem d402 {X : am_H} {C : tCl} (hQ : Q < 1000 ∨ 1315 ≤ Q) (hV : V < 1000 ∨ 1315 ≤ V) (ht : t.length ≤ 600) (hb : ∀ j, j < t.length → t.getD j 0 ≤ 127) (hc : clI X C) (h0 : C.1 1001 1 = 0) (hg : gT X Q V t) (hq : Q < X.2.1) (hv : V < X.2.1) (hX : 1315 ≤ X.2.1) : ∃ (Y : am_H) (n : Nat) (f : Nat → Int), ru_ev z 402 [.ref 1000, .ref Q] X = some (.inl (some (.int (wI 1))), Y) ∧ clI Y (ibP C (n : Int) f) ∧ t.length ≤ n ∧ n ≤ 1000 ∧ (∀ q, q < t.length → f q = ((t.getD q 0 : Nat) : Int)) ∧ agC X Y 40 200 := by
  have hs : ibP C ((0 : Nat) : Int) (C.2.1 1002) = C := by
    have := ibP_self (C := C)
    rw [h0] at this
    exact this
  obtain ⟨Y, n, f, y1, y2, y3, y4, y5, y6⟩ := d402l (z := z) (C0 := C) hQ hV (by omega) hb 40 X 0 (C.2.1 1002) none none (by rw [hs]; exact hc) hg hq hv hX (by omega) (by omega) (fun q h1 _ => by omega)
  have e0 : X.1 1000 = some (.inr (0, clL0 C 1000)) := by
    have e : X.1 1000 = (clPut X C).1 1000 := congrArg (fun Y : am_H => Y.1 1000) hc
    rw [e, cl_e0]
  have eq_ := hg.1
  refine ⟨Y, n, f, ?_, y2, y3, y4, y5, agC_m y6 (by omega) (by omega)⟩
  rw [← y1]
  simp (disch := omega) only [en402, e402_0, e402_1, ↓reduceIte, Bool.false_eq_true, not_false_eq_true, not_true_eq_false, Nat.reduceLeDiff, Nat.reduceAdd, Nat.reduceEqDiff, Int.reduceToNat, Int.toNat_natCast, iB0, iB1, ru_klI, ru_klR, ru_klF, ru_klJ, ru_kl0, ru_cs0, ru_csI, ru_csR, ru_csF, ru_csJ, wI_add, wI_sub, wI_mul, wI_lt, wI_le, wI_inj, ru_fdE, ru_fdN, ru_iaN, ru_baN, ru_laN, ru_qaN, ru_pfN, ru_isN, ru_bsN, ru_jsN, ru_qsN, ru_set2, Nat.add_right_cancel_iff, if_true, if_false, ite_self, Int.reduceEq, and_self, Int.add_neg_cancel_right, Int.add_zero, Int.zero_add, e0, eq_]
  rfl
end FEE
