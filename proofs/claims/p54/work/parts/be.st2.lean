/-! ===== the law's step of phrases ===== -/
section ST2
variable {z : Bool} {g : am_H} {C : tCl} {M : tMd} {xs : Nat → Int32} {L i cap : Nat}
theorem mdPut_tr {h h' : am_H} {M : tMd} (e : mdPut h M = mdPut h' M) (N : tMd) : mdPut h N = mdPut h' N := by
  rw [← mdPut_put h M N, e, mdPut_put]
theorem laM_ph (M : tMd) (f : Nat) : mph (laM M) f = mph M f := by
  rw [mph_f, mph_f]
  have u : ∀ c, c ≠ 1 → (laM M).2 c = M.2 c := fun c hc => by
    show upC M.2 1 (lyF (M.2 1) (M.2 0) 0 270) c = _
    exact upC_n hc
  rw [u 0 (by decide), u 8 (by decide), u 9 (by decide)]
/-- the reference's start: all well up to the buffer -/
theorem p116s {hr : am_H} (hM : mdR M) {f : Int} (gf : -2147483648 ≤ f ∧ f < 2147483648) (e : rfP M f = 0) (h7 : M.1 7 ≤ 1200) {l : Nat} (hl : (l : Int) ≤ M.1 7) (hf5 : f.toNat < 5) (h3 : phR (mph M f.toNat)) : ∃ rc R Lq Q, lrOK M f.toNat rc R Lq Q ∧ ru_ev z 116 [.ref 1315, .int (wI f), .int (wI ((l : Nat) : Int))] (mdPut hr M) = ru_n z 116 45 [some (.ref 1315), some (.int (wI f)), some (.int (wI ((l : Nat) : Int)))] [] (mdPut hr (mdQ (laM M) rc R Lq Q)) := by
  have x117 := p117 (z := z) (h := hr) hM gf
  rw [e, if_pos rfl] at x117
  have x53 := m53 (z := z) (h := mdPut hr (mdT M 0)) (v := (l : Int)) (a := 0) (b := M.1 7) (by omega) (by omega) (by omega)
  rw [if_pos (by omega)] at x53
  have x54 := p54 (z := z) (h := hr) (M := M) (b := 0) (code := 2) (by omega) (by omega)
  rw [if_pos rfl] at x54
  have x119 := p119 (z := z) (h := hr) (M := mdT M 0) (st := 0) (by decide)
  rw [show ((0 : Nat) : Int) = 0 from rfl] at x119
  have el : ((mdT M 0).1, upC (mdT M 0).2 1 (lyF ((mdT M 0).2 1) ((mdT M 0).2 0) 0 270)) = laM M := rfl
  rw [el] at x119
  have t24 : (laM M).1 24 = M.1 24 := by
    show up1 M.1 0 0 24 = _
    exact up1_n (by decide)
  obtain ⟨rc, R, Lq, Q, k1, k2⟩ := p120 (z := z) (h := hr) (M := laM M) hf5 (by rw [laM_ph]; exact h3) (by rw [t24]; exact hM.2.2.2.2.2.1)
  refine ⟨rc, R, Lq, Q, ?_, ?_⟩
  · unfold lrOK at k1 ⊢
    rw [laM_ph, t24] at k1
    exact k1
  · have f0 := (rfP_0 e).2.1
    rw [Int.toNat_of_nonneg f0] at k2
    have f7 : am_fd (mdPut hr (mdT M 0)) 1315 10 7 = some (.int (wI (M.1 7))) := by rw [md_f7, mdT_n (by decide)]
    have d0 : ((0 : Int) = 0) = True := eq_true rfl
    have d1 : ((1 : Int) = 0) = False := eq_false (by decide)
    simp (disch := omega) only [en116, e116_0, e116_1, e116_2, e116_5, e116_8, e116_9, e116_10, e116_11, e116_12, e116_15, e116_18, e116_21, e116_22, e116_25, e116_26, e116_27, e116_30, e116_33, e116_34, e116_35, e116_36, e116_37, e116_40, e116_41, e116_42, ↓reduceIte, Bool.false_eq_true, not_false_eq_true, not_true_eq_false, Nat.reduceLeDiff, Nat.reduceAdd, Nat.reduceEqDiff, Int.reduceToNat, Int.toNat_natCast, iB0, iB1, ru_klI, ru_klR, ru_klF, ru_klJ, ru_kl0, ru_cs0, ru_csI, ru_csR, ru_csF, ru_csJ, wI_add, wI_sub, wI_mul, wI_lt, wI_le, wI_inj, ru_fdE, ru_fdN, ru_iaN, ru_baN, ru_laN, ru_qaN, ru_pfN, ru_isN, ru_bsN, ru_jsN, ru_qsN, ru_set2, Nat.add_right_cancel_iff, if_true, if_false, ite_self, Int.reduceEq, and_self, Int.add_neg_cancel_right, Int.add_zero, Int.zero_add, md_e, x117, f7, x53, x54, x119, k2, d0, d1, not_true, not_false_iff]
theorem ph_two (h : fuI g C M cap) (hg : gI g L xs) {f : Int} (gf : -2147483648 ≤ f ∧ f < 2147483648) (e : rcP C f = 0) {l : Nat} (hl : (l : Int) ≤ M.1 7) :
    (∃ (gx : am_H) (Cf : tCl) (gv : Int), ru_ev z 77 [.ref 1000, .int (wI f), .int (wI ((l : Nat) : Int))] (clPut (mdPut g M) C) = some (.inl (some (.int (wI gv))), clPut (mdPut gx M) Cf) ∧ gOn g gx 3 33 ∧ strs gx ∧ ∀ hr, strs hr → ∃ (gy : am_H) (Cy : tCl) (Mf : tMd), clPut (mdPut gx M) Cf = clPut (mdPut gy M) Cy ∧
      ru_ev z 116 [.ref 1315, .int (wI f), .int (wI ((l : Nat) : Int))] (mdPut hr M) = some (.inl (some (.int (wI gv))), mdPut hr Mf) ∧ Mf.1 0 = 0 ∧ fuI gy Cy Mf cap ∧ gOn g gy 3 33) ∨
    (∃ (gx : am_H) (Cf : tCl), ru_ev z 77 [.ref 1000, .int (wI f), .int (wI ((l : Nat) : Int))] (clPut (mdPut g M) C) = some (.inr 2, clPut (mdPut gx M) Cf) ∧ gOn g gx 4 39 ∧ strs gx ∧ ∀ hr, strs hr → ∃ (gy : am_H) (Cy : tCl) (Mf : tMd), clPut (mdPut gx M) Cf = clPut (mdPut gy M) Cy ∧
      ru_ev z 116 [.ref 1315, .int (wI f), .int (wI ((l : Nat) : Int))] (mdPut hr M) = some (.inl (some (.int (wI 0))), mdPut hr Mf) ∧ Mf.1 0 = 3 ∧ fuI gy Cy Mf cap ∧ gOn g gy 4 39) := by
  obtain ⟨f1, f2, f3, f4, f5⟩ := id h
  obtain ⟨hR, hA, hM, hrr, hnn, hG, hHi, hSv, hgg⟩ := id f1
  obtain ⟨r1, r2, r3, r4⟩ := rel_rf hM hrr e
  have start : ∀ hr : am_H, ∃ rc R Lq Q, lrOK M f.toNat rc R Lq Q ∧ ru_ev z 116 [.ref 1315, .int (wI f), .int (wI ((l : Nat) : Int))] (mdPut hr M) = ru_n z 116 45 [some (.ref 1315), some (.int (wI f)), some (.int (wI ((l : Nat) : Int)))] [] (mdPut hr (mdQ (laM M) rc R Lq Q)) := fun hr => p116s hM gf r1 f3.1.2 hl r2 r3
  have hsx : ∀ {gx : am_H} {c s : Nat}, gOn g gx c s → strs gx := fun k => strs_ov (strs_of f5) (fun q hq => k.1 q (by have := hg.2.2.1; omega) (by omega) (by omega))
  obtain ⟨rc, R, Lq, Q, l1, -⟩ := start g
  rcases ph_all (z := z) h hg gf e hl l1 (hr := g) (strs_of f5) with ⟨gx, Cf, Mf, gv, a1, a2, a3, a4, a5⟩ | ⟨gx, Cf, Mf, a1, a2, a3, a4, a5⟩
  · refine Or.inl ⟨gx, Cf, gv, a1, a5, hsx a5, fun hr hs => ?_⟩
    obtain ⟨rc, R, Lq, Q, l2, l3⟩ := start hr
    rcases ph_all (z := z) h hg gf e hl l2 (hr := hr) hs with ⟨gy, Cy, My, gw, b1, b2, b3, b4, b5⟩ | ⟨gy, Cy, My, b1, b2, b3, b4, b5⟩
    · have k := a1.symm.trans b1
      simp only [Option.some.injEq, Prod.mk.injEq, Sum.inl.injEq, Value.int.injEq] at k
      exact ⟨gy, Cy, My, k.2, by rw [k.1]; exact l3.trans b2, b3, b4, b5⟩
    · have k := a1.symm.trans b1
      simp at k
  · refine Or.inr ⟨gx, Cf, a1, a5, hsx a5, fun hr hs => ?_⟩
    obtain ⟨rc, R, Lq, Q, l2, l3⟩ := start hr
    rcases ph_all (z := z) h hg gf e hl l2 (hr := hr) hs with ⟨gy, Cy, My, gw, b1, b2, b3, b4, b5⟩ | ⟨gy, Cy, My, b1, b2, b3, b4, b5⟩
    · have k := a1.symm.trans b1
      simp at k
    · have k := a1.symm.trans b1
      simp only [Option.some.injEq, Prod.mk.injEq, true_and] at k
      exact ⟨gy, Cy, My, k, l3.trans b2, b3, b4, b5⟩
/-- the photo refused, or the length -/
theorem c77x (hR : clR C) {f : Int} (gf : -2147483648 ≤ f ∧ f < 2147483648) {v : Int32} (e : ¬ rcP C f = 0) {h : am_H} : ru_ev z 77 [.ref 1000, .int (wI f), .int v] (clPut h C) = some (.inr (rcP C f - 1), clPut (thr h) C) := by
  have x := d78 (z := z) (h := h) hR gf
  rw [oR_n e] at x
  simp (disch := omega) only [en77, e77_0, e77_1, e77_2, ↓reduceIte, Bool.false_eq_true, not_false_eq_true, not_true_eq_false, Nat.reduceLeDiff, Nat.reduceAdd, Nat.reduceEqDiff, Int.reduceToNat, Int.toNat_natCast, iB0, iB1, ru_klI, ru_klR, ru_klF, ru_klJ, ru_kl0, ru_cs0, ru_csI, ru_csR, ru_csF, ru_csJ, wI_add, wI_sub, wI_mul, wI_lt, wI_le, wI_inj, ru_fdE, ru_fdN, ru_iaN, ru_baN, ru_laN, ru_qaN, ru_pfN, ru_isN, ru_bsN, ru_jsN, ru_qsN, ru_set2, Nat.add_right_cancel_iff, if_true, if_false, ite_self, Int.reduceEq, and_self, Int.add_neg_cancel_right, Int.add_zero, Int.zero_add, cl_e0, x]
theorem c77y (hR : clR C) {f : Int} (gf : -2147483648 ≤ f ∧ f < 2147483648) {v : Int} (gv : -2147483648 ≤ v ∧ v < 2147483648) (e : rcP C f = 0) (hr : 0 ≤ C.1 1001 1 ∧ C.1 1001 1 ≤ 1200) (c : ¬ (0 ≤ v ∧ v ≤ C.1 1001 1)) {h : am_H} : ru_ev z 77 [.ref 1000, .int (wI f), .int (wI v)] (clPut h C) = some (.inr 1, clPut (thr h) C) := by
  have x := d78 (z := z) (h := h) hR gf
  rw [oR_0 e] at x
  have y := c18 (z := z) (h := h) (C := C) hr gv
  rw [if_neg c] at y
  simp (disch := omega) only [en77, e77_0, e77_1, e77_2, e77_5, e77_6, e77_7, e77_8, ↓reduceIte, Bool.false_eq_true, not_false_eq_true, not_true_eq_false, Nat.reduceLeDiff, Nat.reduceAdd, Nat.reduceEqDiff, Int.reduceToNat, Int.toNat_natCast, iB0, iB1, ru_klI, ru_klR, ru_klF, ru_klJ, ru_kl0, ru_cs0, ru_csI, ru_csR, ru_csF, ru_csJ, wI_add, wI_sub, wI_mul, wI_lt, wI_le, wI_inj, ru_fdE, ru_fdN, ru_iaN, ru_baN, ru_laN, ru_qaN, ru_pfN, ru_isN, ru_bsN, ru_jsN, ru_qsN, ru_set2, Nat.add_right_cancel_iff, if_true, if_false, ite_self, Int.reduceEq, and_self, Int.add_neg_cancel_right, Int.add_zero, Int.zero_add, cl_e0, ru_ctR, x, y]
theorem p116x {h : am_H} (hM : mdR M) {f : Int} (gf : -2147483648 ≤ f ∧ f < 2147483648) {v : Int32} (e : ¬ rfP M f = 0) : ru_ev z 116 [.ref 1315, .int (wI f), .int v] (mdPut h M) = some (.inl (some (.int (wI 0))), mdPut h (mdT M (rfP M f))) := by
  have x := p117 (z := z) (h := h) hM gf
  rw [if_neg e] at x
  have d1 : ((1 : Int) = 0) = False := eq_false (by decide)
  simp (disch := omega) only [en116, e116_0, e116_1, e116_2, e116_5, e116_33, e116_34, ↓reduceIte, Bool.false_eq_true, not_false_eq_true, not_true_eq_false, Nat.reduceLeDiff, Nat.reduceAdd, Nat.reduceEqDiff, Int.reduceToNat, Int.toNat_natCast, iB0, iB1, ru_klI, ru_klR, ru_klF, ru_klJ, ru_kl0, ru_cs0, ru_csI, ru_csR, ru_csF, ru_csJ, wI_add, wI_sub, wI_mul, wI_lt, wI_le, wI_inj, ru_fdE, ru_fdN, ru_iaN, ru_baN, ru_laN, ru_qaN, ru_pfN, ru_isN, ru_bsN, ru_jsN, ru_qsN, ru_set2, Nat.add_right_cancel_iff, if_true, if_false, ite_self, Int.reduceEq, and_self, Int.add_neg_cancel_right, Int.add_zero, Int.zero_add, md_e, x, d1, not_true, not_false_iff]
theorem p116y {h : am_H} (hM : mdR M) {f : Int} (gf : -2147483648 ≤ f ∧ f < 2147483648) {v : Int} (gv : -2147483648 ≤ v ∧ v < 2147483648) (e : rfP M f = 0) (hr : 0 ≤ M.1 7 ∧ M.1 7 ≤ 1200) (c : ¬ (0 ≤ v ∧ v ≤ M.1 7)) : ru_ev z 116 [.ref 1315, .int (wI f), .int (wI v)] (mdPut h M) = some (.inl (some (.int (wI 0))), mdPut h (mdT M 2)) := by
  have x117 := p117 (z := z) (h := h) hM gf
  rw [e, if_pos rfl] at x117
  have x53 := m53 (z := z) (h := mdPut h (mdT M 0)) (v := v) (a := 0) (b := M.1 7) gv (by omega) (by omega)
  rw [if_neg c] at x53
  have x54 := p54 (z := z) (h := h) (M := M) (b := 1) (code := 2) (by omega) (by omega)
  rw [if_neg (by decide)] at x54
  have f7 : am_fd (mdPut h (mdT M 0)) 1315 10 7 = some (.int (wI (M.1 7))) := by rw [md_f7, mdT_n (by decide)]
  have d0 : ((0 : Int) = 0) = True := eq_true rfl
  have d1 : ((1 : Int) = 0) = False := eq_false (by decide)
  simp (disch := omega) only [en116, e116_0, e116_1, e116_2, e116_5, e116_8, e116_9, e116_10, e116_11, e116_12, e116_15, e116_18, e116_21, e116_22, e116_25, e116_26, e116_27, e116_30, e116_33, e116_34, ↓reduceIte, Bool.false_eq_true, not_false_eq_true, not_true_eq_false, Nat.reduceLeDiff, Nat.reduceAdd, Nat.reduceEqDiff, Int.reduceToNat, Int.toNat_natCast, iB0, iB1, ru_klI, ru_klR, ru_klF, ru_klJ, ru_kl0, ru_cs0, ru_csI, ru_csR, ru_csF, ru_csJ, wI_add, wI_sub, wI_mul, wI_lt, wI_le, wI_inj, ru_fdE, ru_fdN, ru_iaN, ru_baN, ru_laN, ru_qaN, ru_pfN, ru_isN, ru_bsN, ru_jsN, ru_qsN, ru_set2, Nat.add_right_cancel_iff, if_true, if_false, ite_self, Int.reduceEq, and_self, Int.add_neg_cancel_right, Int.add_zero, Int.zero_add, md_e, x117, f7, x53, x54, d0, d1, not_true, not_false_iff]
end ST2
