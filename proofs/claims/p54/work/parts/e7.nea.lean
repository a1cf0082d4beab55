/-! ===== the law's album: the nearest ===== -/
def neS (q : tPh) (px py : Int) (k : Nat) (b fr : Int) : Prop := (b = -1 ∧ ∀ o, o < k → ¬ shw q o = true) ∨ ∃ n : Nat, b = (n : Int) ∧ n < k ∧ shw q n = true ∧ fr = dqF (shX q) (shY q) px py n ∧ ∀ o, o < k → shw q o = true → kyD (shX q) (shY q) px py n ≤ kyD (shX q) (shY q) px py o
section NE
variable {z : Bool} {X : am_H} {B : Nat} {A : tLw}
theorem d422l (h : ylP X B A) (hr : ylR A) {f m : Nat} {px py : Int} (hf : f < 3) (g1 : 0 ≤ px ∧ px ≤ 999) (g2 : 0 ≤ py ∧ py ≤ 999) (hm : (A.2.1 f).1 7 = (m : Int)) (hm2 : m ≤ 12) : ∀ d k, k + d = m → ∀ (b fr : Int) (l7 l8 l9 : Option Value), neS (A.2.1 f) px py k b fr → (-1 ≤ b ∧ b ≤ 12) → (0 ≤ fr ∧ fr ≤ 18000000) →
    ∃ b' fr', neS (A.2.1 f) px py m b' fr' ∧ ru_n z 422 9 [some (.ref (B + 1)), some (.int (wI f)), some (.int (wI px)), some (.int (wI py)), some (.int (wI b)), some (.int (wI fr)), some (.int (wI k)), l7, l8, l9] [] X = some (.inl (some (.int (wI b'))), X) := by
  intro d
  induction d with
  | zero =>
    intro k hk b fr l7 l8 l9 hn hb hfr
    obtain rfl : k = m := by omega
    refine ⟨b, fr, hn, ?_⟩
    simp (disch := omega) only [e422_9, e422_11, e422_12, e422_15, e422_16, e422_17, e422_94, e422_96, ↓reduceIte, Bool.false_eq_true, not_false_eq_true, not_true_eq_false, Nat.reduceLeDiff, Nat.reduceAdd, Nat.reduceEqDiff, Int.reduceToNat, Int.toNat_natCast, iB0, iB1, ru_klI, ru_klR, ru_klF, ru_klJ, ru_kl0, ru_cs0, ru_csI, ru_csR, ru_csF, ru_csJ, wI_add, wI_sub, wI_mul, wI_lt, wI_le, wI_inj, ru_fdE, ru_fdN, ru_iaN, ru_baN, ru_laN, ru_qaN, ru_pfN, ru_isN, ru_bsN, ru_jsN, ru_qsN, ru_set2, Nat.add_right_cancel_iff, if_true, if_false, ite_self, Int.reduceEq, and_self, Int.add_neg_cancel_right, Int.add_zero, Int.zero_add, yl_o h, yl_f8 h, yl_8 h, hm, Int.le_refl]
  | succ d ih =>
    intro k hk b fr l7 l8 l9 hn hb hfr
    have d1 : ((m : Int) ≤ (k : Int)) = False := eq_false (by omega)
    have k8 := d408 (z := z) h hr hf (show k < 12 by omega)
    have kx := d411 (z := z) h hr hf (show k < 12 by omega)
    have ky := d410 (z := z) h hf (show k < 12 by omega)
    have sr := shXY_rng (hr f) k
    have dr := dqF_rng (x := shX (A.2.1 f)) (y := shY (A.2.1 f)) (k := k) (px := px) (py := py) (by omega) (by omega) g1 g2
    have e1 : (shX (A.2.1 f) k - px) * (shX (A.2.1 f) k - px) + (shY (A.2.1 f) k - py) * (shY (A.2.1 f) k - py) = dqF (shX (A.2.1 f)) (shY (A.2.1 f)) px py k := rfl
    have q1 := sq_rng (a := shX (A.2.1 f) k - px) (by omega) (by omega)
    have q2 := sq_rng (a := shY (A.2.1 f) k - py) (by omega) (by omega)
    have e2 : (((k + 1 : Nat)) : Int) = (k : Int) + 1 := by omega
    by_cases s : shw (A.2.1 f) k = true
    · rw [if_pos s] at k8
      have take : ∀ (o7 o8 o9 : Option Value), (∀ o, o < k → shw (A.2.1 f) o = true → kyD (shX (A.2.1 f)) (shY (A.2.1 f)) px py k ≤ kyD (shX (A.2.1 f)) (shY (A.2.1 f)) px py o) → ∃ b' fr', neS (A.2.1 f) px py m b' fr' ∧ ru_n z 422 9 [some (.ref (B + 1)), some (.int (wI f)), some (.int (wI px)), some (.int (wI py)), some (.int (wI k)), some (.int (wI (dqF (shX (A.2.1 f)) (shY (A.2.1 f)) px py k))), some (.int (wI ((k : Int) + 1))), o7, o8, o9] [] X = some (.inl (some (.int (wI b'))), X) := fun o7 o8 o9 ho => by
        rw [← e2]
        refine ih (k + 1) (by omega) k _ o7 o8 o9 (Or.inr ⟨k, rfl, by omega, s, rfl, fun o h1 h2 => ?_⟩) (by omega) dr
        by_cases c : o = k
        · rw [c]; exact Int.le_refl _
        · exact ho o (by omega) h2
      by_cases c1 : b < 0
      · rcases hn with ⟨hb1, hno⟩ | ⟨n, hb1, -⟩
        · obtain ⟨b', fr', t1, t2⟩ := take (some (.int (wI (shX (A.2.1 f) k - px)))) (some (.int (wI (shY (A.2.1 f) k - py)))) (some (.int (wI (dqF (shX (A.2.1 f)) (shY (A.2.1 f)) px py k)))) (fun o h1 h2 => absurd h2 (hno o h1))
          refine ⟨b', fr', t1, ?_⟩
          rw [← t2, e422_9]
          simp (disch := omega) only [e422_11, e422_12, e422_15, e422_16, e422_17, e422_20, e422_21, e422_22, e422_24, e422_27, e422_28, e422_29, e422_31, e422_32, e422_33, e422_35, e422_38, e422_39, e422_40, e422_42, e422_44, e422_46, e422_47, e422_49, e422_51, e422_52, e422_53, e422_55, e422_56, e422_57, e422_59, e422_62, e422_65, e422_67, e422_70, e422_72, e422_74, e422_77, e422_80, e422_82, e422_84, e422_86, e422_88, e422_91, ↓reduceIte, Bool.false_eq_true, not_false_eq_true, not_true_eq_false, Nat.reduceLeDiff, Nat.reduceAdd, Nat.reduceEqDiff, Int.reduceToNat, Int.toNat_natCast, iB0, iB1, ru_klI, ru_klR, ru_klF, ru_klJ, ru_kl0, ru_cs0, ru_csI, ru_csR, ru_csF, ru_csJ, wI_add, wI_sub, wI_mul, wI_lt, wI_le, wI_inj, ru_fdE, ru_fdN, ru_iaN, ru_baN, ru_laN, ru_qaN, ru_pfN, ru_isN, ru_bsN, ru_jsN, ru_qsN, ru_set2, Nat.add_right_cancel_iff, if_true, if_false, ite_self, Int.reduceEq, and_self, Int.add_neg_cancel_right, Int.add_zero, Int.zero_add, yl_o h, yl_f8 h, yl_8 h, hm, d1, k8, kx, ky, e1, c1]
        · omega
      · rcases hn with ⟨hb1, hno⟩ | ⟨n, hb1, hnk, hsn, hfr2, hle⟩
        · omega
        · by_cases c2 : fr ≤ dqF (shX (A.2.1 f)) (shY (A.2.1 f)) px py k
          · have hn2 : neS (A.2.1 f) px py (k + 1) b fr := Or.inr ⟨n, hb1, by omega, hsn, hfr2, fun o h1 h2 => by
              by_cases c : o = k
              · rw [c]; unfold kyD; omega
              · exact hle o (by omega) h2⟩
            obtain ⟨b', fr', t1, t2⟩ := ih (k + 1) (by omega) b fr (some (.int (wI (shX (A.2.1 f) k - px)))) (some (.int (wI (shY (A.2.1 f) k - py)))) (some (.int (wI (dqF (shX (A.2.1 f)) (shY (A.2.1 f)) px py k)))) hn2 hb hfr
            refine ⟨b', fr', t1, ?_⟩
            rw [← t2, e2, e422_9]
            have c3 : (dqF (shX (A.2.1 f)) (shY (A.2.1 f)) px py k < fr) = False := eq_false (by omega)
            simp (disch := omega) only [e422_11, e422_12, e422_15, e422_16, e422_17, e422_20, e422_21, e422_22, e422_24, e422_27, e422_28, e422_29, e422_31, e422_32, e422_33, e422_35, e422_38, e422_39, e422_40, e422_42, e422_44, e422_46, e422_47, e422_49, e422_51, e422_52, e422_53, e422_55, e422_56, e422_57, e422_59, e422_62, e422_65, e422_67, e422_70, e422_72, e422_74, e422_77, e422_80, e422_82, e422_84, e422_86, e422_88, e422_91, ↓reduceIte, Bool.false_eq_true, not_false_eq_true, not_true_eq_false, Nat.reduceLeDiff, Nat.reduceAdd, Nat.reduceEqDiff, Int.reduceToNat, Int.toNat_natCast, iB0, iB1, ru_klI, ru_klR, ru_klF, ru_klJ, ru_kl0, ru_cs0, ru_csI, ru_csR, ru_csF, ru_csJ, wI_add, wI_sub, wI_mul, wI_lt, wI_le, wI_inj, ru_fdE, ru_fdN, ru_iaN, ru_baN, ru_laN, ru_qaN, ru_pfN, ru_isN, ru_bsN, ru_jsN, ru_qsN, ru_set2, Nat.add_right_cancel_iff, if_true, if_false, ite_self, Int.reduceEq, and_self, Int.add_neg_cancel_right, Int.add_zero, Int.zero_add, yl_o h, yl_f8 h, yl_8 h, hm, d1, k8, kx, ky, e1, c1, c3]
          · obtain ⟨b', fr', t1, t2⟩ := take (some (.int (wI (shX (A.2.1 f) k - px)))) (some (.int (wI (shY (A.2.1 f) k - py)))) (some (.int (wI (dqF (shX (A.2.1 f)) (shY (A.2.1 f)) px py k)))) (fun o h1 h2 => by
              have := hle o h1 h2
              unfold kyD at this ⊢
              omega)
            refine ⟨b', fr', t1, ?_⟩
            have c3 : (dqF (shX (A.2.1 f)) (shY (A.2.1 f)) px py k < fr) = True := eq_true (by omega)
            rw [← t2, e422_9]
            simp (disch := omega) only [e422_11, e422_12, e422_15, e422_16, e422_17, e422_20, e422_21, e422_22, e422_24, e422_27, e422_28, e422_29, e422_31, e422_32, e422_33, e422_35, e422_38, e422_39, e422_40, e422_42, e422_44, e422_46, e422_47, e422_49, e422_51, e422_52, e422_53, e422_55, e422_56, e422_57, e422_59, e422_62, e422_65, e422_67, e422_70, e422_72, e422_74, e422_77, e422_80, e422_82, e422_84, e422_86, e422_88, e422_91, ↓reduceIte, Bool.false_eq_true, not_false_eq_true, not_true_eq_false, Nat.reduceLeDiff, Nat.reduceAdd, Nat.reduceEqDiff, Int.reduceToNat, Int.toNat_natCast, iB0, iB1, ru_klI, ru_klR, ru_klF, ru_klJ, ru_kl0, ru_cs0, ru_csI, ru_csR, ru_csF, ru_csJ, wI_add, wI_sub, wI_mul, wI_lt, wI_le, wI_inj, ru_fdE, ru_fdN, ru_iaN, ru_baN, ru_laN, ru_qaN, ru_pfN, ru_isN, ru_bsN, ru_jsN, ru_qsN, ru_set2, Nat.add_right_cancel_iff, if_true, if_false, ite_self, Int.reduceEq, and_self, Int.add_neg_cancel_right, Int.add_zero, Int.zero_add, yl_o h, yl_f8 h, yl_8 h, hm, d1, k8, kx, ky, e1, c1, c3]
    · rw [if_neg s] at k8
      have hn2 : neS (A.2.1 f) px py (k + 1) b fr := by
        rcases hn with ⟨hb1, hno⟩ | ⟨n, hb1, hnk, hsn, hfr2, hle⟩
        · exact Or.inl ⟨hb1, fun o ho => by
            by_cases c : o = k
            · rw [c]; exact s
            · exact hno o (by omega)⟩
        · exact Or.inr ⟨n, hb1, by omega, hsn, hfr2, fun o h1 h2 => by
            by_cases c : o = k
            · rw [c] at h2; exact absurd h2 s
            · exact hle o (by omega) h2⟩
      obtain ⟨b', fr', t1, t2⟩ := ih (k + 1) (by omega) b fr (some (.int (wI (shX (A.2.1 f) k - px)))) (some (.int (wI (shY (A.2.1 f) k - py)))) (some (.int (wI (dqF (shX (A.2.1 f)) (shY (A.2.1 f)) px py k)))) hn2 hb hfr
      refine ⟨b', fr', t1, ?_⟩
      rw [← t2, e2, e422_9]
      simp (disch := omega) only [e422_11, e422_12, e422_15, e422_16, e422_17, e422_20, e422_21, e422_22, e422_24, e422_27, e422_28, e422_29, e422_31, e422_32, e422_33, e422_35, e422_38, e422_39, e422_40, e422_42, e422_44, e422_46, e422_47, e422_49, e422_51, e422_52, e422_53, e422_55, e422_56, e422_57, e422_59, e422_62, e422_65, e422_67, e422_70, e422_72, e422_74, e422_77, e422_80, e422_82, e422_84, e422_86, e422_88, e422_91, ↓reduceIte, Bool.false_eq_true, not_false_eq_true, not_true_eq_false, Nat.reduceLeDiff, Nat.reduceAdd, Nat.reduceEqDiff, Int.reduceToNat, Int.toNat_natCast, iB0, iB1, ru_klI, ru_klR, ru_klF, ru_klJ, ru_kl0, ru_cs0, ru_csI, ru_csR, ru_csF, ru_csJ, wI_add, wI_sub, wI_mul, wI_lt, wI_le, wI_inj, ru_fdE, ru_fdN, ru_iaN, ru_baN, ru_laN, ru_qaN, ru_pfN, ru_isN, ru_bsN, ru_jsN, ru_qsN, ru_set2, Nat.add_right_cancel_iff, if_true, if_false, ite_self, Int.reduceEq, and_self, Int.add_neg_cancel_right, Int.add_zero, Int.zero_add, yl_o h, yl_f8 h, yl_8 h, hm, d1, k8, kx, ky, e1]
theorem d422 (h : ylP X B A) (hr : ylR A) {f : Nat} {px py : Int} (hf : f < 3) (g1 : 0 ≤ px ∧ px ≤ 999) (g2 : 0 ≤ py ∧ py ≤ 999) : ∃ b' fr', neS (A.2.1 f) px py ((A.2.1 f).1 7).toNat b' fr' ∧ ru_ev z 422 [.ref (B + 1), .int (wI f), .int (wI px), .int (wI py)] X = some (.inl (some (.int (wI b'))), X) := by
  have s := (phR_s (hr f)).2.2.2.2.2.2.2
  obtain ⟨b', fr', q1, q2⟩ := d422l (z := z) h hr hf g1 g2 (m := ((A.2.1 f).1 7).toNat) (by omega) (by omega) _ 0 (Nat.zero_add _) (-1) 0 none none none (Or.inl ⟨rfl, fun o ho => by omega⟩) (by omega) (by omega)
  refine ⟨b', fr', q1, ?_⟩
  simp only [Int.ofNat_zero, Int.natCast_zero] at q2
  simp (disch := omega) only [en422, e422_0, e422_1, e422_3, e422_4, e422_6, e422_7, ↓reduceIte, Bool.false_eq_true, not_false_eq_true, not_true_eq_false, Nat.reduceLeDiff, Nat.reduceAdd, Nat.reduceEqDiff, Int.reduceToNat, Int.toNat_natCast, iB0, iB1, ru_klI, ru_klR, ru_klF, ru_klJ, ru_kl0, ru_cs0, ru_csI, ru_csR, ru_csF, ru_csJ, wI_add, wI_sub, wI_mul, wI_lt, wI_le, wI_inj, ru_fdE, ru_fdN, ru_iaN, ru_baN, ru_laN, ru_qaN, ru_pfN, ru_isN, ru_bsN, ru_jsN, ru_qsN, ru_set2, Nat.add_right_cancel_iff, if_true, if_false, ite_self, Int.reduceEq, and_self, Int.add_neg_cancel_right, Int.add_zero, Int.zero_add, yl_o h, q2]
/-- the nearest is the first by distance -/
theorem neS_e {q : tPh} (hr : phR q) {px py b fr : Int} (h : neS q px py (q.1 7).toNat b fr) {n : Nat} {e : Nat → Nat} (he : enO (shS q) (kyD (shX q) (shY q) px py) n e) (hn : 0 < n) : b = (e 0 : Int) ∧ e 0 < 12 := by
  have s := (phR_s hr).2.2.2.2.2.2.2
  have e0 := he.1 0 hn
  have r0 := shS_rng hr e0.2
  rcases h with ⟨hb1, hno⟩ | ⟨k, hb1, hnk, hsn, hfr2, hle⟩
  · exact absurd r0.2.2.2.2 (hno _ (by omega))
  · have h1 := hle (e 0) (by omega) r0.2.2.2.2
    obtain ⟨i, hi, he2⟩ := he.2.2 k (by omega) (by rw [shS_of (by omega)]; exact hsn)
    have : i = 0 := by
      rcases Nat.eq_zero_or_pos i with h2 | h2
      · exact h2
      · have := he.2.1 0 i h2 hi
        rw [he2] at this
        omega
    rw [this] at he2
    exact ⟨by rw [hb1, he2], e0.1⟩
end NE
