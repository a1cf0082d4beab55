/-! ===== copyNames: all rows, the class ===== -/
theorem pi_at {p : tPi} {q : tPh} {gap : Int} (hp : piOK p q gap) (hq : phR q) {r j : Nat} (hr : (r : Int) < p.1 1) (hj : (j : Int) < p.2 6 (r + 1) - p.2 6 r) : (0 ≤ p.2 6 r + (j : Int) ∧ p.2 6 r + (j : Int) < 12) ∧ ∃ k : Nat, k < 12 ∧ shS q k = true ∧ p.2 5 (p.2 6 r + (j : Int)).toNat = (k : Int) ∧ (k : Int) < q.1 7 := by
  have k1 := piOK_rs hp hr
  obtain ⟨n, eo, er, h0, hx, w1, w2, h4, h5, h6, h7, h8⟩ := hp
  have hxr : ∀ k, k < 12 → shS q k = true → 0 ≤ shX q k ∧ shX q k ≤ 999 := fun k _ hs => (shS_rng hq hs).1
  obtain ⟨a1, a2, a3⟩ := er_at h6 hxr (r := (r : Int)) (j := j) (by omega)
  have a4 := h6.1 _ a1
  refine ⟨by omega, er (rsN (shS q) (p.2 3) r + j), a4.1, a4.2, ?_, shS_lt a4.2⟩
  rw [k1.1, show (((rsN (shS q) (p.2 3) r : Nat) : Int) + (j : Int)).toNat = rsN (shS q) (p.2 3) r + j by omega]
  exact h7 _ a1
theorem pi_rc {p : tPi} {q : tPh} {gap : Int} (hp : piOK p q gap) : 0 ≤ p.1 1 ∧ p.1 1 ≤ 12 := by
  obtain ⟨n, eo, er, h0, hx, w1, w2, h4, -⟩ := hp
  have := rwOK_rc h4
  omega
theorem pi_len {p : tPi} {q : tPh} {gap : Int} (hp : piOK p q gap) {r : Nat} (hr : (r : Int) < p.1 1) : 0 ≤ p.2 6 (r + 1) - p.2 6 r ∧ p.2 6 (r + 1) - p.2 6 r ≤ 12 := by
  have := piOK_rs hp hr
  omega
def mnI (a b : Int) : Int := if a ≤ b then a else b
def lenC (p : tPi) (r : Nat) : Int := p.2 6 (r + 1) - p.2 6 r
def plC (p : tPi) (r j : Nat) : Int := p.2 5 (p.2 6 r + (j : Int)).toNat
def nmC (p : tPi) (q : tPh) (r j : Nat) : Int := q.2 3 (plC p r j).toNat
def cpN (p1 p2 : tPi) (r : Nat) : Nat := (mnI (lenC p1 r) (lenC p2 r)).toNat
def cpG (p1 p2 : tPi) (qk : tPh) : Nat → tPh × Nat → tPh × Nat
  | 0, s => s
  | i + 1, s => ((cpF (plC p1 i) (nmC p2 qk i) (cpN p1 p2 i) ((cpG p1 p2 qk i s).1, 0)).1, (cpG p1 p2 qk i s).2 + (cpF (plC p1 i) (nmC p2 qk i) (cpN p1 p2 i) ((cpG p1 p2 qk i s).1, 0)).2)
theorem cpG_R {p1 p2 : tPi} {qk : tPh} {s : tPh × Nat} (hk : phR qk) (hr : phR s.1) (hz : ∀ c, 4 ≤ c → s.1.2 c = fun _ => 0) (hl : ∀ i, i < 12 → cpN p1 p2 i ≤ 12 ) : ∀ n, n ≤ 12 → phR (cpG p1 p2 qk n s).1 ∧ (∀ c, 4 ≤ c → (cpG p1 p2 qk n s).1.2 c = fun _ => 0) ∧ (cpG p1 p2 qk n s).1.1 = s.1.1 ∧ (cpG p1 p2 qk n s).2 ≤ s.2 + 12 * n
  | 0, _ => ⟨hr, hz, rfl, Nat.le_refl _⟩
  | n + 1, hn => by
    obtain ⟨a1, a2, a3, a4⟩ := cpG_R (p1 := p1) (p2 := p2) hk hr hz hl n (by omega)
    obtain ⟨b1, b2, b3, b4, b5⟩ := cpF_R (D := plC p1 n) (N := nmC p2 qk n) (s := ((cpG p1 p2 qk n s).1, 0)) a1 a2 (cpN p1 p2 n) (fun j _ => by have := phR_i hk (plC p2 n j).toNat; unfold nmC; omega)
    have := hl n (by omega)
    refine ⟨b1, b2, b3.trans a3, ?_⟩
    show (cpG p1 p2 qk n s).2 + (cpF (plC p1 n) (nmC p2 qk n) (cpN p1 p2 n) ((cpG p1 p2 qk n s).1, 0)).2 ≤ s.2 + 12 * (n + 1)
    have b6 : (cpF (plC p1 n) (nmC p2 qk n) (cpN p1 p2 n) ((cpG p1 p2 qk n s).1, 0)).2 ≤ 0 + cpN p1 p2 n := b5
    omega
section CPG
variable {z : Bool} {h : am_H} {C : tCl} {a b : Nat} {p1 p2 : tPi}
theorem c367l {q qk : tPh} {gap : Int} {m : Nat} {l1 l2 : Int32} (ha : isPh a) (hb : isPh b) (fa : a + 4 < 1070 ∨ 1091 < a) (fb : b + 4 < 1070 ∨ 1091 < b) (fab : a + 4 < b ∨ b + 4 < a) (hq : phR q) (hz : ∀ c, 4 ≤ c → q.2 c = fun _ => 0) (hk : cph C b = qk) (hkr : phR qk) (o1 : piOK p1 q gap) (o2 : piOK p2 qk gap) (hm : mnI (p1.1 1) (p2.1 1) = (m : Int)) : ∀ d i, i + d = m →
    ru_n z 367 80 [some (.ref 1000), some (.int l1), some (.int l2), some (.ref a), some (.ref b), some (.int (wI ((cpG p1 p2 qk i (q, 0)).2 : Nat))), some (.int (wI i))] [] (clPut h (stQ C a p1 p2 (cpG p1 p2 qk i (q, 0)).1)) = some (.inl (some (.int (wI ((cpG p1 p2 qk m (q, 0)).2 : Nat)))), clPut h (stQ C a p1 p2 (cpG p1 p2 qk m (q, 0)).1)) := by
  have r1 := pi_rc o1
  have r2 := pi_rc o2
  have hm12 : m ≤ 12 := by unfold mnI at hm; split at hm <;> omega
  have hmm : (m : Int) ≤ p1.1 1 ∧ (m : Int) ≤ p2.1 1 := by unfold mnI at hm; split at hm <;> omega
  have y : ∀ H, ru_ev z 264 [.int (wI (p1.1 1)), .int (wI (p2.1 1))] H = some (.inl (some (.int (wI (m : Int)))), H) := fun H => by
    have := m264 (z := z) (h := H) (a := p1.1 1) (b := p2.1 1) (by omega) (by omega)
    rw [this, ← hm]; rfl
  have f1 : ∀ q', am_fd (clPut h (stQ C a p1 p2 q')) 1070 4 1 = some (.int (wI (p1.1 1))) := fun q' => by rw [stQ_1]; exact pi_f1 (Or.inl rfl)
  have f2 : ∀ q', am_fd (clPut h (stQ C a p1 p2 q')) 1081 4 1 = some (.int (wI (p2.1 1))) := fun q' => pi_f1 (Or.inr rfl)
  have hlen : ∀ i : Nat, i < m → (0 ≤ lenC p1 i ∧ lenC p1 i ≤ 12) ∧ (0 ≤ lenC p2 i ∧ lenC p2 i ≤ 12) ∧ mnI (lenC p1 i) (lenC p2 i) = (cpN p1 p2 i : Nat) ∧ cpN p1 p2 i ≤ 12 := fun i hi => by
    have a1 := pi_len o1 (r := i) (by omega)
    have a2 := pi_len o2 (r := i) (by omega)
    have e : 0 ≤ mnI (lenC p1 i) (lenC p2 i) ∧ mnI (lenC p1 i) (lenC p2 i) ≤ 12 := by unfold mnI lenC; split <;> omega
    exact ⟨a1, a2, by unfold cpN; omega, by unfold cpN; omega⟩
  have hst : ∀ i, i ≤ m → phR (cpG p1 p2 qk i (q, 0)).1 ∧ (∀ c, 4 ≤ c → (cpG p1 p2 qk i (q, 0)).1.2 c = fun _ => 0) ∧ (cpG p1 p2 qk i (q, 0)).1.1 = q.1 ∧ (cpG p1 p2 qk i (q, 0)).2 ≤ 12 * i := by
    intro i
    induction i with
    | zero => intro _; exact ⟨hq, hz, rfl, Nat.le_refl _⟩
    | succ n ihn =>
      intro hn
      obtain ⟨a1, a2, a3, a4⟩ := ihn (by omega)
      obtain ⟨b1, b2, b3, b4, b5⟩ := cpF_R (D := plC p1 n) (N := nmC p2 qk n) (s := ((cpG p1 p2 qk n (q, 0)).1, 0)) a1 a2 (cpN p1 p2 n) (fun j _ => by have := phR_i hkr (plC p2 n j).toNat; unfold nmC; omega)
      have := (hlen n (by omega)).2.2.2
      refine ⟨b1, b2, b3.trans a3, ?_⟩
      show (cpG p1 p2 qk n (q, 0)).2 + (cpF (plC p1 n) (nmC p2 qk n) (cpN p1 p2 n) ((cpG p1 p2 qk n (q, 0)).1, 0)).2 ≤ 12 * (n + 1)
      have b6 : (cpF (plC p1 n) (nmC p2 qk n) (cpN p1 p2 n) ((cpG p1 p2 qk n (q, 0)).1, 0)).2 ≤ 0 + cpN p1 p2 n := b5
      omega
  intro d
  induction d with
  | zero =>
    intro i hi
    obtain rfl : i = m := by omega
    simp (disch := omega) only [e367_80, e367_82, e367_83, e367_86, e367_89, e367_90, e367_93, e367_96, e367_99, e367_122, e367_124, ↓reduceIte, Bool.false_eq_true, not_false_eq_true, not_true_eq_false, Nat.reduceLeDiff, Nat.reduceAdd, Nat.reduceEqDiff, Int.reduceToNat, Int.toNat_natCast, iB0, iB1, ru_klI, ru_klR, ru_klF, ru_klJ, ru_kl0, ru_cs0, ru_csI, ru_csR, ru_csF, ru_csJ, wI_add, wI_sub, wI_mul, wI_lt, wI_le, wI_inj, ru_fdE, ru_fdN, ru_iaN, ru_baN, ru_laN, ru_qaN, ru_pfN, ru_isN, ru_bsN, ru_jsN, ru_qsN, ru_set2, Nat.add_right_cancel_iff, if_true, if_false, ite_self, Int.reduceEq, and_self, Int.add_neg_cancel_right, Int.add_zero, Int.zero_add, cl_e0, cl_g0_4, cl_g0_5, f1, f2, y, Int.le_refl]
  | succ d ih =>
    intro i hi
    have c : ((m : Int) ≤ (i : Int)) = False := eq_false (by omega)
    obtain ⟨b1, b2, b3, b4⟩ := hlen i (by omega)
    obtain ⟨s1, s2, s3, s4⟩ := hst i (by omega)
    have hle : (cpN p1 p2 i : Int) ≤ lenC p1 i ∧ (cpN p1 p2 i : Int) ≤ lenC p2 i := by rw [← b3]; unfold mnI; split <;> omega
    have k := c368 (z := z) (h := h) (C := C) (p1 := p1) (p2 := p2) (q := (cpG p1 p2 qk i (q, 0)).1) (qk := qk) (r := i) (n := cpN p1 p2 i) (D := plC p1 i) (E := plC p2 i) (N := nmC p2 qk i) ha hb fa fb fab s1 s2 hk hkr (by omega) rfl rfl b1 b2 b3
      (fun j hj => by
        obtain ⟨w1, x, w2, w3, w4, w5⟩ := pi_at o1 hq (r := i) (j := j) (by omega) (by unfold lenC at hle; omega)
        have w6 : plC p1 i j = (x : Int) := w4
        refine ⟨w1, rfl, by omega, by rw [s3]; omega⟩)
      (fun j hj => by
        obtain ⟨w1, x, w2, w3, w4, w5⟩ := pi_at o2 hkr (r := i) (j := j) (by omega) (by unfold lenC at hle; omega)
        have w6 : plC p2 i j = (x : Int) := w4
        refine ⟨w1, rfl, by omega, by omega, rfl⟩)
    have ih1 := ih (i + 1) (by omega)
    have e1 : (cpG p1 p2 qk (i + 1) (q, 0)).1 = (cpF (plC p1 i) (nmC p2 qk i) (cpN p1 p2 i) ((cpG p1 p2 qk i (q, 0)).1, 0)).1 := rfl
    have e2 : (cpG p1 p2 qk (i + 1) (q, 0)).2 = (cpG p1 p2 qk i (q, 0)).2 + (cpF (plC p1 i) (nmC p2 qk i) (cpN p1 p2 i) ((cpG p1 p2 qk i (q, 0)).1, 0)).2 := rfl
    rw [e1, e2] at ih1
    simp only [Int.natCast_add, Int.natCast_one] at ih1
    rw [← ih1, e367_80]
    simp (disch := omega) only [e367_82, e367_83, e367_86, e367_89, e367_90, e367_93, e367_96, e367_99, e367_102, e367_104, e367_105, e367_106, e367_108, e367_110, e367_113, e367_114, e367_116, e367_119, ↓reduceIte, Bool.false_eq_true, not_false_eq_true, not_true_eq_false, Nat.reduceLeDiff, Nat.reduceAdd, Nat.reduceEqDiff, Int.reduceToNat, Int.toNat_natCast, iB0, iB1, ru_klI, ru_klR, ru_klF, ru_klJ, ru_kl0, ru_cs0, ru_csI, ru_csR, ru_csF, ru_csJ, wI_add, wI_sub, wI_mul, wI_lt, wI_le, wI_inj, ru_fdE, ru_fdN, ru_iaN, ru_baN, ru_laN, ru_qaN, ru_pfN, ru_isN, ru_bsN, ru_jsN, ru_qsN, ru_set2, Nat.add_right_cancel_iff, if_true, if_false, ite_self, Int.reduceEq, and_self, Int.add_neg_cancel_right, Int.add_zero, Int.zero_add, cl_e0, cl_g0_4, cl_g0_5, f1, f2, y, c, k]
end CPG
