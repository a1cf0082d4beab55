/-! ===== copyNames: the step's two sides ===== -/
def cpD (R L : Nat → Int) (m r j : Nat) : Int := fnF (stP R L (r : Int) (j : Int)) m 0
def cpZ (M : tMd) (f k : Nat) (R1 L1 R2 L2 : Nat → Int) : (Nat → Int) × Nat := cpW (M.2 8) (M.2 9) f ((mph M f).1 7).toNat (cpD R1 L1 ((mph M f).1 7).toNat) (cpD R2 L2 ((mph M k).1 7).toNat) (fun x => M.2 0 (54 * k + 6 + 4 * x + 3) - 1) 12 (M.2 0, 0)
def cpQ9 (M : tMd) (f k b : Int) (M' : tMd) : Prop := (¬ rfQ M f k = 0 ∧ M' = mdT M (rfQ M f k)) ∨ (rfQ M f k = 0 ∧ ∃ n' G' rc1 R1 L1 Q1 rc2 R2 L2 Q2, ktOK (M.1 4) n' (lyF (M.2 1) (M.2 0) 0 270) G' ∧ lrOK M f.toNat rc1 R1 L1 Q1 ∧ lrOK M k.toNat rc2 R2 L2 Q2 ∧ mdK (up1 (mdT M 0).1 4 n', upC (upC M.2 1 G') 0 (cpZ M f.toNat k.toNat R1 L1 R2 L2).1) M' ∧ b = ((cpZ M f.toNat k.toNat R1 L1 R2 L2).2 : Nat))
theorem rfQ_0 {M : tMd} {f k : Int} (e : rfQ M f k = 0) : rfPP M f k = 0 ∧ f ≠ k := by
  unfold rfQ at e
  by_cases c : rfPP M f k = 0
  · rw [if_pos c] at e
    by_cases c2 : f = k
    · rw [if_pos c2] at e; omega
    · exact ⟨c, c2⟩
  · rw [if_neg c] at e; exact absurd e c
theorem cpD_sp (R L : Nat → Int) (m r j : Nat) : cpD R L m r j = -1 ∨ (0 ≤ cpD R L m r j ∧ cpD R L m r j < (m : Int)) := by
  unfold cpD
  rcases fnF_sp (stP R L (r : Int) (j : Int)) m 0 with ⟨c, -⟩ | ⟨i, c, -, i2, -⟩
  · exact Or.inl c
  · right; rw [c]; omega
section CPJ
variable {z : Bool} {h : am_H} {C : tCl} {M : tMd}
theorem p369g (hco : coI C M) {f k : Int} (g : -2147483648 ≤ f ∧ f < 2147483648) (g2 : -2147483648 ≤ k ∧ k < 2147483648) : ∃ b M', ru_ev z 369 [.ref 1315, .int (wI f), .int (wI k)] (mdPut h M) = some (.inl (some (.int (wI b))), mdPut h M') ∧ cpQ9 M f k b M' := by
  obtain ⟨hR, hA, hM, hr, hn, hG, hH, hS, hg⟩ := id hco
  by_cases e : rfQ M f k = 0
  · obtain ⟨e1, e2⟩ := rfQ_0 e
    have eq := rel_rcQ hM hr f k
    have eq0 : rcQ C f k = 0 := by omega
    obtain ⟨c1, c2, -⟩ := rcQ_0 eq0
    obtain ⟨f1, f2, f3, f4⟩ := rel_rf hM hr c1
    obtain ⟨k1, k2, k3, k4⟩ := rel_rf hM hr c2
    have hqc := (dph (h := (fun _ => none, 0, 0)) hR c1).2
    have hr1 := (rfP_0 f1).2
    have hr2 := (rfP_0 k1).2
    obtain ⟨nf, rfl⟩ := Int.eq_ofNat_of_zero_le (show 0 ≤ f by omega)
    obtain ⟨nk, rfl⟩ := Int.eq_ofNat_of_zero_le (show 0 ≤ k by omega)
    simp only [Int.toNat_natCast] at f2 f3 f4 k2 k3 k4 hqc
    have hne : nf ≠ nk := fun c => e2 (by rw [c])
    obtain ⟨rc1, R1, L1, Q1, l1, -⟩ := p120 (z := z) (h := h) (M := M) f2 f3 hM.2.2.2.2.2.1
    obtain ⟨rc2, R2, L2, Q2, l2, -⟩ := p120 (z := z) (h := h) (M := M) k2 k3 hM.2.2.2.2.2.1
    have sf := phR_s f3
    have sk := phR_s k3
    have hNf := hn nf (by omega)
    have hNk := hn nk (by omega)
    have hz : ∀ c, 4 ≤ c → (cph C (cAp C nf)).2 c = fun _ => 0 := fun c hc => cph_hi _ _ c hc
    have e7 := f4.1 7 (by decide)
    generalize hqe : cph C (cAp C nf) = qc at *
    obtain ⟨mf, hmf⟩ := Int.eq_ofNat_of_zero_le sf.2.2.2.2.2.2.2.1
    obtain ⟨mk, hmk⟩ := Int.eq_ofNat_of_zero_le sk.2.2.2.2.2.2.2.1
    have p0 : cpI M nf qc qc (M.2 0) := cpI_0 hM hg hNf f4 hz hqc
    obtain ⟨n', G', N', t1, t2, t3, t4, t5⟩ := p369s (z := z) (h := h) (M := M) (f := nf) (k := nk) (mf := mf) (mk := mk) (D := cpD R1 L1 mf) (E := cpD R2 L2 mk) (NK := fun x => M.2 0 (54 * nk + 6 + 4 * x + 3) - 1) (P := fun S => ∃ q, cpI M nf qc q S) f2 k2 hM.2.2.2.2.2.1
      (fun S ⟨q, hq⟩ => by
        have o := cpI_o hq k2 (fun c => hne c.symm)
        have a := hq.1
        have e8 := a.2.2.2.2.1.1 7 (by decide)
        have e9 := o.1 7 (by decide)
        refine ⟨phR_msf a.2.2.1 hg.2.2.1 hg.2.2.2.1 a.2.2.2.1 f2, phR_msf a.2.2.1 hg.2.2.1 hg.2.2.2.1 a.2.2.2.1 k2, ?_, ?_⟩
        · rw [← e8, hq.2.1, e7, hmf]
        · rw [e9, hmk])
      (fun S ⟨q, hq⟩ rc R L Q hl => by
        have eM : mph (M.1, upC M.2 0 S) nf = msf S (M.2 8) (M.2 9) nf := by rw [mph_f]; rfl
        obtain ⟨x1, x2, x3⟩ := cpI_k hq f4
        obtain ⟨r1, r2⟩ := lr_rng9 hl
        exact ⟨r1, r2, fun r j _ _ => lr_uni2 l1 hl rfl (by rw [eM]; exact x1) (fun o _ ho => by rw [eM]; exact x2 o ho) (fun o _ ho => by rw [eM]; exact x3 o ho) (by omega) r j⟩)
      (fun S ⟨q, hq⟩ rc R L Q hl => by
        have eM : mph (M.1, upC M.2 0 S) nk = msf S (M.2 8) (M.2 9) nk := by rw [mph_f]; rfl
        obtain ⟨x1, x2, x3⟩ := phS_k (cpI_o hq k2 (fun c => hne c.symm)) (by omega)
        obtain ⟨r1, r2⟩ := lr_rng9 hl
        exact ⟨r1, r2, fun r j _ _ => lr_uni2 l2 hl rfl (by rw [eM]; exact x1) (fun o _ ho => by rw [eM]; exact x2 o ho) (fun o _ ho => by rw [eM]; exact x3 o ho) (by omega) r j⟩)
      (fun r j _ _ => cpD_sp _ _ _ _ _) (fun r j _ _ => cpD_sp _ _ _ _ _)
      (fun S ⟨q, hq⟩ x hx => by
        have a7 := hq.1.2.2.2.2.2.2 nk k2 (fun c => hne c.symm) (54 * nk + 6 + 4 * x + 3) (by omega) (by omega)
        rw [a7]; omega)
      (fun x hx => by
        have b1 := hg.1 (54 * nk + 6 + 4 * x + 3)
        have b2 := ((srR_of hM nk k2).2.2 x hx).2
        omega)
      (fun S ⟨q, hq⟩ x nm hx hnm hnm2 ⟨y, hy, hny⟩ => by
        have b3 := hNk.1 y (by omega)
        have b4 := (mph_x (M := M) (f := nk) (k := y) (by omega)).2.2.2
        exact ⟨_, cpI_s hM hg f2 hq (k := x) (by omega) (nm := nm) ⟨by omega, by rw [hny]; omega⟩ (by omega)⟩)
      hM e1 hne ⟨qc, p0⟩
    refine ⟨_, N', t5, Or.inr ⟨e, n', G', rc1, R1, L1, Q1, rc2, R2, L2, Q2, t1, l1, l2, ?_, ?_⟩⟩
    · unfold cpZ
      rw [Int.toNat_natCast, Int.toNat_natCast, hmf, hmk]
      exact t4
    · unfold cpZ
      rw [Int.toNat_natCast, Int.toNat_natCast, hmf, hmk]
      rfl
  · exact ⟨0, _, p369x hM g g2 e, Or.inl ⟨e, rfl⟩⟩
end CPJ
