/-! ===== copyNames: class against reference, the law's step ===== -/
theorem cp_vb {C : tCl} {M : tMd} {f k : Int} {t : Nat} {v b : Int} {C' : tCl} {M' : tMd} (h : coI C M) (k1 : cpR C f k t v C') (k2 : cpQ9 M f k b M') : t ≤ 3 ∧ M'.1 0 = (t : Int) ∧ (t = 0 → v = b) ∧ coI C' M' ∧ chC C C' ∧ chM M M' := by
  obtain ⟨hR, hA, hM, hr, hn, hG, hH, hS, hg⟩ := id h
  have er := rel_rcQ hM hr f k
  have e3 := rcQ_3 C f k
  rcases k1 with ⟨a1, a2, rfl⟩ | ⟨a1, a2, C1, p1, p2, a3, o1, o2, rfl, rfl⟩
  · rcases k2 with ⟨b1, rfl⟩ | ⟨b1, -⟩
    · exact ⟨by omega, by rw [mdT_1]; omega, fun c => by omega, coI_T h (by omega), chC_refl _, chM_T _ _⟩
    · omega
  · rcases k2 with ⟨b1, rfl⟩ | ⟨b1, n', G', rc1, R1, L1, Q1, rc2, R2, L2, Q2, t1, l1, l2, t4, rfl⟩
    · omega
    · obtain ⟨c1, c2, c3⟩ := rcQ_0 a1
      obtain ⟨f1, f2, f3, f4⟩ := rel_rf hM hr c1
      obtain ⟨k1, k2, k3, k4⟩ := rel_rf hM hr c2
      have hqf := (dph (h := (fun _ => none, 0, 0)) hR c1).2
      have hqk := (dph (h := (fun _ => none, 0, 0)) hR c2).2
      have hr1 := (rfP_0 f1).2
      have hr2 := (rfP_0 k1).2
      rw [hG] at o1 o2
      obtain ⟨y1, y2, y3, y4, y5⟩ := pl_link o1 l1 f4 hqf f3
      obtain ⟨z1, z2, z3, z4, z5⟩ := pl_link o2 l2 k4 hqk k3
      have r1 := pi_rc o1
      have r2 := pi_rc o2
      have sf := phR_s f3
      have sk := phR_s k3
      have hNf := hn f.toNat (by omega)
      have hNk := hn k.toNat (by omega)
      have ha := rf_has hM f1
      have hz : ∀ c, 4 ≤ c → (cph C (cAp C f.toNat)).2 c = fun _ => 0 := fun c hc => cph_hi _ _ c hc
      have e7 := f4.1 7 (by decide)
      have d7 := k4.1 7 (by decide)
      unfold cpZ at t4 ⊢
      generalize hqe : cph C (cAp C f.toNat) = qc at *
      generalize hqd : cph C (cAp C k.toNat) = qk at *
      generalize hnf : f.toNat = nf at *
      generalize hnk : k.toNat = nk at *
      obtain ⟨mf, hmf⟩ := Int.eq_ofNat_of_zero_le sf.2.2.2.2.2.2.2.1
      obtain ⟨mk, hmk⟩ := Int.eq_ofNat_of_zero_le sk.2.2.2.2.2.2.2.1
      rw [hmf, hmk, Int.toNat_natCast, Int.toNat_natCast] at t4 ⊢
      have p0 : cpI M nf qc qc (M.2 0) := cpI_0 hM hg hNf f4 hz hqf
      generalize hmm : (mnI (p1.1 1) (p2.1 1)).toNat = m at *
      have hm12 : m ≤ 12 := by unfold mnI at hmm; split at hmm <;> omega
      have hrow : ∀ r, r < m → (r : Int) < rc1 ∧ (r : Int) < rc2 := fun r hr => by unfold mnI at hmm; split at hmm <;> omega
      have hrow' : ∀ r : Nat, (r : Int) < rc1 → (r : Int) < rc2 → r < m := fun r hr hr' => by unfold mnI at hmm; split at hmm <;> omega
      have hcell : ∀ r j, r < m → j < cpN p1 p2 r → (j : Int) < Q1 r ∧ (j : Int) < Q2 r := fun r j hr hj => by
        have w1 := y4 r (hrow r hr).1
        have w2 := z4 r (hrow r hr).2
        unfold cpN mnI lenC at hj
        split at hj <;> omega
      have hcell' : ∀ r j : Nat, (r : Int) < rc1 → (r : Int) < rc2 → (j : Int) < Q1 r → (j : Int) < Q2 r → j < cpN p1 p2 r := fun r j hr hr' hj hj' => by
        have w1 := y4 r hr
        have w2 := z4 r hr'
        unfold cpN mnI lenC
        split <;> omega
      obtain ⟨key1, key2⟩ := cp_rows (M := M) (n := nf) (mf := mf) (m := m) (qc := qc) (qk := qk) (p1 := p1) (p2 := p2) (D := cpD R1 L1 mf) (E := cpD R2 L2 mk) (NK := fun x => M.2 0 (54 * nk + 6 + 4 * x + 3) - 1) hM hg f2 (by omega)
        (fun r hr => by
          have w1 := pi_len o1 (r := r) (by have := hrow r hr; omega)
          unfold cpN mnI lenC
          split <;> omega)
        (fun r j hr hj => by
          obtain ⟨h1, h2⟩ := hcell r j hr hj
          obtain ⟨x, x1, x2, x3, x4, x5⟩ := y5 r j (hrow r hr).1 h1
          obtain ⟨y, u1, u2, u3, u4, u5⟩ := z5 r j (hrow r hr).2 h2
          have xl := shS_lt x2
          have ul := shS_lt u2
          rw [hmf, Int.toNat_natCast] at x5
          rw [hmk, Int.toNat_natCast] at u5
          have b3 := hNk.1 y (by omega)
          have b4 := (mph_x (M := M) (f := nk) (k := y) u1).2.2.2
          have b5 := (phR_i k3 y).2.2.2
          refine ⟨x, y, x5, x4, by omega, u5, ?_, by omega, by omega⟩
          have e9 : plC p2 r j = (y : Int) := u4
          unfold nmC
          rw [e9, Int.toNat_natCast, k4.2 3 y (by decide) ul, b4])
        (fun r j hr hj hno => by
          by_cases d1 : (r : Int) < rc1 ∧ (j : Int) < Q1 r
          · by_cases d2 : (r : Int) < rc2 ∧ (j : Int) < Q2 r
            · exact absurd ⟨hrow' r d1.1 d2.1, hcell' r j d1.1 d2.1 d1.2 d2.2⟩ hno
            · exact Or.inr (lr_none l2 (by omega) hr d2)
          · exact Or.inl (lr_none l1 (by omega) hr d1))
        p0 12 (Nat.le_refl _)
      have e12 : (if 12 ≤ m then 12 else m) = m := by split <;> omega
      rw [e12] at key1 key2
      generalize hW : cpW (M.2 8) (M.2 9) nf mf (cpD R1 L1 mf) (cpD R2 L2 mk) (fun x => M.2 0 (54 * nk + 6 + 4 * x + 3) - 1) 12 (M.2 0, 0) = W at *
      generalize hGG : cpG p1 p2 qk m (qc, 0) = V at *
      obtain ⟨q1, q2, q3, q4, q5, q6, q7⟩ := key1.1
      obtain ⟨g1, g2, g3⟩ := ch_fin h ha a3 t1 (n := nf) (by omega) q1 q2 q3 q4 q5 q6 q7
      have m0 : M'.1 0 = 0 := by rw [t4.1 0 (by decide) (by decide)]; rfl
      obtain ⟨i1, i2, i3⟩ := coI_E (C' := stQ C1 (cAp C nf) p1 p2 V.1) (M' := M') g1 ⟨p1, p2, rfl⟩ ⟨fun k _ h34 h35 => t4.1 k h34 h35, t4.2, by omega, by omega⟩
      refine ⟨by omega, by omega, fun _ => by rw [key2], i1, chC_tr g2 i2 (by unfold alb; rw [g2.2.1]), chM_tr g3 i3⟩
section ST46
variable {z : Bool} {g : am_H} {C : tCl} {M : tMd} {xs : Nat → Int32} {L i : Nat}
end ST46
