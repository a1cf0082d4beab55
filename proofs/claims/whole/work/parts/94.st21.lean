/-! ===== the law's steps of letters, mostSeen ===== -/
theorem nmI_W {C : tCl} {M : tMd} (h : nmI C M) (e : M.1 1 = 1) : nmW M (M.1 20).toNat ∧ nmC9 C M (M.1 20).toNat :=
  ⟨fun n hn => by
    obtain ⟨a1, a2, a3, a4, a5⟩ := h e n (by omega)
    exact ⟨a1, a2, a5⟩, fun n hn => by
    obtain ⟨a1, a2, a3, a4, a5⟩ := h e n (by omega)
    exact ⟨a3, a4⟩⟩
theorem coI_seT {C : tCl} {M : tMd} (T : Nat → Int) (h : coI C M) : coI (seT C T) M ∧ chC C (seT C T) := by
  have hr := h.2.2.2.1
  have d3 : ∀ x, x ≠ 1260 → (seT C T).2.1 x = C.2.1 x := fun x hx => if_neg hx
  exact ⟨coI_G h rfl rfl rfl (fun _ _ _ _ _ => rfl) (fun x _ h2 _ => d3 x h2) rfl rfl rfl rfl rfl rfl rfl rfl rfl rfl h.2.2.1.1 hr.2.2.2.2.1 hr.2.2.2.2.2.1 hr.2.2.2.2.2.2.1, rfl, rfl, rfl, rfl, rfl, rfl, d3 _ (by decide), rfl⟩
theorem rfN1_1 {M : tMd} (hM : mdR M) {n : Int} (e : rfN1 M n = 0) : M.1 1 = 1 ∧ 0 ≤ n ∧ n < M.1 20 := by
  have r := hM.2.1
  unfold rfN1 at e
  split at e
  · omega
  · split at e
    · omega
    · omega
/-- who has the rank: found first, found last -/
theorem fs_ls {M : tMd} {N : Nat} {r : Int} (hw : nmW M N) (hr : 0 ≤ r ∧ r < (N : Int)) : fsN M N r N 0 = lsN M N r N := by
  obtain ⟨n, n1, n2⟩ := rkG_ex (kyM_inj hw) r.toNat (by omega)
  rw [← ahN_rk hw n1] at n2
  have uni : ∀ o, o < N → (ahN M N o : Int) = r → o = n := fun o ho he => rkG_inj (kyM_inj hw) ho n1 (by rw [← ahN_rk hw ho, ← ahN_rk hw n1]; omega)
  rcases fsN_sp M N r N 0 with ⟨a1, a2⟩ | ⟨o, a1, a2, a3, a4⟩
  · exact absurd (show (ahN M N n : Int) = r by omega) (a2 n (Nat.zero_le _) (by omega))
  · rcases lsN_sp M N r N with ⟨b1, b2⟩ | ⟨o2, b1, b2, b3⟩
    · exact absurd (show (ahN M N n : Int) = r by omega) (b2 n n1)
    · rw [a3, b2, uni o (by omega) a4, uni o2 b1 b3]
theorem st26v {C : tCl} {M : tMd} {r : Int} {t : Nat} {v b : Int} {C' : tCl} {M' : tMd} (h : coI C M) (hnm : nmI C M) (k1 : seR C M r t v C') (k2 : mdX M (rfN1 M r) (if rfN1 M r = 0 then lsN M (M.1 20).toNat r (M.1 20).toNat else 0) b M') : t ≤ 2 ∧ M'.1 0 = (t : Int) ∧ (t = 0 → v = b) ∧ coI C' M' ∧ chC C C' ∧ chM M M' := by
  obtain ⟨hR, hA, hM, hr, hn, hG, hH, hS, hrg⟩ := id h
  obtain ⟨rfl, rfl⟩ := k2
  have er := rel_rcN1 hM hr r
  have e2 := rcN_2 C r
  rcases k1 with ⟨a0, a1, rfl⟩ | ⟨a0, a1, ⟨T, rfl⟩, rfl⟩
  · exact ⟨by omega, by rw [mdT_1]; omega, fun c => by omega, coI_T h (by omega), chC_refl _, chM_T _ _⟩
  · obtain ⟨w1, w2⟩ := coI_seT T h
    have e0 : rfN1 M r = 0 := by omega
    obtain ⟨x1, x2, x3⟩ := rfN1_1 hM e0
    have hN := hr.2.1
    rw [if_neg (by omega)] at hN
    refine ⟨by omega, by rw [mdT_1]; omega, fun _ => ?_, coI_T w1 (by omega), w2, chM_T _ _⟩
    rw [if_pos e0, hN]
    exact fs_ls (nmI_W hnm x1).1 (by omega)
section ST2126
variable {z : Bool} {g : am_H} {C : tCl} {M : tMd} {xs : Nat → Int32} {L i : Nat}
theorem st_21 (h : coI C M) (hnm : nmI C M) (hg : gI g L xs) (hi : i + 6 ≤ L) (hL : L ≤ 3072) : stRO z 1412 g C M i := by
  intro l6 l7
  obtain ⟨hR, hA, hM, hr, hn, hG, hH, hS, hrg⟩ := id h
  obtain ⟨n, en, gn⟩ := wI_ex (xs (i + 1))
  obtain ⟨o, ho⟩ := hg.2.1
  have er : (((rcN C n) : Nat) : Int) = rfN1 M n := rel_rcN1 hM hr n
  have tb : (rcN C n) ≤ 2 := rcN_2 C n
  have hw : rfN1 M n = 0 → wdR (wF M 5 (16 * n.toNat)) ∧ wdR (wF M 5 (16 * n.toNat + 8)) ∧ C.2.2.1 (alb C + 2) n.toNat = wdL (wF M 5 (16 * n.toNat)) ∧ C.2.2.1 (alb C + 3) n.toNat = wdL (wF M 5 (16 * n.toNat + 8)) := fun e => by
    obtain ⟨x1, x2, x3⟩ := rfN1_1 hM e
    obtain ⟨a1, a2, a3, a4, a5⟩ := hnm x1 n.toNat (by omega)
    exact ⟨a1, a2, a3, a4⟩
  obtain ⟨g', h1, h2, h3, h4, h5⟩ := ro_step (z := z) (g := g) (jc := 213) (jh := 212) (jm := 217) (cargs := [.ref 1000, .int (wI n)]) (margs := [.ref 1315, .int (wI n)]) (t := (rcN C n)) (v := ((wln (wF M 5 (16 * n.toNat)) + wln (wF M 5 (16 * n.toNat + 8)) : Nat) : Int)) (b := if rfN1 M n = 0 then ((wln (wF M 5 (16 * n.toNat)) + wln (wF M 5 (16 * n.toNat + 8)) : Nat) : Int) else 0) (o := o)
    (fun h => c213 hR gn (fun e => by obtain ⟨a1, a2, a3, a4⟩ := hw (by omega); exact ⟨a1.1, a2.1, a3, a4⟩)) (fun h => by rw [er]; exact p217 hM gn (fun e => ⟨(hw e).1, (hw e).2.1⟩)) (fun e => by rw [if_pos (by omega)])
    (fun H G o hc ho => hp212 hc ho)
    (fun H G E hE hc => by
      have e9 : E = 0 ∨ E = 1 := by omega
      rcases e9 with rfl | rfl
      · rw [← hE]; exact hx212_0 hc
      · rw [← hE]; exact hx212_1 hc) ho
  simp only [List.cons_append, List.nil_append] at h1
  rw [← en] at h1 h2
  exact ⟨g', (rcN C n), _, _, lw_21 (gI_x hg) (gI_x (gI_on hg h5)) hi hL (by omega) h1 h2 h3 (fun e => h4 (by omega)), gOn_mono h5 (by omega) (by omega), Nat.le_trans tb (by decide)⟩
theorem st_26 (h : coI C M) (hnm : nmI C M) (hg : gI g L xs) (hi : i + 6 ≤ L) (hL : L ≤ 3072) : stC z 1716 g C M i := by
  intro l6 l7
  obtain ⟨hR, hA, hM, hr, hn, hG, hH, hS, hrg⟩ := id h
  obtain ⟨r, er, gr⟩ := wI_ex (xs (i + 1))
  obtain ⟨o, ho⟩ := hg.2.1
  have hco := h
  have hw26 : ¬ cPm C = 0 → nmW M (cNm C).toNat ∧ nmC9 C M (cNm C).toNat := fun c => by
    have h1 := hr.1
    have h2 := hr.2.1
    have e1 : M.1 1 = 1 := by
      by_cases e : M.1 1 = 0
      · rw [if_pos e] at h1; exact absurd h1 c
      · have := hM.2.1; omega
    rw [if_neg (by omega)] at h2
    rw [h2]
    exact nmI_W hnm e1
  have hw26m : M.1 1 = 1 → nmW M (M.1 20).toNat := fun e => (nmI_W hnm e).1
  obtain ⟨g', C', M', t, v, b, hRt, hQ, hn9, hX, h1, h2, h3, h4, h5⟩ := gn_stepX (z := z) (g := g) (M := M) (jc := 236) (jh := 235) (jm := 240) (cargs := [.ref 1000, .int (wI r)]) (margs := [.ref 1315, .int (wI r)]) (nE := 2) (o := o) (X := fun C' M' => coI C' M' ∧ chC C C' ∧ chM M M')
    (fun h => c236 hR hM hr hn gr hw26) (fun h => md_ex (p240 hM gr hw26m))
    (fun t v C' b M' k1 k2 => st26v hco hnm k1 k2)
    (fun H G o t v C' k1 k2 hc ho => hp235 hc ho)
    (fun H G E hE hc => by
      have e9 : E = 0 ∨ E = 1 := by omega
      rcases e9 with rfl | rfl
      · exact hx235_0 hc
      · exact hx235_1 hc) ho
  simp only [List.cons_append, List.nil_append] at h1
  rw [← er] at h1 h2
  exact ⟨g', C', M', _, _, lw_26 (gI_x hg) (gI_x (gI_on hg h5)) hi hL (by omega) h1 h2 h3 (fun e => h4 (by omega)), h5, hX⟩
end ST2126
