/-! ===== inversions: class against reference ===== -/
theorem dm_n {n i j : Nat} (hj : j < n) : (i * n + j) / n = i ∧ (i * n + j) % n = j := by
  have hn : 0 < n := by omega
  exact ⟨by rw [Nat.mul_comm, Nat.mul_add_div hn, Nat.div_eq_of_lt hj]; rfl, by rw [Nat.mul_comm, Nat.mul_add_mod, Nat.mod_eq_of_lt hj]⟩
theorem dm_lt {n i j : Nat} (hi : i < n) (hj : j < n) : i * n + j < n * n := by
  have h1 : (i + 1) * n ≤ n * n := Nat.mul_le_mul_right n hi
  rw [Nat.succ_mul] at h1
  omega
theorem iv_eq {q p : tPh} {N n1 n2 : Nat} {e1 e2 : Nat → Nat} (hr1 : phR q) (hr2 : phR p) (N1 : phN q N) (N2 : phN p N) (hN : N ≤ 20) (h1 : enO (shS q) (kyO (shX q) (shY q)) n1 e1) (h2 : enO (shS p) (kyO (shX p) (shY p)) n2 e2) : ivT (fun i => onF p e2 n2 (q.2 3 (e1 i))) n1 n1 = tnT q p (bsN (nmB q) N &&& bsN (nmB p) N) N := by
  have hbit : ∀ a, (bsN (nmB q) N &&& bsN (nmB p) N).testBit a = true ↔ a < N ∧ nmB q a = true ∧ nmB p a = true := fun a => by
    rw [Nat.testBit_and, bsN_bit, bsN_bit]
    simp only [Bool.and_eq_true, decide_eq_true_eq]
    constructor
    · rintro ⟨⟨x, y⟩, -, w⟩; exact ⟨x, y, w⟩
    · rintro ⟨x, y, w⟩; exact ⟨⟨x, y⟩, x, w⟩
  generalize hS : bsN (nmB q) N &&& bsN (nmB p) N = s at hbit ⊢
  -- places by names
  have hplace : ∀ a, s.testBit a = true → ∃ i j : Nat, i < n1 ∧ e1 i = hoF q a ∧ q.2 3 (e1 i) = (a : Int) ∧ j < n2 ∧ e2 j = hoF p a ∧ onF p e2 n2 (q.2 3 (e1 i)) = (j : Int) := fun a ha => by
    obtain ⟨b1, b2, b3⟩ := (hbit a).mp ha
    obtain ⟨c1, c2, c3, c4⟩ := nmB_ho hr1 N1 b2
    obtain ⟨d1, d2, d3, d4⟩ := nmB_ho hr2 N2 b3
    obtain ⟨i, i1, i2⟩ := h1.2.2 _ c4 c1
    obtain ⟨j, j1, j2⟩ := h2.2.2 _ d4 d1
    refine ⟨i, j, i1, i2, by rw [i2, c2], j1, j2, ?_⟩
    rw [i2, c2]
    refine fnF_is n2 0 (by omega) (by omega) (decide_eq_true ⟨by omega, by rw [j2, d2]⟩) (fun j' _ hj' hp => ?_)
    have h5 := of_decide_eq_true hp
    have h6 := h2.1 j' (by omega)
    have h7 : e2 j' = hoF p a := N2.2.1 _ _ (shS_lt h6.2) (shS_lt d1) (by rw [h5.2, d2]) (by rw [h5.2]; omega)
    exact enO_inj h2 (by omega) j1 (by rw [h7, j2])
  have hname : ∀ i, i < n1 → ¬ onF p e2 n2 (q.2 3 (e1 i)) = -1 → ∃ a : Nat, q.2 3 (e1 i) = (a : Int) ∧ s.testBit a = true := fun i hi hne => by
    have k1 := h1.1 i hi
    have k2 := phR_i hr1 (e1 i)
    rcases fnF_sp (fun j => decide (¬ q.2 3 (e1 i) = -1 ∧ p.2 3 (e2 j) = q.2 3 (e1 i))) n2 0 with ⟨c, -⟩ | ⟨j, -, -, j1, j2⟩
    · exact absurd c hne
    · have h5 := of_decide_eq_true j2
      have h6 := h2.1 j (by omega)
      obtain ⟨a, ha⟩ := Int.eq_ofNat_of_zero_le (show 0 ≤ q.2 3 (e1 i) by omega)
      refine ⟨a, ha, (hbit a).mpr ⟨?_, ?_, ?_⟩⟩
      · have := N1.1 (e1 i) (shS_lt k1.2); omega
      · exact (nmB_iff hr1 N1 a).mpr ⟨e1 i, by have := shS_lt k1.2; omega, (shS_rng hr1 k1.2).2.2.2.2, ha⟩
      · exact (nmB_iff hr2 N2 a).mpr ⟨e2 j, by have := shS_lt h6.2; omega, (shS_rng hr2 h6.2).2.2.2.2, by rw [h5.2, ha]⟩
  have hnm : ∀ (i a : Nat), i < n1 → q.2 3 (e1 i) = (a : Int) → s.testBit a = true → e1 i = hoF q a := fun i a hi ha hs => by
    obtain ⟨i', j', a1, a2, a3, -⟩ := hplace a hs
    have k1 := h1.1 i hi
    have k2 := h1.1 i' a1
    rw [← a2]
    exact N1.2.1 _ _ (shS_lt k1.2) (shS_lt k2.2) (by rw [ha, a3]) (by rw [ha]; omega)
  have hord1 : ∀ a b i j, s.testBit a = true → s.testBit b = true → i < n1 → j < n1 → e1 i = hoF q a → e1 j = hoF q b → (kyO (shX q) (shY q) (hoF q a) < kyO (shX q) (shY q) (hoF q b) ↔ i < j) := fun a b i j _ _ hi hj ea eb => by
    rw [← ea, ← eb]; exact enO_lt h1 hi hj
  have hord2 : ∀ a b i j, i < n2 → j < n2 → e2 i = hoF p a → e2 j = hoF p b → (kyO (shX p) (shY p) (hoF p a) < kyO (shX p) (shY p) (hoF p b) ↔ i < j) := fun a b i j hi hj ea eb => by
    rw [← ea, ← eb]; exact enO_lt h2 hi hj
  rcases Nat.eq_zero_or_pos n1 with hz | hpos
  · subst hz
    rw [tnT_cn q p s N hN, cnB_none _ (fun c hc hp => ?_)]
    · rfl
    · simp only [Bool.and_eq_true, decide_eq_true_eq, tnA] at hp
      obtain ⟨i, j, a1, -⟩ := hplace _ hp.2.1.1
      omega
  · rw [ivT_cn _ hpos n1, tnT_cn q p s N hN]
    apply Nat.le_antisymm
    · refine cnB_inj (f := fun c => if (q.2 3 (e1 (c % n1))).toNat < (q.2 3 (e1 (c / n1))).toNat then (q.2 3 (e1 (c / n1))).toNat * 20 + (q.2 3 (e1 (c % n1))).toNat else (q.2 3 (e1 (c % n1))).toNat * 20 + (q.2 3 (e1 (c / n1))).toNat) (n1 * n1) (fun c hc hp => ?_) (fun c c' hc hc' hp hp' he => ?_)
      · have h9 := of_decide_eq_true hp
        dsimp only at h9
        have hi : c / n1 < n1 := Nat.div_lt_of_lt_mul hc
        have hj : c % n1 < n1 := Nat.mod_lt _ hpos
        obtain ⟨b, b1, b2⟩ := hname _ hj h9.2.1
        have hi2 : ¬ onF p e2 n2 (q.2 3 (e1 (c / n1))) = -1 := by
          rcases onF_rng p e2 n2 (q.2 3 (e1 (c % n1))) with w | w
          · have := h9.2.2; omega
          · exact absurd w h9.2.1
        obtain ⟨a, a1, a2⟩ := hname _ hi hi2
        obtain ⟨i', x, y1, y2, y3, y4, y5, y6⟩ := hplace a a2
        obtain ⟨j', x', z1, z2, z3, z4, z5, z6⟩ := hplace b b2
        have ei := hnm _ a hi a1 a2
        have ej := hnm _ b hj b1 b2
        rw [y3] at y6
        rw [z3] at z6
        rw [a1, b1, y6, z6] at h9
        have hab : a ≠ b := fun w => by subst w; have := enO_inj h1 hi hj (by rw [ei, ej]); omega
        have o1 := hord1 a b _ _ a2 b2 hi hj ei ej
        have o1' := hord1 b a _ _ b2 a2 hj hi ej ei
        have o2 := hord2 a b _ _ y4 z4 y5 z5
        have o2' := hord2 b a _ _ z4 y4 z5 y5
        have haN := ((hbit a).mp a2).1
        have hbN := ((hbit b).mp b2).1
        rw [a1, b1]
        simp only [Int.toNat_natCast]
        by_cases w : b < a
        · rw [if_pos w, show (a * 20 + b) / 20 = a by omega, show (a * 20 + b) % 20 = b by omega]
          refine ⟨by omega, ?_⟩
          have t1 : decide (kyO (shX q) (shY q) (hoF q a) < kyO (shX q) (shY q) (hoF q b)) = true := decide_eq_true (o1.mpr h9.1)
          have t2 : decide (kyO (shX p) (shY p) (hoF p a) < kyO (shX p) (shY p) (hoF p b)) = false := decide_eq_false (fun w2 => by have := o2.mp w2; omega)
          unfold tnA
          rw [t1, t2, a2, b2, decide_eq_true w]; rfl
        · rw [if_neg w, show (b * 20 + a) / 20 = b by omega, show (b * 20 + a) % 20 = a by omega]
          refine ⟨by omega, ?_⟩
          have t1 : decide (kyO (shX q) (shY q) (hoF q b) < kyO (shX q) (shY q) (hoF q a)) = false := decide_eq_false (fun w2 => by have := o1'.mp w2; omega)
          have t2 : decide (kyO (shX p) (shY p) (hoF p b) < kyO (shX p) (shY p) (hoF p a)) = true := decide_eq_true (o2'.mpr (by omega))
          unfold tnA
          rw [t1, t2, a2, b2, decide_eq_true (show a < b by omega)]; rfl
      · have h9 := of_decide_eq_true hp
        dsimp only at h9
        have h9' := of_decide_eq_true hp'
        dsimp only at h9'
        have hi : c / n1 < n1 := Nat.div_lt_of_lt_mul hc
        have hj : c % n1 < n1 := Nat.mod_lt _ hpos
        have hi' : c' / n1 < n1 := Nat.div_lt_of_lt_mul hc'
        have hj' : c' % n1 < n1 := Nat.mod_lt _ hpos
        obtain ⟨b, b1, b2⟩ := hname _ hj h9.2.1
        obtain ⟨b', b1', b2'⟩ := hname _ hj' h9'.2.1
        obtain ⟨a, a1, a2⟩ := hname _ hi (by
          rcases onF_rng p e2 n2 (q.2 3 (e1 (c % n1))) with w | w
          · have := h9.2.2; omega
          · exact absurd w h9.2.1)
        obtain ⟨a', a1', a2'⟩ := hname _ hi' (by
          rcases onF_rng p e2 n2 (q.2 3 (e1 (c' % n1))) with w | w
          · have := h9'.2.2; omega
          · exact absurd w h9'.2.1)
        rw [a1, b1, a1', b1'] at he
        simp only [Int.toNat_natCast] at he
        have haN := ((hbit a).mp a2).1
        have hbN := ((hbit b).mp b2).1
        have haN' := ((hbit a').mp a2').1
        have hbN' := ((hbit b').mp b2').1
        have ei := hnm _ a hi a1 a2
        have ej := hnm _ b hj b1 b2
        have ei' := hnm _ a' hi' a1' a2'
        have ej' := hnm _ b' hj' b1' b2'
        have hcase : (a = a' ∧ b = b') ∨ (a = b' ∧ b = a') := by
          split at he <;> split at he <;> omega
        have hm1 := Nat.div_add_mod c n1
        have hm2 := Nat.div_add_mod c' n1
        rcases hcase with ⟨rfl, rfl⟩ | ⟨rfl, rfl⟩
        · have w1 := enO_inj h1 hi hi' (by rw [ei, ei'])
          have w2 := enO_inj h1 hj hj' (by rw [ej, ej'])
          rw [← hm1, ← hm2, w1, w2]
        · have w1 := enO_inj h1 hi hj' (by rw [ei, ej'])
          have w2 := enO_inj h1 hj hi' (by rw [ej, ei'])
          omega
    · -- names to places
      have hrk : ∀ a, s.testBit a = true → rkN (shS q) (kyO (shX q) (shY q)) (hoF q a) < n1 ∧ e1 (rkN (shS q) (kyO (shX q) (shY q)) (hoF q a)) = hoF q a := fun a ha => by
        obtain ⟨c1, c2, c3, c4⟩ := nmB_ho hr1 N1 ((hbit a).mp ha).2.1
        exact enO_at h1 c4 c1
      refine cnB_inj (f := fun c => if rkN (shS q) (kyO (shX q) (shY q)) (hoF q (c / 20)) < rkN (shS q) (kyO (shX q) (shY q)) (hoF q (c % 20)) then rkN (shS q) (kyO (shX q) (shY q)) (hoF q (c / 20)) * n1 + rkN (shS q) (kyO (shX q) (shY q)) (hoF q (c % 20)) else rkN (shS q) (kyO (shX q) (shY q)) (hoF q (c % 20)) * n1 + rkN (shS q) (kyO (shX q) (shY q)) (hoF q (c / 20))) (N * 20) (fun c hc hp => ?_) (fun c c' hc hc' hp hp' he => ?_)
      · simp only [Bool.and_eq_true, decide_eq_true_eq, tnA] at hp
        obtain ⟨p1, ⟨p2, p3⟩, p4⟩ := hp
        generalize hca : c / 20 = a at *
        generalize hcb : c % 20 = b at *
        obtain ⟨i1, i2⟩ := hrk a p2
        obtain ⟨j1, j2⟩ := hrk b p3
        generalize hri : rkN (shS q) (kyO (shX q) (shY q)) (hoF q a) = i at *
        generalize hrj : rkN (shS q) (kyO (shX q) (shY q)) (hoF q b) = j at *
        obtain ⟨i', x, y1, y2, y3, y4, y5, y6⟩ := hplace a p2
        obtain ⟨j', x', z1, z2, z3, z4, z5, z6⟩ := hplace b p3
        have ei := enO_inj h1 y1 i1 (by rw [y2, i2])
        have ej := enO_inj h1 z1 j1 (by rw [z2, j2])
        subst ei ej
        have hij : i' ≠ j' := fun w => by subst w; rw [y3] at z3; omega
        have hxx : x ≠ x' := fun w => by
          subst w
          rw [y5] at z5
          have u1 := (nmB_ho hr2 N2 ((hbit a).mp p2).2.2).2.1
          have u2 := (nmB_ho hr2 N2 ((hbit b).mp p3).2.2).2.1
          rw [z5] at u1
          omega
        have o1 := hord1 a b _ _ p2 p3 i1 j1 i2 j2
        have o2 := hord2 a b _ _ y4 z4 y5 z5
        have hdd : ¬ ((i' < j') ↔ (x < x')) := fun w => p4 (by
          apply Bool.eq_iff_iff.mpr
          rw [decide_eq_true_eq, decide_eq_true_eq, o1, o2]; exact w)
        by_cases w : i' < j'
        · rw [if_pos w, (dm_n j1).1, (dm_n j1).2]
          refine ⟨dm_lt i1 j1, decide_eq_true ⟨w, by dsimp only; rw [z6]; omega, ?_⟩⟩
          dsimp only
          rw [y6, z6]
          by_cases w2 : x < x'
          · exact absurd ⟨fun _ => w2, fun _ => w⟩ hdd
          · omega
        · rw [if_neg w, (dm_n i1).1, (dm_n i1).2]
          refine ⟨dm_lt j1 i1, decide_eq_true ⟨by omega, by dsimp only; rw [y6]; omega, ?_⟩⟩
          dsimp only
          rw [y6, z6]
          by_cases w2 : x < x'
          · omega
          · exact absurd ⟨fun w3 => absurd w3 w, fun w3 => absurd w3 w2⟩ hdd
      · simp only [Bool.and_eq_true, decide_eq_true_eq, tnA] at hp hp'
        obtain ⟨p1, ⟨p2, p3⟩, p4⟩ := hp
        obtain ⟨p1', ⟨p2', p3'⟩, p4'⟩ := hp'
        obtain ⟨i1, i2⟩ := hrk _ p2
        obtain ⟨j1, j2⟩ := hrk _ p3
        obtain ⟨i1', i2'⟩ := hrk _ p2'
        obtain ⟨j1', j2'⟩ := hrk _ p3'
        have hd : ∀ i j i' j', i < n1 → j < n1 → i' < n1 → j' < n1 → i * n1 + j = i' * n1 + j' → i = i' ∧ j = j' := fun i j i' j' _ hj _ hj' hh => by
          have w1 := (dm_n (i := i) hj).1
          have w2 := (dm_n (i := i') hj').1
          have w3 := (dm_n (i := i) hj).2
          have w4 := (dm_n (i := i') hj').2
          rw [hh] at w1 w3
          exact ⟨by rw [← w1, w2], by rw [← w3, w4]⟩
        have hname2 : ∀ a b, s.testBit a = true → s.testBit b = true → rkN (shS q) (kyO (shX q) (shY q)) (hoF q a) = rkN (shS q) (kyO (shX q) (shY q)) (hoF q b) → a = b := fun a b ha hb hh => by
          have w1 := (hrk a ha).2
          have w2 := (hrk b hb).2
          rw [hh, w2] at w1
          have u1 := (nmB_ho hr1 N1 ((hbit a).mp ha).2.1).2.1
          have u2 := (nmB_ho hr1 N1 ((hbit b).mp hb).2.1).2.1
          rw [← w1] at u1
          omega
        have hcase : (c / 20 = c' / 20 ∧ c % 20 = c' % 20) ∨ (c / 20 = c' % 20 ∧ c % 20 = c' / 20) := by
          split at he
          · split at he
            · obtain ⟨w1, w2⟩ := hd _ _ _ _ i1 j1 i1' j1' he
              exact Or.inl ⟨hname2 _ _ p2 p2' w1, hname2 _ _ p3 p3' w2⟩
            · obtain ⟨w1, w2⟩ := hd _ _ _ _ i1 j1 j1' i1' he
              exact Or.inr ⟨hname2 _ _ p2 p3' w1, hname2 _ _ p3 p2' w2⟩
          · split at he
            · obtain ⟨w1, w2⟩ := hd _ _ _ _ j1 i1 i1' j1' he
              exact Or.inr ⟨hname2 _ _ p2 p3' w2, hname2 _ _ p3 p2' w1⟩
            · obtain ⟨w1, w2⟩ := hd _ _ _ _ j1 i1 j1' i1' he
              exact Or.inl ⟨hname2 _ _ p2 p2' w2, hname2 _ _ p3 p3' w1⟩
        omega
theorem ivI_eq {q1 q2 p1 p2 : tPh} {N : Nat} {v : Int} (c1 : pheq q1 p1) (c2 : pheq q2 p2) (hr1 : phR p1) (hr2 : phR p2) (N1 : phN p1 N) (N2 : phN p2 N) (hN : N ≤ 20) (h : ivI q1 q2 v) : v = (tnT p1 p2 (bsN (nmB p1) N &&& bsN (nmB p2) N) N : Nat) := by
  obtain ⟨n1, n2, e1, e2, h1, h2, rfl⟩ := h
  have tr : ∀ {q p : tPh} {n : Nat} {e : Nat → Nat}, pheq q p → enO (shS q) (kyO (shX q) (shY q)) n e → enO (shS p) (kyO (shX p) (shY p)) n e := fun {q p n e} c h => by
    rw [← shS_eq c]
    exact enO_key h (fun a b _ _ sa sb hab => by unfold kyO at hab ⊢; rw [← pheq_shX c (shS_lt sa), ← pheq_shY c (shS_lt sa), ← pheq_shX c (shS_lt sb), ← pheq_shY c (shS_lt sb)]; exact hab)
  rw [← iv_eq hr1 hr2 N1 N2 hN (tr c1 h1) (tr c2 h2)]
  congr 1
  have hL : ∀ i, i < n1 → onF q2 e2 n2 (q1.2 3 (e1 i)) = onF p2 e2 n2 (p1.2 3 (e1 i)) := fun i hi => by
    rw [c1.2 3 (e1 i) (by decide) (shS_lt (h1.1 i hi).2)]
    unfold onF
    have : ∀ d k, k + d = n2 → fnF (fun j => decide (¬ p1.2 3 (e1 i) = -1 ∧ q2.2 3 (e2 j) = p1.2 3 (e1 i))) d k = fnF (fun j => decide (¬ p1.2 3 (e1 i) = -1 ∧ p2.2 3 (e2 j) = p1.2 3 (e1 i))) d k := by
      intro d
      induction d with
      | zero => intro k _; rfl
      | succ d ih =>
        intro k hk
        unfold fnF
        rw [c2.2 3 (e2 k) (by decide) (shS_lt (h2.1 k (by omega)).2), ih (k + 1) (by omega)]
    exact this n2 0 (by omega)
  have hT : ∀ i, i ≤ n1 → ivT (fun i => onF q2 e2 n2 (q1.2 3 (e1 i))) n1 i = ivT (fun i => onF p2 e2 n2 (p1.2 3 (e1 i))) n1 i := by
    intro i
    induction i with
    | zero => intro _; rfl
    | succ i ih =>
      intro hi
      rw [ivT, ivT, ih (by omega)]
      congr 1
      refine cnB_congr fun j hj => ?_
      have a1 := hL j hj
      have a2 := hL i (by omega)
      unfold ivA
      apply Bool.eq_iff_iff.mpr
      rw [decide_eq_true_eq, decide_eq_true_eq]
      dsimp only
      rw [a1, a2]
  exact hT n1 (Nat.le_refl _)
