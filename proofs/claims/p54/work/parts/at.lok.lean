/-! ===== the relation after load: all well ===== -/
theorem msfC {S T W W' H H' : Nat → Int} (h : ∀ j, j < 270 → T j = S j) {f : Nat} (hf : f < 5) (hW : W' f = W f) (hH : H' f = H f) : phS (msf S W H f) (msf T W' H' f) := by
  refine ⟨fun k hk => ?_, fun c i hc hi => ?_⟩
  · unfold msf
    dsimp only
    rw [h (54 * f + (k - 2)) (by omega), hW, hH]
  · unfold msf
    dsimp only
    rw [h (54 * f + 6 + 4 * i + 3) (by omega), h (54 * f + 6 + 4 * i + c) (by omega)]
theorem srR_rd {S T : Nat → Int} {P : Int} (h : rdS S P) (e : ∀ j, j < 270 → T j = S j) : srR T := fun f hf => by
  obtain ⟨b1, b2, b3, b4, b5, b6⟩ := h.2 f hf
  refine ⟨by rw [e _ (by omega), b3]; omega, by rw [e _ (by omega)]; exact b4, fun i hi => ?_⟩
  rw [e _ (by omega), e _ (by omega), (b6 i hi).1, (b6 i hi).2]; omega
theorem ld_fin {g : am_H} {C C1 C2 : tCl} {M M1 M2 : tMd} {A B n cap P : Nat} {L : Nat} {xs : Nat → Int32} (h : fuI g C M cap) (hg : gI g L xs) (hB : C.2.2.2 1000 2 = B) (hA1 : C.2.2.2 1000 1 = A) (h1 : inS (bgC C n) C1) (h2 : scS (bgM (mdT M 0) n) M1) (he : okR B C1 M1 C2 M2) (hP : M2.1 29 = (P : Int)) : fuI g (ldE C2 A B) (tkE (teM M2) P) cap := by
  obtain ⟨f1, f2, f3, f4, f5⟩ := h
  obtain ⟨hR, hA, hM, hr, hnn, hG, hH, hSv, hgg⟩ := id f1
  have hAB : (B = 1003 ∨ B = 1034) ∧ (A + 30 < B ∨ B + 30 < A) ∧ (A = 1003 ∨ A = 1034) := by
    rcases hR.1 with ⟨e1, e2⟩ | ⟨e1, e2⟩ <;> omega
  obtain ⟨hB2, hdis, hal⟩ := hAB
  obtain ⟨e1, e2, e3, e4, e5, e6, e7, e8, e9, e10⟩ := he
  have fC := bg_lfC h1 e1 hB2
  obtain ⟨m1, m2, m0, m7⟩ := bg_lfM h2 e3
  obtain ⟨hst, -⟩ := (spr_k hB2).2.2.2.2
  -- the class
  obtain ⟨D, hD⟩ : ∃ D, D = ldE C2 A B := ⟨_, rfl⟩
  have o1 : ∀ q, q ≠ 1092 → q ≠ 1261 → q ≠ 1288 → D.1 q = C2.1 q := fun q q1 q2 q3 => by rw [hD]; unfold ldE; rw [upI_n q3, upI_n q2, upI_n q1]; rfl
  have o2 : D.2.1 = C2.2.1 := by rw [hD]; rfl
  have o3 : D.2.2.1 = C2.2.2.1 := by rw [hD]; rfl
  have o4 : ∀ q, q ≠ 1000 → D.2.2.2 q = C2.2.2.2 q := fun q hq => by
    rw [hD]
    show (fun j => if q = 1000 then (if j = 2 then A else _) else (if q = 1000 then (if j = 1 then B else _) else C2.2.2.2 q j)) = _
    funext j
    rw [if_neg hq, if_neg hq]
  have oB : D.2.2.2 1000 1 = B := by rw [hD]; rfl
  have oA : D.2.2.2 1000 2 = A := by rw [hD]; rfl
  have z1 : D.1 1092 0 = 0 := by rw [hD]; rfl
  have z2 : D.1 1261 0 = 0 := by rw [hD]; rfl
  have z3 : D.1 1288 0 = 0 := by rw [hD]; rfl
  have hdA : alb D = B := oB
  have dph : ∀ t, isSt t → ∀ i, i < 5 → cph D (t + 2 + 5 * i) = cph C2 (t + 2 + 5 * i) := fun t ht i hi => by
    have key : ∀ t ∈ stS, ∀ i : Fin 5, t + 2 + 5 * i.val ≠ 1092 ∧ t + 2 + 5 * i.val ≠ 1261 ∧ t + 2 + 5 * i.val ≠ 1288 := by decide +kernel
    obtain ⟨k1, k2, k3⟩ := key t ht ⟨i, hi⟩
    exact cph_eq (o1 _ k1 k2 k3) (fun c hc => by rw [o2])
  have rph : ∀ t, isSt t → ∀ i, i < 5 → phR (cph D (t + 2 + 5 * i)) := fun t ht i hi => by
    rw [dph t ht i hi]
    by_cases e : t = B + 4
    · rw [e, show B + 4 + 2 + 5 * i = B + 6 + 5 * i by omega]; exact e5 i hi
    · have k := isSt_sp ht hB2 e
      rw [cph_eq (fC.1 _ (by omega) (by omega)) (fun c hc => fC.2.1 _ (by omega))]; exact hA.1 t ht i hi
  -- the reference
  obtain ⟨N, hN⟩ : ∃ N, N = tkE (teM M2) P := ⟨_, rfl⟩
  obtain ⟨p1, p2, p3, p4⟩ := e7
  have P5 : P ≤ 5 := by omega
  have n1 : N.1 1 = 1 := by rw [hN]; rfl
  have n4 : N.1 4 = 0 := by rw [hN]; rfl
  have n20 : N.1 20 = M2.1 22 := by rw [hN]; rfl
  have n24 : N.1 24 = M2.1 28 := by rw [hN]; rfl
  have n25 : N.1 25 = (P : Int) := by rw [← hP, hN]; rfl
  have n0 : N.1 0 = 0 := by rw [hN]; exact m0
  have n7 : N.1 7 = 0 := by rw [hN]; exact m7
  have n8 : N.1 8 = 0 := by rw [hN]; exact e4
  have n9 : N.1 9 = -1 := by rw [hN]; show (if M2.1 17 = 0 then -1 else M2.1 18) = _; rw [if_pos e4]
  have n38 : N.1 38 = M.1 38 := by rw [hN]; exact m1 38 (by decide) (by decide) (by omega) (by decide) (by decide) (by decide)
  have a0 : ∀ j, N.2 0 j = if j < 270 then M2.2 10 j else M.2 0 j := fun j => by
    rw [hN, ← m2 0 (by decide) (by decide) (by decide) (by decide)]; rfl
  have a5 : ∀ j, N.2 5 j = if j < 320 then M2.2 6 j else M.2 5 j := fun j => by
    rw [hN, ← m2 5 (by decide) (by decide) (by decide) (by decide)]; rfl
  have a8 : ∀ f, f < 5 → N.2 8 f = if f < P then M2.2 10 (54 * f + 2) + 1 else M.2 8 f := fun f hf => by
    rw [hN, ← m2 8 (by decide) (by decide) (by decide) (by decide)]
    show (if f < P then (if 54 * f + 2 < 270 then M2.2 10 (54 * f + 2) else _) + 1 else _) = _
    rw [if_pos (show 54 * f + 2 < 270 by omega)]; rfl
  have a9 : ∀ f, f < 5 → N.2 9 f = if f < P then M2.2 10 (54 * f + 3) + 1 else M.2 9 f := fun f hf => by
    rw [hN, ← m2 9 (by decide) (by decide) (by decide) (by decide)]
    show (if f < P then (if 54 * f + 3 < 270 then M2.2 10 (54 * f + 3) else _) + 1 else _) = _
    rw [if_pos (show 54 * f + 3 < 270 by omega)]; rfl
  have a8' : ∀ f, ¬ f < P → N.2 8 f = M.2 8 f := fun f hf => by
    rw [hN, ← m2 8 (by decide) (by decide) (by decide) (by decide)]
    exact if_neg hf
  have a9' : ∀ f, ¬ f < P → N.2 9 f = M.2 9 f := fun f hf => by
    rw [hN, ← m2 9 (by decide) (by decide) (by decide) (by decide)]
    exact if_neg hf
  have a1 : N.2 1 = M.2 1 := by rw [hN]; exact m2 1 (by decide) (by decide) (by decide) (by decide)
  have a15 : N.2 15 = M.2 15 := by rw [hN]; exact m2 15 (by decide) (by decide) (by decide) (by decide)
  have a20 : N.2 2 0 = 0 ∧ N.2 2 1 = 0 := by rw [hN]; exact ⟨rfl, rfl⟩
  have s0 : ∀ j, j < 270 → N.2 0 j = M2.2 10 j := fun j hj => by rw [a0, if_pos hj]
  have hsr : srR (N.2 0) := srR_rd p3 s0
  have hrg : rgI N := by
    refine ⟨fun j => ?_, fun j => by rw [a1]; exact hgg.2.1 j, fun f => ?_, fun f => ?_, fun f hf => ?_⟩
    · rw [a0]
      by_cases c : j < 270
      · rw [if_pos c]; have := p3.1 j c; omega
      · rw [if_neg c]; exact hgg.1 j
    · by_cases c : f < P
      · rw [a8 f (by omega), if_pos c]; have := p3.1 (54 * f + 2) (by omega); omega
      · rw [a8' f c]; exact hgg.2.2.1 f
    · by_cases c : f < P
      · rw [a9 f (by omega), if_pos c]; have := p3.1 (54 * f + 3) (by omega); omega
      · rw [a9' f c]; exact hgg.2.2.2.1 f
    · rw [n25] at hf
      rw [a8 f (by omega), a9 f (by omega), if_pos (by omega), if_pos (by omega)]
      have := p3.1 (54 * f + 2) (by omega)
      have := p3.1 (54 * f + 3) (by omega)
      omega
  have hmd : mdR N := mdR_of ⟨by rw [n0]; omega, by rw [n1]; omega, by rw [n4]; omega, by rw [n20]; exact e6.2.1, by rw [n25]; omega, by rw [n24]; exact e9⟩ hrg hsr
  have hcP : cPm D = (P : Int) := by unfold cPm; rw [hdA, o1 _ (by omega) (by omega) (by omega), p1, hP]
  have hcN : cNm D = M2.1 22 := by unfold cNm; rw [hdA, o1 _ (by omega) (by omega) (by omega), e6.1]
  have hgp : D.1 (alb D) 0 = M2.1 28 := by rw [hdA, o1 _ (by omega) (by omega) (by omega)]; exact e8
  have hcA : ∀ f, cAp D f = B + 4 + 2 + 5 * f := fun f => by unfold cAp; rw [hdA]
  have h91 : D.2.2.2 1093 = C.2.2.2 1093 := by rw [o4 _ (by decide)]; exact funext fun j => fC.2.2.2 _ _ (by omega)
  have h56 : D.2.2.2 1256 = C.2.2.2 1256 := by rw [o4 _ (by decide)]; exact funext fun j => fC.2.2.2 _ _ (by omega)
  have i1 : ∀ i, i < 4 → D.1 1001 i = (bgC C n).1 1001 i := fun i hi => by rw [o1 _ (by decide) (by decide) (by decide), e2 i hi, h1.2.1 i (by omega)]
  rw [← hD, ← hN]
  refine ⟨⟨⟨?_, by rw [hcP]; omega, by rw [hcN]; exact e6.2.1, by rw [hgp]; exact e9, fun i hi => by rw [hcA]; exact rph _ hst i hi⟩, ⟨rph, ?_⟩, hmd, ⟨by rw [hcP, n1, n25]; rfl, by rw [hcN, n1, n20]; rfl, fun _ => by rw [n25]; omega, fun f hf => ?_, by rw [i1 1 (by decide), n7]; rfl, by rw [i1 2 (by decide), n8]; rfl, by rw [i1 3 (by decide), n9]; rfl, by rw [z1, n1, n4]; rfl⟩, fun f hf => ?_, by rw [hgp, n24], ⟨⟨fun i hi => by rw [h91]; exact hH.1.1 i hi, fun i j hi hj he => by rw [h91] at he; exact hH.1.2.1 i j hi hj he, by rw [z1]; omega⟩, fun _ => n4, by rw [z1, n4], fun i hi => by rw [n4] at hi; omega⟩, fun s hs => ?_, hrg⟩, fun _ m hm => ?_, ⟨by rw [n7]; omega, by rw [n8]; omega, by rw [n9]; omega, fun i hi => by rw [n7] at hi; omega⟩, wrI_of f4 (gOn_refl (c := 0) (s := 0) hg) n38 a15 (by rw [o1 _ (by decide) (by decide) (by decide)]; exact fC.1 _ (by decide) (by omega)) (by rw [o4 _ (by decide)]; exact funext fun j => fC.2.2.2 _ _ (by omega)), f5⟩
  · unfold clA
    rw [oA, oB]; omega
  · rw [cph_eq (o1 _ (by decide) (by decide) (by decide)) (fun c hc => by rw [o2]), cph_eq (fC.1 _ (by decide) (by omega)) (fun c hc => fC.2.1 _ (by omega))]; exact hA.2
  · rw [hcP] at hf
    rw [hcA, dph _ hst f (by omega), mph_f, show B + 4 + 2 + 5 * f = B + 6 + 5 * f by omega]
    have x := p4 f (by rw [hP]; exact hf)
    refine pheq_S x (msfC s0 (by omega) ?_ ?_) ?_
    · rw [a8 f (by omega), if_pos (by omega)]; rfl
    · rw [a9 f (by omega), if_pos (by omega)]; rfl
    · rw [x.1 7 (by decide)]; exact (p3.2 f (by omega)).2.2.2.1
  · rw [n25] at hf
    obtain ⟨b1, b2, b3, b4, b5, b6⟩ := p3.2 f (by omega)
    rw [mph_f]
    have k7 : (msf (N.2 0) (N.2 8) (N.2 9) f).1 7 = M2.2 10 (54 * f + 5) := s0 _ (by omega)
    have c3 : ∀ i, i < 12 → (msf (N.2 0) (N.2 8) (N.2 9) f).2 3 i = -1 := fun i hi => by
      rw [(msf_c hi).2.2.2, s0 _ (by omega), (b6 i hi).2]; rfl
    refine ⟨fun i hi => ?_, fun i j hi hj he hne => ?_, ?_, ?_⟩
    · rw [k7] at hi
      rw [c3 i (by omega), n20]; have := e6.2.1; omega
    · rw [k7] at hi
      exact absurd (c3 i (by omega)) hne
    · show N.2 0 (54 * f + 0) ≤ N.2 0 (54 * f + 2)
      rw [s0 _ (by omega), s0 _ (by omega), Nat.add_zero, b1]; exact (p3.1 _ (by omega)).1
    · show N.2 0 (54 * f + 1) ≤ N.2 0 (54 * f + 3)
      rw [s0 _ (by omega), s0 _ (by omega), b2]; exact (p3.1 _ (by omega)).1
  · have hs2 : N.2 2 s = 0 := by
      have : s = 0 ∨ s = 1 := by omega
      rcases this with rfl | rfl
      · exact a20.1
      · exact a20.2
    have hc2 : D.1 (1261 + 27 * s) 0 = 0 := by
      have : s = 0 ∨ s = 1 := by omega
      rcases this with rfl | rfl
      · exact z2
      · exact z3
    exact ⟨by rw [h56]; exact (hSv s hs).1, Or.inl hs2, fun _ => hs2, fun _ => hc2, fun c => by rw [hs2] at c; exact absurd c (by decide)⟩
  · rw [n20] at hm
    obtain ⟨q1, q2, q3, q4, q5⟩ := e6.2.2 m hm
    have w : ∀ a, a + 8 ≤ 320 → ∀ k, k < 8 → wF N 5 a k = wF M2 6 a k := fun a ha k hk => by
      show N.2 5 (a + k) = _
      rw [a5, if_pos (by omega)]; rfl
    have h20 := e6.2.1
    rw [hdA, o3, q3, q4]
    refine ⟨wdR_c q1 (w _ (by omega)), wdR_c q2 (w _ (by omega)), wdL_c q1.1 (w _ (by omega)), wdL_c q2.1 (w _ (by omega)), fun j hj hh => q5 j hj ⟨fun i hi => ?_, fun i hi => ?_⟩⟩
    · rw [← w (16 * m) (by omega) i hi, ← w (16 * j) (by omega) i hi]; exact hh.1 i hi
    · rw [← w (16 * m + 8) (by omega) i hi, ← w (16 * j + 8) (by omega) i hi]; exact hh.2 i hi
