/-! ===== what stands between class and reference from call to call: names' words, the buffer, the written text ===== -/
/-- the texts of the strings that class and reference use -/
def sbL : List (List Nat) := [[110, 111, 116, 32, 116, 104, 97, 116, 32, 109, 97, 110, 121, 32, 98, 121, 116, 101, 115, 32, 105, 110, 32, 116, 104, 101, 32, 98, 117, 102, 102, 101, 114],
  [97, 108, 98, 117, 109],
  [116, 104, 101, 32, 116, 101, 120, 116, 32, 104, 97, 115, 32, 97, 110, 32, 101, 114, 114, 111, 114],
  [103, 97, 112],
  [110, 97, 109, 101],
  [97, 110, 100],
  [115, 111, 109, 101, 111, 110, 101],
  [108, 101, 102, 116],
  [114, 105, 103, 104, 116],
  [114, 111, 119],
  [97, 108, 108],
  [97, 116],
  [98, 101, 115, 105, 100, 101],
  [98, 101, 116, 119, 101, 101, 110],
  [112, 104, 111, 116, 111],
  [112, 101, 114, 115, 111, 110],
  [110, 111, 32, 97, 108, 98, 117, 109],
  [110, 111, 32, 115, 117, 99, 104, 32, 112, 104, 111, 116, 111],
  [114, 111, 119],
  [114, 105, 103, 104, 116],
  [108, 101, 102, 116],
  [115, 111, 109, 101, 111, 110, 101],
  [97, 110, 100],
  [97, 108, 108],
  [97, 116],
  [98, 101, 115, 105, 100, 101],
  [98, 101, 116, 119, 101, 101, 110],
  [110, 111, 32, 115, 117, 99, 104, 32, 115, 105, 100, 101, 32, 111, 102, 32, 116, 104, 101, 32, 102, 114, 97, 109, 101],
  [110, 111, 32, 115, 117, 99, 104, 32, 112, 101, 114, 115, 111, 110],
  [110, 111, 32, 115, 117, 99, 104, 32, 114, 111, 119],
  [110, 111, 32, 115, 117, 99, 104, 32, 112, 108, 97, 99, 101],
  [110, 111, 32, 115, 117, 99, 104, 32, 114, 97, 110, 107],
  [97, 110, 32, 97, 114, 103, 117, 109, 101, 110, 116, 32, 105, 115, 32, 111, 117, 116, 32, 111, 102, 32, 105, 116, 115, 32, 114, 97, 110, 103, 101],
  [110, 111, 32, 115, 117, 99, 104, 32, 110, 97, 109, 101],
  [110, 111, 116, 32, 97, 32, 115, 101, 116, 32, 111, 102, 32, 112, 101, 111, 112, 108, 101, 32, 105, 110, 32, 116, 104, 101, 32, 112, 105, 99, 116, 117, 114, 101],
  [83, 116, 114, 105, 110, 103, 32, 105, 110, 100, 101, 120, 32, 111, 117, 116, 32, 111, 102, 32, 114, 97, 110, 103, 101, 58, 32],
  [32, 62, 32],
  [102, 114, 111, 109, 73, 110, 100, 101, 120, 40],
  [41, 32, 62, 32, 116, 111, 73, 110, 100, 101, 120, 40],
  [41],
  [65, 114, 114, 97, 121, 32, 105, 110, 100, 101, 120, 32, 111, 117, 116, 32, 111, 102, 32, 114, 97, 110, 103, 101, 58, 32],
  [110, 111, 98, 111, 100, 121],
  [59, 32, 114, 111, 119, 32],
  [114, 111, 119, 32],
  [58, 32],
  [32, 97, 110, 100, 32],
  [],
  [115, 111, 109, 101, 111, 110, 101],
  [32, 111, 116, 104, 101, 114, 115],
  [44, 32],
  [110, 111, 32, 112, 104, 111, 116, 111, 32, 98, 101, 102, 111, 114, 101],
  [97, 115, 32, 98, 101, 102, 111, 114, 101],
  [119, 105, 116, 104, 32],
  [59, 32, 119, 105, 116, 104, 111, 117, 116, 32],
  [119, 105, 116, 104, 111, 117, 116, 32],
  [110, 111, 32, 115, 117, 99, 104, 32, 98, 121, 116, 101],
  [116, 104, 101, 32, 112, 104, 111, 116, 111, 32, 105, 115, 32, 102, 117, 108, 108],
  [116, 104, 101, 32, 115, 97, 109, 101, 32, 112, 104, 111, 116, 111, 32, 116, 119, 105, 99, 101],
  [110, 111, 116, 104, 105, 110, 103, 32, 116, 111, 32, 117, 110, 100, 111],
  [110, 111, 32, 115, 117, 99, 104, 32, 115, 108, 111, 116],
  [110, 111, 116, 104, 105, 110, 103, 32, 105, 115, 32, 115, 97, 118, 101, 100, 32, 116, 104, 101, 114, 101],
  [97, 108, 98, 117, 109],
  [103, 97, 112],
  [110, 97, 109, 101],
  [97, 110, 100],
  [115, 111, 109, 101, 111, 110, 101],
  [108, 101, 102, 116],
  [114, 105, 103, 104, 116],
  [114, 111, 119],
  [97, 108, 108],
  [97, 116],
  [98, 101, 115, 105, 100, 101],
  [98, 101, 116, 119, 101, 101, 110],
  [112, 104, 111, 116, 111],
  [112, 101, 114, 115, 111, 110],
  [110, 111, 98, 111, 100, 121],
  [44, 32],
  [114, 111, 119, 32],
  [58, 32],
  [44, 32],
  [32, 111, 116, 104, 101, 114, 115],
  [32, 97, 110, 100, 32],
  [119, 105, 116, 104, 32],
  [119, 105, 116, 104, 111, 117, 116, 32],
  [97, 115, 32, 98, 101, 102, 111, 114, 101]]
def sbT (i : Nat) : List Nat := sbL.getD i []
/-- a string in the heap -/
def gSt (g : am_H) (i : Nat) : Prop := g.1 (300 + i) = some (.inr (50, [.ref (400 + i), .int (wI 0)])) ∧ ∃ f, g.1 (400 + i) = some (.inl (11, (sbT i).length, .inl f)) ∧ ∀ j, j < (sbT i).length → f j = wI (((sbT i).getD j 0 : Nat) : Int)
def gS (g : am_H) : Prop := (∀ i, i < 85 → gSt g i) ∧ (∃ f, g.1 10 = some (.inl (11, 100, .inl f)) ∧ ∀ j, j < 100 → f j = wI ((48 + j % 10 : Nat) : Int)) ∧ ∃ f, g.1 11 = some (.inl (11, 100, .inl f)) ∧ ∀ j, j < 100 → f j = wI ((48 + j / 10 : Nat) : Int)
def buI (C : tCl) (M : tMd) : Prop := (0 ≤ M.1 7 ∧ M.1 7 ≤ 1200) ∧ (0 ≤ M.1 8 ∧ M.1 8 ≤ 9) ∧ (-1 ≤ M.1 9 ∧ M.1 9 ≤ 1200) ∧ ∀ i : Nat, (i : Int) < M.1 7 → (-128 ≤ C.2.1 1002 i ∧ C.2.1 1002 i ≤ 127) ∧ M.2 3 i = C.2.1 1002 i % 256
/-- the StringBuilder holds the first n of the bytes w, its row has room for cap -/
def sbI (g : am_H) (C : tCl) (n cap : Nat) (w : Nat → Int) : Prop := C.1 1258 1 = 0 ∧ C.1 1258 3 = (n : Int) ∧ n ≤ cap ∧ cap ≤ 1002 ∧ (C.2.2.2 1258 0 = 1259 ∨ 1334 ≤ C.2.2.2 1258 0) ∧ C.2.2.2 1258 0 < g.2.1 ∧ ∃ f : Nat → Int, g.1 (C.2.2.2 1258 0) = some (.inl (1, cap, .inl (fun i => wI (f i)))) ∧ ∀ i, i < n → f i = w i
def wrI (g : am_H) (C : tCl) (M : tMd) (cap : Nat) : Prop := ∃ n : Nat, M.1 38 = (n : Int) ∧ n ≤ 500 ∧ sbI g C n cap (M.2 15) ∧ ∀ i, i < n → 0 ≤ M.2 15 i ∧ M.2 15 i ≤ 127
def fuI (g : am_H) (C : tCl) (M : tMd) (cap : Nat) : Prop := coI C M ∧ nmI C M ∧ buI C M ∧ wrI g C M cap ∧ gS g
theorem gSt_on {g g' : am_H} {c s i : Nat} (hi : i < 85) (h : gSt g i) (h2 : gOn g g' c s) (h3 : 1334 ≤ g.2.1) : gSt g' i := by
  obtain ⟨a, f, b1, b2⟩ := h
  exact ⟨by rw [h2.1 _ (by omega) (by omega) (by omega)]; exact a, f, by rw [h2.1 _ (by omega) (by omega) (by omega)]; exact b1, b2⟩
theorem gS_on {g g' : am_H} {c s : Nat} (h : gS g) (h2 : gOn g g' c s) (h3 : 1334 ≤ g.2.1) : gS g' := by
  obtain ⟨a, ⟨f, b1, b2⟩, k, d1, d2⟩ := h
  exact ⟨fun i hi => gSt_on hi (a i hi) h2 h3, ⟨f, by rw [h2.1 _ (by omega) (by omega) (by omega)]; exact b1, b2⟩, k, by rw [h2.1 _ (by omega) (by omega) (by omega)]; exact d1, d2⟩
theorem nmI_of {C C' : tCl} {M M' : tMd} (h : nmI C M) (h1 : M'.1 1 = M.1 1) (h20 : M'.1 20 = M.1 20) (h5 : M'.2 5 = M.2 5) (hc : C'.2.2.1 = C.2.2.1) (ha : alb C' = alb C) : nmI C' M' := by
  intro e n hn
  rw [h1] at e
  rw [h20] at hn
  have k := h e n hn
  unfold wF at k ⊢
  rw [h5, hc, ha]
  exact k
theorem buI_of {C C' : tCl} {M M' : tMd} (h : buI C M) (h7 : M'.1 7 = M.1 7) (h8 : M'.1 8 = M.1 8) (h9 : M'.1 9 = M.1 9) (h3 : M'.2 3 = M.2 3) (hc : C'.2.1 1002 = C.2.1 1002) : buI C' M' := by
  unfold buI at h ⊢
  rw [h7, h8, h9, h3, hc]
  exact h
theorem wrI_of {g g' : am_H} {C C' : tCl} {M M' : tMd} {cap c s : Nat} (h : wrI g C M cap) (h2 : gOn g g' c s) (h38 : M'.1 38 = M.1 38) (h15 : M'.2 15 = M.2 15) (hi : C'.1 1258 = C.1 1258) (hr : C'.2.2.2 1258 = C.2.2.2 1258) : wrI g' C' M' cap := by
  obtain ⟨n, a1, a2, ⟨b1, b2, b3, b4, b5, b6, f, b7, b8⟩, a4⟩ := h
  refine ⟨n, by rw [h38]; exact a1, a2, ⟨by rw [hi]; exact b1, by rw [hi]; exact b2, b3, b4, by rw [hr]; exact b5, by rw [hr]; have := h2.2.2.2.1; omega, f, ?_, by rw [h15]; exact b8⟩, by rw [h15]; exact a4⟩
  rw [hr, h2.1 _ b6 (by omega) (by omega)]; exact b7
theorem fu_lift {g g' : am_H} {C C' : tCl} {M M' : tMd} {cap c s : Nat} (h : fuI g C M cap) (h3 : 1334 ≤ g.2.1) (h2 : gOn g g' c s) (hc : coI C' M') (k1 : chC C C') (k2 : chM M M') : fuI g' C' M' cap := by
  obtain ⟨a1, a2, a3, a4, a5⟩ := h
  obtain ⟨b1, b2, b3, b4, b5, b6, b7, b8⟩ := k1
  obtain ⟨d1, d2⟩ := k2
  exact ⟨hc, nmI_of a2 (d1 1 (by decide) (by decide) (by decide) (by decide)) (d1 20 (by decide) (by decide) (by decide) (by decide)) (d2 5 (by decide) (by decide) (by decide) (by decide) (by decide) (by decide) (by decide)) b1 (by unfold alb; rw [b2]),
    buI_of a3 (d1 7 (by decide) (by decide) (by decide) (by decide)) (d1 8 (by decide) (by decide) (by decide) (by decide)) (d1 9 (by decide) (by decide) (by decide) (by decide)) (d2 3 (by decide) (by decide) (by decide) (by decide) (by decide) (by decide) (by decide)) b7,
    wrI_of a4 h2 (d1 38 (by decide) (by decide) (by decide) (by decide)) (d2 15 (by decide) (by decide) (by decide) (by decide) (by decide) (by decide) (by decide)) b6 b4, gS_on a5 h2 h3⟩
/-- the law's step, whatever the call -/
def stF (z : Bool) (pc : Nat) (g : am_H) (C : tCl) (M : tMd) (i cap L : Nat) (xs : Nat → Int32) : Prop := ∀ l6 l7 : Option Value, ∃ (g' : am_H) (C' : tCl) (M' : tMd) (m6 m7 : Option Value) (cap' : Nat),
  ru_n z 0 pc [some (.ref 1), some (.ref 1000), some (.ref 1315), some (.ref 1332), some (.ref 1333), some (.int (wI i)), l6, l7] [] (clPut (mdPut g M) C) =
  ru_n z 0 28 [some (.ref 1), some (.ref 1000), some (.ref 1315), some (.ref 1332), some (.ref 1333), some (.int (wI (i + 6))), m6, m7] [] (clPut (mdPut g' M') C') ∧ gI g' L xs ∧ fuI g' C' M' cap' ∧ g'.2.1 + cap ≤ g.2.1 + 10 + cap' ∧ g'.2.2 + 2 * cap ≤ g.2.2 + 100 + 2 * cap'
theorem stC_F {z : Bool} {pc : Nat} {g : am_H} {C : tCl} {M : tMd} {i cap L : Nat} {xs : Nat → Int32} (h : fuI g C M cap) (hg : gI g L xs) (hs : stC z pc g C M i) : stF z pc g C M i cap L xs := by
  intro l6 l7
  obtain ⟨g', C', M', m6, m7, k1, k2, k3, k4, k5⟩ := hs l6 l7
  obtain ⟨-, -, -, d4, d5, d6⟩ := id k2
  exact ⟨g', C', M', m6, m7, cap, k1, gI_on hg k2, fu_lift h hg.2.2.1 k2 k3 k4 k5, by omega, by omega⟩
theorem stRO_C {z : Bool} {pc : Nat} {g : am_H} {C : tCl} {M : tMd} {i : Nat} (h : coI C M) (hs : stRO z pc g C M i) : stC z pc g C M i := by
  intro l6 l7
  obtain ⟨g', t, m6, m7, k1, k2, k3⟩ := hs l6 l7
  exact ⟨g', C, mdT M t, m6, m7, k1, k2, coI_T h (by omega), chC_refl C, chM_T M t⟩
/-- the relation stays where only the input's, the writer's and the pictures' cells change -/
theorem coI_G {C C' : tCl} {M M' : tMd} (h : coI C M) (r1 : C'.2.2.2 1000 = C.2.2.2 1000) (r2 : C'.2.2.2 1093 = C.2.2.2 1093) (r3 : C'.2.2.2 1256 = C.2.2.2 1256)
    (d1 : ∀ x, x ≠ 1001 → x ≠ 1258 → x ≠ 1070 → x ≠ 1081 → C'.1 x = C.1 x) (d3 : ∀ x, x ≠ 1002 → x ≠ 1260 → (x < 1070 ∨ 1091 < x) → C'.2.1 x = C.2.1 x)
    (n1 : M'.1 1 = M.1 1) (n4 : M'.1 4 = M.1 4) (n20 : M'.1 20 = M.1 20) (n24 : M'.1 24 = M.1 24) (n25 : M'.1 25 = M.1 25) (a0 : M'.2 0 = M.2 0) (b1 : M'.2 1 = M.2 1) (b2 : M'.2 2 = M.2 2) (b8 : M'.2 8 = M.2 8) (b9 : M'.2 9 = M.2 9)
    (m3 : 0 ≤ M'.1 0 ∧ M'.1 0 ≤ 9) (u1 : C'.1 1001 1 = M'.1 7) (u2 : C'.1 1001 2 = M'.1 8) (u3 : C'.1 1001 3 = M'.1 9) : coI C' M' := by
  have dp : ∀ a, 1003 ≤ a → (a + 4 < 1070 ∨ 1091 < a) → (a + 4 < 1258 ∨ 1260 < a) → cph C' a = cph C a := fun a h1 ha hb => cph_eq (d1 _ (by omega) (by omega) (by omega) (by omega)) (fun c hc => d3 _ (by omega) (by omega) (by omega))
  have hs3 : ∀ t, isSt t → 1003 ≤ t ∧ (t + 26 < 1070 ∨ 1091 < t) ∧ (t + 26 < 1256 ∨ 1260 < t) := by
    have key : ∀ t ∈ stS, 1003 ≤ t ∧ (t + 26 < 1070 ∨ 1091 < t) ∧ (t + 26 < 1256 ∨ 1260 < t) := by decide +kernel
    exact key
  have ds : ∀ t, isSt t → ∀ f, f < 5 → cph C' (t + 2 + 5 * f) = cph C (t + 2 + 5 * f) := fun t ht f hf => dp _ (by have := hs3 t ht; omega) (by have := hs3 t ht; omega) (by have := hs3 t ht; omega)
  obtain ⟨hR, hA, hM, hr, hnn, hG, hH, hSv, hg⟩ := h
  obtain ⟨-, -, -, -, hst, -, -, a1, a2⟩ := clA_k hR.1
  have h5 := hM.2.2.2.2.1
  have hal : alb C' = alb C := by unfold alb; rw [r1]
  have hcA : ∀ f, cAp C' f = cAp C f := fun f => by unfold cAp; rw [hal]
  have hcP : cPm C' = cPm C := by unfold cPm; rw [hal, d1 _ (by omega) (by omega) (by omega) (by omega)]
  have hcN : cNm C' = cNm C := by unfold cNm; rw [hal, d1 _ (by omega) (by omega) (by omega) (by omega)]
  have hgap : C'.1 (alb C') 0 = C.1 (alb C) 0 := by rw [hal, d1 _ (by omega) (by omega) (by omega) (by omega)]
  have h92 : C'.1 1092 = C.1 1092 := d1 _ (by omega) (by omega) (by omega) (by omega)
  have hmp : ∀ f, mph M' f = mph M f := fun f => by rw [mph_f, mph_f, a0, b8, b9]
  have hsM : ∀ st, stM M' st = stM M st := fun st => by unfold stM; rw [b1]
  have hg1 : rgI M' := ⟨fun j => by rw [a0]; exact hg.1 j, fun j => by rw [b1]; exact hg.2.1 j, fun f => by rw [b8]; exact hg.2.2.1 f, fun f => by rw [b9]; exact hg.2.2.2.1 f, fun f hf => by rw [n25] at hf; rw [b8, b9]; exact hg.2.2.2.2 f hf⟩
  have hM1 : mdR M' := ⟨m3, by rw [n1]; exact hM.2.1, by rw [n4]; exact hM.2.2.1, by rw [n20]; exact hM.2.2.2.1, by rw [n25]; exact hM.2.2.2.2.1, by rw [n24]; exact hM.2.2.2.2.2.1, fun f hf => by rw [hmp]; exact hM.2.2.2.2.2.2 f hf⟩
  have hcAr : ∀ f, f < 5 → cph C' (cAp C f) = cph C (cAp C f) := fun f hf => ds _ hst f hf
  refine ⟨⟨?_, by rw [hcP]; exact hR.2.1, by rw [hcN]; exact hR.2.2.1, by rw [hgap]; exact hR.2.2.2.1, fun i hi => by rw [hcA, hcAr i hi]; exact hR.2.2.2.2 i hi⟩, ⟨fun t ht i hi => by rw [ds t ht i hi]; exact hA.1 t ht i hi, by rw [dp _ (by omega) (by omega) (by omega)]; exact hA.2⟩, hM1, ?_, fun f hf => by rw [hmp, n20]; exact hnn f (by rw [← n25]; exact hf), by rw [hgap, hG, n24], ⟨⟨fun i hi => by rw [r2]; exact hH.1.1 i hi, fun i j hi hj he => by rw [r2] at he; exact hH.1.2.1 i j hi hj he, by rw [h92]; exact hH.1.2.2⟩, fun c => by rw [n4]; exact hH.2.1 (by rw [← n1]; exact c), by rw [h92, n4]; exact hH.2.2.1, fun i hi => ?_⟩, fun s0 hs0 => ?_, hg1⟩
  · have := hR.1
    unfold clA at this ⊢
    rw [r1]; exact this
  · refine ⟨by rw [hcP, n1, n25]; exact hr.1, by rw [hcN, n1, n20]; exact hr.2.1, by rw [n1, n25]; exact hr.2.2.1, fun f hf => ?_, u1, u2, u3, by rw [h92, n1, n4]; exact hr.2.2.2.2.2.2.2⟩
    rw [hcP] at hf
    have hf5 : f < 5 := by have := hR.2.1; omega
    rw [hcA, hcAr f hf5, hmp]
    exact hr.2.2.2.1 f hf
  · rw [n4] at hi
    obtain ⟨w1, w2⟩ := hH.2.2.2 i hi
    have h4 := hM.2.2.1
    have hs1 := hH.1.1 i (by omega)
    have hfa := hs3 _ hs1.1
    rw [r2, hsM]
    exact ⟨stEq_of w1 n25 b8 b9 (by rw [d1 _ (by omega) (by omega) (by omega) (by omega)]) h5.2 (fun f hf => ds _ hs1.1 f hf), gdS_of w2 n25 n20 b8 b9⟩
  · obtain ⟨v1, v2, v3, v4, v5⟩ := hSv s0 hs0
    obtain ⟨c1, -, -⟩ := slot_k hs0
    have hfa := hs3 _ c1
    refine ⟨by rw [r3]; exact v1, by rw [b2]; exact v2, fun c => by rw [b2]; exact v3 (by rw [← n1]; exact c), fun c => ?_, fun c => ?_⟩
    · rw [d1 _ (by omega) (by omega) (by omega) (by omega)]; exact v4 (by rw [← b2]; exact c)
    · obtain ⟨w1, w2⟩ := v5 (by rw [← b2]; exact c)
      rw [hsM]
      exact ⟨stEq_of w1 n25 b8 b9 (by rw [d1 _ (by omega) (by omega) (by omega) (by omega)]) h5.2 (fun f hf => ds _ c1 f hf), gdS_of w2 n25 n20 b8 b9⟩
