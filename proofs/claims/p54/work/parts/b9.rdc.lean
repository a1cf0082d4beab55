/-! ===== phrases: the reader made; the relation where the draft changes ===== -/
theorem coI_D {C C' : tCl} {M M' : tMd} (h : coI C M) (r1 : C'.2.2.2 1000 = C.2.2.2 1000) (r2 : C'.2.2.2 1093 = C.2.2.2 1093) (r3 : C'.2.2.2 1256 = C.2.2.2 1256)
    (d1 : ∀ x, x ≠ 1001 → x ≠ 1258 → x ≠ 1070 → x ≠ 1081 → x ≠ 1065 → C'.1 x = C.1 x) (d3 : ∀ x, x ≠ 1002 → x ≠ 1260 → (x < 1065 ∨ 1091 < x) → C'.2.1 x = C.2.1 x) (h65 : phR (cph C' 1065))
    (n1 : M'.1 1 = M.1 1) (n4 : M'.1 4 = M.1 4) (n20 : M'.1 20 = M.1 20) (n24 : M'.1 24 = M.1 24) (n25 : M'.1 25 = M.1 25) (a0 : M'.2 0 = M.2 0) (b1 : ∀ j, 270 ≤ j → M'.2 1 j = M.2 1 j) (b1r : ∀ j, 0 ≤ M'.2 1 j ∧ M'.2 1 j ≤ 999) (b2 : M'.2 2 = M.2 2) (b8 : M'.2 8 = M.2 8) (b9 : M'.2 9 = M.2 9)
    (m3 : 0 ≤ M'.1 0 ∧ M'.1 0 ≤ 9) (u1 : C'.1 1001 1 = M'.1 7) (u2 : C'.1 1001 2 = M'.1 8) (u3 : C'.1 1001 3 = M'.1 9) : coI C' M' := by
  have dp : ∀ a, 1003 ≤ a → (a + 4 < 1065 ∨ 1091 < a) → (a + 4 < 1258 ∨ 1260 < a) → cph C' a = cph C a := fun a h1 ha hb => cph_eq (d1 _ (by omega) (by omega) (by omega) (by omega) (by omega)) (fun c hc => d3 _ (by omega) (by omega) (by omega))
  have hs3 : ∀ t, isSt t → 1003 ≤ t ∧ (t + 26 < 1065 ∨ 1091 < t) ∧ (t + 26 < 1256 ∨ 1260 < t) := by
    have key : ∀ t ∈ stS, 1003 ≤ t ∧ (t + 26 < 1065 ∨ 1091 < t) ∧ (t + 26 < 1256 ∨ 1260 < t) := by decide +kernel
    exact key
  have ds : ∀ t, isSt t → ∀ f, f < 5 → cph C' (t + 2 + 5 * f) = cph C (t + 2 + 5 * f) := fun t ht f hf => dp _ (by have := hs3 t ht; omega) (by have := hs3 t ht; omega) (by have := hs3 t ht; omega)
  obtain ⟨hR, hA, hM, hr, hnn, hG, hH, hSv, hg⟩ := h
  obtain ⟨-, -, -, -, hst, -, -, a1, a2⟩ := clA_k hR.1
  have h5 := hM.2.2.2.2.1
  have hal : alb C' = alb C := by unfold alb; rw [r1]
  have hcA : ∀ f, cAp C' f = cAp C f := fun f => by unfold cAp; rw [hal]
  have hcP : cPm C' = cPm C := by unfold cPm; rw [hal, d1 _ (by omega) (by omega) (by omega) (by omega) (by omega)]
  have hcN : cNm C' = cNm C := by unfold cNm; rw [hal, d1 _ (by omega) (by omega) (by omega) (by omega) (by omega)]
  have hgap : C'.1 (alb C') 0 = C.1 (alb C) 0 := by rw [hal, d1 _ (by omega) (by omega) (by omega) (by omega) (by omega)]
  have h92 : C'.1 1092 = C.1 1092 := d1 _ (by omega) (by omega) (by omega) (by omega) (by omega)
  have hmp : ∀ f, mph M' f = mph M f := fun f => by rw [mph_f, mph_f, a0, b8, b9]
  have hsM : ∀ st, 1 ≤ st → stM M' st = stM M st := fun st hst => by unfold stM; funext j; exact b1 _ (by omega)
  have hg1 : rgI M' := ⟨fun j => by rw [a0]; exact hg.1 j, b1r, fun f => by rw [b8]; exact hg.2.2.1 f, fun f => by rw [b9]; exact hg.2.2.2.1 f, fun f hf => by rw [n25] at hf; rw [b8, b9]; exact hg.2.2.2.2 f hf⟩
  have hM1 : mdR M' := ⟨m3, by rw [n1]; exact hM.2.1, by rw [n4]; exact hM.2.2.1, by rw [n20]; exact hM.2.2.2.1, by rw [n25]; exact hM.2.2.2.2.1, by rw [n24]; exact hM.2.2.2.2.2.1, fun f hf => by rw [hmp]; exact hM.2.2.2.2.2.2 f hf⟩
  have hcAr : ∀ f, f < 5 → cph C' (cAp C f) = cph C (cAp C f) := fun f hf => ds _ hst f hf
  refine ⟨⟨?_, by rw [hcP]; exact hR.2.1, by rw [hcN]; exact hR.2.2.1, by rw [hgap]; exact hR.2.2.2.1, fun i hi => by rw [hcA, hcAr i hi]; exact hR.2.2.2.2 i hi⟩, ⟨fun t ht i hi => by rw [ds t ht i hi]; exact hA.1 t ht i hi, h65⟩, hM1, ?_, fun f hf => by rw [hmp, n20]; exact hnn f (by rw [← n25]; exact hf), by rw [hgap, hG, n24], ⟨⟨fun i hi => by rw [r2]; exact hH.1.1 i hi, fun i j hi hj he => by rw [r2] at he; exact hH.1.2.1 i j hi hj he, by rw [h92]; exact hH.1.2.2⟩, fun c => by rw [n4]; exact hH.2.1 (by rw [← n1]; exact c), by rw [h92, n4]; exact hH.2.2.1, fun i hi => ?_⟩, fun s0 hs0 => ?_, hg1⟩
  · have := hR.1
    unfold clA at this ⊢
    rw [r1]; exact this
  · refine ⟨by rw [hcP, n1, n25]; exact hr.1, by rw [hcN, n1, n20]; exact hr.2.1, by rw [n1, n25]; exact hr.2.2.1, fun f hf => ?_, u1, u2, u3, by rw [h92, n1, n4]; exact hr.2.2.2.2.2.2.2⟩
    rw [hcP] at hf
    have hf5 : f < 5 := by have := hR.2.1; omega
    rw [hcA, hcAr f hf5, hmp]
    exact hr.2.2.2.1 f hf
  · rw [n4] at hi
    obtain ⟨w1, w2⟩ := hH.2.2.2 i hi
    have h4 := hM.2.2.1
    have hs1 := hH.1.1 i (by omega)
    have hfa := hs3 _ hs1.1
    rw [r2, hsM _ (by omega)]
    exact ⟨stEq_of w1 n25 b8 b9 (by rw [d1 _ (by omega) (by omega) (by omega) (by omega) (by omega)]) h5.2 (fun f hf => ds _ hs1.1 f hf), gdS_of w2 n25 n20 b8 b9⟩
  · obtain ⟨v1, v2, v3, v4, v5⟩ := hSv s0 hs0
    obtain ⟨c1, -, -⟩ := slot_k hs0
    have hfa := hs3 _ c1
    refine ⟨by rw [r3]; exact v1, by rw [b2]; exact v2, fun c => by rw [b2]; exact v3 (by rw [← n1]; exact c), fun c => ?_, fun c => ?_⟩
    · rw [d1 _ (by omega) (by omega) (by omega) (by omega) (by omega)]; exact v4 (by rw [← b2]; exact c)
    · obtain ⟨w1, w2⟩ := v5 (by rw [← b2]; exact c)
      rw [hsM _ (by omega)]
      exact ⟨stEq_of w1 n25 b8 b9 (by rw [d1 _ (by omega) (by omega) (by omega) (by omega) (by omega)]) h5.2 (fun f hf => ds _ c1 f hf), gdS_of w2 n25 n20 b8 b9⟩

/-- the heap while the reader is made: its fields, its rows made -/
def rdX (h : am_H) (fs : List Value) (k : Nat) : am_H := (fun q => if q = h.2.1 then some (.inr (8, fs)) else if q = h.2.1 + 1 ∧ 1 ≤ k then some (.inl (0, 12, .inl (fun _ => wI 0))) else if q = h.2.1 + 2 ∧ 2 ≤ k then some (.inl (3, 12, .inr (.inl (fun _ => 0)))) else h.1 q, h.2.1 + 1 + k, h.2.2 + 9 + 12 * k)
section RDC
variable {z : Bool} {h : am_H} {C : tCl} {R nm : Nat}
theorem nw_cl {e : am_C} {n : Nat} (h1 : 1315 ≤ h.2.1) : am_new (clPut h C) e n = clPut (am_new h e n) C := by
  refine Prod.ext (funext fun q => ?_) rfl
  show (if q = h.2.1 then some e else (if 1000 ≤ q ∧ q ≤ 1314 ∧ q ≠ 1259 then clCell C q else h.1 q)) = (if 1000 ≤ q ∧ q ≤ 1314 ∧ q ≠ 1259 then clCell C q else (if q = h.2.1 then some e else h.1 q))
  by_cases hq : q = h.2.1
  · rw [if_pos hq, if_neg (by omega), if_pos hq]
  · rw [if_neg hq, if_neg hq]
theorem na_12 (h : am_H) : am_na h 0 (wI 12) = some (am_new h (.inl (0, 12, .inl (fun _ => wI 0))) 12) ∧ am_na h 3 (wI 12) = some (am_new h (.inl (3, 12, .inr (.inl (fun _ => 0)))) 12) := by
  have e1 : (wI 12).toNatClampNeg = 12 := by decide +kernel
  have e2 : ¬ wI 12 < 0 := by decide +kernel
  unfold am_na
  rw [e1]
  refine ⟨?_, ?_⟩
  · rw [if_pos ⟨e2, by decide⟩, if_pos (by decide), wI_0]
  · rw [if_pos ⟨e2, by decide⟩, if_neg (by decide), if_pos rfl]
theorem rdX_0 {fs : List Value} : am_new h (.inr (8, fs)) 9 = rdX h fs 0 := by
  refine Prod.ext (funext fun q => ?_) rfl
  show (if q = h.2.1 then some (.inr (8, fs)) else h.1 q) = (if q = h.2.1 then some (.inr (8, fs)) else if q = h.2.1 + 1 ∧ 1 ≤ 0 then _ else if q = h.2.1 + 2 ∧ 2 ≤ 0 then _ else h.1 q)
  rw [if_neg (show ¬ (q = h.2.1 + 1 ∧ 1 ≤ 0) by omega), if_neg (show ¬ (q = h.2.1 + 2 ∧ 2 ≤ 0) by omega)]
theorem rdX_1 {fs : List Value} : am_new (rdX h fs 0) (.inl (0, 12, .inl (fun _ => wI 0))) 12 = rdX h fs 1 := by
  refine Prod.ext (funext fun q => ?_) rfl
  show (if q = h.2.1 + 1 then some (.inl (0, 12, .inl (fun _ => wI 0))) else (if q = h.2.1 then some (.inr (8, fs)) else if q = h.2.1 + 1 ∧ 1 ≤ 0 then _ else if q = h.2.1 + 2 ∧ 2 ≤ 0 then _ else h.1 q)) = (if q = h.2.1 then some (.inr (8, fs)) else if q = h.2.1 + 1 ∧ 1 ≤ 1 then _ else if q = h.2.1 + 2 ∧ 2 ≤ 1 then _ else h.1 q)
  by_cases e : q = h.2.1 + 1
  · rw [if_pos e, if_neg (by omega), if_pos ⟨e, Nat.le_refl _⟩]
  · rw [if_neg e, if_neg (show ¬ (q = h.2.1 + 1 ∧ 1 ≤ 0) by omega), if_neg (show ¬ (q = h.2.1 + 1 ∧ 1 ≤ 1) by omega), if_neg (show ¬ (q = h.2.1 + 2 ∧ 2 ≤ 0) by omega), if_neg (show ¬ (q = h.2.1 + 2 ∧ 2 ≤ 1) by omega)]
theorem rdX_2 {fs : List Value} : am_new (rdX h fs 1) (.inl (3, 12, .inr (.inl (fun _ => 0)))) 12 = rdX h fs 2 := by
  refine Prod.ext (funext fun q => ?_) rfl
  show (if q = h.2.1 + 2 then some (.inl (3, 12, .inr (.inl (fun _ => 0)))) else (if q = h.2.1 then some (.inr (8, fs)) else if q = h.2.1 + 1 ∧ 1 ≤ 1 then _ else if q = h.2.1 + 2 ∧ 2 ≤ 1 then _ else h.1 q)) = (if q = h.2.1 then some (.inr (8, fs)) else if q = h.2.1 + 1 ∧ 1 ≤ 2 then _ else if q = h.2.1 + 2 ∧ 2 ≤ 2 then _ else h.1 q)
  by_cases e : q = h.2.1 + 2
  · rw [if_pos e, if_neg (by omega), if_neg (show ¬ (q = h.2.1 + 1 ∧ 1 ≤ 2) by omega), if_pos ⟨e, Nat.le_refl _⟩]
  · rw [if_neg e, if_neg (show ¬ (q = h.2.1 + 2 ∧ 2 ≤ 1) by omega), if_neg (show ¬ (q = h.2.1 + 2 ∧ 2 ≤ 2) by omega)]
    by_cases e2 : q = h.2.1
    · rw [if_pos e2, if_pos e2]
    · rw [if_neg e2, if_neg e2]
      by_cases e3 : q = h.2.1 + 1
      · rw [if_pos ⟨e3, Nat.le_refl _⟩, if_pos ⟨e3, by decide⟩]
      · rw [if_neg (fun h => e3 h.1), if_neg (fun h => e3 h.1)]
theorem rdX_pf {fs : List Value} {k i v : Nat} (h1 : 1315 ≤ h.2.1) (hi : i < fs.length) : am_pf (clPut (rdX h fs k) C) h.2.1 8 i 2 (.ref v) = some (clPut (rdX h (fs.set i (.ref v)) k) C) := by
  have e : (clPut (rdX h fs k) C).1 h.2.1 = some (.inr (8, fs)) := by
    rw [clPut_o (by omega)]
    exact if_pos rfl
  rw [ru_pf2 e ⟨by decide, hi⟩, cl_seto (by omega)]
  refine congrArg some (congrArg (fun H => clPut H C) (Prod.ext (funext fun q => ?_) rfl))
  show (if q = h.2.1 then some (.inr (8, fs.set i (.ref v))) else (if q = h.2.1 then some (.inr (8, fs)) else if q = h.2.1 + 1 ∧ 1 ≤ k then _ else if q = h.2.1 + 2 ∧ 2 ≤ k then _ else h.1 q)) = (if q = h.2.1 then some (.inr (8, fs.set i (.ref v))) else if q = h.2.1 + 1 ∧ 1 ≤ k then _ else if q = h.2.1 + 2 ∧ 2 ≤ k then _ else h.1 q)
  by_cases c : q = h.2.1
  · rw [if_pos c, if_pos c]
  · rw [if_neg c, if_neg c, if_neg c]
theorem c89 (h1 : 1315 ≤ h.2.1) : ru_ev z 89 [.ref h.2.1, .ref 1001, .ref nm, .ref 1065, .ref 1070] (am_new (clPut h C) (.inr (8, [.null, .null, .null, .null, .int (wI 0), .null, .int (wI 0), .int (wI 0), .null])) 9) = some (.inl none, clPut (rdH (h.1, h.2.1 + 3, h.2.2 + 33) h.2.1 nm (0, 0, 0, fun _ => 0, fun _ => 0)) C) := by
  rw [nw_cl (by omega), rdX_0]
  have e : (clPut (rdX h [.null, .null, .null, .null, .int (wI 0), .null, .int (wI 0), .int (wI 0), .null] 0) C).1 h.2.1 = some (.inr (8, [.null, .null, .null, .null, .int (wI 0), .null, .int (wI 0), .int (wI 0), .null])) := by
    rw [clPut_o (by omega)]
    exact if_pos rfl
  have n1 : ∀ fs, am_na (clPut (rdX h fs 0) C) 0 (wI 12) = some (clPut (rdX h fs 1) C) := fun fs => by
    rw [(na_12 _).1, nw_cl (by show 1315 ≤ h.2.1 + 1 + 0; omega), rdX_1]
  have n2 : ∀ fs, am_na (clPut (rdX h fs 1) C) 3 (wI 12) = some (clPut (rdX h fs 2) C) := fun fs => by
    rw [(na_12 _).2, nw_cl (by show 1315 ≤ h.2.1 + 1 + 1; omega), rdX_2]
  have t0 : ∀ fs, (clPut (rdX h fs 0) C).2.1 = h.2.1 + 1 := fun fs => rfl
  have t1 : ∀ fs, (clPut (rdX h fs 1) C).2.1 = h.2.1 + 2 := fun fs => rfl
  have p1 : am_pf (clPut (rdX h [.null, .null, .null, .null, .int (wI 0), .null, .int (wI 0), .int (wI 0), .null] 1) C) h.2.1 8 5 2 (.ref (h.2.1 + 1)) = some (clPut (rdX h [.null, .null, .null, .null, .int (wI 0), .ref (h.2.1 + 1), .int (wI 0), .int (wI 0), .null] 1) C) := rdX_pf (by omega) (by decide)
  have p2 : am_pf (clPut (rdX h [.null, .null, .null, .null, .int (wI 0), .ref (h.2.1 + 1), .int (wI 0), .int (wI 0), .null] 2) C) h.2.1 8 8 2 (.ref (h.2.1 + 2)) = some (clPut (rdX h [.null, .null, .null, .null, .int (wI 0), .ref (h.2.1 + 1), .int (wI 0), .int (wI 0), .ref (h.2.1 + 2)] 2) C) := rdX_pf (by omega) (by show 8 < 9; decide)
  have p3 : am_pf (clPut (rdX h [.null, .null, .null, .null, .int (wI 0), .ref (h.2.1 + 1), .int (wI 0), .int (wI 0), .ref (h.2.1 + 2)] 2) C) h.2.1 8 0 2 (.ref 1001) = some (clPut (rdX h [.ref 1001, .null, .null, .null, .int (wI 0), .ref (h.2.1 + 1), .int (wI 0), .int (wI 0), .ref (h.2.1 + 2)] 2) C) := rdX_pf (by omega) (by show 0 < 9; decide)
  have p4 : am_pf (clPut (rdX h [.ref 1001, .null, .null, .null, .int (wI 0), .ref (h.2.1 + 1), .int (wI 0), .int (wI 0), .ref (h.2.1 + 2)] 2) C) h.2.1 8 1 2 (.ref nm) = some (clPut (rdX h [.ref 1001, .ref nm, .null, .null, .int (wI 0), .ref (h.2.1 + 1), .int (wI 0), .int (wI 0), .ref (h.2.1 + 2)] 2) C) := rdX_pf (by omega) (by show 1 < 9; decide)
  have p5 : am_pf (clPut (rdX h [.ref 1001, .ref nm, .null, .null, .int (wI 0), .ref (h.2.1 + 1), .int (wI 0), .int (wI 0), .ref (h.2.1 + 2)] 2) C) h.2.1 8 2 2 (.ref 1065) = some (clPut (rdX h [.ref 1001, .ref nm, .ref 1065, .null, .int (wI 0), .ref (h.2.1 + 1), .int (wI 0), .int (wI 0), .ref (h.2.1 + 2)] 2) C) := rdX_pf (by omega) (by show 2 < 9; decide)
  have p6 : am_pf (clPut (rdX h [.ref 1001, .ref nm, .ref 1065, .null, .int (wI 0), .ref (h.2.1 + 1), .int (wI 0), .int (wI 0), .ref (h.2.1 + 2)] 2) C) h.2.1 8 3 2 (.ref 1070) = some (clPut (rdX h [.ref 1001, .ref nm, .ref 1065, .ref 1070, .int (wI 0), .ref (h.2.1 + 1), .int (wI 0), .int (wI 0), .ref (h.2.1 + 2)] 2) C) := rdX_pf (by omega) (by show 3 < 9; decide)
  have fin : rdX h [.ref 1001, .ref nm, .ref 1065, .ref 1070, .int (wI 0), .ref (h.2.1 + 1), .int (wI 0), .int (wI 0), .ref (h.2.1 + 2)] 2 = rdH (h.1, h.2.1 + 3, h.2.2 + 33) h.2.1 nm (0, 0, 0, fun _ => 0, fun _ => 0) := by
    refine Prod.ext (funext fun q => ?_) rfl
    show (if q = h.2.1 then _ else if q = h.2.1 + 1 ∧ 1 ≤ 2 then _ else if q = h.2.1 + 2 ∧ 2 ≤ 2 then _ else h.1 q) = (if q = h.2.1 then _ else if q = h.2.1 + 1 then _ else if q = h.2.1 + 2 then _ else h.1 q)
    by_cases e1 : q = h.2.1
    · rw [if_pos e1, if_pos e1]; rfl
    · rw [if_neg e1, if_neg e1]
      by_cases e2 : q = h.2.1 + 1
      · rw [if_pos ⟨e2, by decide⟩, if_pos e2]
      · rw [if_neg (fun h => e2 h.1), if_neg e2]
        by_cases e3 : q = h.2.1 + 2
        · rw [if_pos ⟨e3, by decide⟩, if_pos e3]
        · rw [if_neg (fun h => e3 h.1), if_neg e3]
  rw [← fin]
  simp (disch := omega) only [en89, e89_0, e89_1, e89_4, e89_5, e89_7, e89_9, e89_12, e89_13, e89_15, e89_17, e89_20, e89_21, e89_22, e89_25, e89_26, e89_27, e89_30, e89_31, e89_32, e89_35, e89_36, e89_38, e89_41, ↓reduceIte, Bool.false_eq_true, not_false_eq_true, not_true_eq_false, Nat.reduceLeDiff, Nat.reduceAdd, Nat.reduceEqDiff, Int.reduceToNat, Int.toNat_natCast, iB0, iB1, ru_klI, ru_klR, ru_klF, ru_klJ, ru_kl0, ru_cs0, ru_csI, ru_csR, ru_csF, ru_csJ, wI_add, wI_sub, wI_mul, wI_lt, wI_le, wI_inj, ru_fdE, ru_fdN, ru_iaN, ru_baN, ru_laN, ru_qaN, ru_pfN, ru_isN, ru_bsN, ru_jsN, ru_qsN, ru_set2, Nat.add_right_cancel_iff, if_true, if_false, ite_self, Int.reduceEq, and_self, Int.add_neg_cancel_right, Int.add_zero, Int.zero_add, e, n1, n2, t0, t1, p1, p2, p3, p4, p5, p6, List.length_cons, List.length_nil, Nat.reduceAdd, Nat.reduceLeDiff]
end RDC
