/-! ===== the token: class against reference ===== -/
def byI (C : tCl) (M : tMd) (n : Nat) : Prop := n ≤ 1200 ∧ ∀ i, i < n → (-128 ≤ C.2.1 1002 i ∧ C.2.1 1002 i ≤ 127) ∧ M.2 3 i = C.2.1 1002 i % 256
/-- the token both stand at: its start s, its end t -/
def tkR (C : tCl) (M : tMd) (n s : Nat) : Prop := C.1 1001 4 = (n : Int) ∧ M.1 10 = (n : Int) ∧ s ≤ n ∧ C.1 1001 5 = (s : Int) ∧ M.1 12 = (s : Int) ∧
  ((C.2.2.2 1001 7 = 205 ∧ M.1 13 = 0) ∨ (∃ t : Nat, s < t ∧ t ≤ n ∧ C.1 1001 6 = (t : Int) ∧ M.1 11 = (t : Int) ∧
    ((C.2.2.2 1001 7 = 200 ∧ M.1 13 = 1 ∧ t ≤ s + 8 ∧ M.1 15 = ((t - s : Nat) : Int) ∧ (∀ q, q < 8 → M.2 4 q = if q < t - s then C.2.1 1002 (s + q) else 0) ∧ (∀ q, q < t - s → 97 ≤ C.2.1 1002 (s + q) ∧ C.2.1 1002 (s + q) ≤ 122) ∧ C.2.2.1 1001 8 = wdL (lwF C s (t - s))) ∨
     (C.2.2.2 1001 7 = 201 ∧ M.1 13 = 2 ∧ C.1 1001 9 = M.1 16 ∧ 0 ≤ M.1 16 ∧ M.1 16 ≤ 9999) ∨ (C.2.2.2 1001 7 = 202 ∧ M.1 13 = 3) ∨ (C.2.2.2 1001 7 = 203 ∧ M.1 13 = 4) ∨ (C.2.2.2 1001 7 = 204 ∧ M.1 13 = 5))))
def inS (C C' : tCl) : Prop := (∀ q, q ≠ 1001 → C'.1 q = C.1 q) ∧ (∀ i, i < 5 → C'.1 1001 i = C.1 1001 i) ∧ C'.2.1 = C.2.1 ∧ (∀ q j, ¬ (q = 1001 ∧ j = 8) → C'.2.2.1 q j = C.2.2.1 q j) ∧ ∀ q j, ¬ (q = 1001 ∧ j = 7) → C'.2.2.2 q j = C.2.2.2 q j
def scS (M M' : tMd) : Prop := (∀ k, k < 11 ∨ 16 < k ∨ k = 14 → M'.1 k = M.1 k) ∧ ∀ c, c ≠ 4 → M'.2 c = M.2 c
theorem inS_P {C : tCl} {p : Nat → Int} {w : Int64} {k : Nat} (hp : ∀ i, i < 5 → p i = C.1 1001 i) : inS C (inP C p w k) := by
  refine ⟨fun q hq => ?_, fun i hi => ?_, rfl, fun q j hq => ?_, fun q j hq => ?_⟩
  · show (if q = 1001 then p else C.1 q) = C.1 q
    rw [if_neg hq]
  · show (if 1001 = 1001 then p else C.1 1001) i = _
    rw [if_pos rfl]; exact hp i hi
  · show (if q = 1001 then (if j = 8 then w else C.2.2.1 q j) else C.2.2.1 q j) = _
    by_cases e : q = 1001
    · rw [if_pos e, if_neg (fun h => hq ⟨e, h⟩)]
    · rw [if_neg e]
  · show (if q = 1001 then (if j = 7 then k else C.2.2.2 q j) else C.2.2.2 q j) = _
    by_cases e : q = 1001
    · rw [if_pos e, if_neg (fun h => hq ⟨e, h⟩)]
    · rw [if_neg e]
theorem scS_P {M : tMd} {s v : Int} {a b c : Int} {f : Nat → Int} : scS M (scP (up1 (up1 M.1 12 s) 13 v, M.2) a b c f) := by
  refine ⟨fun k hk => ?_, fun q hq => ?_⟩
  · show up1 (up1 (up1 (up1 (up1 M.1 12 s) 13 v) 11 a) 15 b) 16 c k = M.1 k
    rw [up1_n (by omega), up1_n (by omega), up1_n (by omega), up1_n (by omega), up1_n (by omega)]
  · exact upC_n hq
theorem nmM_C {C : tCl} {M : tMd} {s : Nat} : ∀ m, (∀ j, j < m → M.2 3 (s + j) = C.2.1 1002 (s + j)) → nmM M s m = nmV C s m
  | 0, _ => rfl
  | m + 1, h => by
    show 10 * nmM M s m + M.2 3 (s + m) - 48 = 10 * nmV C s m + C.2.1 1002 (s + m) - 48
    rw [nmM_C m (fun j hj => h j (by omega)), h m (by omega)]
section TKR
variable {z : Bool} {C : tCl} {M : tMd} {n e : Nat}
theorem adv_j (h4 : C.1 1001 4 = (n : Int)) (h10 : M.1 10 = (n : Int)) (h6 : C.1 1001 6 = (e : Int)) (h11 : M.1 11 = (e : Int)) (he : e ≤ n) (hb : byI C M n) : ∃ C' M' s, (∀ h, ru_ev z 20 [.ref 1001] (clPut h C) = some (.inl none, clPut h C')) ∧ (∀ h, ru_ev z 57 [.ref 1315] (mdPut h M) = some (.inl none, mdPut h M')) ∧ tkR C' M' n s ∧ inS C C' ∧ scS M M' ∧ e ≤ s := by
  obtain ⟨hn, hby⟩ := hb
  obtain ⟨s, hs⟩ : ∃ s, s = eF (rgB C 32 32) (n - e) e := ⟨_, rfl⟩
  have sb := eF_b (rgB C 32 32) (n - e) e
  rw [← hs] at sb
  have hsn : s ≤ n := by omega
  have eqr : eF (rgM M 32 32) (n - e) e = s := by
    rw [hs]
    refine eF_congr (n - e) e fun i h1 h2 => ?_
    have := hby i (by omega)
    unfold rgM rgB
    exact decide_eq_decide.mpr (by omega)
  obtain ⟨l1, l2, l3, -⟩ := lnL_b C hsn
  obtain ⟨d1, d2, d3, -⟩ := lnD_b C hsn
  have kc := fun h => c20 (z := z) (h := h) (C := C) (p := C.1 1001) (w := C.2.2.1 1001 8) (k := C.2.2.2 1001 7) h4 h6 he hn (fun i hi => (hby i hi).1) hs
  rw [inP_self] at kc
  have km := fun h => p57 (z := z) (h := h) (M := M) (L := lnL C n s) (D := lnD C n s) h10 h11 hn he (fun i hi => by have := hby i hi; omega) eqr.symm l1 (fun j hj => by have := hby (s + j) (by omega); have := l2 j hj; omega) (fun hl => by have := hby (s + lnL C n s) hl; have := l3 hl; omega) d1 (fun j hj => by have := hby (s + j) (by omega); have := d2 j hj; omega) (fun hl => by have := hby (s + lnD C n s) hl; have := d3 hl; omega)
  refine ⟨_, _, s, kc, km, ?_, ?_, ?_, sb.1⟩
  · unfold tkC tkM
    by_cases c1 : n ≤ s
    · rw [if_pos c1, if_pos c1]
      exact ⟨h4, h10, hsn, rfl, rfl, Or.inl ⟨rfl, rfl⟩⟩
    · rw [if_neg c1, if_neg c1]
      by_cases c2 : 0 < lnL C n s
      · rw [if_pos c2, if_pos c2]
        refine ⟨h4, h10, hsn, rfl, rfl, Or.inr ⟨s + lnL C n s, by omega, l1, by show (s : Int) + _ = _; omega, rfl, ?_⟩⟩
        by_cases c8 : lnL C n s ≤ 8
        · left
          have et : s + lnL C n s - s = lnL C n s := by omega
          refine ⟨if_pos c8, if_pos c8, by omega, by rw [et]; rfl, fun q hq => ?_, fun q hq => l2 q (by omega), ?_⟩
          · rw [et]
            show zwM M s (lnL C n s) (M.2 4) q = if q < lnL C n s then C.2.1 1002 (s + q) else 0
            unfold zwM
            rw [if_pos hq]
            by_cases c : q < lnL C n s
            · have := hby (s + q) (by omega)
              have := l2 q c
              rw [if_pos c, if_pos c]; omega
            · rw [if_neg c, if_neg c]
          · rw [et]
            show wdL (lwF C s (if lnL C n s ≤ 8 then lnL C n s else 8)) = _
            rw [if_pos c8]; rfl
        · right; right; right; right
          exact ⟨if_neg c8, if_neg c8⟩
      · rw [if_neg c2, if_neg c2]
        by_cases c3 : 0 < lnD C n s
        · rw [if_pos c3, if_pos c3]
          refine ⟨h4, h10, hsn, rfl, rfl, Or.inr ⟨s + lnD C n s, by omega, d1, by show (s : Int) + _ = _; omega, rfl, ?_⟩⟩
          by_cases c4 : lnD C n s ≤ 4
          · right; left
            have ev : nmM M s (lnD C n s) = nmV C s (lnD C n s) := nmM_C _ (fun j hj => by have := hby (s + j) (by omega); have := d2 j hj; omega)
            have nb := nmV_b (C := C) (s := s) _ c4 d2
            have e1 : (scP (up1 (up1 M.1 12 (s : Int)) 13 (if lnD C n s ≤ 4 then 2 else 5), M.2) ((s + lnD C n s : Nat) : Int) (M.1 15) (if lnD C n s ≤ 4 then nmM M s (lnD C n s) else 0) (M.2 4)).1 16 = nmV C s (lnD C n s) := by
              show (if lnD C n s ≤ 4 then nmM M s (lnD C n s) else 0) = _
              rw [if_pos c4, ev]
            refine ⟨if_pos c4, if_pos c4, ?_, by rw [e1]; exact nb.1, by rw [e1]; exact nb.2⟩
            rw [e1]
            show nmV C s (if lnD C n s ≤ 4 then lnD C n s else 4) = _
            rw [if_pos c4]
          · right; right; right; right
            exact ⟨if_neg c4, if_neg c4⟩
        · rw [if_neg c3, if_neg c3]
          have b0 := hby s (by omega)
          refine ⟨h4, h10, hsn, rfl, rfl, Or.inr ⟨s + 1, by omega, by omega, rfl, rfl, ?_⟩⟩
          right; right
          by_cases c5 : C.2.1 1002 s = 59
          · left
            exact ⟨if_pos c5, if_pos (show M.2 3 s = 59 by omega)⟩
          · right
            have n5 : ¬ M.2 3 s = 59 := by omega
            by_cases c6 : C.2.1 1002 s = 44
            · left
              exact ⟨(if_neg c5).trans (if_pos c6), (if_neg n5).trans (if_pos (show M.2 3 s = 44 by omega))⟩
            · right
              exact ⟨(if_neg c5).trans (if_neg c6), (if_neg n5).trans (if_neg (show ¬ M.2 3 s = 44 by omega))⟩
  · unfold tkC
    split
    · exact inS_P (fun i hi => up1_n (by omega))
    · split
      · exact inS_P (fun i hi => by rw [up1_n (by omega), up1_n (by omega)])
      · split
        · exact inS_P (fun i hi => by rw [up1_n (by omega), up1_n (by omega), up1_n (by omega)])
        · exact inS_P (fun i hi => by rw [up1_n (by omega), up1_n (by omega)])
  · unfold tkM
    split
    · exact scS_P
    · split
      · exact scS_P
      · split
        · exact scS_P
        · exact scS_P
end TKR
