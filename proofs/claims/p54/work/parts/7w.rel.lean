/-! ===== what stands between class and reference from call to call: states, history, saved ===== -/
def msf (S W H : Nat → Int) (f : Nat) : tPh := (fun k => if k = 0 then W f else if k = 1 then H f else S (54 * f + (k - 2)), fun c i => if i < 12 then (if c = 3 then S (54 * f + 6 + 4 * i + 3) - 1 else if c < 4 then S (54 * f + 6 + 4 * i + c) else 0) else 0)
theorem mph_f (M : tMd) (f : Nat) : mph M f = msf (M.2 0) (M.2 8) (M.2 9) f := rfl
def stM (M : tMd) (st : Nat) : Nat → Int := fun j => M.2 1 (270 * st + j)
/-- the flags of a state are small -/
def srR (S : Nat → Int) : Prop := ∀ f, f < 5 → S (54 * f + 4) ≤ 1 ∧ S (54 * f + 5) ≤ 12 ∧ ∀ i, i < 12 → S (54 * f + 6 + 4 * i + 2) ≤ 1 ∧ S (54 * f + 6 + 4 * i + 3) ≤ 20
def gdS (M : tMd) (S : Nat → Int) : Prop := srR S ∧ ∀ f : Nat, (f : Int) < M.1 25 → phN (msf S (M.2 8) (M.2 9) f) (M.1 20)
def stEq (C : tCl) (M : tMd) (s : Nat) (S : Nat → Int) : Prop := C.1 s 0 = M.1 25 ∧ ∀ f : Nat, (f : Int) < M.1 25 → pheq (cph C (s + 2 + 5 * f)) (msf S (M.2 8) (M.2 9) f)
theorem phR_msf {S W H : Nat → Int} (h0 : ∀ j, 0 ≤ S j ∧ S j ≤ 999) (hW : ∀ f, 0 ≤ W f ∧ W f ≤ 999) (hH : ∀ f, 0 ≤ H f ∧ H f ≤ 999) (hs : srR S) {f : Nat} (hf : f < 5) : phR (msf S W H f) := by
  obtain ⟨a1, a2, a3⟩ := hs f hf
  refine ⟨fun k => ?_, a1, a2, fun c i => ?_, fun i => ?_, fun i => ?_⟩
  · show 0 ≤ (if k = 0 then W f else if k = 1 then H f else S (54 * f + (k - 2))) ∧ _ ≤ 999
    unfold msf
    dsimp only
    split
    · exact hW f
    · split
      · exact hH f
      · exact h0 _
  · unfold msf
    dsimp only
    split
    · split
      · have := h0 (54 * f + 6 + 4 * i + 3); omega
      · split
        · have := h0 (54 * f + 6 + 4 * i + c); omega
        · omega
    · omega
  · unfold msf
    dsimp only
    by_cases e : i < 12
    · rw [if_pos e]
      have b1 := h0 (54 * f + 6 + 4 * i + 2)
      have b2 := (a3 i e).1
      exact ⟨b1.1, b2⟩
    · rw [if_neg e]; omega
  · unfold msf
    dsimp only
    by_cases e : i < 12
    · rw [if_pos e]
      have b2 := (a3 i e).2
      show S (54 * f + 6 + 4 * i + 3) - 1 ≤ 19
      omega
    · rw [if_neg e]; omega
theorem msf_congr {S T W H : Nat → Int} (h : ∀ j, j < 270 → S j = T j) {f : Nat} (hf : f < 5) : phS (msf S W H f) (msf T W H f) := by
  refine ⟨fun k hk => ?_, fun c i hc hi => ?_⟩
  · unfold msf
    dsimp only
    rw [h (54 * f + (k - 2)) (by omega)]
  · unfold msf
    dsimp only
    rw [h (54 * f + 6 + 4 * i + 3) (by omega), h (54 * f + 6 + 4 * i + c) (by omega)]
theorem srR_congr {S T : Nat → Int} (h : ∀ j, j < 270 → S j = T j) (hs : srR S) : srR T := fun f hf => by
  obtain ⟨a1, a2, a3⟩ := hs f hf
  refine ⟨by rw [← h _ (by omega)]; exact a1, by rw [← h _ (by omega)]; exact a2, fun i hi => ?_⟩
  rw [← h (54 * f + 6 + 4 * i + 2) (by omega), ← h (54 * f + 6 + 4 * i + 3) (by omega)]
  exact a3 i hi
theorem phN_congr {q p : tPh} {N : Int} (h : phS q p) (h12 : q.1 7 ≤ 12) (hn : phN q N) : phN p N := by
  have e7 := h.1 7 (by decide)
  refine ⟨fun i hi => ?_, fun i j hi hj he hne => ?_, by rw [← h.1 2 (by decide), ← h.1 4 (by decide)]; exact hn.2.2.1, by rw [← h.1 3 (by decide), ← h.1 5 (by decide)]; exact hn.2.2.2⟩
  · rw [← h.2 3 i (by decide) (by omega)]; exact hn.1 i (by omega)
  · refine hn.2.1 i j (by omega) (by omega) ?_ ?_
    · rw [h.2 3 i (by decide) (by omega), h.2 3 j (by decide) (by omega)]; exact he
    · rw [h.2 3 i (by decide) (by omega)]; exact hne
theorem pheq_S {q p r : tPh} (h : pheq q p) (h2 : phS p r) (h12 : q.1 7 ≤ 12) : pheq q r :=
  ⟨fun k hk => by rw [h.1 k hk, h2.1 k hk], fun c i hc hi => by rw [h.2 c i hc hi, h2.2 c i hc (by omega)]⟩
theorem gdS_congr {M : tMd} {S T : Nat → Int} (h : ∀ j, j < 270 → S j = T j) (h5 : M.1 25 ≤ 5) (hg : gdS M S) : gdS M T :=
  ⟨srR_congr h hg.1, fun f hf => phN_congr (msf_congr h (by omega)) (hg.1 f (by omega)).2.1 (hg.2 f hf)⟩
theorem stEq_congr {C : tCl} {M : tMd} {s : Nat} {S T : Nat → Int} (h : ∀ j, j < 270 → S j = T j) (h5 : M.1 25 ≤ 5) (hs : srR S) (he : stEq C M s S) : stEq C M s T :=
  ⟨he.1, fun f hf => by
    have h1 := he.2 f hf
    have h2 := (hs f (by omega)).2.1
    exact pheq_S h1 (msf_congr h (by omega)) (by rw [h1.1 7 (by decide)]; exact h2)⟩
def hsI (C : tCl) (M : tMd) : Prop := hiC C ∧ (M.1 1 = 0 → M.1 4 = 0) ∧ C.1 1092 0 = M.1 4 ∧ ∀ i : Nat, (i : Int) < M.1 4 → stEq C M (C.2.2.2 1093 i) (stM M (1 + i)) ∧ gdS M (stM M (1 + i))
def svI (C : tCl) (M : tMd) : Prop := ∀ s, s < 2 → C.2.2.2 1256 s = 1261 + 27 * s ∧ (M.2 2 s = 0 ∨ M.2 2 s = 1) ∧ (M.1 1 = 0 → M.2 2 s = 0) ∧ (M.2 2 s = 0 → C.1 (1261 + 27 * s) 0 = 0) ∧ (M.2 2 s = 1 → stEq C M (1261 + 27 * s) (stM M (7 + s)) ∧ gdS M (stM M (7 + s)))
def rgI (M : tMd) : Prop := (∀ j, 0 ≤ M.2 0 j ∧ M.2 0 j ≤ 999) ∧ (∀ j, 0 ≤ M.2 1 j ∧ M.2 1 j ≤ 999) ∧ (∀ f, 0 ≤ M.2 8 f ∧ M.2 8 f ≤ 999) ∧ (∀ f, 0 ≤ M.2 9 f ∧ M.2 9 f ≤ 999) ∧ ∀ f : Nat, (f : Int) < M.1 25 → 1 ≤ M.2 8 f ∧ 1 ≤ M.2 9 f
def coI (C : tCl) (M : tMd) : Prop := clR C ∧ phA C ∧ mdR M ∧ relA C M ∧ relN M ∧ C.1 (alb C) 0 = M.1 24 ∧ hsI C M ∧ svI C M ∧ rgI M
def chC (C C' : tCl) : Prop := C'.2.2.1 = C.2.2.1 ∧ C'.2.2.2 1000 = C.2.2.2 1000 ∧ C'.2.2.2 1001 = C.2.2.2 1001 ∧ C'.2.2.2 1258 = C.2.2.2 1258 ∧ C'.1 1001 = C.1 1001 ∧ C'.1 1258 = C.1 1258 ∧ C'.2.1 1002 = C.2.1 1002 ∧ C'.1 (alb C + 1) = C.1 (alb C + 1)
def chM (M M' : tMd) : Prop := (∀ k, k ≠ 0 → k ≠ 4 → k ≠ 34 → k ≠ 35 → M'.1 k = M.1 k) ∧ ∀ c, c ≠ 0 → c ≠ 1 → c ≠ 2 → c ≠ 11 → c ≠ 12 → c ≠ 13 → c ≠ 14 → M'.2 c = M.2 c
theorem srR_of {M : tMd} (hM : mdR M) : srR (M.2 0) := fun f hf => by
  have h := hM.2.2.2.2.2.2 f hf
  refine ⟨h.2.1, h.2.2.1, fun i hi => ?_⟩
  have e := mph_x (M := M) (f := f) hi
  have a := (phR_i h i).2.2
  rw [← e.2.2.1, ← e.2.2.2] at a
  omega
theorem mdR_of {M : tMd} (h0 : (0 ≤ M.1 0 ∧ M.1 0 ≤ 9) ∧ (0 ≤ M.1 1 ∧ M.1 1 ≤ 1) ∧ (0 ≤ M.1 4 ∧ M.1 4 ≤ 6) ∧ (0 ≤ M.1 20 ∧ M.1 20 ≤ 20) ∧ (0 ≤ M.1 25 ∧ M.1 25 ≤ 5) ∧ (0 ≤ M.1 24 ∧ M.1 24 ≤ 99)) (hr : rgI M) (hs : srR (M.2 0)) : mdR M :=
  ⟨h0.1, h0.2.1, h0.2.2.1, h0.2.2.2.1, h0.2.2.2.2.1, h0.2.2.2.2.2, fun f hf => by rw [mph_f]; exact phR_msf hr.1 hr.2.2.1 hr.2.2.2.1 hs hf⟩
theorem coI_st {C : tCl} {M : tMd} (h : coI C M) (ha : M.1 1 = 1) : stEq C M (alb C + 4) (M.2 0) ∧ gdS M (M.2 0) := by
  obtain ⟨h1, h2, h3, h4, h5, h6, h7, h8, h9⟩ := h
  have e := h4.1
  rw [if_neg (by omega)] at e
  refine ⟨⟨e, fun f hf => ?_⟩, srR_of h3, fun f hf => h5 f hf⟩
  have := h4.2.2.2.1 f (by omega)
  exact this
