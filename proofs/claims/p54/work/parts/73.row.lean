/-! ===== rows and places of a picture ===== -/
/-- who is in the picture -/
def shS (q : tPh) (k : Nat) : Bool := decide ((k : Int) < q.1 7) && shw q k
theorem shS_rng {q : tPh} (hr : phR q) {k : Nat} (hs : shS q k = true) : (0 ≤ shX q k ∧ shX q k ≤ 999) ∧ (0 ≤ shY q k ∧ shY q k ≤ 999) ∧ (k : Int) < q.1 7 ∧ k < 12 ∧ shw q k = true := by
  have s := phR_s hr
  have s2 := phR_i hr k
  simp only [shS, Bool.and_eq_true, decide_eq_true_eq] at hs
  have h2 := hs.2
  simp only [shw, decide_eq_true_eq] at h2
  unfold shX shY
  refine ⟨?_, ?_, hs.1, by omega, hs.2⟩
  · split <;> omega
  · omega
theorem shS_of {q : tPh} {k : Nat} (h : (k : Int) < q.1 7) : shS q k = shw q k := by
  unfold shS; rw [decide_eq_true h, Bool.true_and]
theorem shS_no {q : tPh} {k : Nat} (h : ¬ (k : Int) < q.1 7) : shS q k = false := by
  unfold shS; rw [decide_eq_false h, Bool.false_and]
/-- rows by the shown y -/
def kyY (y : Nat → Int) (k : Nat) : Int := (999 - y k) * 12 + k
/-- the order of all people -/
def kyO (x y : Nat → Int) (k : Nat) : Int := (x k * 1000 + 999 - y k) * 12 + k
/-- places in the rows -/
def kyR (row x : Nat → Int) (k : Nat) : Int := (row k * 1000 + x k) * 12 + k
/-- the row of the one at place i of e -/
def rwA (y : Nat → Int) (gap : Int) (e : Nat → Nat) : Nat → Nat
  | 0 => 0
  | i + 1 => if y (e i) - y (e (i + 1)) > gap then rwA y gap e i + 1 else rwA y gap e i
def rwC (y : Nat → Int) (gap : Int) (e : Nat → Nat) : Nat → Nat
  | 0 => 0
  | n + 1 => rwA y gap e n + 1
def rwOK (S : Nat → Bool) (y : Nat → Int) (gap : Int) (row : Nat → Int) (rc : Int) : Prop :=
  ∃ n e, enO S (kyY y) n e ∧ (∀ i, i < n → row (e i) = (rwA y gap e i : Nat)) ∧ (∀ k, k < 12 → ¬ S k = true → row k = -1) ∧ rc = (rwC y gap e n : Nat)
theorem rwA_congr {y y' : Nat → Int} {gap : Int} {e f : Nat → Nat} : ∀ i, (∀ j, j ≤ i → y (e j) = y' (f j)) → rwA y gap e i = rwA y' gap f i
  | 0, _ => rfl
  | i + 1, h => by
    unfold rwA
    rw [rwA_congr i (fun j hj => h j (by omega)), h i (by omega), h (i + 1) (by omega)]
theorem rwA_step (y : Nat → Int) (gap : Int) (e : Nat → Nat) (i : Nat) : rwA y gap e i ≤ rwA y gap e (i + 1) ∧ rwA y gap e (i + 1) ≤ rwA y gap e i + 1 := by
  rw [rwA]; split <;> omega
theorem rwA_le (y : Nat → Int) (gap : Int) (e : Nat → Nat) (i : Nat) : ∀ j, i ≤ j → rwA y gap e i ≤ rwA y gap e j
  | 0, h => by obtain rfl : i = 0 := (by omega); exact Nat.le_refl _
  | j + 1, h => by
    by_cases e1 : i = j + 1
    · subst e1; exact Nat.le_refl _
    · have := rwA_le y gap e i j (by omega)
      have := (rwA_step y gap e j).1
      omega
theorem rwA_lt (y : Nat → Int) (gap : Int) (e : Nat → Nat) : ∀ i, rwA y gap e i ≤ i
  | 0 => Nat.le_refl _
  | i + 1 => by have := rwA_lt y gap e i; have := (rwA_step y gap e i).2; omega
theorem rwA_surj (y : Nat → Int) (gap : Int) (e : Nat → Nat) (r : Nat) : ∀ i, r ≤ rwA y gap e i → ∃ j, j ≤ i ∧ rwA y gap e j = r
  | 0, h => ⟨0, Nat.le_refl _, by unfold rwA at h ⊢; omega⟩
  | i + 1, h => by
    by_cases e1 : r = rwA y gap e (i + 1)
    · exact ⟨i + 1, Nat.le_refl _, e1.symm⟩
    · have := (rwA_step y gap e i).2
      obtain ⟨j, h1, h2⟩ := rwA_surj y gap e r i (by omega)
      exact ⟨j, by omega, h2⟩
section ROW
variable {S : Nat → Bool} {y x : Nat → Int} {gap : Int} {row : Nat → Int} {rc : Int}
theorem rwOK_rng (h : rwOK S y gap row rc) {k : Nat} (hk : k < 12) (hs : S k = true) : 0 ≤ row k ∧ row k < rc ∧ rc ≤ cnB S 12 ∧ rc ≤ 12 := by
  obtain ⟨n, e, he, h1, h2, h3⟩ := h
  obtain ⟨i, hi, rfl⟩ := he.2.2 k hk hs
  have hn := enO_n he
  have h12 := enO_12 he
  rw [h1 i hi, h3]
  cases n with
  | zero => omega
  | succ n =>
    have h4 := rwA_le y gap e i n (by omega)
    have h5 := rwA_lt y gap e n
    simp only [rwC]
    omega
theorem rwOK_rc (h : rwOK S y gap row rc) : 0 ≤ rc ∧ rc ≤ cnB S 12 ∧ rc ≤ 12 ∧ (rc = 0 ↔ cnB S 12 = 0) := by
  obtain ⟨n, e, he, h1, h2, h3⟩ := h
  have hn := enO_n he
  have h12 := enO_12 he
  cases n with
  | zero => simp only [rwC] at h3; omega
  | succ n =>
    have h5 := rwA_lt y gap e n
    simp only [rwC] at h3
    omega
theorem rwOK_surj (h : rwOK S y gap row rc) {r : Nat} (hr : (r : Int) < rc) : ∃ k, k < 12 ∧ S k = true ∧ row k = (r : Int) := by
  obtain ⟨n, e, he, h1, h2, h3⟩ := h
  cases n with
  | zero => simp only [rwC] at h3; omega
  | succ n =>
    simp only [rwC] at h3
    obtain ⟨j, h4, h5⟩ := rwA_surj y gap e r n (by omega)
    exact ⟨e j, (he.1 j (by omega)).1, (he.1 j (by omega)).2, by rw [h1 j (by omega), h5]⟩
theorem rwOK_uni (h : rwOK S y gap row rc) {T : Nat → Bool} {y' : Nat → Int} {row' : Nat → Int} {rc' : Int} (h' : rwOK T y' gap row' rc') (hS : ∀ k, k < 12 → S k = T k) (hy : ∀ k, k < 12 → S k = true → y k = y' k) : rc = rc' ∧ ∀ k, k < 12 → row k = row' k := by
  obtain ⟨n, e, he, h1, h2, h3⟩ := h
  obtain ⟨m, f, hf, k1, k2, k3⟩ := h'
  have he' : enO T (kyY y') n e := enO_S (enO_key he (fun a b ha hb sa sb hab => by unfold kyY at hab ⊢; rw [← hy a ha sa, ← hy b hb sb]; exact hab)) hS
  obtain ⟨rfl, h4⟩ := enO_uni he' hf
  have h5 : ∀ i, i < m → rwA y gap e i = rwA y' gap f i := fun i hi => rwA_congr i (fun j hj => by rw [h4 j (by omega)]; exact hy _ (he.1 j (by omega)).1 (he.1 j (by omega)).2)
  refine ⟨?_, fun k hk => ?_⟩
  · rw [h3, k3]
    cases m with
    | zero => rfl
    | succ m => simp only [rwC]; rw [h5 m (by omega)]
  · by_cases hs : S k = true
    · obtain ⟨i, hi, rfl⟩ := he.2.2 k hk hs
      rw [h1 i hi, h5 i hi, ← k1 i hi, h4 i hi]
    · rw [h2 k hk hs, k2 k hk (by rw [← hS k hk]; exact hs)]
/-- how many stand in rows ahead of r; in r; in its row ahead of k -/
def rsN (S : Nat → Bool) (row : Nat → Int) (r : Int) : Nat := cnB (fun o => S o && decide (row o < r)) 12
def rlN (S : Nat → Bool) (row : Nat → Int) (r : Int) : Nat := cnB (fun o => S o && decide (row o = r)) 12
def lfB (x : Nat → Int) (a b : Nat) : Bool := if x a = x b then decide (a < b) else decide (x a < x b)
def lfN (S : Nat → Bool) (row x : Nat → Int) (k : Nat) : Nat := cnB (fun o => S o && (decide (row o = row k) && lfB x o k)) 12
theorem rsN_succ (S : Nat → Bool) (row : Nat → Int) (r : Int) : rsN S row (r + 1) = rsN S row r + rlN S row r := by
  unfold rsN rlN
  refine cnB_add 12 fun o _ => ?_
  by_cases hs : S o = true
  · simp only [hs, Bool.true_and, decide_eq_true_eq]
    refine ⟨⟨fun h => by omega, fun h => by omega⟩, by omega⟩
  · simp [hs]
theorem rsN_mono (S : Nat → Bool) (row : Nat → Int) {r s : Int} (h : r ≤ s) : rsN S row r ≤ rsN S row s := by
  unfold rsN
  refine cnB_mono 12 fun o _ ho => ?_
  simp only [Bool.and_eq_true, decide_eq_true_eq] at ho ⊢
  exact ⟨ho.1, by omega⟩
theorem rsN_le (S : Nat → Bool) (row : Nat → Int) (r : Int) : rsN S row r ≤ cnB S 12 := by
  unfold rsN
  refine cnB_mono 12 fun o _ ho => ?_
  simp only [Bool.and_eq_true] at ho
  exact ho.1
theorem lfN_lt (S : Nat → Bool) (row x : Nat → Int) {k : Nat} (hk : k < 12) (hs : S k = true) : lfN S row x k < rlN S row (row k) := by
  have h1 : cnB (fun o => S o && (decide (row o = row k) && (lfB x o k || decide (o = k)))) 12 = lfN S row x k + 1 := by
    refine cnB_one (k := k) 12 hk ?_ ?_ ?_
    · simp [hs]
    · simp [lfB]
    · intro o _ ho; simp [ho]
  have h2 : cnB (fun o => S o && (decide (row o = row k) && (lfB x o k || decide (o = k)))) 12 ≤ rlN S row (row k) := by
    refine cnB_mono 12 fun o _ ho => ?_
    simp only [Bool.and_eq_true] at ho ⊢
    exact ⟨ho.1, ho.2.1⟩
  omega
/-- the rank by rows and places -/
theorem rk_kyR (hx : ∀ k, k < 12 → S k = true → 0 ≤ x k ∧ x k ≤ 999) {k : Nat} (hk : k < 12) (hs : S k = true) : rkN S (kyR row x) k = rsN S row (row k) + lfN S row x k := by
  unfold rkN rsN lfN kyR
  refine cnB_add 12 fun o ho => ?_
  by_cases hso : S o = true
  · have x1 := hx k hk hs
    have x2 := hx o ho hso
    simp only [hso, Bool.true_and, Bool.and_eq_true, decide_eq_true_eq, lfB]
    by_cases e : x o = x k
    · rw [if_pos e, decide_eq_true_eq]
      refine ⟨⟨fun h => by omega, fun h => by omega⟩, by omega⟩
    · rw [if_neg e, decide_eq_true_eq]
      refine ⟨⟨fun h => by omega, fun h => by omega⟩, by omega⟩
  · simp [hso]
/-- who stands at a place of a row -/
theorem er_at {n : Nat} {e : Nat → Nat} (he : enO S (kyR row x) n e) (hx : ∀ k, k < 12 → S k = true → 0 ≤ x k ∧ x k ≤ 999) {r : Int} {j : Nat} (hj : j < rlN S row r) : rsN S row r + j < n ∧ row (e (rsN S row r + j)) = r ∧ lfN S row x (e (rsN S row r + j)) = j := by
  have h1 := rsN_succ S row r
  have h2 := rsN_le S row (r + 1)
  have h3 := enO_n he
  have hi : rsN S row r + j < n := by omega
  have h4 := he.1 _ hi
  have h5 := enO_rk he hi
  rw [rk_kyR hx h4.1 h4.2] at h5
  have h6 := lfN_lt S row x h4.1 h4.2
  have h7 := rsN_succ S row (row (e (rsN S row r + j)))
  have h8 : row (e (rsN S row r + j)) = r := by
    rcases Int.lt_trichotomy (row (e (rsN S row r + j))) r with c | c | c
    · have := rsN_mono S row (r := row (e (rsN S row r + j)) + 1) (s := r) (by omega)
      omega
    · exact c
    · have := rsN_mono S row (r := r + 1) (s := row (e (rsN S row r + j))) (by omega)
      omega
  refine ⟨hi, h8, ?_⟩
  rw [h8] at h5
  omega
theorem er_of {n : Nat} {e : Nat → Nat} (he : enO S (kyR row x) n e) (hx : ∀ k, k < 12 → S k = true → 0 ≤ x k ∧ x k ≤ 999) {k : Nat} (hk : k < 12) (hs : S k = true) : rsN S row (row k) + lfN S row x k < n ∧ e (rsN S row (row k) + lfN S row x k) = k := by
  have h := enO_at he hk hs
  rw [rk_kyR hx hk hs] at h
  exact h
/-- the first of a row -/
theorem er_first {n : Nat} {e : Nat → Nat} (he : enO S (kyR row x) n e) (hx : ∀ k, k < 12 → S k = true → 0 ≤ x k ∧ x k ≤ 999) {i : Nat} (hi : i < n) (h0 : i = 0 ∨ ¬ row (e (i - 1)) = row (e i)) : rsN S row (row (e i)) = i := by
  have h4 := he.1 i hi
  have h5 := enO_rk he hi
  rw [rk_kyR hx h4.1 h4.2] at h5
  rcases h0 with h0 | h0
  · omega
  · rcases Nat.eq_zero_or_pos i with c | c
    · omega
    · have k4 := he.1 (i - 1) (by omega)
      have k5 := enO_rk he (show i - 1 < n by omega)
      rw [rk_kyR hx k4.1 k4.2] at k5
      have k6 := lfN_lt S row x k4.1 k4.2
      have k7 := rsN_succ S row (row (e (i - 1)))
      have k8 := he.2.1 (i - 1) i (by omega) hi
      have x1 := hx _ h4.1 h4.2
      have x2 := hx _ k4.1 k4.2
      unfold kyR at k8
      have := rsN_mono S row (r := row (e (i - 1)) + 1) (s := row (e i)) (by omega)
      omega
/-- the places of people -/
def plF (S : Nat → Bool) (row x : Nat → Int) (k : Nat) : Int := if S k = true then (lfN S row x k : Nat) else -1
end ROW
