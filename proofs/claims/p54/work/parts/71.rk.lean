/-! ===== ranks: who stands where in an order ===== -/
theorem cnB_none {P : Nat → Bool} : ∀ m, (∀ o, o < m → ¬ P o = true) → cnB P m = 0
  | 0, _ => rfl
  | m + 1, h => by
    unfold cnB
    rw [cnB_none m (fun o ho => h o (by omega)), if_neg (h m (by omega))]
theorem cnB_one {P Q : Nat → Bool} {k : Nat} : ∀ m, k < m → P k = true → Q k = false → (∀ o, o < m → o ≠ k → P o = Q o) → cnB P m = cnB Q m + 1 := by
  intro m
  induction m with
  | zero => intro h; omega
  | succ m ih =>
    intro h1 h2 h3 h4
    unfold cnB
    by_cases e : k = m
    · subst e
      rw [h2, h3, cnB_congr (fun i hi => h4 i (by omega) (by omega))]
      simp
    · rw [ih (by omega) h2 h3 (fun o ho hk => h4 o (by omega) hk), h4 m (by omega) (fun h => e h.symm)]
      omega
theorem cnB_add {P Q R : Nat → Bool} : ∀ m, (∀ o, o < m → (P o = true ↔ (Q o = true ∨ R o = true)) ∧ ¬ (Q o = true ∧ R o = true)) → cnB P m = cnB Q m + cnB R m
  | 0, _ => rfl
  | m + 1, h => by
    have h1 := h m (by omega)
    have ih := cnB_add m (fun o ho => h o (by omega))
    unfold cnB
    by_cases p : P m = true
    · by_cases q : Q m = true
      · rw [if_pos p, if_pos q, if_neg (fun r => h1.2 ⟨q, r⟩)]; omega
      · have r : R m = true := (h1.1.mp p).resolve_left q
        rw [if_pos p, if_neg q, if_pos r]; omega
    · rw [if_neg p, if_neg (fun q => p (h1.1.mpr (Or.inl q))), if_neg (fun r => p (h1.1.mpr (Or.inr r)))]; omega
theorem cnB_mono {P Q : Nat → Bool} : ∀ m, (∀ o, o < m → P o = true → Q o = true) → cnB P m ≤ cnB Q m
  | 0, _ => Nat.le_refl _
  | m + 1, h => by
    have ih := cnB_mono m (fun o ho => h o (by omega))
    have h1 := h m (by omega)
    unfold cnB
    by_cases p : P m = true
    · rw [if_pos p, if_pos (h1 p)]; omega
    · rw [if_neg p]; omega
theorem cnB_pos {P : Nat → Bool} {k : Nat} : ∀ m, k < m → P k = true → 0 < cnB P m
  | 0, h, _ => by omega
  | m + 1, h, hp => by
    unfold cnB
    by_cases e : k = m
    · subst e; rw [if_pos hp]; omega
    · have := cnB_pos m (by omega) hp; omega
/-- P below m is Q below n -/
theorem cnB_ext {P Q : Nat → Bool} {m n : Nat} (hmn : m ≤ n) (h1 : ∀ o, o < m → P o = Q o) (h2 : ∀ o, m ≤ o → o < n → ¬ Q o = true) : cnB P m = cnB Q n := by
  induction n with
  | zero =>
    obtain rfl : m = 0 := by omega
    rfl
  | succ n ih =>
    by_cases e : m = n + 1
    · subst e; exact cnB_congr h1
    · rw [ih (by omega) (fun o ho hn => h2 o ho (by omega)), cnB, if_neg (h2 n (by omega) (by omega))]; omega
/-- one of the first i of e -/
def befB (e : Nat → Nat) : Nat → Nat → Bool
  | 0, _ => false
  | i + 1, o => befB e i o || decide (e i = o)
theorem befB_iff (e : Nat → Nat) (o : Nat) : ∀ i, befB e i o = true ↔ ∃ j, j < i ∧ e j = o
  | 0 => by simp [befB]
  | i + 1 => by
    unfold befB
    rw [Bool.or_eq_true, befB_iff e o i, decide_eq_true_eq]
    constructor
    · rintro (⟨j, h1, h2⟩ | h)
      · exact ⟨j, by omega, h2⟩
      · exact ⟨i, by omega, h⟩
    · rintro ⟨j, h1, h2⟩
      by_cases hj : j = i
      · subst hj; exact Or.inr h2
      · exact Or.inl ⟨j, by omega, h2⟩
/-- e tells those of S below 12, n of them, in the order of key -/
def enO (S : Nat → Bool) (key : Nat → Int) (n : Nat) (e : Nat → Nat) : Prop :=
  (∀ i, i < n → e i < 12 ∧ S (e i) = true) ∧ (∀ i j, i < j → j < n → key (e i) < key (e j)) ∧ ∀ k, k < 12 → S k = true → ∃ i, i < n ∧ e i = k
/-- how many of S stand before k -/
def rkN (S : Nat → Bool) (key : Nat → Int) (k : Nat) : Nat := cnB (fun o => S o && decide (key o < key k)) 12
section ENO
variable {S : Nat → Bool} {key : Nat → Int} {n : Nat} {e : Nat → Nat}
theorem enO_inj (h : enO S key n e) {i j : Nat} (hi : i < n) (hj : j < n) (he : e i = e j) : i = j := by
  rcases Nat.lt_trichotomy i j with h1 | h1 | h1
  · have := h.2.1 i j h1 hj; rw [he] at this; omega
  · exact h1
  · have := h.2.1 j i h1 hi; rw [he] at this; omega
theorem enO_lt (h : enO S key n e) {i j : Nat} (hi : i < n) (hj : j < n) : key (e i) < key (e j) ↔ i < j := by
  constructor
  · intro hk
    rcases Nat.lt_trichotomy i j with h1 | h1 | h1
    · exact h1
    · subst h1; omega
    · have := h.2.1 j i h1 hi; omega
  · intro h1; exact h.2.1 i j h1 hj
theorem enO_bef (h : enO S key n e) : ∀ i, i ≤ n → cnB (fun o => S o && befB e i o) 12 = i
  | 0, _ => cnB_none 12 (fun o _ => by simp [befB])
  | i + 1, hi => by
    have h1 := h.1 i (by omega)
    have k1 : cnB (fun o => S o && befB e (i + 1) o) 12 = cnB (fun o => S o && befB e i o) 12 + 1 := by
      refine cnB_one (k := e i) 12 h1.1 ?_ ?_ ?_
      · simp [befB, h1.2]
      · cases hb : befB e i (e i) with
        | false => simp
        | true =>
          obtain ⟨j, h2, h3⟩ := (befB_iff e (e i) i).mp hb
          have := enO_inj h (by omega) (by omega) h3
          omega
      · intro o _ ho
        have h4 : decide (e i = o) = false := decide_eq_false (fun h => ho h.symm)
        simp [befB, h4]
    rw [k1, enO_bef h i (by omega)]
theorem enO_rk (h : enO S key n e) {i : Nat} (hi : i < n) : rkN S key (e i) = i := by
  unfold rkN
  refine Eq.trans (cnB_congr ?_) (enO_bef h i (by omega))
  intro o ho
  by_cases hs : S o = true
  · obtain ⟨j, hj, rfl⟩ := h.2.2 o ho hs
    have h5 : decide (key (e j) < key (e i)) = befB e i (e j) := by
      apply Bool.eq_iff_iff.mpr
      rw [decide_eq_true_eq, enO_lt h hj hi, befB_iff]
      constructor
      · intro hji; exact ⟨j, hji, rfl⟩
      · rintro ⟨j', h1, h2⟩
        have := enO_inj h (by omega) hj h2
        omega
    rw [h5]
  · simp [hs]
theorem enO_n (h : enO S key n e) : cnB S 12 = n := by
  refine Eq.trans (cnB_congr ?_) (enO_bef h n (Nat.le_refl _))
  intro o ho
  by_cases hs : S o = true
  · obtain ⟨j, hj, e1⟩ := h.2.2 o ho hs
    rw [(befB_iff e o n).mpr ⟨j, hj, e1⟩]; simp
  · simp [hs]
theorem enO_at (h : enO S key n e) {k : Nat} (hk : k < 12) (hs : S k = true) : rkN S key k < n ∧ e (rkN S key k) = k := by
  obtain ⟨i, hi, rfl⟩ := h.2.2 k hk hs
  rw [enO_rk h hi]; exact ⟨hi, rfl⟩
theorem enO_12 (h : enO S key n e) : n ≤ 12 := by rw [← enO_n h]; exact cnB_le _ _
/-- two that tell the same are one -/
theorem enO_uni (h : enO S key n e) {m : Nat} {f : Nat → Nat} (h2 : enO S key m f) : m = n ∧ ∀ i, i < n → f i = e i := by
  have e1 : m = n := by rw [← enO_n h, ← enO_n h2]
  refine ⟨e1, fun i hi => ?_⟩
  have h3 := h.1 i hi
  have h4 := enO_at h2 h3.1 h3.2
  rw [enO_rk h hi] at h4
  exact h4.2
theorem enO_key (h : enO S key n e) {key' : Nat → Int} (hk : ∀ a b, a < 12 → b < 12 → S a = true → S b = true → key a < key b → key' a < key' b) : enO S key' n e :=
  ⟨h.1, fun i j h1 h2 => hk _ _ (h.1 i (by omega)).1 (h.1 j h2).1 (h.1 i (by omega)).2 (h.1 j h2).2 (h.2.1 i j h1 h2), h.2.2⟩
theorem enO_S (h : enO S key n e) {T : Nat → Bool} (hS : ∀ k, k < 12 → S k = T k) : enO T key n e :=
  ⟨fun i hi => ⟨(h.1 i hi).1, by rw [← hS _ (h.1 i hi).1]; exact (h.1 i hi).2⟩, h.2.1, fun k hk ht => h.2.2 k hk (by rw [hS k hk]; exact ht)⟩
end ENO
/-! ===== numbers in order: f below n, told anew as g, ascending ===== -/
def srtB (f g : Nat → Int) (n : Nat) : Prop := (∀ i j, i < j → j < n → g i < g j) ∧ (∀ i, i < n → ∃ j, j < n ∧ g i = f j) ∧ ∀ j, j < n → ∃ i, i < n ∧ g i = f j
/-- g's number at i put at place r, those between moved on -/
def insG (g : Nat → Int) (i r : Nat) : Nat → Int := fun j => if j < r then g j else if j = r then g i else if j ≤ i then g (j - 1) else g j
def shG (g : Nat → Int) (i r : Nat) : Nat → Int := fun j => if r < j ∧ j ≤ i then g (j - 1) else g j
theorem ins_step {f g : Nat → Int} {i r n : Nat} (h : srtB f g i) (hg : ∀ j, i ≤ j → g j = f j) (hi : i < n) (hr : r ≤ i) (h1 : r = 0 ∨ g (r - 1) ≤ g i) (h2 : ∀ j, r ≤ j → j < i → g i < g j) (hf : ∀ a b, a < n → b < n → f a = f b → a = b) : srtB f (insG g i r) (i + 1) ∧ ∀ j, i + 1 ≤ j → insG g i r j = f j := by
  obtain ⟨ha, hb, hc⟩ := h
  have hne : ∀ j, j < i → g j ≠ g i := by
    intro j hj he
    obtain ⟨k, hk, e⟩ := hb j hj
    have := hf k i (by omega) hi (by rw [← e, he, hg i (Nat.le_refl _)])
    omega
  have hlow : ∀ j, j < r → g j < g i := by
    intro j hj
    rcases h1 with h1 | h1
    · omega
    · have h3 : g (r - 1) < g i := by have := hne (r - 1) (by omega); omega
      by_cases e : j = r - 1
      · subst e; exact h3
      · have := ha j (r - 1) (by omega) (by omega); omega
  refine ⟨⟨?_, ?_, ?_⟩, ?_⟩
  · intro a b hab hbi
    unfold insG
    by_cases c1 : b < r
    · rw [if_pos (show a < r by omega), if_pos c1]; exact ha a b hab (by omega)
    · by_cases c2 : b = r
      · rw [if_pos (show a < r by omega), if_neg c1, if_pos c2]; exact hlow a (by omega)
      · rw [if_neg c1, if_neg c2, if_pos (show b ≤ i by omega)]
        by_cases c3 : a < r
        · rw [if_pos c3]; exact ha a (b - 1) (by omega) (by omega)
        · by_cases c4 : a = r
          · rw [if_neg c3, if_pos c4]; exact h2 (b - 1) (by omega) (by omega)
          · rw [if_neg c3, if_neg c4, if_pos (show a ≤ i by omega)]; exact ha (a - 1) (b - 1) (by omega) (by omega)
  · intro a hai
    unfold insG
    by_cases c3 : a < r
    · rw [if_pos c3]
      obtain ⟨k, hk, e⟩ := hb a (by omega)
      exact ⟨k, by omega, e⟩
    · by_cases c4 : a = r
      · rw [if_neg c3, if_pos c4]; exact ⟨i, by omega, hg i (Nat.le_refl _)⟩
      · rw [if_neg c3, if_neg c4, if_pos (show a ≤ i by omega)]
        obtain ⟨k, hk, e⟩ := hb (a - 1) (by omega)
        exact ⟨k, by omega, e⟩
  · intro j hj
    by_cases e : j = i
    · subst e
      refine ⟨r, by omega, ?_⟩
      unfold insG
      rw [if_neg (by omega), if_pos rfl, hg j (Nat.le_refl _)]
    · obtain ⟨a, h3, h4⟩ := hc j (by omega)
      by_cases c : a < r
      · refine ⟨a, by omega, ?_⟩
        unfold insG
        rw [if_pos c, h4]
      · refine ⟨a + 1, by omega, ?_⟩
        unfold insG
        rw [if_neg (by omega), if_neg (by omega), if_pos (by omega), Nat.add_sub_cancel, h4]
  · intro j hj
    unfold insG
    rw [if_neg (by omega), if_neg (by omega), if_neg (by omega)]
    exact hg j (by omega)
theorem srt_en' {S : Nat → Bool} {key : Nat → Int} {n : Nat} {o : Nat → Nat} {g : Nat → Int} (hk : ∀ k : Nat, k < 12 → S k = true → key k % 12 = (k : Int)) (ho : ∀ i, i < n → o i < 12 ∧ S (o i) = true) (hc : ∀ k, k < 12 → S k = true → ∃ i, i < n ∧ o i = k)
    (hs : srtB (fun i => key (o i)) g n) : enO S key n (fun i => (g i % 12).toNat) ∧ ∀ i, i < n → key ((g i % 12).toNat) = g i ∧ g i % 12 = (((g i % 12).toNat : Nat) : Int) := by
  obtain ⟨ha, hb, hd⟩ := hs
  have hx : ∀ i, i < n → ∃ j, j < n ∧ g i = key (o j) ∧ (g i % 12).toNat = o j := by
    intro i hi
    obtain ⟨j, h1, h2⟩ := hb i hi
    have h3 := hk (o j) (ho j h1).1 (ho j h1).2
    have h2' : g i = key (o j) := h2
    exact ⟨j, h1, h2', by rw [h2', h3]; rfl⟩
  refine ⟨⟨fun i hi => ?_, fun i j hij hj => ?_, fun k hk2 hsk => ?_⟩, fun i hi => ?_⟩
  · obtain ⟨j, h1, h2, h3⟩ := hx i hi
    show (g i % 12).toNat < 12 ∧ S ((g i % 12).toNat) = true
    rw [h3]; exact ho j h1
  · obtain ⟨a, a1, a2, a3⟩ := hx i (by omega)
    obtain ⟨b, b1, b2, b3⟩ := hx j hj
    show key ((g i % 12).toNat) < key ((g j % 12).toNat)
    rw [a3, b3, ← a2, ← b2]; exact ha i j hij hj
  · obtain ⟨j, h1, h2⟩ := hc k hk2 hsk
    obtain ⟨i, h3, h4⟩ := hd j h1
    refine ⟨i, h3, ?_⟩
    show (g i % 12).toNat = k
    have h4' : g i = key (o j) := h4
    rw [h4', h2, hk k hk2 hsk]; rfl
  · obtain ⟨j, h1, h2, h3⟩ := hx i hi
    rw [h3, ← h2]
    refine ⟨rfl, ?_⟩
    rw [h2, hk (o j) (ho j h1).1 (ho j h1).2]
/-! ===== every set has an order ===== -/
theorem asc_pos {f : Nat → Int} {v : Int} : ∀ n, (∀ i j, i < j → j < n → f i < f j) → (∀ i, i < n → f i ≠ v) → ∃ r, r ≤ n ∧ (∀ i, i < r → f i < v) ∧ ∀ i, r ≤ i → i < n → v < f i
  | 0, _, _ => ⟨0, Nat.le_refl _, fun i h => by omega, fun i _ h => by omega⟩
  | n + 1, h1, h2 => by
    obtain ⟨r, r1, r2, r3⟩ := asc_pos n (fun i j hij hj => h1 i j hij (by omega)) (fun i hi => h2 i (by omega))
    by_cases e : r = n
    · by_cases e2 : f n < v
      · exact ⟨n + 1, Nat.le_refl _, fun i hi => by
          by_cases e3 : i = n
          · subst e3; exact e2
          · exact r2 i (by omega), fun i _ hi => by omega⟩
      · refine ⟨n, by omega, fun i hi => r2 i (by omega), fun i hi hi2 => ?_⟩
        obtain rfl : i = n := by omega
        have := h2 i (by omega)
        omega
    · refine ⟨r, by omega, r2, fun i hi hi2 => ?_⟩
      by_cases e3 : i = n
      · subst e3
        have k1 := r3 r (Nat.le_refl _) (by omega)
        have k2 := h1 r i (by omega) (by omega)
        omega
      · exact r3 i hi (by omega)
theorem enO_exm {S : Nat → Bool} {key : Nat → Int} (hk : ∀ a b, a < 12 → b < 12 → S a = true → S b = true → key a = key b → a = b) : ∀ m, m ≤ 12 → ∃ (n : Nat) (e : Nat → Nat), (∀ i, i < n → e i < m ∧ S (e i) = true) ∧ (∀ i j, i < j → j < n → key (e i) < key (e j)) ∧ ∀ k, k < m → S k = true → ∃ i, i < n ∧ e i = k
  | 0, _ => ⟨0, fun _ => 0, fun i h => by omega, fun i j _ h => by omega, fun k h => by omega⟩
  | m + 1, hm => by
    obtain ⟨n, e, e1, e2, e3⟩ := enO_exm hk m (by omega)
    by_cases hs : S m = true
    · obtain ⟨r, r1, r2, r3⟩ := asc_pos (f := fun i => key (e i)) (v := key m) n e2 (fun i hi he => by
        have := hk (e i) m (by have := (e1 i hi).1; omega) (by omega) (e1 i hi).2 hs he
        have := (e1 i hi).1
        omega)
      refine ⟨n + 1, fun i => if i < r then e i else if i = r then m else e (i - 1), fun i hi => ?_, fun i j hij hj => ?_, fun k hk2 hsk => ?_⟩
      · dsimp only
        by_cases c1 : i < r
        · rw [if_pos c1]; exact ⟨by have := (e1 i (by omega)).1; omega, (e1 i (by omega)).2⟩
        · rw [if_neg c1]
          by_cases c2 : i = r
          · rw [if_pos c2]; exact ⟨by omega, hs⟩
          · rw [if_neg c2]; exact ⟨by have := (e1 (i - 1) (by omega)).1; omega, (e1 (i - 1) (by omega)).2⟩
      · dsimp only
        by_cases c1 : j < r
        · rw [if_pos c1, if_pos (by omega)]; exact e2 i j hij (by omega)
        · by_cases c2 : j = r
          · rw [if_neg c1, if_pos c2, if_pos (by omega)]; exact r2 i (by omega)
          · rw [if_neg c1, if_neg c2]
            by_cases d1 : i < r
            · rw [if_pos d1]; exact e2 i (j - 1) (by omega) (by omega)
            · by_cases d2 : i = r
              · rw [if_neg d1, if_pos d2]; exact r3 (j - 1) (by omega) (by omega)
              · rw [if_neg d1, if_neg d2]; exact e2 (i - 1) (j - 1) (by omega) (by omega)
      · by_cases c : k = m
        · exact ⟨r, by omega, by dsimp only; rw [if_neg (by omega), if_pos rfl, c]⟩
        · obtain ⟨i, i1, i2⟩ := e3 k (by omega) hsk
          by_cases c1 : i < r
          · exact ⟨i, by omega, by dsimp only; rw [if_pos c1, i2]⟩
          · exact ⟨i + 1, by omega, by dsimp only; rw [if_neg (by omega), if_neg (by omega), Nat.add_sub_cancel, i2]⟩
    · refine ⟨n, e, fun i hi => ⟨by have := (e1 i hi).1; omega, (e1 i hi).2⟩, e2, fun k hk2 hsk => ?_⟩
      by_cases c : k = m
      · subst c; exact absurd hsk hs
      · exact e3 k (by omega) hsk
theorem enO_ex {S : Nat → Bool} {key : Nat → Int} (hk : ∀ a b, a < 12 → b < 12 → S a = true → S b = true → key a = key b → a = b) : ∃ n e, enO S key n e := enO_exm hk 12 (Nat.le_refl _)
