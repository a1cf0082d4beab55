/-! ===== the law's constructor: what stays while it writes ===== -/
/-- the text builder's row (its offset), cells made, times it grew, its room, slots -/
abbrev tCd : Type := Nat × Nat × Nat × Nat × Nat
def cdK (d : tCd) (N : Nat) (l : List Nat) : Prop := (d.1 = 3 ∨ 30 ≤ d.1) ∧ d.1 < d.2.1 ∧ d.2.1 = 30 + 4 * N + d.2.2.1 ∧ 26 * 2 ^ d.2.2.1 ≤ d.2.2.2.1 ∧ d.2.2.2.1 ≤ 1002 ∧ d.2.2.2.2 ≤ 600 + 2 * d.2.2.2.1 + 30 * N ∧ l.length ≤ 500
def cdU (d d' : tCd) : Prop := d.2.1 ≤ d'.2.1 ∧ (d'.1 = d.1 ∨ d.2.1 ≤ d'.1)
def bI (X0 : am_H) (n : Nat) (g : Nat → Int32) : Prop := X0.1 1 = some (.inl (10, n, .inl g)) ∧ lwS X0 ∧ dgI X0
def cI (X0 X : am_H) (B : Nat) (d : tCd) (l : List Nat) (t : Nat) : Prop := (∀ q, q < B → X.1 q = X0.1 q) ∧ X.1 B = some (dwC t) ∧ (∃ f, gbS X (B + 2) (B + d.1) 0 f l d.2.2.2.1) ∧ X.2.1 = B + d.2.1 ∧ X.2.2 ≤ X0.2.2 + d.2.2.2.2
def cF (X X' : am_H) (B : Nat) (d : tCd) : Prop := ∀ q, q < B + d.2.1 → q ≠ B → q ≠ B + 2 → q ≠ B + d.1 → X'.1 q = X.1 q
theorem cdU_r (d : tCd) : cdU d d := ⟨Nat.le_refl _, Or.inl rfl⟩
theorem cdU_t {d d' e : tCd} (h : cdU d d') (k : cdU d' e) : cdU d e := by
  obtain ⟨a, b⟩ := h
  obtain ⟨a', b'⟩ := k
  refine ⟨by omega, ?_⟩
  rcases b' with b' | b'
  · rw [b']; exact b
  · right; omega
theorem cF_r (X : am_H) (B : Nat) (d : tCd) : cF X X B d := fun _ _ _ _ _ => rfl
theorem cF_t {X Y W : am_H} {B : Nat} {d d' : tCd} (hd : d.1 < d.2.1) (u : cdU d d') (h : cF X Y B d) (k : cF Y W B d') : cF X W B d := fun q h1 h2 h3 h4 => by
  obtain ⟨u1, u2⟩ := u
  rw [k q (by omega) h2 h3 (by omega)]
  exact h q h1 h2 h3 h4
theorem gT_F {X X' : am_H} {B Q V : Nat} {d : tCd} {w : List Nat} (h : gT X Q V w) (k : cF X X' B d) (hQ : Q < B + d.2.1 ∧ Q ≠ B ∧ Q ≠ B + 2 ∧ Q ≠ B + d.1) (hV : V < B + d.2.1 ∧ V ≠ B ∧ V ≠ B + 2 ∧ V ≠ B + d.1) : gT X' Q V w := by
  obtain ⟨h1, kk, f, h2, h3, h4⟩ := h
  exact ⟨by rw [k Q hQ.1 hQ.2.1 hQ.2.2.1 hQ.2.2.2]; exact h1, kk, f, h2, by rw [k V hV.1 hV.2.1 hV.2.2.1 hV.2.2.2]; exact h3, h4⟩
theorem cd_new {d : tCd} {N : Nat} {l : List Nat} (k : cdK d N l) (w : List Nat) (hw : l.length + w.length ≤ 500) : ∃ d' : tCd, cdK d' N (l ++ w) ∧ cdU d d' ∧ d'.1 = grR d.2.2.2.1 (l.length + w.length) d.1 d.2.1 ∧ d'.2.1 = d.2.1 + grN d.2.2.2.1 (l.length + w.length) ∧ d'.2.2.2.1 = grC d.2.2.2.1 (l.length + w.length) ∧ d'.2.2.2.2 + 2 * d.2.2.2.1 = d.2.2.2.2 + 2 * d'.2.2.2.1 := by
  obtain ⟨k1, k2, k3, k4, k5, k6, k7⟩ := k
  have hl : (l ++ w).length = l.length + w.length := List.length_append
  unfold grR grN grC
  by_cases c : l.length + w.length ≤ d.2.2.2.1
  · rw [if_pos c, if_pos c, if_pos c]
    exact ⟨d, ⟨k1, k2, k3, k4, k5, k6, by omega⟩, cdU_r d, rfl, rfl, rfl, rfl⟩
  · rw [if_neg c, if_neg c, if_neg c]
    have hn : 2 * d.2.2.2.1 + 2 ≤ nwC d.2.2.2.1 (l.length + w.length) ∧ nwC d.2.2.2.1 (l.length + w.length) ≤ 1002 := by unfold nwC; split <;> omega
    obtain ⟨c', hc'⟩ : ∃ c', c' = nwC d.2.2.2.1 (l.length + w.length) := ⟨_, rfl⟩
    rw [← hc'] at hn ⊢
    have hp : 26 * 2 ^ (d.2.2.1 + 1) ≤ c' := by rw [Nat.pow_succ]; omega
    exact ⟨(d.2.1, d.2.1 + 1, d.2.2.1 + 1, c', d.2.2.2.2 + 2 * c' - 2 * d.2.2.2.1), ⟨by show d.2.1 = 3 ∨ 30 ≤ d.2.1; omega, by show d.2.1 < d.2.1 + 1; omega, by show d.2.1 + 1 = 30 + 4 * N + (d.2.2.1 + 1); omega, hp, hn.2, by show d.2.2.2.2 + 2 * c' - 2 * d.2.2.2.1 ≤ 600 + 2 * c' + 30 * N; omega, by omega⟩, ⟨by show d.2.1 ≤ d.2.1 + 1; omega, Or.inr (Nat.le_refl _)⟩, rfl, rfl, rfl, by show d.2.2.2.2 + 2 * c' - 2 * d.2.2.2.1 + 2 * d.2.2.2.1 = d.2.2.2.2 + 2 * c'; omega⟩
section CST
variable {z : Bool} {X0 X X' : am_H} {B n N t : Nat} {g : Nat → Int32} {d d' : tCd} {l : List Nat}
theorem ci_on (h : cI X0 X B d l t) (k : cdK d N l) {w : List Nat} {r' cap' : Nat} {f' : Nat → Int} (e1 : d'.1 = grR d.2.2.2.1 (l.length + w.length) d.1 d.2.1) (e2 : d'.2.1 = d.2.1 + grN d.2.2.2.1 (l.length + w.length)) (e3 : d'.2.2.2.1 = grC d.2.2.2.1 (l.length + w.length)) (e4 : d'.2.2.2.2 + 2 * d.2.2.2.1 = d.2.2.2.2 + 2 * d'.2.2.2.1) (h1 : gbS X' (B + 2) r' 0 f' (l ++ w) cap') (h2 : gbOn X X' (B + 2) (B + d.1) r' d.2.2.2.1 cap') (h3 : gbG X X' (B + 2) (B + d.1) r' d.2.2.2.1 cap' (l.length + w.length)) : cI X0 X' B d' (l ++ w) t ∧ cF X X' B d := by
  obtain ⟨a1, a2, -, a4, a5⟩ := h
  obtain ⟨k1, k2, k3, k4, k5, k6, k7⟩ := k
  obtain ⟨b1, b2, b3, b4, b5⟩ := h2
  obtain ⟨c1, c2, c3⟩ := h3
  have er : r' = B + d'.1 := by
    rw [c3, e1, a4]
    unfold grR
    split <;> rfl
  have ec : cap' = d'.2.2.2.1 := by rw [c1, e3]
  rw [ec] at h1 b4
  rw [er] at h1
  refine ⟨⟨fun q hq => by rw [b1 q (by omega) (by omega) (by omega)]; exact a1 q hq, by rw [b1 B (by omega) (by omega) (by omega)]; exact a2, ⟨_, h1⟩, by omega, by omega⟩, fun q h1 h2 h3 h4 => b1 q (by omega) h3 h4⟩
theorem ci_txt (k : cdK d N l) (w : List Nat) (hw : l.length + w.length ≤ 500) (h100 : w.length ≤ 100) : ∃ d' : tCd, cdK d' N (l ++ w) ∧ cdU d d' ∧ ∀ (z : Bool) (X0 X : am_H) (B t Q V : Nat), cI X0 X B d l t → gT X Q V w → (Q < B + d.2.1 ∧ Q ≠ B + 2 ∧ Q ≠ B + d.1) → (V < B + d.2.1 ∧ V ≠ B + 2 ∧ V ≠ B + d.1) → ∃ X', ru_ev z 307 [.ref (B + 2), .ref Q] X = some (.inl (some (.ref (B + 2))), X') ∧ cI X0 X' B d' (l ++ w) t ∧ cF X X' B d := by
  obtain ⟨d', k', u, e1, e2, e3, e4⟩ := cd_new k w hw
  refine ⟨d', k', u, fun z X0 X B t Q V h hg hQ hV => ?_⟩
  obtain ⟨f, hb⟩ := h.2.2.1
  have hn := h.2.2.2.1
  obtain ⟨X', r', f', cap', r, b1, b2, b3⟩ := h307 (z := z) hb hg (by omega) (by omega) hw h100
  exact ⟨X', r, ci_on h k e1 e2 e3 e4 b1 b2 b3⟩
theorem lwT_12k : ∀ i, i < 20 → (lwT i).length ≤ 12 := by decide
theorem ci_lit (k : cdK d N l) {i : Nat} (hi : i < 20) (hw : l.length + (lwT i).length ≤ 500) : ∃ d' : tCd, cdK d' N (l ++ lwT i) ∧ cdU d d' ∧ ∀ (z : Bool) (X0 X : am_H) (B t n : Nat) (g : Nat → Int32), 600 ≤ B → bI X0 n g → cI X0 X B d l t → ∃ X', ru_ev z 307 [.ref (B + 2), .ref (500 + i)] X = some (.inl (some (.ref (B + 2))), X') ∧ cI X0 X' B d' (l ++ lwT i) t ∧ cF X X' B d := by
  have l12 := lwT_12k i hi
  obtain ⟨d', k', u, r⟩ := ci_txt k (lwT i) hw (by omega)
  refine ⟨d', k', u, fun z X0 X B t n g hB hb h => ?_⟩
  have hd := k.1
  exact r z X0 X B t (500 + i) (520 + i) h (gT_ag (hb.2.1 i hi) h.1 (by omega) (by omega)) (by have := k.2.1; omega) (by have := k.2.1; omega)
theorem ci_num (k : cdK d N l) {v : Nat} (hv : v ≤ 99) (hw : l.length + (numT v).length ≤ 500) : ∃ d' : tCd, cdK d' N (l ++ numT v) ∧ cdU d d' ∧ ∀ (z : Bool) (X0 X : am_H) (B t n : Nat) (g : Nat → Int32), 600 ≤ B → bI X0 n g → cI X0 X B d l t → ∃ X', ru_ev z 312 [.ref (B + 2), .int (wI ((v : Nat) : Int))] X = some (.inl (some (.ref (B + 2))), X') ∧ cI X0 X' B d' (l ++ numT v) t ∧ cF X X' B d := by
  obtain ⟨d', k', u, e1, e2, e3, e4⟩ := cd_new k (numT v) hw
  refine ⟨d', k', u, fun z X0 X B t n g hB hb h => ?_⟩
  obtain ⟨f, hg⟩ := h.2.2.1
  have hdg : dgI X := by
    obtain ⟨⟨fo, o1, o2⟩, ft, t1, t2⟩ := hb.2.2
    exact ⟨⟨fo, by rw [h.1 10 (by omega)]; exact o1, o2⟩, ft, by rw [h.1 11 (by omega)]; exact t1, t2⟩
  obtain ⟨X', r', f', cap', r, b1, b2, b3⟩ := h312 (z := z) hg hdg (by omega) (by omega) hv hw
  exact ⟨X', r, ci_on h k e1 e2 e3 e4 b1 b2 b3⟩
theorem ci_chr (k : cdK d N l) {c : Nat} (hc : c ≤ 127) (hw : l.length + 1 ≤ 500) : ∃ d' : tCd, cdK d' N (l ++ [c]) ∧ cdU d d' ∧ ∀ (z : Bool) (X0 X : am_H) (B t : Nat), cI X0 X B d l t → ∃ X', ru_ev z 319 [.ref (B + 2), .int (wI ((c : Nat) : Int))] X = some (.inl (some (.ref (B + 2))), X') ∧ cI X0 X' B d' (l ++ [c]) t ∧ cF X X' B d := by
  obtain ⟨d', k', u, e1, e2, e3, e4⟩ := cd_new k [c] hw
  refine ⟨d', k', u, fun z X0 X B t h => ?_⟩
  obtain ⟨f, hg⟩ := h.2.2.1
  obtain ⟨X', r', f', cap', r, b1, b2, b3⟩ := h319 (z := z) hg hc hw
  exact ⟨X', r, ci_on h k e1 e2 e3 e4 b1 b2 b3⟩
def dN (n : Nat) (g : Nat → Int32) (t lo hi : Nat) : Nat := (drw n g t (lo : Int) (hi : Int)).toNat
theorem dN_b {lo hi : Nat} (h : lo ≤ hi) : lo ≤ dN n g t lo hi ∧ dN n g t lo hi ≤ hi ∧ drw n g t (lo : Int) (hi : Int) = ((dN n g t lo hi : Nat) : Int) := by
  have b := drw_b (n := n) (g := g) (t := t) (lo := (lo : Int)) (hi := (hi : Int)) (by omega)
  unfold dN
  omega
theorem cF_B {e : am_C} : cF X (am_set X B e) B d := fun q _ h2 _ _ => ru_setN h2
theorem ci_B (h : cI X0 X B d l t) (hd : d.1 = 3 ∨ 30 ≤ d.1) : cI X0 (am_set X B (dwC (t + 1))) B d l (t + 1) := by
  obtain ⟨h1, h2, ⟨f, h3⟩, h4, h5⟩ := h
  exact ⟨fun q hq => by rw [ru_setN (by omega)]; exact h1 q hq, ru_setE _ _ _, ⟨f, gbS_ag h3 (ru_setN (by omega)) (ru_setN (by omega)) (Nat.le_refl _)⟩, h4, h5⟩
theorem ci_drw (hb : bI X0 n g) (hn : n ≤ 1000) (hB : 600 ≤ B) (h : cI X0 X B d l t) (hd : d.1 = 3 ∨ 30 ≤ d.1) (ht : t ≤ 1000000) {lo hi : Nat} (g2 : lo ≤ hi) (g3 : hi ≤ 100000) : ru_ev z 390 [.ref B, .int (wI ((lo : Nat) : Int)), .int (wI ((hi : Nat) : Int))] X = some (.inl (some (.int (wI ((dN n g t lo hi : Nat) : Int)))), am_set X B (dwC (t + 1))) ∧ cI X0 (am_set X B (dwC (t + 1))) B d l (t + 1) ∧ cF X (am_set X B (dwC (t + 1))) B d := by
  have hw : dwP X B n g t := ⟨by rw [h.1 1 (by omega)]; exact hb.1, h.2.1⟩
  have k := d390u (z := z) hw hn ht (lo := (lo : Int)) (hi := (hi : Int)) (by omega) (by omega) (by omega)
  rw [(dN_b (n := n) (g := g) (t := t) g2).2.2] at k
  exact ⟨k, ci_B h hd, cF_B⟩
end CST
