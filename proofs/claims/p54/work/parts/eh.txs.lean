/-! ===== the law while it writes a text ===== -/
def agT (B S r cap r' cap' : Nat) (X Y : am_H) (c s : Nat) : Prop := (∀ q, q < X.2.1 → (q < B ∨ B + 30 ≤ q) → q ≠ S → q ≠ r → Y.1 q = X.1 q) ∧ X.2.1 ≤ Y.2.1 ∧ Y.2.1 + cap ≤ X.2.1 + cap' + c ∧ Y.2.2 + 2 * cap ≤ X.2.2 + 2 * cap' + s ∧ (r' = r ∨ X.2.1 ≤ r') ∧ cap ≤ cap'
theorem agT_r {B S r cap : Nat} {X : am_H} : agT B S r cap r cap X X 0 0 := ⟨fun _ _ _ _ _ => rfl, Nat.le_refl _, Nat.le_refl _, Nat.le_refl _, Or.inl rfl, Nat.le_refl _⟩
theorem agT_t {B S r cap r1 cap1 r2 cap2 : Nat} {X Y W : am_H} {c s c' s' : Nat} (h : agT B S r cap r1 cap1 X Y c s) (k : agT B S r1 cap1 r2 cap2 Y W c' s') : agT B S r cap r2 cap2 X W (c + c') (s + s') := by
  obtain ⟨a1, a2, a3, a4, a5, a6⟩ := h
  obtain ⟨b1, b2, b3, b4, b5, b6⟩ := k
  refine ⟨fun q h1 h2 h3 h4 => ?_, by omega, by omega, by omega, by omega, by omega⟩
  rw [b1 q (by omega) h2 h3 (by omega)]
  exact a1 q h1 h2 h3 h4
theorem agT_m {B S r cap r' cap' : Nat} {X Y : am_H} {c s c' s' : Nat} (h : agT B S r cap r' cap' X Y c s) (h1 : c ≤ c') (h2 : s ≤ s') : agT B S r cap r' cap' X Y c' s' := by
  obtain ⟨a1, a2, a3, a4, a5, a6⟩ := h
  exact ⟨a1, a2, by omega, by omega, a5, a6⟩
theorem agT_g {B S r cap r' cap' : Nat} {X Y : am_H} (h : gbOn X Y S r r' cap cap') : agT B S r cap r' cap' X Y 0 0 := by
  obtain ⟨a1, a2, a3, a4, a5⟩ := h
  exact ⟨fun q h1 _ h3 h4 => a1 q h1 h3 h4, a2, by omega, by omega, a5, by omega⟩
theorem agT_x {B S r cap : Nat} {X Y : am_H} {c s : Nat} (h : agX X Y c s) : agT B S r cap r cap X Y c s := by
  obtain ⟨a1, a2, a3, a4⟩ := h
  exact ⟨fun q h1 _ _ _ => a1 q h1, a2, by omega, by omega, Or.inl rfl, Nat.le_refl _⟩
theorem agT_e {B S r cap : Nat} {X Y : am_H} (h : ylE X Y B) : agT B S r cap r cap X Y 0 0 := by
  obtain ⟨a1, a2⟩ := h
  exact ⟨fun q h1 h2 _ _ => a1 q (by omega), by rw [a2]; exact Nat.le_refl _, by rw [a2]; omega, by rw [a2]; omega, Or.inl rfl, Nat.le_refl _⟩
theorem agT_d {B S r cap : Nat} {X : am_H} {e : am_C} : agT B S r cap r cap X (am_set X B e) 0 0 := ⟨fun q h1 h2 _ _ => ru_setN (by omega), Nat.le_refl _, Nat.le_refl _, Nat.le_refl _, Or.inl rfl, Nat.le_refl _⟩
theorem dgI_ag {X X' : am_H} (h : dgI X) (k : ∀ q, q < 100 → X'.1 q = X.1 q) : dgI X' := by
  obtain ⟨⟨f, a1, a2⟩, g, b1, b2⟩ := h
  exact ⟨⟨f, by rw [k 10 (by decide)]; exact a1, a2⟩, g, by rw [k 11 (by decide)]; exact b1, b2⟩
/-- album, draws, names' texts, texts, digits; the builder holds l -/
def txS (X : am_H) (B : Nat) (A : tLw) (n : Nat) (g : Nat → Int32) (t : Nat) (F L : Nat → List Nat) (S r : Nat) (l : List Nat) (cap : Nat) : Prop := ylP X B A ∧ dwP X B n g t ∧ lnS X B A F L ∧ lwS X ∧ dgI X ∧ (∃ m f, gbS X S r m f l cap) ∧ 1000 ≤ S ∧ 1000 ≤ r
def txK (B n : Nat) : Prop := 600 ≤ B ∧ B + 30 ≤ 1000 ∧ n ≤ 1000
section TX
variable {z : Bool} {X : am_H} {B : Nat} {A : tLw} {n : Nat} {g : Nat → Int32} {t : Nat} {F L : Nat → List Nat} {S r : Nat} {l : List Nat} {cap : Nat}
theorem tx_X (h : txS X B A n g t F L S r l cap) : 1000 ≤ X.2.1 := by
  obtain ⟨-, -, -, -, -, ⟨m, f, hb⟩, hS, -⟩ := h
  have := hb.2.2.2.2.2.1
  omega
/-- all but the builder stays -/
theorem tx_of {X' : am_H} {r' cap' : Nat} {l' : List Nat} {c s : Nat} (hk : txK B n) (h : txS X B A n g t F L S r l cap) (k : agT B S r cap r' cap' X X' c s) (hal : ∀ q, B ≤ q → q < B + 30 → X'.1 q = X.1 q) (hb : ∃ m f, gbS X' S r' m f l' cap') : txS X' B A n g t F L S r' l' cap' := by
  have hX := tx_X h
  obtain ⟨a1, a2, a3, a4, a5, ⟨m, f, a6⟩, a7, a8⟩ := h
  obtain ⟨k1, k2, k3⟩ := hk
  have lo : ∀ q, q < B → X'.1 q = X.1 q := fun q hq => k.1 q (by omega) (Or.inl hq) (by omega) (by omega)
  refine ⟨ylP_ag a1 (fun q h1 h2 => hal q (by omega) h2), ⟨by rw [lo 1 (by omega)]; exact a2.1, by rw [hal B (Nat.le_refl _) (by omega)]; exact a2.2⟩, lnS_ag a3 (fun q h1 h2 => k.1 q (by omega) h2 (by omega) (by omega)), lwS_ag a4 (fun q hq => lo q (by omega)), dgI_ag a5 (fun q hq => lo q (by omega)), hb, a7, ?_⟩
  · rcases k.2.2.2.2.1 with e | e <;> omega
theorem tx_app (hk : txK B n) (h : txS X B A n g t F L S r l cap) {Q V : Nat} {w : List Nat} (hw : gT X Q V w) (hQ : Q < X.2.1 ∧ Q ≠ S ∧ Q ≠ r) (hV : V < X.2.1 ∧ V ≠ S ∧ V ≠ r) (hl : l.length + w.length ≤ 500) (hl2 : w.length ≤ 100) : ∃ X' r' cap', ru_ev z 307 [.ref S, .ref Q] X = some (.inl (some (.ref S)), X') ∧ txS X' B A n g t F L S r' (l ++ w) cap' ∧ agT B S r cap r' cap' X X' 0 0 := by
  have hX := tx_X h
  obtain ⟨a1, a2, a3, a4, a5, ⟨m, f, a6⟩, a7, a8⟩ := id h
  obtain ⟨X', r', f', cap', b1, b2, b3⟩ := g307 (z := z) a6 hw hQ hV hl hl2
  refine ⟨X', r', cap', b1, tx_of hk h (agT_g b3) (fun q h1 h2 => b3.1 q (by have := hk.2.1; omega) (by have := hk.2.1; omega) (by have := hk.2.1; omega)) ⟨m, f', b2⟩, agT_g b3⟩
theorem tx_con (hk : txK B n) (h : txS X B A n g t F L S r l cap) {i : Nat} (hi : i < 20) (hl : l.length ≤ 480) : ∃ X' r' cap', ru_ev z 307 [.ref S, .ref (500 + i)] X = some (.inl (some (.ref S)), X') ∧ txS X' B A n g t F L S r' (l ++ lwT i) cap' ∧ agT B S r cap r' cap' X X' 0 0 := by
  have hX := tx_X h
  have hh := h.2.2.2.2.2.2
  exact tx_app hk h (h.2.2.2.1 i hi) (by omega) (by omega) (by have := lwT_12 i; omega) (by have := lwT_12 i; omega)
theorem tx_chr (hk : txK B n) (h : txS X B A n g t F L S r l cap) {c : Nat} (hc : c ≤ 127) (hl : l.length + 1 ≤ 500) : ∃ X' r' cap', ru_ev z 319 [.ref S, .int (wI c)] X = some (.inl (some (.ref S)), X') ∧ txS X' B A n g t F L S r' (l ++ [c]) cap' ∧ agT B S r cap r' cap' X X' 0 0 := by
  have hX := tx_X h
  obtain ⟨a1, a2, a3, a4, a5, ⟨m, f, a6⟩, a7, a8⟩ := id h
  obtain ⟨X', r', f', cap', b1, b2, b3⟩ := g319 (z := z) a6 hc hl
  refine ⟨X', r', cap', b1, tx_of hk h (agT_g b3) (fun q h1 h2 => b3.1 q (by have := hk.2.1; omega) (by have := hk.2.1; omega) (by have := hk.2.1; omega)) ⟨m, f', b2⟩, agT_g b3⟩
theorem tx_num (hk : txK B n) (h : txS X B A n g t F L S r l cap) {v : Nat} (hv : v ≤ 99) (hl : l.length + (numT v).length ≤ 500) : ∃ X' r' cap', ru_ev z 312 [.ref S, .int (wI v)] X = some (.inl (some (.ref S)), X') ∧ txS X' B A n g t F L S r' (l ++ numT v) cap' ∧ agT B S r cap r' cap' X X' 0 0 := by
  have hX := tx_X h
  obtain ⟨a1, a2, a3, a4, a5, ⟨m, f, a6⟩, a7, a8⟩ := id h
  obtain ⟨X', r', f', cap', b1, b2, b3⟩ := g312 (z := z) a6 a5 (by omega) (by omega) hv hl
  refine ⟨X', r', cap', b1, tx_of hk h (agT_g b3) (fun q h1 h2 => b3.1 q (by have := hk.2.1; omega) (by have := hk.2.1; omega) (by have := hk.2.1; omega)) ⟨m, f', b2⟩, agT_g b3⟩
theorem tx_len (h : txS X B A n g t F L S r l cap) : ru_ev z 324 [.ref S] X = some (.inl (some (.int (wI (l.length : Nat)))), X) := by
  obtain ⟨a1, a2, a3, a4, a5, ⟨m, f, a6⟩, a7, a8⟩ := h
  exact g324 a6
/-- new cells, old ones as they were -/
theorem tx_new {X' : am_H} {c s : Nat} (hk : txK B n) (h : txS X B A n g t F L S r l cap) (k : agX X X' c s) : txS X' B A n g t F L S r l cap := by
  have hX := tx_X h
  obtain ⟨a1, a2, a3, a4, a5, ⟨m, f, b1, b2, b3, b4, b5, b6, b7, b8⟩, a7, a8⟩ := id h
  exact tx_of hk h (agT_x k) (fun q h1 h2 => k.1 q (by have := hk.2.1; omega)) ⟨m, f, by rw [k.1 S b6]; exact b1, by rw [k.1 r b7]; exact b2, b3, b4, b5, by have := k.2.1; omega, by have := k.2.1; omega, b8⟩
theorem tx_drw (hk : txK B n) (h : txS X B A n g t F L S r l cap) (ht : t ≤ 1000000) {lo hi : Int} (g1 : -1000 ≤ lo) (g2 : lo ≤ hi) (g3 : hi ≤ 100000) : ∃ v X', lo ≤ v ∧ v ≤ hi ∧ ru_ev z 390 [.ref B, .int (wI lo), .int (wI hi)] X = some (.inl (some (.int (wI v))), X') ∧ txS X' B A n g (t + 1) F L S r l cap ∧ agT B S r cap r cap X X' 0 0 ∧ X'.2 = X.2 ∧ ∀ q, q ≠ B → X'.1 q = X.1 q := by
  have hX := tx_X h
  obtain ⟨k1, k2, k3⟩ := hk
  obtain ⟨a1, a2, a3, a4, a5, ⟨m, f, a6⟩, a7, a8⟩ := h
  obtain ⟨v, v1, v2, v3⟩ := d390 (z := z) a2 k3 ht g1 g2 g3
  obtain ⟨b1, b2, b3, b4, b5, b6, b7, b8⟩ := a6
  refine ⟨v, _, v1, v2, v3, ⟨ylP_set a1 (Or.inl (Nat.le_refl _)), ⟨by rw [ru_setN (by omega)]; exact a2.1, ru_setE _ _ _⟩, lnS_ag a3 (fun q h1 h2 => ru_setN (by omega)), lwS_ag a4 (fun q hq => ru_setN (by omega)), dgI_ag a5 (fun q hq => ru_setN (by omega)), ⟨m, f, by rw [ru_setN (by omega)]; exact b1, by rw [ru_setN (by omega)]; exact b2, b3, b4, b5, b6, b7, b8⟩, a7, a8⟩, agT_d, rfl, fun q hq => ru_setN hq⟩
theorem tx_full (hk : txK B n) (h : txS X B A n g t F L S r l cap) {k : Nat} (hn : (k : Int) < A.1 1) (h8 : k < 8) (hl : l.length ≤ 480) : ∃ (X1 : am_H) (Q : Nat) (X' : am_H) (r' cap' : Nat), ru_ev z 419 [.ref (B + 1), .int (wI k)] X = some (.inl (some (.ref Q)), X1) ∧ ru_ev z 307 [.ref S, .ref Q] X1 = some (.inl (some (.ref S)), X') ∧ txS X' B A n g t F L S r' (l ++ (F k ++ [32] ++ L k)) cap' ∧ agT B S r cap r' cap' X X' 1010 3100 := by
  have hX := tx_X h
  obtain ⟨a1, a2, a3, a4, a5, ⟨m, f, b1, b2, b3, b4, b5, b6, b7, b8⟩, a7, a8⟩ := id h
  have hk2 := hk.2.1
  obtain ⟨X1, Q, V, q1, q2, q3, q4, q5⟩ := d419 (z := z) a1 a3 a4 hk2 hX hn h8
  have h1 := tx_new hk h q5
  obtain ⟨-, -, -, -, -, -, len⟩ := a3 k hn
  have fl : (F k ++ [32] ++ L k).length ≤ 6 := by rw [List.length_append, List.length_append]; show (F k).length + 1 + (L k).length ≤ 6; omega
  obtain ⟨X', r', cap', p1, p2, p3⟩ := tx_app (z := z) hk h1 q2 (by omega) (by omega) (by omega) (by omega)
  exact ⟨X1, Q, X', r', cap', q1, p1, p2, agT_m (agT_t (agT_x q5) p3) (by omega) (by omega)⟩
theorem tx_giv (hk : txK B n) (h : txS X B A n g t F L S r l cap) (hr : ylR A) {f k : Nat} {nm : Int} (hf : f < 3) (hk12 : k < 12) (gn : -2147483648 ≤ nm ∧ nm < 2147483648) : ∃ X', ru_ev z 413 [.ref (B + 1), .int (wI f), .int (wI k), .int (wI nm)] X = some (.inl none, X') ∧ txS X' B (ylU A f (lgv (A.2.1 f) k nm)) n g t F L S r l cap ∧ agT B S r cap r cap X X' 0 0 ∧ X'.2 = X.2 ∧ ∀ q, B + 30 ≤ q → X'.1 q = X.1 q := by
  have hX := tx_X h
  obtain ⟨k1, k2, k3⟩ := hk
  obtain ⟨a1, a2, a3, a4, a5, ⟨m, f', b1, b2, b3, b4, b5, b6, b7, b8⟩, a7, a8⟩ := h
  obtain ⟨X', q1, q2, q3⟩ := d413 (z := z) a1 hr hf hk12 gn
  have o : ∀ q, (q ≤ B ∨ B + 30 ≤ q) → X'.1 q = X.1 q := q3.1
  have e2 := q3.2
  refine ⟨X', q1, ⟨q2, ⟨by rw [o 1 (by omega)]; exact a2.1, by rw [o B (by omega)]; exact a2.2⟩, lnS_ag a3 (fun q h1 h2 => o q (by omega)), lwS_ag a4 (fun q hq => o q (by omega)), dgI_ag a5 (fun q hq => o q (by omega)), ⟨m, f', by rw [o S (by omega)]; exact b1, by rw [o r (by omega)]; exact b2, b3, b4, b5, by rw [e2]; exact b6, by rw [e2]; exact b7, b8⟩, a7, a8⟩, agT_e q3, e2, fun q hq => o q (Or.inr hq)⟩
end TX
