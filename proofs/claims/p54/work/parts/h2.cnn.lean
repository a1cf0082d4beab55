/-! ===== the law's constructor: a name written ===== -/
def txG (gap : Nat) (ls : List tLn) : List Nat := lwT 0 ++ (numT gap ++ lsT ls)
theorem txG_s {gap : Nat} {ls : List tLn} {x : tLn} : txG gap (ls ++ [x]) = txG gap ls ++ llX x := by unfold txG; rw [lsT_s]; simp only [List.append_assoc]
def cnK (gap : Nat) (ls : List tLn) (d : tCd) (N : Nat) (o a : Nat → Nat) : Prop := (lsO s0L ls ∧ (lsZ s0L ls).1 = N ∧ N ≤ 6) ∧ cdK d N (txG gap ls) ∧ ∀ i, i < N → ((30 ≤ o i ∧ o i + 1 < d.2.1) ∧ (d.1 ≠ o i ∧ d.1 ≠ o i + 1)) ∧ ((a i = 502 ∨ a i = 503) ∧ (lsZ s0L ls).2.2.1 i = lwT (a i - 500)) ∧ ∃ b, b ≤ 1 ∧ (lsZ s0L ls).2.1 i = [101 + i / 2, 109 + b + 2 * (i % 2)]
def cnT (X : am_H) (B N : Nat) (o : Nat → Nat) (F : Nat → List Nat) : Prop := ∀ i, i < N → gT X (B + o i) (B + o i + 1) (F i)
theorem cnK_d {gap N : Nat} {ls : List tLn} {d d' : tCd} {o a : Nat → Nat} (h : ∀ i, i < N → ((30 ≤ o i ∧ o i + 1 < d.2.1) ∧ (d.1 ≠ o i ∧ d.1 ≠ o i + 1))) (u : cdU d d') : ∀ i, i < N → ((30 ≤ o i ∧ o i + 1 < d'.2.1) ∧ (d'.1 ≠ o i ∧ d'.1 ≠ o i + 1)) := fun i hi => by
  obtain ⟨⟨a1, a2⟩, a3, a4⟩ := h i hi
  obtain ⟨u1, u2⟩ := u
  omega
theorem wok_W : ∀ k : Fin 6, ∀ b : Fin 2, wok [101 + k.val / 2, 109 + b.val + 2 * (k.val % 2)] := by
  intro k b
  have h1 : 101 + k.val / 2 ≤ 103 := by omega
  have h2 : 109 + b.val + 2 * (k.val % 2) ≤ 112 := by omega
  refine ⟨⟨by show 1 ≤ 2; decide, by show 2 ≤ 8; decide, fun q hq => ?_⟩, fun j j1 j2 e => ?_⟩
  · have hq' : q = 0 ∨ q = 1 := by have : q < 2 := hq; omega
    have hl : ∀ v : Fin 128, 97 ≤ v.val → v.val ≤ 122 → isL v.val = true := by decide
    rcases hq' with rfl | rfl
    · exact hl ⟨101 + k.val / 2, by omega⟩ (by show 97 ≤ 101 + k.val / 2; omega) (by show 101 + k.val / 2 ≤ 122; omega)
    · exact hl ⟨109 + b.val + 2 * (k.val % 2), by omega⟩ (by show 97 ≤ 109 + b.val + 2 * (k.val % 2); omega) (by show 109 + b.val + 2 * (k.val % 2) ≤ 122; omega)
  · have hs : ∀ j : Fin 14, 5 ≤ j.val → (sbT j.val).getD 0 0 < 101 ∨ 103 < (sbT j.val).getD 0 0 := by decide
    have := hs ⟨j, j2⟩ j1
    rw [← e] at this
    have e0 : ([101 + k.val / 2, 109 + b.val + 2 * (k.val % 2)] : List Nat).getD 0 0 = 101 + k.val / 2 := rfl
    rw [e0] at this
    omega
theorem wok_V : wok (lwT 2) ∧ wok (lwT 3) := by
  refine ⟨⟨⟨by decide, by decide, by decide⟩, ?_⟩, ⟨by decide, by decide, by decide⟩, ?_⟩
  · have hs : ∀ j : Fin 14, 5 ≤ j.val → ¬ lwT 2 = sbT j.val := by decide
    exact fun j j1 j2 => hs ⟨j, j2⟩ j1
  · have hs : ∀ j : Fin 14, 5 ≤ j.val → ¬ lwT 3 = sbT j.val := by decide
    exact fun j j1 j2 => hs ⟨j, j2⟩ j1
section CNN
variable {z : Bool} {X0 X X' : am_H} {B n N t : Nat} {g : Nat → Int32} {d d' : tCd} {l : List Nat} {o a : Nat → Nat}
theorem cn_ag {gap nm ph : Int} {a1 a2 : Nat → Nat} (h : cnP X B gap nm ph N a1 a2) (e : ∀ q, B + 1 ≤ q → q < B + 30 → q ≠ B + 2 → q ≠ B + 3 → X'.1 q = X.1 q) : cnP X' B gap nm ph N a1 a2 := by
  obtain ⟨h1, h2, h3, h4⟩ := h
  exact ⟨by rw [e _ (by omega) (by omega) (by omega) (by omega)]; exact h1, by rw [e _ (by omega) (by omega) (by omega) (by omega)]; exact h2, by rw [e _ (by omega) (by omega) (by omega) (by omega)]; exact h3, fun j j1 j2 => by rw [e _ (by omega) (by omega) (by omega) (by omega)]; exact h4 j j1 j2⟩
theorem ci_set (h : cI X0 X B d l t) (hd : d.1 = 3 ∨ 30 ≤ d.1) {q : Nat} {e : am_C} (hq : q = B + 1 ∨ (B + 4 ≤ q ∧ q < B + 30)) : cI X0 (am_set X q e) B d l t := by
  obtain ⟨h1, h2, ⟨f, h3⟩, h4, h5⟩ := h
  exact ⟨fun p hp => by rw [ru_setN (by omega)]; exact h1 p hp, by rw [ru_setN (by omega)]; exact h2, ⟨f, gbS_ag h3 (ru_setN (by omega)) (ru_setN (by omega)) (Nat.le_refl _)⟩, h4, h5⟩
theorem ylS_up {a1 a2 : Nat → Nat} {v : Nat} (h1 : ∀ i, i < N → a2 i = a1 i) (h2 : a2 N = v) : am_up (ylS ((N : Nat) : Int) a1) N (some v) = ylS ((N + 1 : Nat) : Int) a2 := by
  funext i
  unfold am_up ylS
  by_cases e : i = N
  · rw [if_pos e, if_pos (by omega), e, h2]
  · rw [if_neg e]
    by_cases c : i < N
    · rw [if_pos (by omega), if_pos (by omega), h1 i c]
    · rw [if_neg (by omega), if_neg (by omega)]
end CNN
