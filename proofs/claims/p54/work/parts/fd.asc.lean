/-! ===== the law's texts hold letters below 128 ===== -/
def a7 (w : List Nat) : Prop := ∀ c ∈ w, c ≤ 127
theorem gd_el {w : List Nat} {i : Nat} (hi : i < w.length) : w.getD i 0 = w[i] := by rw [List.getD_eq_getElem?_getD, List.getElem?_eq_getElem hi, Option.getD_some]
theorem a7_n : a7 [] := fun c h => by cases h
theorem a7_a {v w : List Nat} (h : a7 v) (k : a7 w) : a7 (v ++ w) := fun c hc => by
  rcases List.mem_append.mp hc with e | e
  · exact h c e
  · exact k c e
theorem a7_i {v : List Nat} (h : ∀ i, i < v.length → v.getD i 0 ≤ 127) : a7 v := fun c hc => by
  obtain ⟨i, hi, e⟩ := List.mem_iff_getElem.mp hc
  have := h i hi
  rw [gd_el hi, e] at this
  exact this
theorem a7_g {w : List Nat} (h : a7 w) {i : Nat} (hi : i < w.length) : w.getD i 0 ≤ 127 := by
  rw [gd_el hi]
  exact h _ (List.getElem_mem hi)
theorem a7_lw (i : Nat) : a7 (lwT i) := by
  by_cases h : i < 20
  · have key : ∀ i : Fin 20, ∀ c ∈ lwT i.val, c ≤ 127 := by decide +kernel
    exact key ⟨i, h⟩
  · unfold lwT
    rw [List.getD_eq_getElem?_getD, List.getElem?_eq_none (by have : lwL.length = 20 := rfl; omega), Option.getD_none]
    exact a7_n
theorem a7_num {v : Nat} (hv : v ≤ 99) : a7 (numT v) := a7_i (fun i hi => by
  have := (numT_d hv).2.2 i hi
  omega)
theorem a7_32 : a7 [32] := fun c hc => by
  have := List.mem_singleton.mp hc
  omega
theorem a7_59 : a7 [59] := fun c hc => by
  have := List.mem_singleton.mp hc
  omega
theorem a7_wd {W : List Nat} (h : wdK W) : a7 W := a7_i (fun i hi => by
  have := h.2.2 i hi
  unfold isL at this
  rw [decide_eq_true_eq] at this
  omega)
section ASC
variable {F L : Nat → List Nat} {NN : Nat}
theorem a7_pf (hF : ∀ i, i < NN → a7 (F i) ∧ a7 (L i)) {k : Nat} (hk : k < NN) : a7 (pfT F L k) := a7_a (a7_a (hF k hk).1 a7_32) (hF k hk).2
theorem a7_it (hF : ∀ i, i < NN → a7 (F i) ∧ a7 (L i)) {ns : Nat → Int} : ∀ k, (∀ i, i < k → ns i < (NN : Int)) → a7 (itT F L ns k)
  | 0, _ => a7_n
  | k + 1, h => by
    rw [itT]
    refine a7_a (a7_it hF k (fun i hi => h i (by omega))) (a7_a ?_ ?_)
    · split <;> exact a7_lw _
    · unfold itW
      split
      · exact a7_lw _
      · have := h k (by omega)
        exact a7_pf hF (k := (ns k).toNat) (by omega)
theorem a7_ph (hF : ∀ i, i < NN → a7 (F i) ∧ a7 (L i)) {p p' : tPh} {gap : Int} {w : List Nat} {ct : Nat} (h : prPh p gap NN F L w p' ct) : a7 w := by
  rcases h with ⟨hd, N, e, lf, ns, most, ⟨h0, h1, h2, h3⟩, rfl, rfl, rfl⟩ | ⟨c, km, ⟨k1, k2, hc, ho⟩, rfl, rfl⟩
  · refine a7_a (a7_a ?_ (by split <;> exact a7_lw _)) (a7_it hF most (fun i hi => (h3 i hi).2))
    rcases h0 with ⟨rfl, -⟩ | ⟨r, R, rc, h5, h6, rfl, -⟩
    · exact a7_lw _
    · have := (rwOK_rc h6).2.2.1
      exact a7_a (a7_lw _) (a7_num (by omega))
  · rcases ho with ⟨a, b, ha, hb, r, M, ee, i, j, -, -, -, -, -, -, -, rfl⟩ | ⟨a, ha, r, M, ee, i, j, lf, -, -, -, -, -, -, rfl⟩ | ⟨px, py, fr, h1, h2, -, rfl⟩
    · exact a7_a (a7_a (a7_a (a7_a (a7_a (a7_lw _) (a7_pf hF ha)) a7_32) (a7_pf hF hb)) a7_32) (a7_pf hF hc)
    · exact a7_a (a7_a (a7_a (a7_lw _) (a7_pf hF ha)) (by split <;> exact a7_lw _)) (a7_pf hF hc)
    · exact a7_a (a7_a (a7_a (a7_a (a7_a (a7_lw _) (a7_num h1)) a7_32) (a7_num h2)) a7_32) (a7_pf hF hc)
theorem a7_all (hF : ∀ i, i < NN → a7 (F i) ∧ a7 (L i)) {gap : Int} : ∀ (k : Nat) (p : tPh) (w : List Nat) (p' : tPh) (c : Nat), prAll gap NN F L k p w p' c → a7 w
  | 0, p, w, p', c, h => by rw [h.1]; exact a7_n
  | k + 1, p, w, p', c, h => by
    obtain ⟨w1, p1, c1, w2, c2, h1, h2, e, -⟩ := h
    rw [e]
    refine a7_a (a7_a (a7_all hF k p w1 p1 c1 h1) ?_) (a7_ph hF h2)
    split
    · exact a7_n
    · exact a7_59
end ASC
/-- the names' words are letters -/
theorem nmS_a7 {C : tCl} {A N : Nat} {F L : Nat → List Nat} (h : nmS C A N F L) : ∀ i, i < N → a7 (F i) ∧ a7 (L i) := fun i hi => ⟨a7_wd (h.2.2.2 i hi).1.1, a7_wd (h.2.2.2 i hi).1.2⟩
