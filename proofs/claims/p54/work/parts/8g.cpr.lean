/-! ===== copyNames: a row, the class ===== -/
def gvQ (q : tPh) (k : Nat) (nm : Int) : tPh := (q.1, upC q.2 3 (am_up (gvF (q.2 3) nm (q.1 7).toNat) k nm))
/-- the gifts of a row's first places -/
def cpF (D N : Nat → Int) : Nat → tPh × Nat → tPh × Nat
  | 0, s => s
  | j + 1, s => if N j = -1 then cpF D N j s else (gvQ (cpF D N j s).1 (D j).toNat (N j), (cpF D N j s).2 + 1)
theorem gvQ_R {q : tPh} {k : Nat} {nm : Int} (hr : phR q) (g : -1 ≤ nm ∧ nm ≤ 19) : phR (gvQ q k nm) := by
  refine ⟨hr.1, hr.2.1, hr.2.2.1, fun c i => ?_, fun i => ?_, fun i => ?_⟩
  · have a1 := hr.2.2.2.1 c i
    show -1 ≤ upC q.2 3 (am_up (gvF (q.2 3) nm (q.1 7).toNat) k nm) c i ∧ upC q.2 3 (am_up (gvF (q.2 3) nm (q.1 7).toNat) k nm) c i ≤ 999
    by_cases e : c = 3
    · subst e
      rw [upC_e]
      unfold am_up gvF
      split
      · omega
      · split <;> omega
    · rw [upC_n e]; exact a1
  · show 0 ≤ upC q.2 3 (am_up (gvF (q.2 3) nm (q.1 7).toNat) k nm) 2 i ∧ upC q.2 3 (am_up (gvF (q.2 3) nm (q.1 7).toNat) k nm) 2 i ≤ 1
    rw [upC_n (by decide)]; exact hr.2.2.2.2.1 i
  · have a1 := hr.2.2.2.2.2 i
    show upC q.2 3 (am_up (gvF (q.2 3) nm (q.1 7).toNat) k nm) 3 i ≤ 19
    rw [upC_e]
    unfold am_up gvF
    split
    · omega
    · split <;> omega
theorem gvQ_z {q : tPh} {k : Nat} {nm : Int} (hz : ∀ c, 4 ≤ c → q.2 c = fun _ => 0) : ∀ c, 4 ≤ c → (gvQ q k nm).2 c = fun _ => 0 := fun c hc => by
  show upC q.2 3 (am_up (gvF (q.2 3) nm (q.1 7).toNat) k nm) c = _
  rw [upC_n (by omega)]; exact hz c hc
theorem cpF_R {D N : Nat → Int} {s : tPh × Nat} (hr : phR s.1) (hz : ∀ c, 4 ≤ c → s.1.2 c = fun _ => 0) : ∀ n, (∀ j, j < n → -1 ≤ N j ∧ N j ≤ 19) → phR (cpF D N n s).1 ∧ (∀ c, 4 ≤ c → (cpF D N n s).1.2 c = fun _ => 0) ∧ (cpF D N n s).1.1 = s.1.1 ∧ s.2 ≤ (cpF D N n s).2 ∧ (cpF D N n s).2 ≤ s.2 + n
  | 0, _ => ⟨hr, hz, rfl, Nat.le_refl _, Nat.le_refl _⟩
  | n + 1, h => by
    obtain ⟨a1, a2, a3, a4, a5⟩ := cpF_R (D := D) hr hz n (fun j hj => h j (by omega))
    have hn := h n (by omega)
    unfold cpF
    split
    · exact ⟨a1, a2, a3, a4, by omega⟩
    · exact ⟨gvQ_R a1 hn, gvQ_z a2, a3, by show s.2 ≤ (cpF D N n s).2 + 1; omega, by show (cpF D N n s).2 + 1 ≤ s.2 + (n + 1); omega⟩
