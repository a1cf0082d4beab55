/-! ===== copyNames: pictures and a photo that changes do not touch each other ===== -/
theorem pi_ph_sw {C : tCl} {a P : Nat} {q : tPh} {p : tPi} (hfar : a + 4 < P ∨ P + 10 < a) : phP (piPut C P p) a q = piPut (phP C a q) P p := by
  refine Prod.ext (funext fun b => ?_) (Prod.ext (funext fun b => ?_) rfl)
  · show (if b = a then q.1 else (piPut C P p).1 b) = (piPut (phP C a q) P p).1 b
    by_cases e : b = a
    · rw [if_pos e, piPut_1 (by omega), e]
      exact (if_pos rfl).symm
    · rw [if_neg e]
      by_cases e2 : b = P
      · subst e2
        show (if b = b then p.1 else C.1 b) = (if b = b then p.1 else (phP C a q).1 b)
        rw [if_pos rfl, if_pos rfl]
      · rw [piPut_1 e2, piPut_1 e2]
        exact (if_neg e).symm
  · show (if a + 1 ≤ b ∧ b ≤ a + 4 then q.2 (b - (a + 1)) else (piPut C P p).2.1 b) = (piPut (phP C a q) P p).2.1 b
    by_cases e : a + 1 ≤ b ∧ b ≤ a + 4
    · rw [if_pos e, piPut_2 (by omega)]
      exact (if_pos e).symm
    · rw [if_neg e]
      by_cases e2 : P + 1 ≤ b ∧ b ≤ P + 10
      · show (if P + 1 ≤ b ∧ b ≤ P + 10 then p.2 (b - (P + 1)) else C.2.1 b) = (if P + 1 ≤ b ∧ b ≤ P + 10 then p.2 (b - (P + 1)) else (phP C a q).2.1 b)
        rw [if_pos e2, if_pos e2]
      · rw [piPut_2 (by omega), piPut_2 (by omega)]
        exact (if_neg e).symm
section CMT
variable {z : Bool} {h : am_H} {C : tCl} {a : Nat} {q : tPh}
/-- a name set in a photo as a value -/
theorem k101 (ha : isPh a) (hz : ∀ c, 4 ≤ c → q.2 c = fun _ => 0) (hr : phR q) {k : Nat} (hk : (k : Int) < q.1 7) {nm : Int} (g : -1 ≤ nm ∧ nm ≤ 19) : ru_ev z 101 [.ref a, .int (wI k), .int (wI nm)] (clPut h (phP C a q)) = some (.inl none, clPut h (phP C a (q.1, upC q.2 3 (am_up (gvF (q.2 3) nm (q.1 7).toNat) k nm)))) := by
  have s := phR_s hr
  have m1 := m101 (z := z) (ph_at (h := h) (C := C) ha hz) hr (p := (k : Int)) (by omega) (nm := nm) g
  rw [ph_set3 ha] at m1
  exact m1
end CMT
