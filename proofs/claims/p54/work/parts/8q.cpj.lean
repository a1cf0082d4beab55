/-! ===== copyNames: refusals of both ===== -/
theorem rel_rcQ {C : tCl} {M : tMd} (hM : mdR M) (hr : relA C M) (f k : Int) : ((rcQ C f k : Nat) : Int) = rfQ M f k := by
  have er := rel_rcPP hM hr f k
  unfold rcQ rfQ
  by_cases e : rcP C f = 0
  · rw [if_pos e] at er ⊢
    by_cases e2 : rcP C k = 0
    · rw [if_pos e2]
      rw [if_pos (show rfPP M f k = 0 by rw [← er, e2]; rfl)]
      split <;> rfl
    · rw [if_neg e2, if_neg (by omega), er]
  · rw [if_neg e] at er ⊢
    rw [if_neg (by omega), er]
theorem rcQ_3 (C : tCl) (f k : Int) : rcQ C f k ≤ 3 := by
  have a := rcP_2 C f
  have b := rcP_2 C k
  unfold rcQ
  (repeat' split) <;> omega
/-- phCh goes on -/
theorem phCh_tr {M : tMd} {n : Nat} {q1 q2 : tPh} {S1 S2 : Nat → Int} (h1 : phCh M n q1 S1) (h2 : phCh (M.1, upC M.2 0 S1) n q2 S2) : phCh M n q2 S2 := by
  obtain ⟨a1, a2, a3, a4, a5, a6, a7⟩ := h2
  refine ⟨a1, a2, a3, a4, a5, a6, fun f hf hne j x1 x2 => ?_⟩
  have e := a7 f hf hne j x1 x2
  have e2 := h1.2.2.2.2.2.2 f hf hne j x1 x2
  rw [e]
  show upC M.2 0 S1 0 j = _
  rw [upC_e]; exact e2
