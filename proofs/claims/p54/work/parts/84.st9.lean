/-! ===== the law's steps of retouch, giveName (printed by wip/gen/genst2.py) ===== -/
theorem rcG_2 (C : tCl) (f k nm : Int) : rcG C f k nm ≤ 2 := by
  have a := rcK_2 C f k
  have b := rcN_2 C nm
  unfold rcG
  split
  · split <;> omega
  · omega
theorem rcG_0 {C : tCl} {f k nm : Int} (h : rcG C f k nm = 0) : rcK C f k = 0 ∧ (nm = -1 ∨ 0 ≤ nm ∧ nm < cNm C) := by
  unfold rcG at h
  split at h
  · rename_i e
    refine ⟨e, ?_⟩
    split at h
    · exact Or.inl ‹_›
    · unfold rcN at h
      split at h
      · omega
      · split at h
        · exact Or.inr ‹_›
        · omega
  · exact absurd h ‹_›
theorem rel_rcGv {C : tCl} {M : tMd} (hM : mdR M) (hr : relA C M) (f k nm : Int) : ((rcG C f k nm : Nat) : Int) = rfGv M f k nm := by
  have a := rel_rcK hM hr f k
  unfold rcG rfGv
  by_cases e : rcK C f k = 0
  · have e1 : rfK M f k = 0 := by rw [← a, e]; rfl
    rw [if_pos e, if_pos e1]
    by_cases c : nm = -1
    · rw [if_pos c, if_pos c]; rfl
    · rw [if_neg c, if_neg c]
      rw [rel_rcN1 hM hr nm]
      unfold rfN1
      rw [if_neg (by rw [rf_has hM (rfK_0 e1).1]; decide)]
  · have e1 : ¬ rfK M f k = 0 := by omega
    rw [if_neg e, if_neg e1, a]
section ST9
variable {z : Bool} {g : am_H} {C : tCl} {M : tMd} {xs : Nat → Int32} {L i : Nat}
end ST9
