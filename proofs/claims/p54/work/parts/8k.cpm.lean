/-! ===== copyNames: the reference, what its placing leaves ===== -/
/-- all but the rows of placing stays -/
def mdK (M N : tMd) : Prop := (∀ k, k ≠ 34 → k ≠ 35 → N.1 k = M.1 k) ∧ ∀ c, c ≠ 11 → c ≠ 12 → c ≠ 13 → c ≠ 14 → N.2 c = M.2 c
theorem mdK_refl (M : tMd) : mdK M M := ⟨fun _ _ _ => rfl, fun _ _ _ _ _ => rfl⟩
theorem mdK_Q {M N : tMd} {rc : Int} {R L Q : Nat → Int} (h : mdK M N) : mdK M (mdQ N rc R L Q) :=
  ⟨fun k a b => by rw [← h.1 k a b]; exact up1_n a, fun c a b d e => by rw [← h.2 c a b d e]; show upC (upC (upC N.2 11 R) 12 L) 13 Q c = N.2 c; rw [upC_n d, upC_n b, upC_n a]⟩
theorem mdK_ph {M N : tMd} (h : mdK M N) (f : Nat) : mph N f = mph M f := by
  rw [mph_f, mph_f, h.2 0 (by decide) (by decide) (by decide) (by decide), h.2 8 (by decide) (by decide) (by decide) (by decide), h.2 9 (by decide) (by decide) (by decide) (by decide)]
/-- the state's numbers may change under it -/
theorem mdK_S {M N : tMd} {S : Nat → Int} (h : mdK M N) : mdK (M.1, upC M.2 0 S) (N.1, upC N.2 0 S) :=
  ⟨fun k a b => h.1 k a b, fun c a b d e => by
    show upC N.2 0 S c = upC M.2 0 S c
    by_cases c0 : c = 0
    · subst c0; rw [upC_e, upC_e]
    · rw [upC_n c0, upC_n c0]; exact h.2 c a b d e⟩
theorem lrOK_K {M N : tMd} {f : Nat} {rc : Int} {R L Q : Nat → Int} (h : mdK M N) (hl : lrOK N f rc R L Q) : lrOK M f rc R L Q := by
  unfold lrOK at hl ⊢
  rw [mdK_ph h f, h.1 24 (by decide) (by decide)] at hl
  exact hl
section CPM
variable {z : Bool} {h : am_H} {M N : tMd} {f : Nat}
theorem p120K (hK : mdK M N) (hf : f < 5) (hr : phR (mph M f)) (hG : 0 ≤ M.1 24 ∧ M.1 24 ≤ 99) : ∃ (rc : Int) (R L Q : Nat → Int), lrOK M f rc R L Q ∧ mdK M (mdQ N rc R L Q) ∧ ru_ev z 120 [.ref 1315, .int (wI f)] (mdPut h N) = some (.inl none, mdPut h (mdQ N rc R L Q)) := by
  obtain ⟨rc, R, L, Q, k1, k2⟩ := p120 (z := z) (h := h) (M := N) hf (by rw [mdK_ph hK f]; exact hr) (by rw [hK.1 24 (by decide) (by decide)]; exact hG)
  exact ⟨rc, R, L, Q, lrOK_K hK k1, mdK_Q hK, k2⟩
end CPM
