/-! ===== the law's steps of flip, uncrop (printed by wip/gen/genst2.py) ===== -/
theorem fl_ch {M : tMd} {q : tPh} {n : Nat} (hM : mdR M) (hg : rgI M) (hN : phN (mph M n) (M.1 20)) (hn : n < 5) (hz : ∀ c, 4 ≤ c → q.2 c = fun _ => 0) (hr : phR q) (he : pheq q (mph M n)) : phCh M n (up1 q.1 6 (1 - M.2 0 (54 * n + 4)), q.2) (up1 (M.2 0) (54 * n + 4) (1 - M.2 0 (54 * n + 4))) := by
  have h6 := (hM.2.2.2.2.2.2 n hn)
  have s6 : 0 ≤ M.2 0 (54 * n + 4) ∧ M.2 0 (54 * n + 4) ≤ 1 := (phR_s h6).2.2.2.2.2.2.1
  refine ⟨hz, ⟨fun k => ?_, ?_, hr.2.2.1, hr.2.2.2.1, hr.2.2.2.2.1, hr.2.2.2.2.2⟩, fun j => ?_, ?_, ⟨fun k hk => ?_, fun c i hc hi => ?_⟩, ?_, fun f hf hne j h1 h2 => ?_⟩
  · have := hr.1 k
    show 0 ≤ up1 q.1 6 (1 - M.2 0 (54 * n + 4)) k ∧ up1 q.1 6 (1 - M.2 0 (54 * n + 4)) k ≤ 999
    unfold up1
    split <;> omega
  · show up1 q.1 6 (1 - M.2 0 (54 * n + 4)) 6 ≤ 1
    rw [up1_e]; omega
  · have := hg.1 j
    unfold up1
    split <;> omega
  · exact srR_up (srR_of hM) (fun f hf => ⟨fun c => by omega, fun c => by omega, fun i hi => ⟨fun c => by omega, fun c => by omega⟩⟩)
  · have hk8 : k = 0 ∨ k = 1 ∨ k = 2 ∨ k = 3 ∨ k = 4 ∨ k = 5 ∨ k = 6 ∨ k = 7 := by omega
    have e := he.1 k hk
    rw [mph_f] at e
    unfold msf at e ⊢
    rcases hk8 with rfl | rfl | rfl | rfl | rfl | rfl | rfl | rfl <;> simp [up1] at e ⊢ <;> exact e
  · have e := he.2 c i hc hi
    rw [mph_f] at e
    unfold msf at e ⊢
    dsimp only at e ⊢
    rw [e]
    have f1 : ∀ x, 54 * n + 6 ≤ x → up1 (M.2 0) (54 * n + 4) (1 - M.2 0 (54 * n + 4)) x = M.2 0 x := fun x hx => up1_n (by omega)
    rw [f1 _ (by omega), f1 _ (by omega)]
  · refine phN_1 (q := mph M n) ?_ (fun i hi => ?_) (phN_f (fun j hj => up1_n (by omega)) hN.2.2) hN
    · show up1 (M.2 0) (54 * n + 4) (1 - M.2 0 (54 * n + 4)) (54 * n + 5) = M.2 0 (54 * n + 5)
      exact up1_n (by omega)
    · rw [mph_f]
      unfold msf
      dsimp only
      rw [up1_n (show 54 * n + 6 + 4 * i + 3 ≠ 54 * n + 4 by omega)]
  · exact up1_n (by omega)
section ST8
variable {z : Bool} {g : am_H} {C : tCl} {M : tMd} {xs : Nat → Int32} {L i : Nat}
end ST8
