/-! ===== the law's steps of crop, addPerson (printed by wip/gen/genst2.py) ===== -/
theorem rcPc_0 {a n : Nat} {P : Prop} [Decidable P] (e : (if a = 0 then (if P then 0 else n + 1) else a) = 0) : a = 0 := by
  by_cases c : a = 0
  · exact c
  · rw [if_neg c] at e; exact e
theorem rcA_0 {a n : Nat} (e : (if a = 0 then n else a) = 0) : a = 0 := by
  by_cases c : a = 0
  · exact c
  · rw [if_neg c] at e; exact e
theorem crX_eq {q p : tPh} (he : pheq q p) (x1 x2 : Int) : crL q x1 x2 = crL p x1 x2 ∧ crR q x1 x2 = crR p x1 x2 := by
  unfold crL crR
  rw [he.1 6 (by decide), he.1 4 (by decide), he.1 2 (by decide)]
  exact ⟨rfl, rfl⟩
theorem adX_eq {q p : tPh} (he : pheq q p) {x : Int} : adX p x = adX q x := by
  unfold adX
  rw [he.1 6 (by decide), he.1 4 (by decide), he.1 2 (by decide)]
theorem acR_3 (q : tPh) (x y : Int) : acR q x y ≤ 3 := by
  unfold acR
  (repeat' split) <;> omega
theorem acR_eq {q p : tPh} (he : pheq q p) {x y : Int} : acR q x y = acR p x y := by
  unfold acR
  rw [he.1 7 (by decide), he.1 4 (by decide), he.1 2 (by decide), he.1 5 (by decide), he.1 3 (by decide)]
theorem acR_0 {q : tPh} (hr : phR q) {x y : Int} (e : acR q x y = 0) : q.1 7 < 12 ∧ 0 ≤ adX q x ∧ adX q x ≤ 999 ∧ (0 ≤ q.1 3 + y ∧ q.1 3 + y ≤ 999) := by
  have s := phR_s hr
  unfold acR at e
  split at e
  · omega
  · split at e
    · rename_i h1 h2
      unfold adX
      refine ⟨by omega, ?_, ?_, by omega⟩ <;> split <;> omega
    · omega
theorem rel_rcA {C : tCl} {M : tMd} (hM : mdR M) (hr : relA C M) (f x y : Int) : (((if rcP C f = 0 then acR (cph C (cAp C f.toNat)) x y else rcP C f) : Nat) : Int) = rfA M f x y := by
  have er := rel_rcP hM hr f
  unfold rfA
  by_cases e : rcP C f = 0
  · obtain ⟨c1, c2, c3, c4⟩ := rel_rf hM hr e
    rw [if_pos e, if_pos c1, acR_eq c4]
  · rw [if_neg e, if_neg (by omega), er]
section STA
variable {z : Bool} {g : am_H} {C : tCl} {M : tMd} {xs : Nat → Int32} {L i : Nat}
end STA
