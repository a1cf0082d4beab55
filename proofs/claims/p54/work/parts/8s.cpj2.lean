/-! ===== copyNames: a row's gifts, all rows' gifts: class against reference ===== -/
theorem cp_row {M : tMd} {n mf : Nat} {qc qk : tPh} {p1 p2 : tPi} {D E : Nat → Int} {NK : Nat → Int} {r ln : Nat} (hM : mdR M) (hg : rgI M) (hn : n < 5) (hmf : qc.1 7 = (mf : Int))
    (hin : ∀ j, j < ln → ∃ x y : Nat, D j = (x : Int) ∧ plC p1 r j = (x : Int) ∧ x < mf ∧ E j = (y : Int) ∧ NK y = nmC p2 qk r j ∧ NK y < M.1 20 ∧ -1 ≤ NK y)
    (hout : ∀ j, ln ≤ j → j < 12 → D j = -1 ∨ E j = -1) {q : tPh} {S : Nat → Int} {b : Nat} (h : cpI M n qc q S) : ∀ j, j ≤ 12 → cpI M n qc (cpF (plC p1 r) (nmC p2 qk r) (if j ≤ ln then j else ln) (q, 0)).1 (cpM (M.2 8) (M.2 9) n mf D E NK j (S, b)).1 ∧ (cpM (M.2 8) (M.2 9) n mf D E NK j (S, b)).2 = b + (cpF (plC p1 r) (nmC p2 qk r) (if j ≤ ln then j else ln) (q, 0)).2 := by
  intro j
  induction j with
  | zero =>
    intro _
    rw [if_pos (Nat.zero_le _)]
    exact ⟨h, rfl⟩
  | succ j ih =>
    intro hj
    obtain ⟨i1, i2⟩ := ih (by omega)
    by_cases c : j < ln
    · rw [if_pos (by omega)] at i1 i2
      rw [if_pos (by omega)]
      obtain ⟨x, y, d1, d2, d3, d4, d5, d6, d7⟩ := hin j c
      have eM : cpM (M.2 8) (M.2 9) n mf D E NK (j + 1) (S, b) = if E j = -1 ∨ D j = -1 ∨ NK (E j).toNat = -1 then cpM (M.2 8) (M.2 9) n mf D E NK j (S, b) else (gvS (cpM (M.2 8) (M.2 9) n mf D E NK j (S, b)).1 n (D j).toNat (hofF ((msf (cpM (M.2 8) (M.2 9) n mf D E NK j (S, b)).1 (M.2 8) (M.2 9) n).2 3) (NK (E j).toNat) mf 0) (NK (E j).toNat), (cpM (M.2 8) (M.2 9) n mf D E NK j (S, b)).2 + 1) := rfl
      have eF : cpF (plC p1 r) (nmC p2 qk r) (j + 1) (q, 0) = if nmC p2 qk r j = -1 then cpF (plC p1 r) (nmC p2 qk r) j (q, 0) else (gvQ (cpF (plC p1 r) (nmC p2 qk r) j (q, 0)).1 (plC p1 r j).toNat (nmC p2 qk r j), (cpF (plC p1 r) (nmC p2 qk r) j (q, 0)).2 + 1) := rfl
      rw [eM, eF, d1, d2, d4, Int.toNat_natCast, Int.toNat_natCast, d5]
      by_cases c2 : nmC p2 qk r j = -1
      · rw [if_pos (Or.inr (Or.inr c2)), if_pos c2]
        exact ⟨i1, i2⟩
      · rw [if_neg c2, if_neg (show ¬ (((y : Nat) : Int) = -1 ∨ ((x : Nat) : Int) = -1 ∨ nmC p2 qk r j = -1) by omega)]
        refine ⟨cpI_s hM hg hn i1 (by omega) (by omega) hmf, ?_⟩
        show _ + 1 = b + (_ + 1)
        omega
    · have eM : cpM (M.2 8) (M.2 9) n mf D E NK (j + 1) (S, b) = cpM (M.2 8) (M.2 9) n mf D E NK j (S, b) := if_pos (by
        rcases hout j (by omega) (by omega) with h9 | h9
        · exact Or.inr (Or.inl h9)
        · exact Or.inl h9)
      have e1 : (if j + 1 ≤ ln then j + 1 else ln) = (if j ≤ ln then j else ln) := by
        rw [if_neg (by omega)]; split <;> omega
      rw [eM, e1]
      exact ⟨i1, i2⟩
theorem cp_rows {M : tMd} {n mf m : Nat} {qc qk : tPh} {p1 p2 : tPi} {D E : Nat → Nat → Int} {NK : Nat → Int} (hM : mdR M) (hg : rgI M) (hn : n < 5) (hmf : qc.1 7 = (mf : Int)) (hl : ∀ r, r < m → cpN p1 p2 r ≤ 12)
    (hin : ∀ r j, r < m → j < cpN p1 p2 r → ∃ x y : Nat, D r j = (x : Int) ∧ plC p1 r j = (x : Int) ∧ x < mf ∧ E r j = (y : Int) ∧ NK y = nmC p2 qk r j ∧ NK y < M.1 20 ∧ -1 ≤ NK y)
    (hout : ∀ r j, r < 12 → j < 12 → ¬ (r < m ∧ j < cpN p1 p2 r) → D r j = -1 ∨ E r j = -1) (h : cpI M n qc qc (M.2 0)) : ∀ r, r ≤ 12 → cpI M n qc (cpG p1 p2 qk (if r ≤ m then r else m) (qc, 0)).1 (cpW (M.2 8) (M.2 9) n mf D E NK r (M.2 0, 0)).1 ∧ (cpW (M.2 8) (M.2 9) n mf D E NK r (M.2 0, 0)).2 = (cpG p1 p2 qk (if r ≤ m then r else m) (qc, 0)).2 := by
  intro r
  induction r with
  | zero =>
    intro _
    rw [if_pos (Nat.zero_le _)]
    exact ⟨h, rfl⟩
  | succ r ih =>
    intro hr
    obtain ⟨i1, i2⟩ := ih (by omega)
    have eW : cpW (M.2 8) (M.2 9) n mf D E NK (r + 1) (M.2 0, 0) = cpM (M.2 8) (M.2 9) n mf (D r) (E r) NK 12 ((cpW (M.2 8) (M.2 9) n mf D E NK r (M.2 0, 0)).1, (cpW (M.2 8) (M.2 9) n mf D E NK r (M.2 0, 0)).2) := rfl
    by_cases c : r < m
    · rw [if_pos (by omega)] at i1 i2
      rw [if_pos (by omega)]
      have hl2 := hl r c
      obtain ⟨k1, k2⟩ := cp_row (r := r) (ln := cpN p1 p2 r) (qk := qk) (p2 := p2) (NK := NK) (b := (cpW (M.2 8) (M.2 9) n mf D E NK r (M.2 0, 0)).2) hM hg hn hmf (fun j hj => hin r j c hj) (fun j h1 h2 => hout r j (by omega) h2 (by omega)) i1 12 (Nat.le_refl _)
      have e1 : (if 12 ≤ cpN p1 p2 r then 12 else cpN p1 p2 r) = cpN p1 p2 r := by split <;> omega
      rw [e1] at k1 k2
      rw [eW]
      refine ⟨k1, ?_⟩
      rw [k2, i2]; rfl
    · have e1 : (if r + 1 ≤ m then r + 1 else m) = (if r ≤ m then r else m) := by
        rw [if_neg (by omega)]; split <;> omega
      obtain ⟨k1, k2⟩ := cp_row (r := r) (ln := 0) (qk := qk) (p1 := p1) (p2 := p2) (NK := NK) (b := (cpW (M.2 8) (M.2 9) n mf D E NK r (M.2 0, 0)).2) hM hg hn hmf (fun j hj => absurd hj (Nat.not_lt_zero _)) (fun j h1 h2 => hout r j (by omega) h2 (by omega)) i1 12 (Nat.le_refl _)
      rw [if_neg (by omega)] at k1 k2
      rw [eW, e1]
      exact ⟨k1, by rw [k2, i2]; rfl⟩
