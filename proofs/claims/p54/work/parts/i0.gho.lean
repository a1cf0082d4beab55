/-! ===== ghosts: what isn't the program's is never called from what is ===== -/
theorem tb_over {j : Nat} (hj : 423 ≤ j) : tb_Tf j = [] := by
  unfold tb_Tf tb_g
  have h1 : tb_T.length = 22 := by decide +kernel
  by_cases h : j / 20 < 22
  · have h2 : j / 20 = 21 := by omega
    rw [h2]
    have h3 : (tb_T.getD 21 []).length = 3 := by decide +kernel
    rw [List.getD_eq_getElem?_getD, List.getElem?_eq_none (by omega)]
    rfl
  · rw [List.getD_eq_getElem?_getD, List.getD_eq_getElem?_getD, List.getElem?_eq_none (l := tb_T) (by omega)]
    rfl
def tb_gk (j : Nat) : Bool := tb_gh j || (tb_Tf j).all (fun e => if am_kd e.2.1.1 e.2.1.2.2 = 2 then !tb_gh e.2.1.2.2.1 else true)
theorem tb_gk_k : ((List.range 423).all tb_gk) = true := by decide +kernel
theorem tb_gk_ok {j : Nat} (hg : tb_gh j = false) {e : tb_E} (he : e ∈ tb_Tf j) (hk : am_kd e.2.1.1 e.2.1.2.2 = 2) : tb_gh e.2.1.2.2.1 = false := by
  have hj : j < 423 := by
    rcases Nat.lt_or_ge j 423 with h | h
    · exact h
    · rw [tb_over h] at he; exact absurd he List.not_mem_nil
  have h := List.all_eq_true.mp tb_gk_k j (List.mem_range.mpr hj)
  unfold tb_gk at h
  rw [hg, Bool.false_or] at h
  have h2 := List.all_eq_true.mp h e he
  rw [if_pos hk] at h2
  cases hh : tb_gh e.2.1.2.2.1 with
  | false => rfl
  | true => rw [hh] at h2; cases h2
theorem tb_gk_x {z : Bool} {j pc : Nat} (hg : tb_gh j = false) {i : Instr} {len : Nat} {x : Nat × Nat × Nat} (hf : (tb_P z).1 j pc = some (i, len, x)) (hk : am_kd i x = 2) : tb_gh x.1 = false := by
  by_cases hsp : j = 34 ∧ pc = 2
  · have e : (tb_P z).1 j pc = some (.getstatic 1053, 3, (if z then 2 else 0), 100, 0) := if_pos hsp
    rw [e] at hf
    cases hf
    cases z <;> exact absurd hk (by decide)
  · have e : (tb_P z).1 j pc = (tb_fd (tb_Tf j) pc).map (fun e => e.2.1) := if_neg hsp
    rw [e] at hf
    obtain ⟨e, he, he2⟩ := Option.map_eq_some_iff.mp hf
    obtain ⟨hm, -⟩ := tb_fd_mem he
    have := tb_gk_ok hg hm (by rw [he2]; exact hk)
    rw [he2] at this
    exact this
theorem gh_run {z : Bool} : ∀ (n j pc : Nat) (L : am_L) (st : List Value) (h : am_H) (o : am_O × am_H), tb_gh j = false → am_run (tb_P z) n j pc L st h = some o → am_run (tb_PP z) n j pc L st h = some o := by
  intro n
  induction n with
  | zero => intro j pc L st h o _ hs; cases hs
  | succ n ih =>
    intro j pc L st h o hg hs
    have e1 : (tb_PP z).1 j pc = (tb_P z).1 j pc := if_neg (by rw [hg]; decide)
    obtain ⟨i, len, x, hf, hc⟩ := am_st_elim (show am_st (tb_P z) (am_run (tb_P z) n j) (fun t ls h => am_run (tb_P z) n t 0 ls [] h) j pc L st h = some o from hs)
    show am_st (tb_PP z) (am_run (tb_PP z) n j) (fun t ls h => am_run (tb_PP z) n t 0 ls [] h) j pc L st h = some o
    rw [am_st, e1, hf]
    dsimp only
    rcases hc with ⟨hk, pc', ls', st', hp, h1⟩ | ⟨hk, pc', st', h', hp, h1⟩ | ⟨hk, hst, h1⟩ | ⟨hk, v, hr, he⟩ | ⟨hk, hst, he⟩
    · rw [hk]
      try dsimp only
      rw [hp]
      exact ih _ _ _ _ _ _ hg h1
    · rw [hk]
      try dsimp only
      have hp' : am_he (tb_PP z).2.2.2 pc i x st h = some (pc', st', h') := hp
      rw [hp']
      exact ih _ _ _ _ _ _ hg h1
    · rw [hk]
      try dsimp only
      rw [if_pos hst]
      have hx := tb_gk_x hg hf hk
      show am_be (tb_P z) (am_run (tb_PP z) n j) j pc x.2.2 L (st.drop x.2.1) (am_ca (tb_PP z) (fun t ls h => am_run (tb_PP z) n t 0 ls [] h) x.1 (st.take x.2.1).reverse h) = some o
      refine am_be_mono (fun pc ls st h o hh => ih _ _ _ _ _ _ hg hh) (fun o hh => ?_) h1
      unfold am_ca at hh ⊢
      have hh2 : (if am_rc h ((tb_P z).2.1 x.1).2 (st.take x.2.1).reverse = true ∧ ((st.take x.2.1).reverse.flatMap am_sl).length ≤ ((tb_P z).2.1 x.1).1 then am_run (tb_P z) n x.1 0 (am_en ((tb_P z).2.1 x.1).1 (st.take x.2.1).reverse) [] h else none) = some o := hh
      show (if am_rc h ((tb_P z).2.1 x.1).2 (st.take x.2.1).reverse = true ∧ ((st.take x.2.1).reverse.flatMap am_sl).length ≤ ((tb_P z).2.1 x.1).1 then am_run (tb_PP z) n x.1 0 (am_en ((tb_P z).2.1 x.1).1 (st.take x.2.1).reverse) [] h else none) = some o
      by_cases c : am_rc h ((tb_P z).2.1 x.1).2 (st.take x.2.1).reverse = true ∧ ((st.take x.2.1).reverse.flatMap am_sl).length ≤ ((tb_P z).2.1 x.1).1
      · rw [if_pos c] at hh2 ⊢
        exact ih _ _ _ _ _ _ hx hh2
      · rw [if_neg c] at hh2
        cases hh2
    · rw [hk]
      try dsimp only
      rw [hr, he]
      rfl
    · rw [hk]
      try dsimp only
      rw [if_pos hst, he]
      try rfl
