/-! ===== what is known once and for all, of these tables ===== -/
theorem tb_c_ok {j : Nat} (hg : tb_gh j = false) (hj : j < 423) : (tb_jk j && tb_ckj j) = true ∧ ((tb_Tf j).all (tb_ck j)) = true := by
  rcases Nat.lt_or_ge j 100 with h | h
  · exact tb_okA hg (Nat.zero_le _) h
  rcases Nat.lt_or_ge j 300 with h2 | h2
  · exact tb_okB hg h h2
  · exact tb_okC hg h2 hj
theorem tb_uw : (tb_cl.all fun q => (u_ws q.1 q.2.1 q.2.2).all (fun w => decide (w ∈ tb_W) && goodWord w)) = true := by decide +kernel
theorem tb_un : (tb_cl.all fun q => decide (∀ a, a < q.2.2 → ∀ b, b < q.2.2 → a ≠ b → (q.2.1 a).2.1 ≠ (q.2.1 b).2.1)) = true := by decide +kernel
theorem tb_ut : (tb_cl.all fun q => decide (∀ k, k < q.2.2 → parseFieldDescriptor (q.2.1 k).2.2.1 = some ((parseFieldDescriptor (q.2.1 k).2.2.1).getD .int))) = true := by decide +kernel
theorem tb_ud : ((List.range 15).all fun ci => match tb_cl[ci]? with | some q => decide (∀ j, j < q.2.2 → defaultValue ((parseFieldDescriptor (q.2.1 j).2.2.1).getD .int) = vp_V (tb_df.getD ci []) j) | none => true) = true := by decide +kernel
theorem tb_uf (τ : Nat → Nat) : ∀ ci, (tb_df.getD ci []).map (am_tv τ) = tb_df.getD ci [] := by
  intro ci
  match ci with
  | 0 => rfl
  | 1 => rfl
  | 2 => rfl
  | 3 => rfl
  | 4 => rfl
  | 5 => rfl
  | 6 => rfl
  | 7 => rfl
  | 8 => rfl
  | 9 => rfl
  | 10 => rfl
  | 11 => rfl
  | 12 => rfl
  | 13 => rfl
  | 14 => rfl
  | n + 15 => rfl
theorem tb_Jover {j : Nat} (hj : 423 ≤ j) : tb_J j = tb_j0 := by
  unfold tb_J tb_g
  have h1 : tb_J0.length = 22 := by decide +kernel
  by_cases h : j / 20 < 22
  · have h2 : j / 20 = 21 := by omega
    rw [h2]
    have h3 : (tb_J0.getD 21 []).length = 3 := by decide +kernel
    rw [List.getD_eq_getElem?_getD, List.getElem?_eq_none (by omega)]
    rfl
  · rw [List.getD_eq_getElem?_getD, List.getD_eq_getElem?_getD, List.getElem?_eq_none (l := tb_J0) (by omega)]
    rfl
theorem tb_rk0 : tb_j0.2.2.2.2.1 = 25 := by decide +kernel
theorem tb_rk1 : ((List.range 423).all fun j => decide ((tb_J j).2.2.2.2.1 ≤ 25)) = true := by decide +kernel
theorem tb_rk (j : Nat) : (tb_J j).2.2.2.2.1 ≤ 25 := by
  rcases Nat.lt_or_ge j 423 with h | h
  · exact of_decide_eq_true (List.all_eq_true.mp tb_rk1 j (List.mem_range.mpr h))
  · rw [tb_Jover h, tb_rk0]; exact Nat.le_refl _
theorem tb_tk_ok2 {z : Bool} (hjk : ∀ t, tb_gh t = false → t < 423 → tb_jk t = true) {j : Nat} {i : Instr} {x : Nat × Nat × Nat} {hs : List Nat} (h : am_kd i x = 2 → tb_tk j i x hs = true ∧ tb_gh x.1 = false) : am_tk (tb_PP z) tb_J tb_Tg j i x := by
  intro h2
  obtain ⟨h, hg⟩ := h h2
  simp only [tb_tk, Bool.and_eq_true, decide_eq_true_eq] at h
  obtain ⟨⟨⟨⟨g1, g0⟩, g2⟩, g3⟩, g4⟩ := h
  have g5 : x.1 < 423 := by
    rcases Nat.lt_or_ge x.1 423 with h | h
    · exact h
    · have e := tb_rk j
      rw [tb_Jover h, tb_rk0] at g1
      omega
  have k := hjk x.1 hg g5
  simp only [tb_jk, Bool.and_eq_true, decide_eq_true_eq] at k
  obtain ⟨⟨⟨k1, k2⟩, k3⟩, k4⟩ := k
  refine ⟨g1, rfl, k3, k1, k2, k4.trans g2, tb_in_ok g3, ?_⟩
  revert g4
  cases (tb_J x.1).2.2.2.2.2 with
  | nil => exact fun g4 => tb_in_ok g4
  | cons a b => exact fun g4 => tb_in_ok g4
theorem tb_cllen : tb_cl.length = 15 := rfl
theorem tb_gs {z : Bool} {τ : Nat → Nat} {bs : Nat × Nat} (hτ : ∀ a, bs.2 ≤ a → τ a = bs.1 + (a - bs.2)) (hinj : ∀ a b, 200 ≤ a → a < 206 → 200 ≤ b → b < 206 → τ a = τ b → a = b) : am_Gs τ bs tb_cl tb_Tg (tb_PP z) tb_J (tb_F z) := by
  have hjk : ∀ t, tb_gh t = false → t < 423 → tb_jk t = true := fun t hg ht => ((Bool.and_eq_true _ _).mp (tb_c_ok hg ht).1).1
  have hckj : ∀ t, tb_gh t = false → t < 423 → tb_ckj t = true := fun t hg ht => ((Bool.and_eq_true _ _).mp (tb_c_ok hg ht).1).2
  refine ⟨hτ, hinj, fun w hw => (List.mem_filter.mp hw).2, ?_, ⟨⟨_, _, rfl, rfl, rfl, rfl⟩, rfl, tb_F14, rfl, rfl, rfl, rfl, rfl, rfl, rfl, rfl, rfl⟩, ?_, ?_, ?_, ?_⟩
  · intro ci q hq
    have hm : q ∈ tb_cl := List.mem_of_getElem? hq
    have hci : ci < 15 := by
      have := (List.getElem?_eq_some_iff.mp hq).1
      rw [tb_cllen] at this
      exact this
    refine ⟨fun w hw => ?_, fun k => (parseFieldDescriptor (q.2.1 k).2.2.1).getD .int, ?_, ?_, ?_⟩
    · have h1 := List.all_eq_true.mp (List.all_eq_true.mp tb_uw q hm) w hw
      simp only [Bool.and_eq_true, decide_eq_true_eq] at h1
      exact List.mem_filter.mpr h1
    · exact of_decide_eq_true (List.all_eq_true.mp tb_ut q hm)
    · exact of_decide_eq_true (List.all_eq_true.mp tb_un q hm)
    · intro j hj
      have e50 : (tb_PP z).2.2.2 ci = tb_df.getD ci [] := if_neg (by omega)
      rw [e50, tb_uf]
      have h1 := List.all_eq_true.mp tb_ud ci (List.mem_range.mpr hci)
      rw [hq] at h1
      exact of_decide_eq_true h1 j hj
  · intro j pc i len x hf
    have hg : tb_gh j = false := by
      cases hh : tb_gh j with
      | false => rfl
      | true =>
        have e : (tb_PP z).1 j pc = none := if_pos hh
        rw [e] at hf; cases hf
    have e1 : (tb_PP z).1 j pc = (tb_P z).1 j pc := if_neg (by rw [hg]; decide)
    rw [e1] at hf
    have hgx : am_kd i x = 2 → tb_gh x.1 = false := fun hk => tb_gk_x hg hf hk
    by_cases hsp : j = 34 ∧ pc = 2
    · obtain ⟨rfl, rfl⟩ := hsp
      have hc := hckj 34 hg (by decide)
      simp only [tb_ckj, Bool.and_eq_true, decide_eq_true_eq] at hc
      have hw : Cond.fieldLink (tb_J 34).1.cls 1053 "jdk/internal/util/Preconditions" "SIOOBE_FORMATTER" "Ljava/util/function/BiFunction;" ∈ tb_Tg := by
        refine List.mem_filter.mpr ⟨?_, by decide +kernel⟩
        decide +kernel
      have hd : decode (tb_J 34).2.1 2 = .ok (.getstatic 1053, 3) := by decide +kernel
      cases z
      · have e : (tb_P false).1 34 2 = some (.getstatic 1053, 3, 0, 100, 0) := by decide +kernel
        rw [e] at hf
        cases hf
        refine ⟨hd, Or.inr rfl, rfl, hc.1, ⟨_, _, _, ?_, hw⟩, fun h => absurd h (by decide), tb_hk_ok _ _ _ hc.2⟩
        exact List.mem_append_right _ (List.mem_singleton.mpr rfl)
      · have e : (tb_P true).1 34 2 = some (.getstatic 1053, 3, 2, 100, 0) := by decide +kernel
        rw [e] at hf
        cases hf
        refine ⟨hd, Or.inr rfl, rfl, hc.1, ⟨_, _, _, ?_, hw⟩, fun h => absurd h (by decide), tb_hk_ok _ _ _ hc.2⟩
        exact List.mem_append_right _ (List.mem_singleton.mpr rfl)
    · have hf2 : (tb_fd (tb_Tf j) pc).map (fun e => e.2.1) = some (i, len, x) := by
        have := hf
        simp only [tb_P, if_neg hsp] at this
        exact this
      obtain ⟨e, he, he2⟩ := Option.map_eq_some_iff.mp hf2
      obtain ⟨hm, rfl⟩ := tb_fd_mem he
      have hj : j < 423 := by
        rcases Nat.lt_or_ge j 423 with h | h
        · exact h
        · rw [tb_over h] at hm; exact absurd hm List.not_mem_nil
      have hc := hckj j hg hj
      simp only [tb_ckj, Bool.and_eq_true, decide_eq_true_eq] at hc
      have h1 := List.all_eq_true.mp (tb_c_ok hg hj).2 e hm
      simp only [tb_ck, Bool.and_eq_true, decide_eq_true_eq, he2] at h1
      obtain ⟨⟨⟨⟨g1, g2⟩, g3⟩, g4⟩, g5⟩ := h1
      refine ⟨g1, g2, g3, hc.1, tb_lk_ok tb_th_ok g4, ?_, tb_hk_ok _ _ _ hc.2⟩
      refine tb_tk_ok2 (hs := e.2.2) hjk (fun h2 => ⟨?_, hgx h2⟩)
      rw [if_pos h2] at g5
      exact g5
  · intro E E' h1 h2 h3
    have : ∀ E : Fin 3, ∀ E' : Fin 3, E ≠ E' → (am_xn E, am_xn E') ∈ tb_nc := by decide +kernel
    exact this ⟨E, h1⟩ ⟨E', h2⟩ (fun h => h3 (Fin.mk.inj h))
  · intro E h1
    have : ∀ E : Fin 3, (am_xn E, am_xn E) ∈ tb_ca := by decide +kernel
    exact this ⟨E, h1⟩
  · decide +kernel
