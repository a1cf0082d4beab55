/-! ===== mostSeen: ranks among names; the reference ===== -/
theorem mn_ex {P : Nat → Bool} {key : Nat → Int} : ∀ N, 0 < cnB P N → ∃ m, m < N ∧ P m = true ∧ ∀ o, o < N → P o = true → key m ≤ key o
  | 0, h => absurd h (Nat.lt_irrefl _)
  | N + 1, h => by
    by_cases c : 0 < cnB P N
    · obtain ⟨m, m1, m2, m3⟩ := mn_ex (key := key) N c
      by_cases e : P N = true ∧ key N < key m
      · refine ⟨N, Nat.lt_succ_self _, e.1, fun o ho hP => ?_⟩
        by_cases e2 : o = N
        · rw [e2]; exact Int.le_refl _
        · have := m3 o (by omega) hP; omega
      · refine ⟨m, by omega, m2, fun o ho hP => ?_⟩
        by_cases e2 : o = N
        · rw [e2] at hP ⊢
          have : ¬ key N < key m := fun h9 => e ⟨hP, h9⟩
          omega
        · exact m3 o (by omega) hP
    · have h1 : cnB P (N + 1) = cnB P N + (if P N = true then 1 else 0) := rfl
      have hP : P N = true := by
        by_cases e : P N = true
        · exact e
        · rw [if_neg e] at h1; omega
      refine ⟨N, Nat.lt_succ_self _, hP, fun o ho hPo => ?_⟩
      by_cases e2 : o = N
      · rw [e2]; exact Int.le_refl _
      · have := cnB_pos N (show o < N by omega) hPo
        omega
def rkG (key : Nat → Int) (N n : Nat) : Nat := cnB (fun o => decide (key o < key n)) N
theorem rkG_all {N : Nat} : cnB (fun _ => true) N = N := by
  induction N with
  | zero => rfl
  | succ N ih => show cnB (fun _ => true) N + 1 = N + 1; rw [ih]
theorem rkG_ex {key : Nat → Int} {N : Nat} (hk : ∀ a b, a < N → b < N → key a = key b → a = b) : ∀ r, r < N → ∃ n, n < N ∧ rkG key N n = r
  | 0, hr => by
    obtain ⟨m, m1, -, m3⟩ := mn_ex (P := fun _ => true) (key := key) N (by rw [rkG_all]; exact hr)
    refine ⟨m, m1, cnB_none N fun o ho => ?_⟩
    have := m3 o ho rfl
    simp only [decide_eq_true_eq]
    omega
  | r + 1, hr => by
    obtain ⟨n, n1, n2⟩ := rkG_ex hk r (by omega)
    have hpos : 0 < cnB (fun o => decide (key n < key o)) N := by
      by_cases c : 0 < cnB (fun o => decide (key n < key o)) N
      · exact c
      · exfalso
        have hno : ∀ o, o < N → ¬ key n < key o := fun o ho h9 => c (cnB_pos N ho (decide_eq_true h9))
        have h1 := cnB_one (P := fun _ => true) (Q := fun o => decide (key o < key n)) (k := n) N n1 rfl (by simp) (fun o ho hne => by
          have := hno o ho
          have h3 : ¬ key o = key n := fun h9 => hne (hk _ _ ho n1 h9)
          exact (decide_eq_true (by omega)).symm)
        rw [rkG_all] at h1
        unfold rkG at n2
        omega
    obtain ⟨m, m1, m2, m3⟩ := mn_ex (key := key) N hpos
    have m2 : key n < key m := of_decide_eq_true m2
    refine ⟨m, m1, ?_⟩
    have h1 := cnB_one (P := fun o => decide (key o < key m)) (Q := fun o => decide (key o < key n)) (k := n) N n1 (decide_eq_true m2) (by simp) (fun o ho hne => by
      have h3 : ¬ key o = key n := fun h9 => hne (hk _ _ ho n1 h9)
      by_cases c : key o < key n
      · rw [decide_eq_true c]; exact decide_eq_true (by omega)
      · have := m3 o ho (decide_eq_true (by omega))
        rw [decide_eq_false c]
        exact decide_eq_false (by omega))
    unfold rkG at n2 ⊢
    omega
theorem rkG_lt {key : Nat → Int} {N a b : Nat} (ha : a < N) (h : key a < key b) : rkG key N a < rkG key N b := by
  have h1 : cnB (fun o => decide (key o < key a) || decide (o = a)) N = cnB (fun o => decide (key o < key a)) N + 1 := cnB_one (k := a) N ha (by simp) (by simp) (fun o ho hne => by simp [hne])
  have h2 := cnB_mono (P := fun o => decide (key o < key a) || decide (o = a)) (Q := fun o => decide (key o < key b)) N (fun o ho hp => by
    simp only [Bool.or_eq_true, decide_eq_true_eq] at hp ⊢
    rcases hp with h9 | h9
    · omega
    · rw [h9]; exact h)
  unfold rkG
  omega
theorem rkG_inj {key : Nat → Int} {N a b : Nat} (hk : ∀ a b, a < N → b < N → key a = key b → a = b) (ha : a < N) (hb : b < N) (h : rkG key N a = rkG key N b) : a = b := by
  by_cases c : key a < key b
  · have := rkG_lt ha c; omega
  · by_cases c2 : key b < key a
    · have := rkG_lt hb c2; omega
    · exact hk a b ha hb (by omega)
def tsN (M : tMd) (n : Nat) : Nat := cnB (pwM M n) (M.1 25).toNat
abbrev wl (M : tMd) (n : Nat) : Nat → Int := wF M 5 (16 * n + 8)
abbrev wf (M : tMd) (n : Nat) : Nat → Int := wF M 5 (16 * n)
def bfM (M : tMd) (a b : Nat) : Bool := decide (tsN M b < tsN M a ∨ (tsN M a = tsN M b ∧ (agN (wl M a) (wl M b) 8 0 < 0 ∨ (agN (wl M a) (wl M b) 8 0 = 0 ∧ agN (wf M a) (wf M b) 8 0 < 0))))
def kyM (M : tMd) (n : Nat) : Int := -(tsN M n : Int) * 1208925819614629174706176 + (wdS (wl M n) 8 0 : Nat) * 1099511627776 + (wdS (wf M n) 8 0 : Nat)
/-- all names' words are words, and told once -/
def nmW (M : tMd) (N : Nat) : Prop := ∀ n, n < N → wdR (wf M n) ∧ wdR (wl M n) ∧ ∀ m, m < n → ¬ ((∀ i, i < 8 → wf M n i = wf M m i) ∧ ∀ i, i < 8 → wl M n i = wl M m i)
theorem kyM_lt {M : tMd} {N : Nat} (h : nmW M N) {a b : Nat} (ha : a < N) (hb : b < N) : (bfM M a b = true ↔ kyM M a < kyM M b) := by
  obtain ⟨a1, a2, -⟩ := h a ha
  obtain ⟨b1, b2, -⟩ := h b hb
  have c1 := wdS_8 a1.1
  have c2 := wdS_8 a2.1
  have c3 := wdS_8 b1.1
  have c4 := wdS_8 b2.1
  obtain ⟨d1, d2, -⟩ := wdS_ag a2.1 b2.1 8 0 (by omega)
  obtain ⟨d3, d4, -⟩ := wdS_ag a1.1 b1.1 8 0 (by omega)
  unfold bfM kyM
  simp only [decide_eq_true_eq]
  rw [d1, d2, d3]
  omega
theorem kyM_inj {M : tMd} {N : Nat} (h : nmW M N) : ∀ a b, a < N → b < N → kyM M a = kyM M b → a = b := by
  have key : ∀ a b, a < N → b < N → a < b → kyM M a = kyM M b → False := fun a b ha hb hab he => by
    obtain ⟨a1, a2, -⟩ := h a ha
    obtain ⟨b1, b2, b3⟩ := h b hb
    have c1 := wdS_8 a1.1
    have c2 := wdS_8 a2.1
    have c3 := wdS_8 b1.1
    have c4 := wdS_8 b2.1
    obtain ⟨-, d2, d2'⟩ := wdS_ag b2.1 a2.1 8 0 (by omega)
    obtain ⟨-, d4, d4'⟩ := wdS_ag b1.1 a1.1 8 0 (by omega)
    unfold kyM at he
    have e1 : wdS (wl M b) 8 0 = wdS (wl M a) 8 0 ∧ wdS (wf M b) 8 0 = wdS (wf M a) 8 0 := by omega
    exact b3 a hab ⟨fun i hi => (d4'.mp (d4.mpr e1.2)) i (Nat.zero_le _) (by omega), fun i hi => (d2'.mp (d2.mpr e1.1)) i (Nat.zero_le _) (by omega)⟩
  intro a b ha hb he
  by_cases c : a < b
  · exact absurd (key a b ha hb c he) id
  · by_cases c2 : b < a
    · exact absurd (key b a hb ha c2 he.symm) id
    · omega
def ahN (M : tMd) (N n : Nat) : Nat := cnB (fun o => bfM M o n) N
theorem ahN_rk {M : tMd} {N n : Nat} (h : nmW M N) (hn : n < N) : ahN M N n = rkG (kyM M) N n := by
  unfold ahN rkG
  refine cnB_congr fun o ho => ?_
  have := kyM_lt h ho hn
  by_cases c : kyM M o < kyM M n
  · rw [decide_eq_true c]; exact this.mpr c
  · rw [decide_eq_false c]
    by_cases e : bfM M o n = true
    · exact absurd (this.mp e) c
    · simpa using e
theorem bfM_irr (M : tMd) (n : Nat) : bfM M n n = false := by
  have key : ∀ (f : Nat → Int) d k, agN f f d k = 0 := by
    intro f d
    induction d with
    | zero => intro k; rfl
    | succ d ih => intro k; show (if f k = f k then agN f f d (k + 1) else f k - f k) = 0; rw [if_pos rfl]; exact ih _
  unfold bfM
  rw [key, key]
  simp
