/-! ===== groups: links against labels ===== -/
/-- where a new group begins; how many groups up to here; the last beginning -/
def gbB (K : Nat → Int) (dd : Int) (i : Nat) : Bool := decide (i = 0 ∨ dd < K (i - 1))
def glF (K : Nat → Int) (dd : Int) : Nat → Nat
  | 0 => 0
  | i + 1 => if dd < K i then i + 1 else glF K dd i
theorem glF_sp (K : Nat → Int) (dd : Int) : ∀ i, glF K dd i ≤ i ∧ gbB K dd (glF K dd i) = true ∧ ∀ j, glF K dd i < j → j ≤ i → ¬ gbB K dd j = true
  | 0 => ⟨Nat.le_refl _, by simp [glF, gbB], fun j h1 h2 => by unfold glF at h1; omega⟩
  | i + 1 => by
    obtain ⟨h1, h2, h3⟩ := glF_sp K dd i
    unfold glF
    by_cases e : dd < K i
    · rw [if_pos e]
      exact ⟨Nat.le_refl _, by unfold gbB; exact decide_eq_true (Or.inr (by rw [Nat.add_sub_cancel]; exact e)), fun j j1 j2 => by omega⟩
    · rw [if_neg e]
      refine ⟨by omega, h2, fun j j1 j2 => ?_⟩
      by_cases c : j = i + 1
      · subst c
        unfold gbB
        rw [Nat.add_sub_cancel]
        intro h9
        rcases of_decide_eq_true h9 with h9 | h9
        · omega
        · exact e h9
      · exact h3 j j1 (by omega)
theorem cn_brk {P : Nat → Bool} {i : Nat} : ∀ j, i ≤ j → cnB P (i + 1) < cnB P (j + 1) → ∃ k, i < k ∧ k ≤ j ∧ P k = true
  | 0, h1, h2 => by obtain rfl : i = 0 := by omega
                    omega
  | j + 1, h1, h2 => by
    by_cases e : i = j + 1
    · subst e; omega
    · by_cases p : P (j + 1) = true
      · exact ⟨j + 1, by omega, Nat.le_refl _, p⟩
      · have h9 : cnB P (j + 1 + 1) = cnB P (j + 1) + 0 := by rw [cnB, if_neg p]
        obtain ⟨k, k1, k2, k3⟩ := cn_brk (P := P) (i := i) j (by omega) (by omega)
        exact ⟨k, k1, by omega, k3⟩
theorem cn_le {P : Nat → Bool} {i : Nat} : ∀ j, i ≤ j → cnB P i ≤ cnB P j
  | 0, h => by obtain rfl : i = 0 := by omega
               exact Nat.le_refl _
  | j + 1, h => by
    by_cases e : i = j + 1
    · subst e; exact Nat.le_refl _
    · have := cn_le (P := P) j (show i ≤ j by omega)
      rw [cnB]; omega
theorem cn_shift (P : Nat → Bool) : ∀ n, cnB P (n + 1) = (if P 0 = true then 1 else 0) + cnB (fun i => P (i + 1)) n
  | 0 => by simp [cnB]
  | n + 1 => by rw [cnB, cn_shift P n, cnB]; omega
/-- the links told in the order in which people join, v; the labels G -/
theorem gp_cnt {q : tPh} {m n : Nat} {dd : Int} {G K : Nat → Int} {N : Nat} {v : Nat → Nat} (hm : q.1 7 = (m : Int)) (h1 : 1 ≤ n) (hv : ∀ i, i < n → v i < m ∧ shw q (v i) = true) (hi : ∀ i j, i < n → j < n → v i = v j → i = j) (hs : ∀ k, k < m → shw q k = true → ∃ i, i < n ∧ v i = k)
    (P2 : ∀ s, s < n - 1 → ∃ t, t ≤ s ∧ K s = apF (shX q) (shY q) (v t) (v (s + 1))) (P1 : ∀ s, s < n - 1 → ∀ i, s < i → i < n → ∀ t, t ≤ s → K s ≤ apF (shX q) (shY q) (v t) (v i)) (hI : grI q m dd (fun _ _ => True) G N) : 1 + cnB (fun s => decide (K s > dd)) (n - 1) = N := by
  obtain ⟨g1, g2, g3, g4, g5⟩ := hI
  have hb0 : cnB (gbB K dd) n = 1 + cnB (fun s => decide (K s > dd)) (n - 1) := by
    have e := cn_shift (gbB K dd) (n - 1)
    rw [show n - 1 + 1 = n by omega] at e
    rw [e, show gbB K dd 0 = true from decide_eq_true (Or.inl rfl), if_pos rfl]
    congr 1
    refine cnB_congr fun s _ => ?_
    unfold gbB
    rw [Nat.add_sub_cancel]
    apply Bool.eq_iff_iff.mpr
    rw [decide_eq_true_eq, decide_eq_true_eq]
    constructor
    · rintro (c | c)
      · omega
      · exact c
    · exact fun c => Or.inr c
  -- the place of a person
  have hx : ∀ k, ∃ i : Nat, k < m → shw q k = true → i < n ∧ v i = k := fun k => by
    by_cases c : k < m ∧ shw q k = true
    · obtain ⟨i, i1, i2⟩ := hs k c.1 c.2
      exact ⟨i, fun _ _ => ⟨i1, i2⟩⟩
    · exact ⟨0, fun a b => absurd ⟨a, b⟩ c⟩
  obtain ⟨ix, hix⟩ : ∃ ix : Nat → Nat, ∀ k, k < m → shw q k = true → ix k < n ∧ v (ix k) = k := ⟨fun k => Classical.choose (hx k), fun k => Classical.choose_spec (hx k)⟩
  have hixv : ∀ i, i < n → ix (v i) = i := fun i hi2 => by
    obtain ⟨a, b⟩ := hix (v i) (hv i hi2).1 (hv i hi2).2
    exact hi _ _ a hi2 b
  -- an edge doesn't cross a beginning
  have hcross : ∀ i j, i < j → j < n → apF (shX q) (shY q) (v i) (v j) ≤ dd → ∀ k, i < k → k ≤ j → ¬ gbB K dd k = true := by
    intro i j hij hj hd k k1 k2 hk
    unfold gbB at hk
    rcases of_decide_eq_true hk with c | c
    · omega
    · have := P1 (k - 1) (by omega) j (by omega) hj i (by omega)
      omega
  have hBl : ∀ i j, i < j → j < n → (∀ k, i < k → k ≤ j → ¬ gbB K dd k = true) → cnB (gbB K dd) (i + 1) = cnB (gbB K dd) (j + 1) := by
    intro i j hij hj hno
    have h8 := cn_le (P := gbB K dd) (i := i + 1) (j + 1) (by omega)
    rcases Nat.lt_or_eq_of_le h8 with c | c
    · obtain ⟨k, k1, k2, k3⟩ := cn_brk j (by omega) c
      exact absurd k3 (hno k k1 k2)
    · exact c
  have hB : ∀ a b, a < m → b < m → shw q a = true → shw q b = true → apF (shX q) (shY q) a b ≤ dd → cnB (gbB K dd) (ix a + 1) = cnB (gbB K dd) (ix b + 1) := by
    intro a b ha hb sa sb hd
    obtain ⟨a1, a2⟩ := hix a ha sa
    obtain ⟨b1, b2⟩ := hix b hb sb
    rcases Nat.lt_trichotomy (ix a) (ix b) with c | c | c
    · exact hBl _ _ c b1 (hcross _ _ c b1 (by rw [a2, b2]; exact hd))
    · rw [c]
    · exact (hBl _ _ c a1 (hcross _ _ c a1 (by rw [a2, b2, apF_comm]; exact hd))).symm
  -- two people joined by an edge have one label
  have hE : ∀ a b, a < m → b < m → shw q a = true → shw q b = true → apF (shX q) (shY q) a b ≤ dd → G a = G b := by
    intro a b ha hb sa sb hd
    rcases Nat.lt_trichotomy a b with c | c | c
    · exact (g4 b a hb c trivial sb sa (by rw [apF_comm]; exact hd)).symm
    · rw [c]
    · exact g4 a b ha c trivial sa sb hd
  have hL : ∀ j, j < n → ∀ i, i ≤ j → (∀ k, i < k → k ≤ j → ¬ gbB K dd k = true) → G (v i) = G (v j) := by
    intro j
    induction j using Nat.strongRecOn with
    | ind j ih =>
      intro hj i hij hno
      by_cases e : i = j
      · rw [e]
      · obtain ⟨t, t1, t2⟩ := P2 (j - 1) (by omega)
        rw [show j - 1 + 1 = j by omega] at t2
        have hnb := hno j (by omega) (Nat.le_refl _)
        have hkd : K (j - 1) ≤ dd := by
          by_cases c : K (j - 1) ≤ dd
          · exact c
          · exact absurd (decide_eq_true (Or.inr (by omega))) hnb
        have ht := hv t (by omega)
        have hjv := hv j hj
        have e1 : G (v t) = G (v j) := hE _ _ ht.1 hjv.1 ht.2 hjv.2 (by omega)
        rw [← e1]
        rcases Nat.lt_trichotomy i t with c | c | c
        · exact ih t (by omega) (by omega) i (by omega) (fun k k1 k2 => hno k k1 (by omega))
        · rw [c]
        · exact (ih i (by omega) (by omega) t (by omega) (fun k k1 k2 => hcross t j (by omega) hj (by omega) k k1 (by omega))).symm
  rw [← hb0, g3]
  apply Nat.le_antisymm
  · -- a beginning's label
    refine cnB_inj (f := fun i => (G (v i)).toNat) n (fun i hi2 hb => ?_) (fun i j hi2 hj2 hbi hbj hij => ?_)
    · have k1 := hv i hi2
      obtain ⟨l, l1, l2⟩ := g1 _ k1.1
      have k2 := g2 _ l k1.1 k1.2 l2
      rw [l2, Int.toNat_natCast]
      exact ⟨l1, by rw [k2.1, k2.2]; simp⟩
    · have k1 := hv i hi2
      have k2 := hv j hj2
      obtain ⟨l, l1, l2⟩ := g1 _ k1.1
      obtain ⟨l', l1', l2'⟩ := g1 _ k2.1
      have hg : G (v i) = G (v j) := by rw [l2, l2'] at hij ⊢; simp only [Int.toNat_natCast] at hij; rw [hij]
      have hbl := g5 (fun a => cnB (gbB K dd) (ix a + 1)) hB _ _ k1.1 k2.1 k1.2 k2.2 hg
      rw [hixv i hi2, hixv j hj2] at hbl
      rcases Nat.lt_trichotomy i j with c | c | c
      · have h8 := cn_le (P := gbB K dd) (i := i + 1) j (by omega)
        rw [cnB, if_pos hbi, cnB, if_pos hbj] at hbl
        rw [cnB, if_pos hbi] at h8
        omega
      · exact c
      · have h8 := cn_le (P := gbB K dd) (i := j + 1) i (by omega)
        rw [cnB, if_pos hbi, cnB, if_pos hbj] at hbl
        rw [cnB, if_pos hbj] at h8
        omega
  · -- a label's beginning
    refine cnB_inj (f := fun k => glF K dd (ix k)) m (fun k hk hp => ?_) (fun k l hk hl hpk hpl hkl => ?_)
    · simp only [Bool.and_eq_true, decide_eq_true_eq] at hp
      obtain ⟨a1, a2⟩ := hix k hk hp.1
      have := glF_sp K dd (ix k)
      exact ⟨by omega, this.2.1⟩
    · simp only [Bool.and_eq_true, decide_eq_true_eq] at hpk hpl
      obtain ⟨a1, a2⟩ := hix k hk hpk.1
      obtain ⟨b1, b2⟩ := hix l hl hpl.1
      have s1 := glF_sp K dd (ix k)
      have s2 := glF_sp K dd (ix l)
      have e1 := hL (ix k) a1 _ s1.1 s1.2.2
      have e2 := hL (ix l) b1 _ s2.1 s2.2.2
      rw [hkl, e2, a2, b2, hpk.2, hpl.2] at e1
      omega
theorem gpI_congr {q p : tPh} {n : Nat} {K : Nat → Int} (hg : gpI q n K) (he : pheq q p) : gpI p n K := by
  obtain ⟨eo, E, J, w, h1, h2⟩ := hg
  have hX : ∀ k, shS q k = true → shX q k = shX p k ∧ shY q k = shY p k := fun k hs => ⟨pheq_shX he (shS_lt hs), pheq_shY he (shS_lt hs)⟩
  have hD : ∀ a b, a < n → b < n → apF (shX q) (shY q) (eo a) (eo b) = apF (shX p) (shY p) (eo a) (eo b) := fun a b ha hb => by
    have k1 := hX _ (h1.1 a ha).2
    have k2 := hX _ (h1.1 b hb).2
    unfold apF; rw [k1.1, k1.2, k2.1, k2.2]
  refine ⟨eo, E, J, w, ?_, fun c => ?_⟩
  · rw [← shS_eq he]
    exact enO_key h1 (fun a b _ _ sa sb hab => by unfold kyO at hab ⊢; rw [← (hX a sa).1, ← (hX a sa).2, ← (hX b sb).1, ← (hX b sb).2]; exact hab)
  · obtain ⟨a1, a2, a3, a4, a5, a6, a7⟩ := h2 c
    refine ⟨a1, a2, a3, a4, a5, fun x hx => ?_, fun s hs => ?_⟩
    · obtain ⟨b1, t, b2, b3⟩ := a6 x hx
      exact ⟨fun t ht => by have := b1 t ht; dsimp only at this ⊢; rw [← hD _ _ (a1 t ht) hx]; exact this, t, b2, by dsimp only at b3 ⊢; rw [← hD _ _ (a1 t b2) hx]; exact b3⟩
    · obtain ⟨⟨t, b1, b2⟩, b3⟩ := a7 s hs
      exact ⟨⟨t, b1, by dsimp only at b2 ⊢; rw [← hD _ _ (a1 t (by omega)) (a1 (s + 1) (by omega))]; exact b2⟩, fun x hx hne t ht => by have := b3 x hx hne t ht; dsimp only at this ⊢; rw [← hD _ _ (a1 t (by omega)) hx]; exact this⟩
/-- the number of groups by links is that by labels -/
theorem gp_eq {q : tPh} {m n : Nat} {dd : Int} {G K : Nat → Int} {N : Nat} (hr : phR q) (hm : q.1 7 = (m : Int)) (hg : gpI q n K) (hI : grI q m dd (fun _ _ => True) G N) : (if n = 0 then (0 : Int) else 1 + (cnB (fun s => decide (K s > dd)) (n - 1) : Nat)) = (N : Int) := by
  have s := phR_s hr
  obtain ⟨eo, E, J, w, h1, h2⟩ := hg
  have hn := enO_n h1
  have hw : cnB (shw q) m = n := by rw [shS_cn hm (by omega), hn]
  by_cases e : n = 0
  · rw [if_pos e, hI.2.2.1]
    have : cnB (fun k => shw q k && decide (G k = (k : Int))) m ≤ cnB (shw q) m := cnB_mono m (fun o _ ho => by simp only [Bool.and_eq_true] at ho; exact ho.1)
    omega
  · rw [if_neg e]
    obtain ⟨a1, a2, a3, a4, a5, a6, a7⟩ := h2 (by omega)
    have hsh : ∀ i, i < n → eo (w i) < m ∧ shw q (eo (w i)) = true := fun i hi => by
      have k1 := h1.1 _ (a1 i (by omega))
      have k2 := shS_rng hr k1.2
      exact ⟨by omega, k2.2.2.2.2⟩
    have key := gp_cnt (q := q) (m := m) (n := n) (dd := dd) (G := G) (K := K) (N := N) (v := fun i => eo (w i)) hm (by omega) hsh (fun i j hi hj hij => a2 i j (by omega) (by omega) (enO_inj h1 (a1 i (by omega)) (a1 j (by omega)) hij)) (fun k hk hs => by
        obtain ⟨j, j1, j2⟩ := h1.2.2 k (by omega) (by rw [shS_of (by omega)]; exact hs)
        have hall := cnB_all (P := fun q => J.testBit q) n (by rw [a5]; omega) j j1
        obtain ⟨t, t1, t2⟩ := (a3 j j1).mp hall
        exact ⟨t, by omega, by rw [t2, j2]⟩) (fun s hs => (a7 s hs).1) (fun s hs i hi1 hi2 t ht => (a7 s hs).2 (w i) (a1 i (by omega)) (fun t' ht' c => by have := a2 t' i (by omega) (by omega) c; omega) t ht) hI
    omega
