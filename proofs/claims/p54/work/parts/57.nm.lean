/-! ===== the names in a picture: class against reference ===== -/
/-- a photo's names: none is beyond the album's, no two are one -/
def phN (q : tPh) (N : Int) : Prop := (∀ i : Nat, (i : Int) < q.1 7 → q.2 3 i < N) ∧ (∀ i j : Nat, (i : Int) < q.1 7 → (j : Int) < q.1 7 → q.2 3 i = q.2 3 j → ¬ q.2 3 i = -1 → i = j) ∧ q.1 2 ≤ q.1 4 ∧ q.1 3 ≤ q.1 5
theorem nmN_bit {q : tPh} (hr : phR q) (b : Nat) : ∀ n, (nmN q n).testBit b = true ↔ ∃ i, i < n ∧ shw q i = true ∧ q.2 3 i = (b : Int)
  | 0 => by simp [nmN]
  | n + 1 => by
    have ih := nmN_bit hr b n
    have s2 := phR_i hr n
    unfold nmN
    by_cases hP : shw q n = true ∧ ¬ q.2 3 n = -1
    · rw [if_pos hP, Nat.testBit_or, Bool.or_eq_true, ih, Nat.testBit_two_pow, decide_eq_true_eq]
      constructor
      · rintro (⟨i, h1, h2, h3⟩ | h)
        · exact ⟨i, by omega, h2, h3⟩
        · exact ⟨n, by omega, hP.1, by omega⟩
      · rintro ⟨i, h1, h2, h3⟩
        by_cases hi : i = n
        · subst hi; exact Or.inr (by omega)
        · exact Or.inl ⟨i, by omega, h2, h3⟩
    · rw [if_neg hP, ih]
      constructor
      · rintro ⟨i, h1, h2, h3⟩; exact ⟨i, by omega, h2, h3⟩
      · rintro ⟨i, h1, h2, h3⟩
        by_cases hi : i = n
        · subst hi; exact absurd ⟨h2, by omega⟩ hP
        · exact ⟨i, by omega, h2, h3⟩
theorem nmB_iff {q : tPh} {N : Int} (hr : phR q) (hN : phN q N) (b : Nat) : nmB q b = true ↔ ∃ i, i < (q.1 7).toNat ∧ shw q i = true ∧ q.2 3 i = (b : Int) := by
  have s := phR_s hr
  unfold nmB shH
  rw [decide_eq_true_eq]
  rcases hofF_sp (q.2 3) b (q.1 7).toNat 0 with ⟨h1, h2⟩ | ⟨k, h1, h2, h3, h4⟩
  · rw [h1]
    simp only [not_true, false_and, if_false]
    constructor
    · exact fun h => h.elim
    · rintro ⟨i, k1, k2, k3⟩
      exact absurd k3 (h2 i (by omega) (by omega))
  · rw [h1]
    simp only [Int.toNat_natCast]
    constructor
    · intro h
      by_cases hs : shw q k = true
      · exact ⟨k, by omega, hs, h4⟩
      · rw [if_neg (fun h => hs h.2)] at h; exact absurd rfl h
    · rintro ⟨i, k1, k2, k3⟩
      have : i = k := hN.2.1 i k (by omega) (by omega) (by rw [k3, h4]) (by omega)
      subst this
      rw [if_pos ⟨by omega, k2⟩]
      omega
theorem nm_eq {q : tPh} {N : Int} (hr : phR q) (hN : phN q N) (h0 : 0 ≤ N) : nmN q (q.1 7).toNat = bsN (nmB q) N.toNat := by
  have s := phR_s hr
  apply Nat.eq_of_testBit_eq
  intro b
  rw [bsN_bit]
  apply Bool.eq_iff_iff.mpr
  rw [nmN_bit hr, Bool.and_eq_true, decide_eq_true_eq, nmB_iff hr hN]
  constructor
  · rintro ⟨i, h1, h2, h3⟩
    have := hN.1 i (by omega)
    exact ⟨by omega, i, h1, h2, h3⟩
  · exact fun h => h.2
theorem pheq_nm {q p : tPh} (h : pheq q p) (h0 : 0 ≤ q.1 7) : nmN q (q.1 7).toNat = nmN p (p.1 7).toNat := by
  rw [← h.1 7 (by decide)]
  exact nmN_congr h _ (by omega)
theorem pheq_inR {q p : tPh} (h : pheq q p) {x1 y1 x2 y2 : Int} {i : Nat} (hi : (i : Int) < q.1 7) : inR q x1 y1 x2 y2 i = inR p x1 y1 x2 y2 i := by
  unfold inR
  rw [pheq_shw h hi, pheq_shX h hi, pheq_shY h hi]
theorem pheq_isCr {q p : tPh} (h : pheq q p) {x1 y1 x2 y2 : Int} : isCr q x1 y1 x2 y2 = isCr p x1 y1 x2 y2 := by
  unfold isCr
  rw [h.1 2 (by decide), h.1 3 (by decide), h.1 4 (by decide), h.1 5 (by decide)]
/-- the reference's photos have names of its own, and no two have one -/
def relN (M : tMd) : Prop := ∀ f : Nat, (f : Int) < M.1 25 → phN (mph M f) (M.1 20)
theorem relN_T {M : tMd} {t : Int} (h : relN M) : relN (mdT M t) := h
theorem rel_rcN {C : tCl} {M : tMd} (hM : mdR M) (h : relA C M) (f n : Int) : (((if rcP C f = 0 then rcN C n else rcP C f) : Nat) : Int) = rfN M f n := by
  have e := rel_rcP hM h f
  unfold rfN
  by_cases e1 : rcP C f = 0
  · have e2 : rfP M f = 0 := by rw [← e, e1]; rfl
    have e3 := (rcP_0 e1).1
    have e4 := (rfP_0 e2).1
    have e5 := h.2.1
    rw [if_neg e4] at e5
    rw [if_pos e1, if_pos e2]
    unfold rcN
    rw [if_neg e3, e5]
    by_cases e6 : 0 ≤ n ∧ n < M.1 20
    · rw [if_pos e6, if_pos (by omega)]; rfl
    · rw [if_neg e6, if_neg (by omega)]; rfl
  · have e2 : ¬ rfP M f = 0 := by omega
    rw [if_neg e1, if_neg e2]; exact e
theorem rcN_2 (C : tCl) (n : Int) : rcN C n ≤ 2 := by
  unfold rcN
  repeat' split
  all_goals omega
theorem rel_rcPP {C : tCl} {M : tMd} (hM : mdR M) (h : relA C M) (f k : Int) : (((if rcP C f = 0 then rcP C k else rcP C f) : Nat) : Int) = rfPP M f k := by
  have e := rel_rcP hM h f
  have e' := rel_rcP hM h k
  unfold rfPP
  by_cases e1 : rcP C f = 0
  · have e2 : rfP M f = 0 := by rw [← e, e1]; rfl
    rw [if_pos e1, if_pos e2]; exact e'
  · have e2 : ¬ rfP M f = 0 := by omega
    rw [if_neg e1, if_neg e2]; exact e
theorem rel_rcW {C : tCl} {M : tMd} (hM : mdR M) (h : relA C M) (f w : Int) : (((if rcP C f = 0 then (if 0 ≤ w ∧ w ≤ 3 then 0 else 3) else rcP C f) : Nat) : Int) = if rfP M f = 0 then (if 0 ≤ w ∧ w ≤ 3 then 0 else 3) else rfP M f := by
  have e := rel_rcP hM h f
  by_cases e1 : rcP C f = 0
  · have e2 : rfP M f = 0 := by rw [← e, e1]; rfl
    rw [if_pos e1, if_pos e2]
    split <;> rfl
  · have e2 : ¬ rfP M f = 0 := by omega
    rw [if_neg e1, if_neg e2]; exact e
theorem rel_rcC {C : tCl} {M : tMd} (hM : mdR M) (h : relA C M) (f x1 y1 x2 y2 : Int) : (((if rcP C f = 0 then (if isCr (cph C (cAp C f.toNat)) x1 y1 x2 y2 = true then 0 else 3) else rcP C f) : Nat) : Int) = rfC M f x1 y1 x2 y2 := by
  have e := rel_rcP hM h f
  unfold rfC
  by_cases e1 : rcP C f = 0
  · have e2 : rfP M f = 0 := by rw [← e, e1]; rfl
    rw [if_pos e1, if_pos e2, pheq_isCr (rel_ph h e1)]
    split <;> rfl
  · have e2 : ¬ rfP M f = 0 := by omega
    rw [if_neg e1, if_neg e2]; exact e
theorem rel_nm {C : tCl} {M : tMd} (hR : clR C) (hM : mdR M) (h : relA C M) (hn : relN M) {f : Int} (e : rcP C f = 0) : nmN (cph C (cAp C f.toNat)) ((cph C (cAp C f.toNat)).1 7).toNat = bsN (nmB (mph M f.toNat)) (M.1 20).toNat := by
  have e2 : rfP M f = 0 := by rw [← rel_rcP hM h f, e]; rfl
  obtain ⟨c1, c2, c3⟩ := rfP_0 e2
  have r := hM.2.2.2.2.1
  have hr := hM.2.2.2.2.2.2 f.toNat (by omega)
  have r2 := hM.2.2.2.1
  have hc := (dph (h := (fun _ => none, 0, 0)) hR e).2
  rw [pheq_nm (rel_ph h e) (hc.1 7).1, nm_eq hr (hn f.toNat (by omega)) (by omega)]
theorem st8 {C : tCl} {M : tMd} (hM : mdR M) (hr : relA C M) {f k : Int} (e : (if rcP C f = 0 then (if 0 ≤ k ∧ k ≤ 3 then 0 else 3) else rcP C f) = 0) : (cph C (cAp C f.toNat)).1 (k.toNat + 2) = if rfP M f = 0 ∧ 0 ≤ k ∧ k ≤ 3 then (mph M f.toNat).1 (k.toNat + 2) else 0 := by
  by_cases e1 : rcP C f = 0
  · rw [if_pos e1] at e
    by_cases e2 : 0 ≤ k ∧ k ≤ 3
    · rw [if_pos ⟨by rw [← rel_rcP hM hr f, e1]; rfl, e2⟩]
      exact (rel_ph hr e1).1 _ (by omega)
    · rw [if_neg e2] at e; exact absurd e (by decide)
  · rw [if_neg e1] at e; exact absurd e e1
theorem st23 {C : tCl} {M : tMd} {h : am_H} (hR : clR C) (hr : relA C M) {f k : Int} (er : (((if rcP C f = 0 then rcN C k else rcP C f) : Nat) : Int) = rfN M f k) (e : (if rcP C f = 0 then rcN C k else rcP C f) = 0) : hofF ((cph C (cAp C f.toNat)).2 3) k ((cph C (cAp C f.toNat)).1 7).toNat 0 = if rfN M f k = 0 then hofF ((mph M f.toNat).2 3) k ((mph M f.toNat).1 7).toNat 0 else 0 := by
  rw [if_pos (by rw [← er, e]; rfl)]
  have e1 : rcP C f = 0 := by
    by_cases e1 : rcP C f = 0
    · exact e1
    · rw [if_neg e1] at e; exact e
  exact pheq_hof (rel_ph hr e1) ((dph (h := h) hR e1).2.1 7).1 k
theorem st27 {C : tCl} {M : tMd} (hR : clR C) (hM : mdR M) (hr : relA C M) (hn : relN M) {f k : Int} (er : (((if rcP C f = 0 then rcP C k else rcP C f) : Nat) : Int) = rfPP M f k) (e : (if rcP C f = 0 then rcP C k else rcP C f) = 0) : ((nmN (cph C (cAp C f.toNat)) ((cph C (cAp C f.toNat)).1 7).toNat &&& nmN (cph C (cAp C k.toNat)) ((cph C (cAp C k.toNat)).1 7).toNat : Nat) : Int) = if rfPP M f k = 0 then ((bsN (nmB (mph M f.toNat)) (M.1 20).toNat &&& bsN (nmB (mph M k.toNat)) (M.1 20).toNat : Nat) : Int) else 0 := by
  rw [if_pos (by rw [← er, e]; rfl)]
  by_cases e1 : rcP C f = 0
  · rw [if_pos e1] at e
    rw [rel_nm hR hM hr hn e1, rel_nm hR hM hr hn e]
  · rw [if_neg e1] at e; exact absurd e e1
theorem st34 {C : tCl} {M : tMd} {h : am_H} (hR : clR C) (hr : relA C M) {f x1 y1 x2 y2 : Int} (er : (((if rcP C f = 0 then (if isCr (cph C (cAp C f.toNat)) x1 y1 x2 y2 = true then 0 else 3) else rcP C f) : Nat) : Int) = rfC M f x1 y1 x2 y2) (e : (if rcP C f = 0 then (if isCr (cph C (cAp C f.toNat)) x1 y1 x2 y2 = true then 0 else 3) else rcP C f) = 0) : ((bsN (inR (cph C (cAp C f.toNat)) x1 y1 x2 y2) ((cph C (cAp C f.toNat)).1 7).toNat : Nat) : Int) = if rfC M f x1 y1 x2 y2 = 0 then ((bsN (inR (mph M f.toNat) x1 y1 x2 y2) ((mph M f.toNat).1 7).toNat : Nat) : Int) else 0 := by
  rw [if_pos (by rw [← er, e]; rfl)]
  by_cases e1 : rcP C f = 0
  · have hp := rel_ph hr e1
    have h7 := ((dph (h := h) hR e1).2.1 7).1
    rw [← hp.1 7 (by decide), bsN_congr fun i hi => pheq_inR hp (by omega)]
  · rw [if_neg e1] at e; exact absurd e e1
