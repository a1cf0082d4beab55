/-! ===== a call that reads: class, reference and law together ===== -/
theorem cl_seto {h : am_H} {C : tCl} {a : Nat} {e : am_C} (ha : ¬ (1000 ≤ a ∧ a ≤ 1314 ∧ a ≠ 1259)) : am_set (clPut h C) a e = clPut (am_set h a e) C := by
  refine Prod.ext (funext fun q => ?_) rfl
  show (if q = a then some e else (if 1000 ≤ q ∧ q ≤ 1314 ∧ q ≠ 1259 then clCell C q else h.1 q)) = (if 1000 ≤ q ∧ q ≤ 1314 ∧ q ≠ 1259 then clCell C q else (if q = a then some e else h.1 q))
  by_cases hq : q = a
  · subst hq; rw [if_pos rfl, if_neg ha, if_pos rfl]
  · rw [if_neg hq, if_neg hq]
theorem md_seto {h : am_H} {M : tMd} {a : Nat} {e : am_C} (ha : a < 1315 ∨ 1331 < a) : am_set (mdPut h M) a e = mdPut (am_set h a e) M := by
  refine Prod.ext (funext fun q => ?_) rfl
  unfold am_set mdPut
  dsimp only
  by_cases hq : q = a
  · subst hq; rw [if_pos rfl, if_neg (by omega), if_neg (by omega), if_pos rfl]
  · rw [if_neg hq, if_neg hq]
theorem md_thr {h : am_H} {M : tMd} : thr (mdPut h M) = mdPut (thr h) M := rfl
/-- the row of an answer -/
def ouC (o : Nat → Int64) : am_C := .inl (3, 1, .inr (.inl o))
/-- the row of a float's answer -/
def ouD (o : Nat → UInt64) : am_C := .inl (4, 1, .inr (.inr (.inr (.inl o))))
/-- what stays of the heap beside class and reference: all but the row of answers, and new cells -/
def gOn (g g' : am_H) (c s : Nat) : Prop := (∀ q, q < g.2.1 → q ≠ 1332 → q ≠ 1333 → g'.1 q = g.1 q) ∧ (∃ o, g'.1 1332 = some (ouC o)) ∧ ((∃ o, g.1 1333 = some (ouD o)) → ∃ o, g'.1 1333 = some (ouD o)) ∧ g.2.1 ≤ g'.2.1 ∧ g'.2.1 ≤ g.2.1 + c ∧ g'.2.2 ≤ g.2.2 + s
theorem ro_step {z : Bool} {g : am_H} {C : tCl} {M : tMd} {jc jh jm : Nat} {cargs margs : List Value} {t : Nat} {v b : Int} {o : Nat → Int64}
    (hcl : ∀ h, ru_ev z jc cargs (clPut h C) = oR t (some (.int (wI v))) (clPut h C) (clPut (thr h) C))
    (hmd : ∀ h, ru_ev z jm margs (mdPut h M) = some (.inl (some (.int (wI b))), mdPut h (mdT M t))) (hvb : t = 0 → v = b)
    (hp : ∀ (H G : am_H) (o : Nat → Int64), ru_ev z jc cargs H = some (.inl (some (.int (wI v))), G) → G.1 1332 = some (ouC o) → ru_ev z jh (cargs ++ [.ref 1332]) H = some (.inl (some (.int (wI 0))), am_set G 1332 (ouC (am_up o 0 (wI v).toInt64))))
    (hx : ∀ (H G : am_H) (E : Nat), E + 1 = t → ru_ev z jc cargs H = some (.inr E, G) → ru_ev z jh (cargs ++ [.ref 1332]) H = some (.inl (some (.int (wI t))), G))
    (ho : g.1 1332 = some (ouC o)) :
    ∃ g', ru_ev z jh (cargs ++ [.ref 1332]) (clPut (mdPut g M) C) = some (.inl (some (.int (wI t))), clPut (mdPut g' M) C) ∧ ru_ev z jm margs (clPut (mdPut g' M) C) = some (.inl (some (.int (wI b))), clPut (mdPut g' (mdT M t)) C) ∧
      ru_ev z 75 [.ref 1315] (clPut (mdPut g' (mdT M t)) C) = some (.inl (some (.int (wI t))), clPut (mdPut g' (mdT M t)) C) ∧ (t = 0 → am_la (clPut (mdPut g' (mdT M t)) C) 1332 (wI 0) = some (wI b).toInt64) ∧ gOn g g' 1 6 := by
  have hm : ∀ g', ru_ev z jm margs (clPut (mdPut g' M) C) = some (.inl (some (.int (wI b))), clPut (mdPut g' (mdT M t)) C) ∧ ru_ev z 75 [.ref 1315] (clPut (mdPut g' (mdT M t)) C) = some (.inl (some (.int (wI t))), clPut (mdPut g' (mdT M t)) C) := by
    intro g'
    refine ⟨by rw [clPM, hmd, ← clPM], ?_⟩
    rw [clPM, p75, mdT_1]
  by_cases e : t = 0
  · have h1 := hcl (mdPut g M)
    rw [oR_0 e] at h1
    have hG : (clPut (mdPut g M) C).1 1332 = some (ouC o) := by rw [clPut_o (by omega), mdPut_o (by omega), ho]
    have h2 := hp _ _ o h1 hG
    rw [cl_seto (by omega), md_seto (by omega)] at h2
    refine ⟨am_set g 1332 (ouC (am_up o 0 (wI v).toInt64)), ?_, (hm _).1, (hm _).2, fun _ => ?_, ?_, ⟨_, ru_setE _ _ _⟩, fun h => by rw [ru_setN (by decide)]; exact h, Nat.le_refl _, Nat.le_succ _, Nat.le_add_right _ _⟩
    · rw [h2, e]; rfl
    · rw [← hvb e]
      have e9 : (clPut (mdPut (am_set g 1332 (ouC (am_up o 0 (wI v).toInt64))) (mdT M t)) C).1 1332 = some (ouC (am_up o 0 (wI v).toInt64)) := by
        rw [clPut_o (by omega), mdPut_o (by omega)]; exact ru_setE _ _ _
      rw [ru_la e9 (by omega) (by omega) (by omega)]
      rfl
    · intro q _ hq _; exact ru_setN hq
  · have h1 := hcl (mdPut g M)
    rw [oR_n e, md_thr] at h1
    have h2 := hx _ _ (t - 1) (by omega) h1
    exact ⟨thr g, h2, (hm _).1, (hm _).2, fun h => absurd h e, fun q _ _ _ => rfl, ⟨o, ho⟩, fun h => h, Nat.le_succ _, Nat.le_refl _, Nat.le_refl _⟩
/-! ===== how class and reference stand to each other ===== -/
def pheq (q p : tPh) : Prop := (∀ k, k < 8 → q.1 k = p.1 k) ∧ ∀ c i, c < 4 → ((i : Nat) : Int) < q.1 7 → q.2 c i = p.2 c i
theorem pheq_shw {q p : tPh} (h : pheq q p) {i : Nat} (hi : (i : Int) < q.1 7) : shw q i = shw p i := by
  unfold shw
  rw [h.1 2 (by decide), h.1 3 (by decide), h.1 4 (by decide), h.1 5 (by decide), h.2 0 i (by decide) hi, h.2 1 i (by decide) hi, h.2 2 i (by decide) hi]
theorem pheq_shX {q p : tPh} (h : pheq q p) {i : Nat} (hi : (i : Int) < q.1 7) : shX q i = shX p i := by
  unfold shX
  rw [h.1 2 (by decide), h.1 4 (by decide), h.1 6 (by decide), h.2 0 i (by decide) hi]
theorem pheq_shY {q p : tPh} (h : pheq q p) {i : Nat} (hi : (i : Int) < q.1 7) : shY q i = shY p i := by
  unfold shY
  rw [h.1 3 (by decide), h.2 1 i (by decide) hi]
theorem bsN_congr {P Q : Nat → Bool} {n : Nat} (h : ∀ i, i < n → P i = Q i) : bsN P n = bsN Q n := by
  induction n with
  | zero => rfl
  | succ n ih => simp only [bsN, h n (by omega), ih (fun i hi => h i (by omega))]
theorem pheq_set {q p : tPh} (h : pheq q p) (h0 : 0 ≤ q.1 7) : bsN (shw q) (q.1 7).toNat = bsN (shw p) (p.1 7).toNat := by
  rw [← h.1 7 (by decide)]
  exact bsN_congr fun i hi => pheq_shw h (by omega)
theorem hofF_congr {f f' : Nat → Int} {nm : Int} : ∀ (d k : Nat), (∀ i, k ≤ i → i < k + d → f i = f' i) → hofF f nm d k = hofF f' nm d k
  | 0, _, _ => rfl
  | d + 1, k, h => by
    unfold hofF
    rw [h k (Nat.le_refl _) (by omega), hofF_congr d (k + 1) (fun i h1 h2 => h i (by omega) (by omega))]
theorem pheq_hof {q p : tPh} (h : pheq q p) (h0 : 0 ≤ q.1 7) (nm : Int) : hofF (q.2 3) nm (q.1 7).toNat 0 = hofF (p.2 3) nm (p.1 7).toNat 0 := by
  rw [← h.1 7 (by decide)]
  exact hofF_congr _ _ fun i _ hi => h.2 3 i (by decide) (by omega)
theorem nmN_congr {q p : tPh} (h : pheq q p) : ∀ n : Nat, (n : Int) ≤ q.1 7 → nmN q n = nmN p n
  | 0, _ => rfl
  | n + 1, hn => by
    unfold nmN
    rw [nmN_congr h n (by omega), pheq_shw h (by omega), h.2 3 n (by decide) (by omega)]
/-- the albums' relation, as far as photos and numbers go -/
def relA (C : tCl) (M : tMd) : Prop := cPm C = (if M.1 1 = 0 then 0 else M.1 25) ∧ cNm C = (if M.1 1 = 0 then 0 else M.1 20) ∧ (M.1 1 = 1 → 1 ≤ M.1 25) ∧ (∀ f : Nat, (f : Int) < cPm C → pheq (cph C (cAp C f)) (mph M f)) ∧
  C.1 1001 1 = M.1 7 ∧ C.1 1001 2 = M.1 8 ∧ C.1 1001 3 = M.1 9 ∧ C.1 1092 0 = (if M.1 1 = 0 then 0 else M.1 4)
theorem relA_T {C : tCl} {M : tMd} {t : Int} (h : relA C M) : relA C (mdT M t) := h
theorem rel_rcP {C : tCl} {M : tMd} (hr : mdR M) (h : relA C M) (f : Int) : ((rcP C f : Nat) : Int) = rfP M f := by
  obtain ⟨h1, h2, h3, -⟩ := h
  have r := hr.2.1
  unfold rcP rfP
  rw [h1]
  by_cases e : M.1 1 = 0
  · simp only [e, if_true]; rfl
  · have e2 : M.1 1 = 1 := by omega
    have := h3 e2
    simp only [e, if_false]
    rw [if_neg (by omega)]
    by_cases e3 : 0 ≤ f ∧ f < M.1 25
    · rw [if_pos e3, if_pos (by omega)]; rfl
    · rw [if_neg e3, if_neg (by omega)]; rfl
theorem rel_ph {C : tCl} {M : tMd} (h : relA C M) {f : Int} (e : rcP C f = 0) : pheq (cph C (cAp C f.toNat)) (mph M f.toNat) := by
  obtain ⟨c1, c2, c3⟩ := rcP_0 e
  exact h.2.2.2.1 _ (by omega)
theorem rel_rcK {C : tCl} {M : tMd} (hr : mdR M) (h : relA C M) (f k : Int) : ((rcK C f k : Nat) : Int) = rfK M f k := by
  have h1 := rel_rcP hr h f
  unfold rcK rfK
  by_cases e : rcP C f = 0
  · have h2 := rel_ph h e
    have e3 : rfP M f = 0 := by rw [← h1, e]; rfl
    rw [if_pos e, if_pos e3, ← h2.1 7 (by decide)]
    by_cases e4 : 0 ≤ k ∧ k < (cph C (cAp C f.toNat)).1 7
    · rw [if_pos e4, if_pos (by omega)]; rfl
    · rw [if_neg e4, if_neg (by omega)]; rfl
  · have e3 : ¬ rfP M f = 0 := by omega
    rw [if_neg e, if_neg e3]
    exact h1
