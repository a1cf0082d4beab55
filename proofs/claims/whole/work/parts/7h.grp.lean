/-! ===== the reference's groups ===== -/
def mdG (M : tMd) (G : Nat → Int) : tMd := (M.1, upC M.2 14 G)
/-- the labels: whom they name, how many, which pairs are seen to, and that no more is joined than must be -/
def grI (q : tPh) (m : Nat) (dd : Int) (pr : Nat → Nat → Prop) (G : Nat → Int) (N : Nat) : Prop :=
  (∀ k, k < m → ∃ l : Nat, l < m ∧ G k = (l : Int)) ∧ (∀ k l : Nat, k < m → shw q k = true → G k = (l : Int) → shw q l = true ∧ G l = (l : Int)) ∧
  N = cnB (fun k => shw q k && decide (G k = (k : Int))) m ∧
  (∀ a b, a < m → b < a → pr a b → shw q a = true → shw q b = true → apF (shX q) (shY q) a b ≤ dd → G a = G b) ∧
  ∀ B : Nat → Nat, (∀ a b, a < m → b < m → shw q a = true → shw q b = true → apF (shX q) (shY q) a b ≤ dd → B a = B b) → ∀ k l, k < m → l < m → shw q k = true → shw q l = true → G k = G l → B k = B l
def rlG (G : Nat → Int) (m : Nat) (had lb : Int) : Nat → Int := fun k => if k < m ∧ G k = had then lb else G k
theorem gr_pr {q : tPh} {m : Nat} {dd : Int} {pr pr' : Nat → Nat → Prop} {G : Nat → Int} {N : Nat} (h : grI q m dd pr G N) (hp : ∀ a b, a < m → b < a → pr' a b → shw q a = true → shw q b = true → apF (shX q) (shY q) a b ≤ dd → pr a b ∨ G a = G b) : grI q m dd pr' G N := by
  obtain ⟨h1, h2, h3, h4, h5⟩ := h
  refine ⟨h1, h2, h3, fun a b ha hb hp2 sa sb hd => ?_, h5⟩
  rcases hp a b ha hb hp2 sa sb hd with c | c
  · exact h4 a b ha hb c sa sb hd
  · exact c
theorem gr_step {q : tPh} {m : Nat} {dd : Int} {pr pr' : Nat → Nat → Prop} {G : Nat → Int} {N a b : Nat} (h : grI q m dd pr G N) (ha : a < m) (hb : b < a) (sa : shw q a = true) (sb : shw q b = true) (hne : ¬ G a = G b) (hd : apF (shX q) (shY q) a b ≤ dd) (hp : ∀ a' b', pr' a' b' → pr a' b' ∨ (a' = a ∧ b' = b)) : 1 ≤ N ∧ grI q m dd pr' (rlG G m (G a) (G b)) (N - 1) := by
  obtain ⟨h1, h2, h3, h4, h5⟩ := h
  obtain ⟨x, x1, x2⟩ := h1 a ha
  obtain ⟨y, y1, y2⟩ := h1 b (by omega)
  have hx := h2 a x ha sa x2
  have hy := h2 b y (by omega) sb y2
  have hxy : x ≠ y := fun c => hne (by rw [x2, y2, c])
  have hc : cnB (fun k => shw q k && decide (G k = (k : Int))) m = cnB (fun k => shw q k && decide (rlG G m (G a) (G b) k = (k : Int))) m + 1 := by
    refine cnB_one (k := x) m x1 ?_ ?_ (fun o ho hox => ?_)
    · rw [hx.1, hx.2]; simp
    · unfold rlG
      rw [if_pos ⟨x1, by rw [hx.2, x2]⟩, y2, decide_eq_false (by omega), Bool.and_false]
    · unfold rlG
      by_cases e : G o = G a
      · rw [if_pos ⟨ho, e⟩, e, x2, y2, decide_eq_false (show ¬ ((x : Nat) : Int) = (o : Int) by omega)]
        by_cases e2 : y = o
        · subst e2; rw [hy.2] at e; rw [x2] at e; omega
        · rw [decide_eq_false (show ¬ ((y : Nat) : Int) = (o : Int) by omega)]
      · rw [if_neg (fun c => e c.2)]
  refine ⟨by omega, ⟨fun k hk => ?_, fun k l hk hs hl => ?_, by omega, fun a' b' ha' hb' hpr s1 s2 hd2 => ?_, fun B hB k l hk hl sk sl hkl => ?_⟩⟩
  · unfold rlG
    by_cases e : k < m ∧ G k = G a
    · rw [if_pos e]; exact ⟨y, y1, y2⟩
    · rw [if_neg e]; exact h1 k hk
  · unfold rlG at hl ⊢
    by_cases e : G k = G a
    · rw [if_pos ⟨hk, e⟩] at hl
      have : l = y := by rw [y2] at hl; omega
      subst this
      exact ⟨hy.1, by rw [if_neg (fun c => by have := c.2; rw [hy.2, x2] at this; omega)]; exact hy.2⟩
    · rw [if_neg (fun c => e c.2)] at hl
      have h6 := h2 k l hk hs hl
      exact ⟨h6.1, by rw [if_neg (fun c => e (by rw [hl, ← h6.2, c.2]))]; exact h6.2⟩
  · rcases hp a' b' hpr with c | ⟨rfl, rfl⟩
    · have h6 := h4 a' b' ha' hb' c s1 s2 hd2
      unfold rlG
      rw [h6]
      by_cases e : G b' = G a
      · rw [if_pos ⟨ha', e⟩, if_pos ⟨by omega, e⟩]
      · rw [if_neg (fun c => e c.2), if_neg (fun c => e c.2)]
    · unfold rlG
      rw [if_pos ⟨ha', rfl⟩, if_neg (fun c => hne c.2.symm)]
  · have hab := hB a b ha (by omega) sa sb hd
    unfold rlG at hkl
    by_cases e1 : G k = G a
    · by_cases e2 : G l = G a
      · exact h5 B hB k l hk hl sk sl (by rw [e1, e2])
      · rw [if_pos ⟨hk, e1⟩, if_neg (fun c => e2 c.2)] at hkl
        rw [h5 B hB k a hk ha sk sa e1, hab, h5 B hB b l (by omega) hl sb sl hkl]
    · by_cases e2 : G l = G a
      · rw [if_neg (fun c => e1 c.2), if_pos ⟨hl, e2⟩] at hkl
        rw [h5 B hB k b hk (by omega) sk sb hkl, ← hab, h5 B hB a l ha hl sa sl e2.symm]
      · rw [if_neg (fun c => e1 c.2), if_neg (fun c => e2 c.2)] at hkl
        exact h5 B hB k l hk hl sk sl hkl
section GRP
variable {z : Bool} {h : am_H} {M : tMd} {f : Nat} {G : Nat → Int}
theorem mph_G : mph (mdG M G) f = mph M f := rfl
theorem gr_a {i : Int} (h1 : 0 ≤ i) (h2 : i < 12) : am_ia (mdPut h (mdG M G)) 1330 (wI i) = some (wI (G i.toNat)) := md_a14 h1 h2
theorem gr_w {i v : Int} (h1 : 0 ≤ i) (h2 : i < 12) : am_is (mdPut h (mdG M G)) 1330 (wI i) (wI v) = some (mdPut h (mdG M (up1 G i.toNat v))) := by
  rw [md_w14 h1 h2, up2_C]
  congr 3
  funext c
  unfold mdG upC
  by_cases e1 : c = 14
  · subst e1; rfl
  · simp only [e1, if_false]
theorem p267 {a b : Nat} (hf : f < 5) (ha : a < 12) (hb : b < 12) (hr : phR (mph M f)) : ru_ev z 267 [.ref 1315, .int (wI f), .int (wI a), .int (wI b)] (mdPut h M) = some (.inl (some (.int (wI (apF (shX (mph M f)) (shY (mph M f)) a b)))), mdPut h M) := by
  have s1 := shXY_rng hr a
  have s2 := shXY_rng hr b
  simp (disch := omega) only [en267, e267_0, e267_1, e267_2, e267_3, e267_6, e267_7, e267_8, e267_9, e267_12, e267_13, e267_16, e267_17, e267_18, e267_19, e267_22, e267_23, e267_24, e267_25, e267_28, e267_29, e267_32, e267_33, ↓reduceIte, Bool.false_eq_true, not_false_eq_true, not_true_eq_false, Nat.reduceLeDiff, Nat.reduceAdd, Nat.reduceEqDiff, Int.reduceToNat, Int.toNat_natCast, iB0, iB1, ru_klI, ru_klR, ru_klF, ru_klJ, ru_kl0, ru_cs0, ru_csI, ru_csR, ru_csF, ru_csJ, wI_add, wI_sub, wI_mul, wI_lt, wI_le, wI_inj, ru_fdE, ru_fdN, ru_iaN, ru_baN, ru_laN, ru_qaN, ru_pfN, ru_isN, ru_bsN, ru_jsN, ru_qsN, ru_set2, Nat.add_right_cancel_iff, if_true, if_false, ite_self, Int.reduceEq, and_self, Int.add_neg_cancel_right, Int.add_zero, Int.zero_add, md_e, p129 (z := z) (h := h) (M := M) hf ha hr, p129 (z := z) (h := h) (M := M) hf hb hr, p127 (z := z) (h := h) (M := M) hf ha, p127 (z := z) (h := h) (M := M) hf hb, m151]
  rfl
theorem p266a (hf : f < 5) (hr : phR (mph M f)) {m : Nat} (hm : (mph M f).1 7 = (m : Int)) {dd : Int} : ∀ d k, k + d = m → ∀ G : Nat → Int, (∀ j, j < k → G j = (j : Int)) → ∃ G' : Nat → Int, (∀ j, j < m → G' j = (j : Int)) ∧
    ru_n z 266 5 [some (.ref 1315), some (.int (wI f)), some (.int (wI dd)), some (.int (wI (cnB (shw (mph M f)) k : Nat))), some (.int (wI k)), none, none, none] [] (mdPut h (mdG M G)) = ru_n z 266 48 [some (.ref 1315), some (.int (wI f)), some (.int (wI dd)), some (.int (wI (cnB (shw (mph M f)) m : Nat))), some (.int (wI m)), none, none, none] [] (mdPut h (mdG M G')) := by
  have s := phR_s hr
  intro d
  induction d with
  | zero =>
    intro k hk G hG
    obtain rfl : k = m := by omega
    refine ⟨G, hG, ?_⟩
    have c : ((k : Int) ≤ (k : Int)) = True := eq_true (Int.le_refl _)
    simp (disch := omega) only [e266_5, e266_7, e266_8, e266_9, e266_12, ↓reduceIte, Bool.false_eq_true, not_false_eq_true, not_true_eq_false, Nat.reduceLeDiff, Nat.reduceAdd, Nat.reduceEqDiff, Int.reduceToNat, Int.toNat_natCast, iB0, iB1, ru_klI, ru_klR, ru_klF, ru_klJ, ru_kl0, ru_cs0, ru_csI, ru_csR, ru_csF, ru_csJ, wI_add, wI_sub, wI_mul, wI_lt, wI_le, wI_inj, ru_fdE, ru_fdN, ru_iaN, ru_baN, ru_laN, ru_qaN, ru_pfN, ru_isN, ru_bsN, ru_jsN, ru_qsN, ru_set2, Nat.add_right_cancel_iff, if_true, if_false, ite_self, Int.reduceEq, and_self, Int.add_neg_cancel_right, Int.add_zero, Int.zero_add, md_e, p122, mph_G, hm, c]
  | succ d ih =>
    intro k hk G hG
    obtain ⟨G', t1, t2⟩ := ih (k + 1) (by omega) (up1 G k (k : Int)) (fun j hj => by
      unfold up1
      by_cases e : j = k
      · subst e; rw [if_pos rfl]
      · rw [if_neg e]; exact hG j (by omega))
    refine ⟨G', t1, ?_⟩
    have c : ((m : Int) ≤ (k : Int)) = False := eq_false (by omega)
    have hs : ∀ G, ru_ev z 124 [.ref 1315, .int (wI f), .int (wI (k : Nat))] (mdPut h (mdG M G)) = some (.inl (some (.int (wI (if shw (mph M f) k = true then 1 else 0)))), mdPut h (mdG M G)) := fun G => p124 (M := mdG M G) hf (by omega) hr
    have hle := cnB_le (shw (mph M f)) k
    rw [← t2, e266_5]
    by_cases e1 : shw (mph M f) k = true
    · have ec : cnB (shw (mph M f)) (k + 1) = cnB (shw (mph M f)) k + 1 := by rw [cnB, if_pos e1]
      rw [ec]
      simp (disch := omega) only [e266_7, e266_8, e266_9, e266_12, e266_15, e266_16, e266_19, e266_21, e266_23, e266_24, e266_25, e266_26, e266_27, e266_29, e266_32, e266_35, e266_36, e266_39, e266_40, e266_41, e266_42, e266_45, ↓reduceIte, Bool.false_eq_true, not_false_eq_true, not_true_eq_false, Nat.reduceLeDiff, Nat.reduceAdd, Nat.reduceEqDiff, Int.reduceToNat, Int.toNat_natCast, iB0, iB1, ru_klI, ru_klR, ru_klF, ru_klJ, ru_kl0, ru_cs0, ru_csI, ru_csR, ru_csF, ru_csJ, wI_add, wI_sub, wI_mul, wI_lt, wI_le, wI_inj, ru_fdE, ru_fdN, ru_iaN, ru_baN, ru_laN, ru_qaN, ru_pfN, ru_isN, ru_bsN, ru_jsN, ru_qsN, ru_set2, Nat.add_right_cancel_iff, if_true, if_false, ite_self, Int.reduceEq, and_self, Int.add_neg_cancel_right, Int.add_zero, Int.zero_add, md_e, md_f36, gr_w, p122, mph_G, hm, c, hs, e1, wI_b0, not_true, Int.natCast_add, Int.natCast_one]
    · have ec : cnB (shw (mph M f)) (k + 1) = cnB (shw (mph M f)) k := by rw [cnB, if_neg e1, Nat.add_zero]
      rw [ec]
      simp (disch := omega) only [e266_7, e266_8, e266_9, e266_12, e266_15, e266_16, e266_19, e266_21, e266_23, e266_24, e266_25, e266_26, e266_27, e266_29, e266_32, e266_35, e266_36, e266_39, e266_40, e266_41, e266_42, e266_45, ↓reduceIte, Bool.false_eq_true, not_false_eq_true, not_true_eq_false, Nat.reduceLeDiff, Nat.reduceAdd, Nat.reduceEqDiff, Int.reduceToNat, Int.toNat_natCast, iB0, iB1, ru_klI, ru_klR, ru_klF, ru_klJ, ru_kl0, ru_cs0, ru_csI, ru_csR, ru_csF, ru_csJ, wI_add, wI_sub, wI_mul, wI_lt, wI_le, wI_inj, ru_fdE, ru_fdN, ru_iaN, ru_baN, ru_laN, ru_qaN, ru_pfN, ru_isN, ru_bsN, ru_jsN, ru_qsN, ru_set2, Nat.add_right_cancel_iff, if_true, if_false, ite_self, Int.reduceEq, and_self, Int.add_neg_cancel_right, Int.add_zero, Int.zero_add, md_e, md_f36, gr_w, p122, mph_G, hm, c, hs, e1, wI_b0, not_false_iff, Int.natCast_add, Int.natCast_one]
theorem p266d (hf : f < 5) (hr : phR (mph M f)) {m a b : Nat} (hm : (mph M f).1 7 = (m : Int)) (hm12 : m ≤ 12) (ha : a < m) (hb : b < m) {dd N had : Int} {G0 : Nat → Int} (hG0 : ∀ k, k < m → 0 ≤ G0 k ∧ G0 k < 12) (hhad : 0 ≤ had ∧ had < 12) (hne : ¬ G0 b = had) : ∀ d k, k + d = m →
    ru_n z 266 136 [some (.ref 1315), some (.int (wI f)), some (.int (wI dd)), some (.int (wI N)), some (.int (wI a)), some (.int (wI b)), some (.int (wI had)), some (.int (wI k))] [] (mdPut h (mdG M (rlG G0 k had (G0 b)))) = ru_n z 266 188 [some (.ref 1315), some (.int (wI f)), some (.int (wI dd)), some (.int (wI N)), some (.int (wI a)), some (.int (wI b)), some (.int (wI had)), some (.int (wI m))] [] (mdPut h (mdG M (rlG G0 m had (G0 b)))) := by
  intro d
  induction d with
  | zero =>
    intro k hk
    obtain rfl : k = m := by omega
    have c : ((k : Int) ≤ (k : Int)) = True := eq_true (Int.le_refl _)
    simp (disch := omega) only [e266_136, e266_138, e266_139, e266_140, e266_143, ↓reduceIte, Bool.false_eq_true, not_false_eq_true, not_true_eq_false, Nat.reduceLeDiff, Nat.reduceAdd, Nat.reduceEqDiff, Int.reduceToNat, Int.toNat_natCast, iB0, iB1, ru_klI, ru_klR, ru_klF, ru_klJ, ru_kl0, ru_cs0, ru_csI, ru_csR, ru_csF, ru_csJ, wI_add, wI_sub, wI_mul, wI_lt, wI_le, wI_inj, ru_fdE, ru_fdN, ru_iaN, ru_baN, ru_laN, ru_qaN, ru_pfN, ru_isN, ru_bsN, ru_jsN, ru_qsN, ru_set2, Nat.add_right_cancel_iff, if_true, if_false, ite_self, Int.reduceEq, and_self, Int.add_neg_cancel_right, Int.add_zero, Int.zero_add, md_e, p122, mph_G, hm, c]
  | succ d ih =>
    intro k hk
    have c : ((m : Int) ≤ (k : Int)) = False := eq_false (by omega)
    have r1 := hG0 k (by omega)
    have r2 := hG0 b hb
    have gk : rlG G0 k had (G0 b) k = G0 k := by unfold rlG; rw [if_neg (fun c => by have := c.1; omega)]
    have gb : rlG G0 k had (G0 b) b = G0 b := by unfold rlG; rw [if_neg (fun c => hne c.2)]
    rw [← ih (k + 1) (by omega), e266_136]
    by_cases e : G0 k = had
    · have eu : up1 (rlG G0 k had (G0 b)) k (G0 b) = rlG G0 (k + 1) had (G0 b) := by
        funext j
        unfold up1 rlG
        by_cases c1 : j = k
        · subst c1; rw [if_pos rfl, if_pos ⟨by omega, e⟩]
        · rw [if_neg c1]
          have : (j < k ∧ G0 j = had) = (j < k + 1 ∧ G0 j = had) := propext ⟨fun h => ⟨by omega, h.2⟩, fun h => ⟨by omega, h.2⟩⟩
          simp only [this]
      have ce : (G0 k = had) = True := eq_true e
      rw [← eu]
      simp (disch := omega) only [e266_138, e266_139, e266_140, e266_143, e266_146, e266_147, e266_150, e266_152, e266_153, e266_156, e266_158, e266_159, e266_161, e266_164, e266_165, e266_168, e266_170, e266_171, e266_174, e266_175, e266_178, e266_180, e266_181, e266_182, e266_185, ↓reduceIte, Bool.false_eq_true, not_false_eq_true, not_true_eq_false, Nat.reduceLeDiff, Nat.reduceAdd, Nat.reduceEqDiff, Int.reduceToNat, Int.toNat_natCast, iB0, iB1, ru_klI, ru_klR, ru_klF, ru_klJ, ru_kl0, ru_cs0, ru_csI, ru_csR, ru_csF, ru_csJ, wI_add, wI_sub, wI_mul, wI_lt, wI_le, wI_inj, ru_fdE, ru_fdN, ru_iaN, ru_baN, ru_laN, ru_qaN, ru_pfN, ru_isN, ru_bsN, ru_jsN, ru_qsN, ru_set2, Nat.add_right_cancel_iff, if_true, if_false, ite_self, Int.reduceEq, and_self, Int.add_neg_cancel_right, Int.add_zero, Int.zero_add, md_e, md_f36, gr_a, gr_w, p122, mph_G, hm, c, gk, gb, ce, not_true, Int.natCast_add, Int.natCast_one]
    · have eu : up1 (rlG G0 k had (G0 b)) k (G0 k) = rlG G0 (k + 1) had (G0 b) := by
        funext j
        unfold up1 rlG
        by_cases c1 : j = k
        · subst c1; rw [if_pos rfl, if_neg (fun c => e c.2)]
        · rw [if_neg c1]
          have : (j < k ∧ G0 j = had) = (j < k + 1 ∧ G0 j = had) := propext ⟨fun h => ⟨by omega, h.2⟩, fun h => ⟨by omega, h.2⟩⟩
          simp only [this]
      have ce : (G0 k = had) = False := eq_false e
      rw [← eu]
      simp (disch := omega) only [e266_138, e266_139, e266_140, e266_143, e266_146, e266_147, e266_150, e266_152, e266_153, e266_156, e266_158, e266_159, e266_161, e266_164, e266_165, e266_168, e266_170, e266_171, e266_174, e266_175, e266_178, e266_180, e266_181, e266_182, e266_185, ↓reduceIte, Bool.false_eq_true, not_false_eq_true, not_true_eq_false, Nat.reduceLeDiff, Nat.reduceAdd, Nat.reduceEqDiff, Int.reduceToNat, Int.toNat_natCast, iB0, iB1, ru_klI, ru_klR, ru_klF, ru_klJ, ru_kl0, ru_cs0, ru_csI, ru_csR, ru_csF, ru_csJ, wI_add, wI_sub, wI_mul, wI_lt, wI_le, wI_inj, ru_fdE, ru_fdN, ru_iaN, ru_baN, ru_laN, ru_qaN, ru_pfN, ru_isN, ru_bsN, ru_jsN, ru_qsN, ru_set2, Nat.add_right_cancel_iff, if_true, if_false, ite_self, Int.reduceEq, and_self, Int.add_neg_cancel_right, Int.add_zero, Int.zero_add, md_e, md_f36, gr_a, gr_w, p122, mph_G, hm, c, gk, gb, ce, not_false_iff, Int.natCast_add, Int.natCast_one]
theorem p266c (hf : f < 5) (hr : phR (mph M f)) {m a : Nat} (hm : (mph M f).1 7 = (m : Int)) (hm12 : m ≤ 12) (ha : a < m) {dd : Int} (hdd : 0 ≤ dd ∧ dd ≤ 1998) : ∀ d b, b + d = a → ∀ (G : Nat → Int) (N : Nat) (l6 l7 : Option Value), grI (mph M f) m dd (fun a' b' => a' < a ∨ (a' = a ∧ b' < b)) G N → ∃ (G' : Nat → Int) (N' : Nat) (l6' l7' : Option Value), grI (mph M f) m dd (fun a' _ => a' < a + 1) G' N' ∧
    ru_n z 266 64 [some (.ref 1315), some (.int (wI f)), some (.int (wI dd)), some (.int (wI N)), some (.int (wI a)), some (.int (wI b)), l6, l7] [] (mdPut h (mdG M G)) = ru_n z 266 197 [some (.ref 1315), some (.int (wI f)), some (.int (wI dd)), some (.int (wI N')), some (.int (wI a)), some (.int (wI a)), l6', l7'] [] (mdPut h (mdG M G')) := by
  have s := phR_s hr
  intro d
  induction d with
  | zero =>
    intro b hb G N l6 l7 hI
    obtain rfl : b = a := by omega
    refine ⟨G, N, l6, l7, gr_pr hI (fun a' b' _ h2 h3 _ _ _ => Or.inl (by omega)), ?_⟩
    have c : ((b : Int) ≤ (b : Int)) = True := eq_true (Int.le_refl _)
    simp (disch := omega) only [e266_64, e266_66, e266_68, ↓reduceIte, Bool.false_eq_true, not_false_eq_true, not_true_eq_false, Nat.reduceLeDiff, Nat.reduceAdd, Nat.reduceEqDiff, Int.reduceToNat, Int.toNat_natCast, iB0, iB1, ru_klI, ru_klR, ru_klF, ru_klJ, ru_kl0, ru_cs0, ru_csI, ru_csR, ru_csF, ru_csJ, wI_add, wI_sub, wI_mul, wI_lt, wI_le, wI_inj, ru_fdE, ru_fdN, ru_iaN, ru_baN, ru_laN, ru_qaN, ru_pfN, ru_isN, ru_bsN, ru_jsN, ru_qsN, ru_set2, Nat.add_right_cancel_iff, if_true, if_false, ite_self, Int.reduceEq, and_self, Int.add_neg_cancel_right, Int.add_zero, Int.zero_add, c]
  | succ d ih =>
    intro b hb G N l6 l7 hI
    have c : ((a : Int) ≤ (b : Int)) = False := eq_false (by omega)
    have hsa : ∀ G, ru_ev z 124 [.ref 1315, .int (wI f), .int (wI (a : Nat))] (mdPut h (mdG M G)) = some (.inl (some (.int (wI (if shw (mph M f) a = true then 1 else 0)))), mdPut h (mdG M G)) := fun G => p124 (M := mdG M G) hf (by omega) hr
    have hsb : ∀ G, ru_ev z 124 [.ref 1315, .int (wI f), .int (wI (b : Nat))] (mdPut h (mdG M G)) = some (.inl (some (.int (wI (if shw (mph M f) b = true then 1 else 0)))), mdPut h (mdG M G)) := fun G => p124 (M := mdG M G) hf (by omega) hr
    have hap : ru_ev z 267 [.ref 1315, .int (wI f), .int (wI (a : Nat)), .int (wI (b : Nat))] (mdPut h (mdG M G)) = some (.inl (some (.int (wI (apF (shX (mph M f)) (shY (mph M f)) a b)))), mdPut h (mdG M G)) := p267 (M := mdG M G) hf (by omega) (by omega) hr
    have gr : ∀ k, k < m → 0 ≤ G k ∧ G k < 12 := fun k hk => by
      obtain ⟨l, l1, l2⟩ := hI.1 k hk
      omega
    have ga := gr a ha
    have gb := gr b (by omega)
    have hno : (shw (mph M f) a = true → shw (mph M f) b = true → apF (shX (mph M f)) (shY (mph M f)) a b ≤ dd → G a = G b) → grI (mph M f) m dd (fun a' b' => a' < a ∨ (a' = a ∧ b' < b + 1)) G N := fun hx => gr_pr hI (fun a' b' h1 h2 h3 s1 s2 s3 => by
      by_cases e : a' = a ∧ b' = b
      · obtain ⟨rfl, rfl⟩ := e; exact Or.inr (hx s1 s2 s3)
      · exact Or.inl (by omega))
    by_cases e1 : shw (mph M f) a = true
    · by_cases e2 : shw (mph M f) b = true
      · by_cases e3 : G a = G b
        · obtain ⟨G', N', l6', l7', t1, t2⟩ := ih (b + 1) (by omega) G N l6 l7 (hno (fun _ _ _ => e3))
          refine ⟨G', N', l6', l7', t1, ?_⟩
          have ce : (G a = G b) = True := eq_true e3
          rw [← t2, e266_64]
          simp (disch := omega) only [e266_66, e266_68, e266_71, e266_72, e266_73, e266_75, e266_78, e266_81, e266_82, e266_83, e266_85, e266_88, e266_91, e266_92, e266_95, e266_97, e266_98, e266_99, e266_102, e266_104, e266_105, e266_108, e266_109, e266_110, e266_112, e266_114, e266_117, e266_118, e266_121, e266_191, e266_194, ↓reduceIte, Bool.false_eq_true, not_false_eq_true, not_true_eq_false, Nat.reduceLeDiff, Nat.reduceAdd, Nat.reduceEqDiff, Int.reduceToNat, Int.toNat_natCast, iB0, iB1, ru_klI, ru_klR, ru_klF, ru_klJ, ru_kl0, ru_cs0, ru_csI, ru_csR, ru_csF, ru_csJ, wI_add, wI_sub, wI_mul, wI_lt, wI_le, wI_inj, ru_fdE, ru_fdN, ru_iaN, ru_baN, ru_laN, ru_qaN, ru_pfN, ru_isN, ru_bsN, ru_jsN, ru_qsN, ru_set2, Nat.add_right_cancel_iff, if_true, if_false, ite_self, Int.reduceEq, and_self, Int.add_neg_cancel_right, Int.add_zero, Int.zero_add, md_e, md_f36, gr_a, c, hsa, hsb, e1, e2, ce, wI_b0, not_true, Int.natCast_add, Int.natCast_one]
        · have ce : (G a = G b) = False := eq_false e3
          have xa := shXY_rng hr a
          have xb := shXY_rng hr b
          have rap : 0 ≤ apF (shX (mph M f)) (shY (mph M f)) a b ∧ apF (shX (mph M f)) (shY (mph M f)) a b ≤ 4000 := by
            have := abF_rng (a := shX (mph M f) a - shX (mph M f) b) (by omega)
            have := abF_rng (a := shY (mph M f) a - shY (mph M f) b) (by omega)
            unfold apF; omega
          by_cases e4 : apF (shX (mph M f)) (shY (mph M f)) a b ≤ dd
          · have cd : (apF (shX (mph M f)) (shY (mph M f)) a b ≤ dd) = True := eq_true e4
            obtain ⟨n1, hI2⟩ := gr_step (pr' := fun a' b' => a' < a ∨ (a' = a ∧ b' < b + 1)) hI ha (by omega) e1 e2 e3 e4 (fun a' b' hp => by omega)
            obtain ⟨G', N', l6', l7', t1, t2⟩ := ih (b + 1) (by omega) (rlG G m (G a) (G b)) (N - 1) (some (.int (wI (G a)))) (some (.int (wI m))) hI2
            refine ⟨G', N', l6', l7', t1, ?_⟩
            have hd4 := p266d (z := z) (h := h) (M := M) (dd := dd) (N := (N : Int)) hf hr hm hm12 ha (show b < m by omega) gr ga (fun c => e3 c.symm) m 0 (by omega)
            have g0 : rlG G 0 (G a) (G b) = G := by
              funext k; unfold rlG; rw [if_neg (fun c => by have := c.1; omega)]
            rw [g0, show ((0 : Nat) : Int) = 0 from rfl] at hd4
            have en : ((N - 1 : Nat) : Int) = (N : Int) + -1 := by omega
            rw [← t2, e266_64, en]
            simp (disch := omega) only [e266_66, e266_68, e266_71, e266_72, e266_73, e266_75, e266_78, e266_81, e266_82, e266_83, e266_85, e266_88, e266_91, e266_92, e266_95, e266_97, e266_98, e266_99, e266_102, e266_104, e266_105, e266_108, e266_109, e266_110, e266_112, e266_114, e266_117, e266_118, e266_121, e266_124, e266_125, e266_128, e266_130, e266_131, e266_133, e266_134, ↓reduceIte, Bool.false_eq_true, not_false_eq_true, not_true_eq_false, Nat.reduceLeDiff, Nat.reduceAdd, Nat.reduceEqDiff, Int.reduceToNat, Int.toNat_natCast, iB0, iB1, ru_klI, ru_klR, ru_klF, ru_klJ, ru_kl0, ru_cs0, ru_csI, ru_csR, ru_csF, ru_csJ, wI_add, wI_sub, wI_mul, wI_lt, wI_le, wI_inj, ru_fdE, ru_fdN, ru_iaN, ru_baN, ru_laN, ru_qaN, ru_pfN, ru_isN, ru_bsN, ru_jsN, ru_qsN, ru_set2, Nat.add_right_cancel_iff, if_true, if_false, ite_self, Int.reduceEq, and_self, Int.add_neg_cancel_right, Int.add_zero, Int.zero_add, md_e, md_f36, gr_a, c, hsa, hsb, e1, e2, ce, cd, hap, wI_b0, not_true, not_false_iff, hd4]
            simp (disch := omega) only [e266_188, e266_191, e266_194, ↓reduceIte, Bool.false_eq_true, not_false_eq_true, not_true_eq_false, Nat.reduceLeDiff, Nat.reduceAdd, Nat.reduceEqDiff, Int.reduceToNat, Int.toNat_natCast, iB0, iB1, ru_klI, ru_klR, ru_klF, ru_klJ, ru_kl0, ru_cs0, ru_csI, ru_csR, ru_csF, ru_csJ, wI_add, wI_sub, wI_mul, wI_lt, wI_le, wI_inj, ru_fdE, ru_fdN, ru_iaN, ru_baN, ru_laN, ru_qaN, ru_pfN, ru_isN, ru_bsN, ru_jsN, ru_qsN, ru_set2, Nat.add_right_cancel_iff, if_true, if_false, ite_self, Int.reduceEq, and_self, Int.add_neg_cancel_right, Int.add_zero, Int.zero_add, Int.natCast_add, Int.natCast_one]
          · have cd : (apF (shX (mph M f)) (shY (mph M f)) a b ≤ dd) = False := eq_false e4
            obtain ⟨G', N', l6', l7', t1, t2⟩ := ih (b + 1) (by omega) G N l6 l7 (hno (fun _ _ c => absurd c e4))
            refine ⟨G', N', l6', l7', t1, ?_⟩
            rw [← t2, e266_64]
            simp (disch := omega) only [e266_66, e266_68, e266_71, e266_72, e266_73, e266_75, e266_78, e266_81, e266_82, e266_83, e266_85, e266_88, e266_91, e266_92, e266_95, e266_97, e266_98, e266_99, e266_102, e266_104, e266_105, e266_108, e266_109, e266_110, e266_112, e266_114, e266_117, e266_118, e266_121, e266_191, e266_194, ↓reduceIte, Bool.false_eq_true, not_false_eq_true, not_true_eq_false, Nat.reduceLeDiff, Nat.reduceAdd, Nat.reduceEqDiff, Int.reduceToNat, Int.toNat_natCast, iB0, iB1, ru_klI, ru_klR, ru_klF, ru_klJ, ru_kl0, ru_cs0, ru_csI, ru_csR, ru_csF, ru_csJ, wI_add, wI_sub, wI_mul, wI_lt, wI_le, wI_inj, ru_fdE, ru_fdN, ru_iaN, ru_baN, ru_laN, ru_qaN, ru_pfN, ru_isN, ru_bsN, ru_jsN, ru_qsN, ru_set2, Nat.add_right_cancel_iff, if_true, if_false, ite_self, Int.reduceEq, and_self, Int.add_neg_cancel_right, Int.add_zero, Int.zero_add, md_e, md_f36, gr_a, c, hsa, hsb, e1, e2, ce, cd, hap, wI_b0, not_true, not_false_iff, Int.natCast_add, Int.natCast_one]
      · obtain ⟨G', N', l6', l7', t1, t2⟩ := ih (b + 1) (by omega) G N l6 l7 (hno (fun _ c _ => absurd c e2))
        refine ⟨G', N', l6', l7', t1, ?_⟩
        rw [← t2, e266_64]
        simp (disch := omega) only [e266_66, e266_68, e266_71, e266_72, e266_73, e266_75, e266_78, e266_81, e266_82, e266_83, e266_85, e266_88, e266_91, e266_92, e266_95, e266_97, e266_98, e266_99, e266_102, e266_104, e266_105, e266_108, e266_109, e266_110, e266_112, e266_114, e266_117, e266_118, e266_121, e266_191, e266_194, ↓reduceIte, Bool.false_eq_true, not_false_eq_true, not_true_eq_false, Nat.reduceLeDiff, Nat.reduceAdd, Nat.reduceEqDiff, Int.reduceToNat, Int.toNat_natCast, iB0, iB1, ru_klI, ru_klR, ru_klF, ru_klJ, ru_kl0, ru_cs0, ru_csI, ru_csR, ru_csF, ru_csJ, wI_add, wI_sub, wI_mul, wI_lt, wI_le, wI_inj, ru_fdE, ru_fdN, ru_iaN, ru_baN, ru_laN, ru_qaN, ru_pfN, ru_isN, ru_bsN, ru_jsN, ru_qsN, ru_set2, Nat.add_right_cancel_iff, if_true, if_false, ite_self, Int.reduceEq, and_self, Int.add_neg_cancel_right, Int.add_zero, Int.zero_add, md_e, c, hsa, hsb, e1, e2, wI_b0, not_true, not_false_iff, Int.natCast_add, Int.natCast_one]
    · obtain ⟨G', N', l6', l7', t1, t2⟩ := ih (b + 1) (by omega) G N l6 l7 (hno (fun c _ _ => absurd c e1))
      refine ⟨G', N', l6', l7', t1, ?_⟩
      rw [← t2, e266_64]
      simp (disch := omega) only [e266_66, e266_68, e266_71, e266_72, e266_73, e266_75, e266_78, e266_81, e266_82, e266_83, e266_85, e266_88, e266_91, e266_92, e266_95, e266_97, e266_98, e266_99, e266_102, e266_104, e266_105, e266_108, e266_109, e266_110, e266_112, e266_114, e266_117, e266_118, e266_121, e266_191, e266_194, ↓reduceIte, Bool.false_eq_true, not_false_eq_true, not_true_eq_false, Nat.reduceLeDiff, Nat.reduceAdd, Nat.reduceEqDiff, Int.reduceToNat, Int.toNat_natCast, iB0, iB1, ru_klI, ru_klR, ru_klF, ru_klJ, ru_kl0, ru_cs0, ru_csI, ru_csR, ru_csF, ru_csJ, wI_add, wI_sub, wI_mul, wI_lt, wI_le, wI_inj, ru_fdE, ru_fdN, ru_iaN, ru_baN, ru_laN, ru_qaN, ru_pfN, ru_isN, ru_bsN, ru_jsN, ru_qsN, ru_set2, Nat.add_right_cancel_iff, if_true, if_false, ite_self, Int.reduceEq, and_self, Int.add_neg_cancel_right, Int.add_zero, Int.zero_add, md_e, c, hsa, e1, wI_b0, not_false_iff, Int.natCast_add, Int.natCast_one]
theorem p266b (hf : f < 5) (hr : phR (mph M f)) {m : Nat} (hm : (mph M f).1 7 = (m : Int)) (hm12 : m ≤ 12) {dd : Int} (hdd : 0 ≤ dd ∧ dd ≤ 1998) : ∀ d a, a + d = m → ∀ (G : Nat → Int) (N : Nat) (l5 l6 l7 : Option Value), grI (mph M f) m dd (fun a' _ => a' < a) G N → ∃ (G' : Nat → Int) (N' : Nat), grI (mph M f) m dd (fun _ _ => True) G' N' ∧
    ru_n z 266 51 [some (.ref 1315), some (.int (wI f)), some (.int (wI dd)), some (.int (wI N)), some (.int (wI a)), l5, l6, l7] [] (mdPut h (mdG M G)) = some (.inl (some (.int (wI N'))), mdPut h (mdG M G')) := by
  intro d
  induction d with
  | zero =>
    intro a ha G N l5 l6 l7 hI
    obtain rfl : a = m := by omega
    refine ⟨G, N, gr_pr hI (fun a' b' h1 _ _ _ _ _ => Or.inl h1), ?_⟩
    have c : ((a : Int) ≤ (a : Int)) = True := eq_true (Int.le_refl _)
    simp (disch := omega) only [e266_51, e266_53, e266_54, e266_55, e266_58, e266_203, e266_204, ↓reduceIte, Bool.false_eq_true, not_false_eq_true, not_true_eq_false, Nat.reduceLeDiff, Nat.reduceAdd, Nat.reduceEqDiff, Int.reduceToNat, Int.toNat_natCast, iB0, iB1, ru_klI, ru_klR, ru_klF, ru_klJ, ru_kl0, ru_cs0, ru_csI, ru_csR, ru_csF, ru_csJ, wI_add, wI_sub, wI_mul, wI_lt, wI_le, wI_inj, ru_fdE, ru_fdN, ru_iaN, ru_baN, ru_laN, ru_qaN, ru_pfN, ru_isN, ru_bsN, ru_jsN, ru_qsN, ru_set2, Nat.add_right_cancel_iff, if_true, if_false, ite_self, Int.reduceEq, and_self, Int.add_neg_cancel_right, Int.add_zero, Int.zero_add, md_e, p122, mph_G, hm, c]
  | succ d ih =>
    intro a ha G N l5 l6 l7 hI
    obtain ⟨G1, N1, l6', l7', u1, u2⟩ := p266c (z := z) (h := h) (M := M) hf hr hm hm12 (show a < m by omega) hdd a 0 (by omega) G N l6 l7 (gr_pr hI (fun a' b' _ _ h3 _ _ _ => Or.inl (by omega)))
    obtain ⟨G', N', t1, t2⟩ := ih (a + 1) (by omega) G1 N1 (some (.int (wI a))) l6' l7' u1
    refine ⟨G', N', t1, ?_⟩
    have c : ((m : Int) ≤ (a : Int)) = False := eq_false (by omega)
    rw [show ((0 : Nat) : Int) = 0 from rfl] at u2
    rw [← t2, e266_51]
    simp (disch := omega) only [e266_53, e266_54, e266_55, e266_58, e266_61, e266_62, ↓reduceIte, Bool.false_eq_true, not_false_eq_true, not_true_eq_false, Nat.reduceLeDiff, Nat.reduceAdd, Nat.reduceEqDiff, Int.reduceToNat, Int.toNat_natCast, iB0, iB1, ru_klI, ru_klR, ru_klF, ru_klJ, ru_kl0, ru_cs0, ru_csI, ru_csR, ru_csF, ru_csJ, wI_add, wI_sub, wI_mul, wI_lt, wI_le, wI_inj, ru_fdE, ru_fdN, ru_iaN, ru_baN, ru_laN, ru_qaN, ru_pfN, ru_isN, ru_bsN, ru_jsN, ru_qsN, ru_set2, Nat.add_right_cancel_iff, if_true, if_false, ite_self, Int.reduceEq, and_self, Int.add_neg_cancel_right, Int.add_zero, Int.zero_add, md_e, p122, mph_G, hm, c, u2]
    simp (disch := omega) only [e266_197, e266_200, ↓reduceIte, Bool.false_eq_true, not_false_eq_true, not_true_eq_false, Nat.reduceLeDiff, Nat.reduceAdd, Nat.reduceEqDiff, Int.reduceToNat, Int.toNat_natCast, iB0, iB1, ru_klI, ru_klR, ru_klF, ru_klJ, ru_kl0, ru_cs0, ru_csI, ru_csR, ru_csF, ru_csJ, wI_add, wI_sub, wI_mul, wI_lt, wI_le, wI_inj, ru_fdE, ru_fdN, ru_iaN, ru_baN, ru_laN, ru_qaN, ru_pfN, ru_isN, ru_bsN, ru_jsN, ru_qsN, ru_set2, Nat.add_right_cancel_iff, if_true, if_false, ite_self, Int.reduceEq, and_self, Int.add_neg_cancel_right, Int.add_zero, Int.zero_add, Int.natCast_add, Int.natCast_one]
/-- the reference's number of groups -/
theorem p266 (hf : f < 5) (hr : phR (mph M f)) {m : Nat} (hm : (mph M f).1 7 = (m : Int)) {dd : Int} (hdd : 0 ≤ dd ∧ dd ≤ 1998) : ∃ (G : Nat → Int) (N : Nat), grI (mph M f) m dd (fun _ _ => True) G N ∧ ru_ev z 266 [.ref 1315, .int (wI f), .int (wI dd)] (mdPut h M) = some (.inl (some (.int (wI N))), mdPut h (mdG M G)) := by
  have s := phR_s hr
  obtain ⟨G, g1, g2⟩ := p266a (z := z) (h := h) (M := M) hf hr hm (dd := dd) m 0 (by omega) (M.2 14) (fun j hj => by omega)
  have hI : grI (mph M f) m dd (fun a' _ => a' < 0) G (cnB (shw (mph M f)) m) := by
    refine ⟨fun k hk => ⟨k, hk, g1 k hk⟩, fun k l hk hs hl => ?_, ?_, fun a b _ _ c => by omega, fun B hB k l hk hl _ _ hkl => ?_⟩
    · have := g1 k hk
      have e : k = l := by omega
      subst e; exact ⟨hs, hl⟩
    · exact cnB_congr fun k hk => by rw [g1 k hk]; simp
    · have h1 := g1 k hk
      have h2 := g1 l hl
      have e : k = l := by omega
      rw [e]
  obtain ⟨G', N', t1, t2⟩ := p266b (z := z) (h := h) (M := M) hf hr hm (by omega) hdd m 0 (by omega) G _ none none none hI
  refine ⟨G', N', t1, ?_⟩
  have e0 : ((cnB (shw (mph M f)) 0 : Nat) : Int) = 0 := rfl
  have eG : mdG M (M.2 14) = M := by unfold mdG; rw [upC_self]
  rw [e0, eG, show ((0 : Nat) : Int) = 0 from rfl] at g2
  rw [show ((0 : Nat) : Int) = 0 from rfl] at t2
  simp (disch := omega) only [en266, e266_0, e266_1, e266_2, e266_3, ↓reduceIte, Bool.false_eq_true, not_false_eq_true, not_true_eq_false, Nat.reduceLeDiff, Nat.reduceAdd, Nat.reduceEqDiff, Int.reduceToNat, Int.toNat_natCast, iB0, iB1, ru_klI, ru_klR, ru_klF, ru_klJ, ru_kl0, ru_cs0, ru_csI, ru_csR, ru_csF, ru_csJ, wI_add, wI_sub, wI_mul, wI_lt, wI_le, wI_inj, ru_fdE, ru_fdN, ru_iaN, ru_baN, ru_laN, ru_qaN, ru_pfN, ru_isN, ru_bsN, ru_jsN, ru_qsN, ru_set2, Nat.add_right_cancel_iff, if_true, if_false, ite_self, Int.reduceEq, and_self, Int.add_neg_cancel_right, Int.add_zero, Int.zero_add, md_e, g2]
  simp (disch := omega) only [e266_48, e266_49, ↓reduceIte, Bool.false_eq_true, not_false_eq_true, not_true_eq_false, Nat.reduceLeDiff, Nat.reduceAdd, Nat.reduceEqDiff, Int.reduceToNat, Int.toNat_natCast, iB0, iB1, ru_klI, ru_klR, ru_klF, ru_klJ, ru_kl0, ru_cs0, ru_csI, ru_csR, ru_csF, ru_csJ, wI_add, wI_sub, wI_mul, wI_lt, wI_le, wI_inj, ru_fdE, ru_fdN, ru_iaN, ru_baN, ru_laN, ru_qaN, ru_pfN, ru_isN, ru_bsN, ru_jsN, ru_qsN, ru_set2, Nat.add_right_cancel_iff, if_true, if_false, ite_self, Int.reduceEq, and_self, Int.add_neg_cancel_right, Int.add_zero, Int.zero_add, t2]
end GRP
