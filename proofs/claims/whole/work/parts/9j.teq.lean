/-! ===== captions: person by person against item by item ===== -/
theorem wdT_congr {f g : Nat → Int} (h : ∀ i, i < 8 → f i = g i) : wdT f = wdT g := by
  have e : wln f = wln g := cnB_congr fun k hk => by rw [h k hk]
  unfold wdT
  rw [e]
  refine List.map_congr_left fun k hk => ?_
  have := List.mem_range.mp hk
  have := wln_8 g
  rw [h k (by omega)]
def okey (M : tMd) (n : Int) : Int := if n = -1 then -1 else (wdS (wl M n.toNat) 8 0 : Nat)
theorem oneB_key {M : tMd} {N : Nat} (h4 : nmW M N) {n m : Int} (hn : nmOK N n) (hm : nmOK N m) : oneB M n m = decide (okey M n = okey M m) := by
  unfold oneB okey
  by_cases c1 : n = -1
  · rw [if_pos (Or.inl c1), if_pos c1]
    by_cases c2 : m = -1
    · rw [if_pos c2, c1, c2]
    · rw [if_neg c2]
      have h1 : ¬ n = m := by omega
      have h2 : ¬ ((-1 : Int) = ((wdS (wl M m.toNat) 8 0 : Nat) : Int)) := by omega
      rw [decide_eq_false h1, decide_eq_false h2]
  · by_cases c2 : m = -1
    · rw [if_pos (Or.inr c2), if_neg c1, if_pos c2]
      have h1 : ¬ n = m := by omega
      have h2 : ¬ (((wdS (wl M n.toNat) 8 0 : Nat) : Int) = (-1 : Int)) := by omega
      rw [decide_eq_false h1, decide_eq_false h2]
    · rw [if_neg (by omega), if_neg c1, if_neg c2]
      have a := (h4 n.toNat (by rcases hn with h | h <;> omega)).2.1.1
      have b := (h4 m.toNat (by rcases hm with h | h <;> omega)).2.1.1
      have k := (wdS_ag a b 8 0 (by omega)).2.1
      by_cases c : agN (wl M n.toNat) (wl M m.toNat) 8 0 = 0
      · rw [decide_eq_true c]
        have := k.mp c
        exact (decide_eq_true (by omega)).symm
      · rw [decide_eq_false c]
        have h9 : ¬ wdS (wl M n.toNat) 8 0 = wdS (wl M m.toNat) 8 0 := fun h => c (k.mpr h)
        exact (decide_eq_false (by omega)).symm
theorem eTx_key {M : tMd} {N : Nat} (h4 : nmW M N) {n m : Int} (hn : nmOK N n) (hm : nmOK N m) (h : okey M n = okey M m) (k : Nat) : eTx M n k = eTx M m k := by
  unfold eTx
  unfold okey at h
  by_cases c1 : n = -1
  · rw [if_pos c1] at h
    have c2 : m = -1 := by
      by_cases c2 : m = -1
      · exact c2
      · rw [if_neg c2] at h; omega
    rw [if_pos c1, if_pos c2]
  · rw [if_neg c1] at h
    have c2 : ¬ m = -1 := fun c2 => by rw [if_pos c2] at h; omega
    rw [if_neg c2] at h
    rw [if_neg c1, if_neg c2]
    have a := (h4 n.toNat (by rcases hn with h | h <;> omega)).2.1.1
    have b := (h4 m.toNat (by rcases hm with h | h <;> omega)).2.1.1
    have k := wdS_ag a b 8 0 (by omega)
    have e := k.2.2.mp (k.2.1.mpr (by omega))
    rw [wdT_congr fun i hi => e i (Nat.zero_le _) (by omega)]
def eE (M : tMd) (nm : Nat → Int) : Nat → Nat → Int → Nat
  | 0, e, _ => e
  | d + 1, e, f => if oneB M f (nm e) = true then eE M nm d (e + 1) f else e
theorem eE_b (M : tMd) (nm : Nat → Int) : ∀ d e f, e ≤ eE M nm d e f ∧ eE M nm d e f ≤ e + d
  | 0, e, f => ⟨Nat.le_refl _, Nat.le_refl _⟩
  | d + 1, e, f => by
    have h := eE_b M nm d (e + 1) f
    show e ≤ (if oneB M f (nm e) = true then eE M nm d (e + 1) f else e) ∧ (if oneB M f (nm e) = true then eE M nm d (e + 1) f else e) ≤ e + (d + 1)
    split <;> omega
def fTx (M : tMd) (nm : Nat → Int) : Nat → Nat → Nat → List Nat
  | 0, _, _ => []
  | d + 1, q, k => nTx M (nm q) k ++ fTx M nm d (q + 1) (k + 1)
theorem cRw_mid {M : tMd} {N len : Nat} {nm : Nat → Int} (h4 : nmW M N) (hn : ∀ j, j < len → nmOK N (nm j)) {j : Nat} : ∀ d q k, q + d = len → j + k = q → q < len → okey M (nm q) = okey M (nm j) → ∀ e, e = eE M nm (len - (q + 1)) (q + 1) (nm j) → cRw M nm d q k = fTx M nm (e - q) q k ++ (eTx M (nm j) (e - j) ++ (if e = len then [] else sbT 49 ++ cRw M nm (len - e) e 0))
  | 0, q, k, hq, _, hl, _, _, _ => by omega
  | d + 1, q, k, hq, hk, hl, hky, e, he => by
    have es : cRw M nm (d + 1) q k = nTx M (nm q) k ++ (zTx M nm d q k ++ cRw M nm d (q + 1) (if lsB M nm d q = true then 0 else k + 1)) := rfl
    have ek : eTx M (nm q) (k + 1) = eTx M (nm j) (k + 1) := eTx_key h4 (hn q hl) (hn j (by omega)) hky _
    have h46 : sbT 46 = [] := by decide
    rw [es]
    by_cases c : d = 0
    · subst c
      have e1 : e = q + 1 := by rw [he, show len - (q + 1) = 0 by omega]; rfl
      have hls : lsB M nm 0 q = true := by unfold lsB; rfl
      unfold zTx
      rw [if_pos hls, if_pos hls, if_pos rfl, h46, ek, e1, if_pos (by omega), show q + 1 - q = 1 by omega, show q + 1 - j = k + 1 by omega]
      show nTx M (nm q) k ++ ((eTx M (nm j) (k + 1) ++ []) ++ []) = (nTx M (nm q) k ++ []) ++ (eTx M (nm j) (k + 1) ++ [])
      simp only [List.append_nil]
    · have ed : len - (q + 1) = (len - (q + 1 + 1)) + 1 := by omega
      have o1 := oneB_key h4 (hn q hl) (hn (q + 1) (by omega))
      have o2 := oneB_key h4 (hn j (by omega)) (hn (q + 1) (by omega))
      have eE1 : eE M nm (len - (q + 1)) (q + 1) (nm j) = if oneB M (nm j) (nm (q + 1)) = true then eE M nm (len - (q + 1 + 1)) (q + 1 + 1) (nm j) else q + 1 := by rw [ed]; rfl
      by_cases c2 : okey M (nm j) = okey M (nm (q + 1))
      · have hls : ¬ lsB M nm d q = true := by
          unfold lsB
          rw [decide_eq_false c, o1, decide_eq_true (by rw [hky]; exact c2)]; decide
        rw [if_pos (by rw [o2]; exact decide_eq_true c2)] at eE1
        have eb := eE_b M nm (len - (q + 1 + 1)) (q + 1 + 1) (nm j)
        unfold zTx
        rw [if_neg hls, if_neg hls, List.nil_append, cRw_mid h4 hn (j := j) d (q + 1) (k + 1) (by omega) (by omega) (by omega) c2.symm e (by rw [he, eE1])]
        have e2 : e - q = (e - (q + 1)) + 1 := by omega
        rw [e2]
        show _ = (nTx M (nm q) k ++ fTx M nm (e - (q + 1)) (q + 1) (k + 1)) ++ _
        rw [List.append_assoc]
      · have hls : lsB M nm d q = true := by
          unfold lsB
          rw [decide_eq_false c, o1, decide_eq_false (fun h => c2 (by rw [← hky]; exact h))]; rfl
        rw [if_neg (by rw [o2, decide_eq_false c2]; decide)] at eE1
        have e1 : e = q + 1 := by rw [he, eE1]
        unfold zTx
        rw [if_pos hls, if_pos hls, if_neg c, ek, e1, if_neg (by omega), show q + 1 - q = 1 by omega, show q + 1 - j = k + 1 by omega, show len - (q + 1) = d by omega]
        show nTx M (nm q) k ++ ((eTx M (nm j) (k + 1) ++ sbT 49) ++ cRw M nm d (q + 1) 0) = (nTx M (nm q) k ++ []) ++ (eTx M (nm j) (k + 1) ++ (sbT 49 ++ cRw M nm d (q + 1) 0))
        simp only [List.append_nil, List.append_assoc]
/-- an item from place j to e -/
def iTx (M : tMd) (nm : Nat → Int) (j e : Nat) : List Nat := fTx M nm (e - j) j 0 ++ eTx M (nm j) (e - j)
def rRw (M : tMd) (nm : Nat → Int) (len : Nat) : Nat → Nat → List Nat
  | 0, _ => []
  | d + 1, j => if j < len then (if 0 < j then sbT 79 else []) ++ (iTx M nm j (eE M nm (len - (j + 1)) (j + 1) (nm j)) ++ rRw M nm len d (eE M nm (len - (j + 1)) (j + 1) (nm j))) else []
theorem rRw_eq {M : tMd} {N len : Nat} {nm : Nat → Int} (h4 : nmW M N) (hn : ∀ j, j < len → nmOK N (nm j)) : ∀ d j, len - j ≤ d → rRw M nm len d j = if j < len then (if 0 < j then sbT 79 else []) ++ cRw M nm (len - j) j 0 else []
  | 0, j, hd => by rw [if_neg (by omega)]; rfl
  | d + 1, j, hd => by
    show (if j < len then _ else _) = _
    by_cases c : j < len
    · rw [if_pos c, if_pos c]
      congr 1
      have eb := eE_b M nm (len - (j + 1)) (j + 1) (nm j)
      rw [rRw_eq h4 hn d _ (by omega), cRw_mid h4 hn (j := j) (len - j) j 0 (by omega) (by omega) c rfl _ rfl]
      unfold iTx
      rw [List.append_assoc]
      congr 2
      have h79 : sbT 79 = sbT 49 := by decide
      by_cases e : eE M nm (len - (j + 1)) (j + 1) (nm j) = len
      · rw [if_pos e, if_neg (by omega)]
      · rw [if_neg e, if_pos (by omega), if_pos (by omega), h79]
    · rw [if_neg c, if_neg c]
/-- the reference's caption -/
def rCap (M : tMd) (NM : Nat → Nat → Int) (LN : Nat → Nat) : Nat → Nat → List Nat
  | 0, _ => []
  | d + 1, r => (if 0 < r then sbT 76 else []) ++ (sbT 77 ++ (numT r ++ (sbT 78 ++ (rRw M (NM r) (LN r) (LN r) 0 ++ rCap M NM LN d (r + 1)))))
theorem rCap_eq {M : tMd} {N rc : Nat} {NM : Nat → Nat → Int} {LN : Nat → Nat} (h4 : nmW M N) (hn : ∀ r j, r < rc → j < LN r → nmOK N (NM r j)) : ∀ d r, r + d = rc → rCap M NM LN d r = cCap M NM LN d r
  | 0, _, _ => rfl
  | d + 1, r, hr => by
    have e1 : sbT 42 = sbT 76 ++ sbT 77 := by decide
    have e2 : sbT 43 = sbT 77 := by decide
    have e3 : sbT 44 = sbT 78 := by decide
    show (if 0 < r then sbT 76 else []) ++ (sbT 77 ++ (numT r ++ (sbT 78 ++ (rRw M (NM r) (LN r) (LN r) 0 ++ rCap M NM LN d (r + 1))))) = (if 0 < r then sbT 42 else sbT 43) ++ (numT r ++ (sbT 44 ++ (cRw M (NM r) (LN r) 0 0 ++ cCap M NM LN d (r + 1))))
    rw [rCap_eq h4 hn d (r + 1) (by omega), rRw_eq h4 (fun j hj => hn r j (by omega) hj) (LN r) 0 (by omega), e1, e2, e3]
    have e4 : (if 0 < LN r then (if 0 < 0 then sbT 79 else []) ++ cRw M (NM r) (LN r - 0) 0 0 else []) = cRw M (NM r) (LN r) 0 0 := by
      by_cases c : 0 < LN r
      · rw [if_pos c, if_neg (Nat.lt_irrefl _), Nat.sub_zero]; rfl
      · rw [if_neg c, show LN r = 0 by omega]; rfl
    rw [e4]
    by_cases c : 0 < r
    · rw [if_pos c, if_pos c, List.append_assoc]
    · rw [if_neg c, if_neg c]; rfl
