/-! ===== the class reads a known text of an album ===== -/
theorem lw0 : lwT 0 = sbT 1 ++ ([32] ++ (sbT 3 ++ [32])) := rfl
theorem lw4 : lwT 4 = [59] ++ (sbT 4 ++ [32]) := rfl
theorem lw5 : lwT 5 = [59] ++ (sbT 14 ++ [32]) := rfl
theorem lw6 : lwT 6 = [59] ++ (sbT 15 ++ [32]) := rfl
def lsT : List tLn → List Nat
  | [] => []
  | x :: r => llX x ++ lsT r
def lsZ (s : tSt) : List tLn → tSt
  | [] => s
  | x :: r => lsZ (lst s x) r
def lsO (s : tSt) : List tLn → Prop
  | [] => True
  | x :: r => ok1 s x ∧ lsO (lst s x) r
theorem lsT_s : ∀ (l : List tLn) (x : tLn), lsT (l ++ [x]) = lsT l ++ llX x
  | [], x => by show llX x ++ [] = [] ++ llX x; rw [List.append_nil, List.nil_append]
  | y :: r, x => by show llX y ++ lsT (r ++ [x]) = (llX y ++ lsT r) ++ llX x; rw [lsT_s r x, List.append_assoc]
theorem lsZ_s : ∀ (l : List tLn) (s : tSt) (x : tLn), lsZ s (l ++ [x]) = lst (lsZ s l) x
  | [], _, _ => rfl
  | y :: r, s, x => lsZ_s r (lst s y) x
theorem lsO_s : ∀ (l : List tLn) (s : tSt) (x : tLn), lsO s l → ok1 (lsZ s l) x → lsO s (l ++ [x])
  | [], _, _, _, h => ⟨h, trivial⟩
  | y :: r, s, x, h, k => ⟨h.1, lsO_s r (lst s y) x h.2 k⟩
theorem llX_h (x : tLn) : ∃ R, llX x = [59] ++ R := by
  unfold llX
  rw [lw4, lw5, lw6]
  by_cases c : x.1 = 0
  · rw [if_pos c]; exact ⟨_, by rw [List.append_assoc]⟩
  · rw [if_neg c]
    by_cases d : x.1 = 1
    · rw [if_pos d]; exact ⟨_, by rw [List.append_assoc]⟩
    · rw [if_neg d]; exact ⟨_, by rw [List.append_assoc]⟩
theorem lsT_en (l : List tLn) : enT (lsT l) := by
  cases l with
  | nil => exact Or.inl rfl
  | cons x r =>
    obtain ⟨R, e⟩ := llX_h x
    exact Or.inr (Or.inl ⟨R ++ lsT r, by show llX x ++ lsT r = _; rw [e, List.append_assoc]⟩)
theorem ok1_k {s : tSt} {x : tLn} (h : ok1 s x) : x.1 = 0 ∨ x.1 = 1 ∨ x.1 = 2 := by
  rcases h with h | h | h
  · exact Or.inl h.1
  · exact Or.inr (Or.inl h.1)
  · exact Or.inr (Or.inr h.1)
section RED
variable {z : Bool} {C0 C : tCl} {n B : Nat} {h : am_H} {s : tSt} {x : tLn}
/-- a line, from its semicolon on -/
theorem f40 (hB : B = 1003 ∨ B = 1034) (hst : strs h) (hs : rdQ B s C) (hf : frB B C0 C) (ho : ok1 s x) {e : Nat} {R T : List Nat} (hR : [59] ++ R = llX x ++ T) (hp : poR C n e R) (hT : enT T) : ∃ C1 C', (∀ h, ru_ev z 20 [.ref 1001] (clPut h C) = some (.inl none, clPut h C1)) ∧ ru_ev z 40 [.ref B, .ref 1001] (clPut h C1) = some (.inl none, clPut h C') ∧ rdQ B (lst s x) C' ∧ frB B C0 C' ∧ tkT C' n T := by
  have l32 : isL 32 = false := by decide
  have d0 : ((0 : Int) = 0) = True := eq_true rfl
  have d1 : ((1 : Int) = 0) = False := eq_false (by decide)
  rcases ok1_k ho with hx | hx | hx
  · have eR : R = sbT 4 ++ ([32] ++ (x.2.1 ++ ([32] ++ (x.2.2.1 ++ T)))) := by
      have : [59] ++ R = [59] ++ (sbT 4 ++ ([32] ++ (x.2.1 ++ ([32] ++ (x.2.2.1 ++ T))))) := by
        rw [hR]
        unfold llX
        rw [if_pos hx, lw4]
        simp only [List.append_assoc]
      exact List.append_cancel_left this
    rw [eR] at hp
    obtain ⟨C1, a1, a2, a3⟩ := av_w (z := z) (sp := []) hp spK_0 (W := sbT 4) ⟨by decide, by decide, by decide⟩ (Or.inr l32)
    obtain ⟨C', b1, b2, b3, b4⟩ := f41 (z := z) (h := h) hB hst (rdQ_S hB hs a3) (frB_S hf a3) hx ho a2 hT
    refine ⟨C1, C', a1, ?_, b2, b3, b4⟩
    have x4 := fw28 (z := z) hst (i := 4) (by decide) (by decide) a2
    rw [if_pos rfl] at x4
    simp (disch := omega) only [en40, e40_0, e40_1, e40_3, e40_6, e40_9, e40_10, e40_11, e40_14, e40_17, e40_18, e40_20, e40_23, e40_26, e40_27, e40_28, e40_31, e40_34, e40_35, e40_36, e40_38, e40_41, e40_42, e40_45, e40_46, e40_47, e40_50, ↓reduceIte, Bool.false_eq_true, not_false_eq_true, not_true_eq_false, Nat.reduceLeDiff, Nat.reduceAdd, Nat.reduceEqDiff, Int.reduceToNat, Int.toNat_natCast, iB0, iB1, ru_klI, ru_klR, ru_klF, ru_klJ, ru_kl0, ru_cs0, ru_csI, ru_csR, ru_csF, ru_csJ, wI_add, wI_sub, wI_mul, wI_lt, wI_le, wI_inj, ru_fdE, ru_fdN, ru_iaN, ru_baN, ru_laN, ru_qaN, ru_pfN, ru_isN, ru_bsN, ru_jsN, ru_qsN, ru_set2, Nat.add_right_cancel_iff, if_true, if_false, ite_self, Int.reduceEq, and_self, Int.add_neg_cancel_right, Int.add_zero, Int.zero_add, (sprF hB (h := h) (C := C1)).1, cl_e1, x4, b1, d1]
  · have eR : R = sbT 14 ++ ([32] ++ (numT x.2.2.2.1 ++ ([32] ++ (numT x.2.2.2.2.1 ++ T)))) := by
      have : [59] ++ R = [59] ++ (sbT 14 ++ ([32] ++ (numT x.2.2.2.1 ++ ([32] ++ (numT x.2.2.2.2.1 ++ T))))) := by
        rw [hR]
        unfold llX
        rw [if_neg (by omega), if_pos hx, lw5]
        simp only [List.append_assoc]
      exact List.append_cancel_left this
    rw [eR] at hp
    obtain ⟨C1, a1, a2, a3⟩ := av_w (z := z) (sp := []) hp spK_0 (W := sbT 14) ⟨by decide, by decide, by decide⟩ (Or.inr l32)
    obtain ⟨C', b1, b2, b3, b4⟩ := f45 (z := z) (h := h) hB (rdQ_S hB hs a3) (frB_S hf a3) hx ho a2 hT
    refine ⟨C1, C', a1, ?_, b2, b3, b4⟩
    have x4 := fw28 (z := z) hst (i := 4) (by decide) (by decide) a2
    rw [if_neg (by decide)] at x4
    have x14 := fw28 (z := z) hst (i := 14) (by decide) (by decide) a2
    rw [if_pos rfl] at x14
    simp (disch := omega) only [en40, e40_0, e40_1, e40_3, e40_6, e40_9, e40_10, e40_11, e40_14, e40_17, e40_18, e40_20, e40_23, e40_26, e40_27, e40_28, e40_31, e40_34, e40_35, e40_36, e40_38, e40_41, e40_42, e40_45, e40_46, e40_47, e40_50, ↓reduceIte, Bool.false_eq_true, not_false_eq_true, not_true_eq_false, Nat.reduceLeDiff, Nat.reduceAdd, Nat.reduceEqDiff, Int.reduceToNat, Int.toNat_natCast, iB0, iB1, ru_klI, ru_klR, ru_klF, ru_klJ, ru_kl0, ru_cs0, ru_csI, ru_csR, ru_csF, ru_csJ, wI_add, wI_sub, wI_mul, wI_lt, wI_le, wI_inj, ru_fdE, ru_fdN, ru_iaN, ru_baN, ru_laN, ru_qaN, ru_pfN, ru_isN, ru_bsN, ru_jsN, ru_qsN, ru_set2, Nat.add_right_cancel_iff, if_true, if_false, ite_self, Int.reduceEq, and_self, Int.add_neg_cancel_right, Int.add_zero, Int.zero_add, (sprF hB (h := h) (C := C1)).1, cl_e1, x4, x14, b1, d0, d1]
  · have eR : R = sbT 15 ++ ([32] ++ (numT x.2.2.2.1 ++ ([32] ++ (numT x.2.2.2.2.1 ++ ([32] ++ (numT x.2.2.2.2.2 ++ T)))))) := by
      have : [59] ++ R = [59] ++ (sbT 15 ++ ([32] ++ (numT x.2.2.2.1 ++ ([32] ++ (numT x.2.2.2.2.1 ++ ([32] ++ (numT x.2.2.2.2.2 ++ T))))))) := by
        rw [hR]
        unfold llX
        rw [if_neg (by omega), if_neg (by omega), lw6]
        simp only [List.append_assoc]
      exact List.append_cancel_left this
    rw [eR] at hp
    obtain ⟨C1, a1, a2, a3⟩ := av_w (z := z) (sp := []) hp spK_0 (W := sbT 15) ⟨by decide, by decide, by decide⟩ (Or.inr l32)
    obtain ⟨C', b1, b2, b3, b4⟩ := f49 (z := z) (h := h) hB (rdQ_S hB hs a3) (frB_S hf a3) hx ho a2 hT
    refine ⟨C1, C', a1, ?_, b2, b3, b4⟩
    have x4 := fw28 (z := z) hst (i := 4) (by decide) (by decide) a2
    rw [if_neg (by decide)] at x4
    have x14 := fw28 (z := z) hst (i := 14) (by decide) (by decide) a2
    rw [if_neg (by decide)] at x14
    have x15 := fw28 (z := z) hst (i := 15) (by decide) (by decide) a2
    rw [if_pos rfl] at x15
    simp (disch := omega) only [en40, e40_0, e40_1, e40_3, e40_6, e40_9, e40_10, e40_11, e40_14, e40_17, e40_18, e40_20, e40_23, e40_26, e40_27, e40_28, e40_31, e40_34, e40_35, e40_36, e40_38, e40_41, e40_42, e40_45, e40_46, e40_47, e40_50, ↓reduceIte, Bool.false_eq_true, not_false_eq_true, not_true_eq_false, Nat.reduceLeDiff, Nat.reduceAdd, Nat.reduceEqDiff, Int.reduceToNat, Int.toNat_natCast, iB0, iB1, ru_klI, ru_klR, ru_klF, ru_klJ, ru_kl0, ru_cs0, ru_csI, ru_csR, ru_csF, ru_csJ, wI_add, wI_sub, wI_mul, wI_lt, wI_le, wI_inj, ru_fdE, ru_fdN, ru_iaN, ru_baN, ru_laN, ru_qaN, ru_pfN, ru_isN, ru_bsN, ru_jsN, ru_qsN, ru_set2, Nat.add_right_cancel_iff, if_true, if_false, ite_self, Int.reduceEq, and_self, Int.add_neg_cancel_right, Int.add_zero, Int.zero_add, (sprF hB (h := h) (C := C1)).1, cl_e1, x4, x14, x15, fw36, b1, d0, d1]
theorem f25l (hB : B = 1003 ∨ B = 1034) (hst : strs h) : ∀ (ls : List tLn) (j : Nat) (C : tCl) (s : tSt), lsO s ls → rdQ B s C → frB B C0 C → tkT C n (lsT ls) → j + ls.length ≤ 1000 → ∃ (C' : tCl) (j' : Nat), ru_n z 25 40 [some (.ref B), some (.ref 1001), some (.int (wI ((j : Nat) : Int)))] [] (clPut h C) = ru_n z 25 72 [some (.ref B), some (.ref 1001), some (.int (wI ((j' : Nat) : Int)))] [] (clPut h C') ∧ rdQ B (lsZ s ls) C' ∧ frB B C0 C' ∧ tke C' n := by
  intro ls
  have d0 : ((0 : Int) = 0) = True := eq_true rfl
  have d1 : ((1 : Int) = 0) = False := eq_false (by decide)
  induction ls with
  | nil =>
    intro j C s ho hs hf ht hj
    have he : tke C n := by
      rcases ht with ⟨-, h1⟩ | ⟨T', h1, -⟩ | ⟨T', h1, -⟩
      · exact h1
      · exact absurd h1 (by intro e; cases e)
      · exact absurd h1 (by intro e; cases e)
    have e2 : ((1200 : Int) ≤ (j : Int)) = False := eq_false (by have : ([] : List tLn).length = 0 := rfl; omega)
    have x := fw39 (z := z) (h := h) (K := 202) (by decide) he.2.2.2.2 (by decide)
    rw [if_neg (by decide)] at x
    refine ⟨C, j, ?_, hs, hf, he⟩
    simp (disch := omega) only [e25_40, e25_41, e25_44, e25_47, e25_48, e25_51, e25_54, ↓reduceIte, Bool.false_eq_true, not_false_eq_true, not_true_eq_false, Nat.reduceLeDiff, Nat.reduceAdd, Nat.reduceEqDiff, Int.reduceToNat, Int.toNat_natCast, iB0, iB1, ru_klI, ru_klR, ru_klF, ru_klJ, ru_kl0, ru_cs0, ru_csI, ru_csR, ru_csF, ru_csJ, wI_add, wI_sub, wI_mul, wI_lt, wI_le, wI_inj, ru_fdE, ru_fdN, ru_iaN, ru_baN, ru_laN, ru_qaN, ru_pfN, ru_isN, ru_bsN, ru_jsN, ru_qsN, ru_set2, Nat.add_right_cancel_iff, if_true, if_false, ite_self, Int.reduceEq, and_self, Int.add_neg_cancel_right, Int.add_zero, Int.zero_add, cl_e1, e2, x, d0]
  | cons y r ih =>
    intro j C s ho hs hf ht hj
    have hl : (y :: r).length = r.length + 1 := rfl
    obtain ⟨R, eR⟩ := llX_h y
    have eT : lsT (y :: r) = [59] ++ (R ++ lsT r) := by show llX y ++ lsT r = _; rw [eR, List.append_assoc]
    have hs2 : tks C n 202 (R ++ lsT r) := by
      rw [eT] at ht
      rcases ht with ⟨e, -⟩ | ⟨T', e, k⟩ | ⟨T', e, -⟩
      · exact absurd e (by intro e; cases e)
      · rw [List.append_cancel_left e]; exact k
      · exact absurd (List.cons.inj e).1 (by decide)
    obtain ⟨q, e, hse, hpo, -, -, hk⟩ := hs2
    obtain ⟨C1, C2, a1, a2, a3, a4, a5⟩ := f40 (z := z) (h := h) hB hst hs hf ho.1 (R := R ++ lsT r) (T := lsT r) (by rw [eR, List.append_assoc]) hpo (lsT_en r)
    obtain ⟨C3, j', b1, b2, b3, b4⟩ := ih (j + 1) C2 (lst s y) ho.2 a3 a4 a5 (by omega)
    have e2 : ((1200 : Int) ≤ (j : Int)) = False := eq_false (by omega)
    have x := fw39 (z := z) (h := h) (K := 202) (by decide) hk (by decide)
    rw [if_pos rfl] at x
    refine ⟨C3, j', ?_, b2, b3, b4⟩
    rw [← b1, e25_40]
    simp only [Int.natCast_add, Int.natCast_one]
    simp (disch := omega) only [e25_41, e25_44, e25_47, e25_48, e25_51, e25_54, e25_57, e25_58, e25_61, e25_62, e25_63, e25_66, e25_69, ↓reduceIte, Bool.false_eq_true, not_false_eq_true, not_true_eq_false, Nat.reduceLeDiff, Nat.reduceAdd, Nat.reduceEqDiff, Int.reduceToNat, Int.toNat_natCast, iB0, iB1, ru_klI, ru_klR, ru_klF, ru_klJ, ru_kl0, ru_cs0, ru_csI, ru_csR, ru_csF, ru_csJ, wI_add, wI_sub, wI_mul, wI_lt, wI_le, wI_inj, ru_fdE, ru_fdN, ru_iaN, ru_baN, ru_laN, ru_qaN, ru_pfN, ru_isN, ru_bsN, ru_jsN, ru_qsN, ru_set2, Nat.add_right_cancel_iff, if_true, if_false, ite_self, Int.reduceEq, and_self, Int.add_neg_cancel_right, Int.add_zero, Int.zero_add, cl_e1, (sprF hB).1, e2, x, d1, a1, a2]
def s0L : tSt := (0, fun _ => [], fun _ => [], 0, fun _ => (fun _ => 0, fun _ _ => 0))
def frW (B : Nat) (C0 C : tCl) : Prop := (∀ q, q ≠ 1001 → (q < B ∨ B + 30 < q) → C.1 q = C0.1 q) ∧ (∀ i, i < 4 → C.1 1001 i = C0.1 1001 i) ∧ (∀ q, (q < B ∨ B + 30 < q) → C.2.1 q = C0.2.1 q) ∧ (∀ q j, q ≠ 1001 → q ≠ B + 2 → q ≠ B + 3 → C.2.2.1 q j = C0.2.2.1 q j) ∧ ∀ q j, q ≠ 1001 → C.2.2.2 q j = C0.2.2.2 q j
theorem frW_S {B : Nat} {C0 C C' : tCl} (h : frW B C0 C) (k : inS C C') : frW B C0 C' := by
  obtain ⟨a1, a2, a3, a4, a5⟩ := h
  exact ⟨fun q h1 h2 => by rw [k.1 q h1]; exact a1 q h1 h2, fun i hi => by rw [k.2.1 i (by omega)]; exact a2 i hi, fun q hq => by rw [k.2.2.1]; exact a3 q hq, fun q j h1 h2 h3 => by rw [k.2.2.2.1 q j (by omega)]; exact a4 q j h1 h2 h3, fun q j h1 => by rw [k.2.2.2.2 q j (by omega)]; exact a5 q j h1⟩
theorem frW_B {B : Nat} {C0 C C' : tCl} (h : frW B C0 C) (k : frB B C C') : frW B C0 C' := by
  obtain ⟨a1, a2, a3, a4, a5⟩ := h
  obtain ⟨b1, b2, b3, b4, b5⟩ := k
  exact ⟨fun q h1 h2 => (b1 q h1 (by omega)).trans (a1 q h1 h2), fun i hi => (b2 i hi).trans (a2 i hi), fun q hq => (b3 q hq).trans (a3 q hq), fun q j h1 h2 h3 => (b4 q j h1 h2 h3).trans (a4 q j h1 h2 h3), fun q j h1 => (b5 q j h1).trans (a5 q j h1)⟩
theorem frW_I {B q0 k : Nat} {v : Int} {C0 C : tCl} (hB : B = 1003 ∨ B = 1034) (h : frW B C0 C) (hq : B ≤ q0 ∧ q0 ≤ B + 30) : frW B C0 (upI C q0 k v) := by
  obtain ⟨a1, a2, a3, a4, a5⟩ := h
  exact ⟨fun q h1 h2 => by rw [upI_n (by omega)]; exact a1 q h1 h2, fun i hi => by rw [upI_n (by omega)]; exact a2 i hi, a3, a4, a5⟩
theorem f25 (hB : B = 1003 ∨ B = 1034) (hst : strs h) (hph : ∀ i, i < 5 → phR (cph C (B + 6 + 5 * i))) {gap : Nat} (hg : gap ≤ 99) {ls : List tLn} (ho : lsO s0L ls) (hl : ls.length ≤ 900) (hP : 0 < (lsZ s0L ls).2.2.2.1) (ht : tkw C n (sbT 1) ([32] ++ (sbT 3 ++ ([32] ++ (numT gap ++ lsT ls))))) : ∃ C', ru_ev z 25 [.ref B, .ref 1001] (clPut h C) = some (.inl none, clPut h C') ∧ rdQ B (lsZ s0L ls) C' ∧ frW B C C' ∧ C'.1 B 0 = (gap : Int) := by
  have l32 : isL 32 = false := by decide
  have d0 : ((0 : Int) = 0) = True := eq_true rfl
  have d1 : ((1 : Int) = 0) = False := eq_false (by decide)
  have hk := spr_k hB
  obtain ⟨D1, hD1⟩ : ∃ D, D = upI C (B + 1) 0 0 := ⟨_, rfl⟩
  obtain ⟨D2, hD2⟩ : ∃ D, D = upI D1 (B + 4) 0 0 := ⟨_, rfl⟩
  have fr0 : frW B C C := ⟨fun _ _ _ => rfl, fun _ _ => rfl, fun _ _ => rfl, fun _ _ _ _ _ => rfl, fun _ _ _ => rfl⟩
  have fr2 : frW B C D2 := by rw [hD2, hD1]; exact frW_I hB (frW_I hB fr0 (by omega)) (by omega)
  have e12 : D2.1 1001 = C.1 1001 := by rw [hD2, upI_n (by omega), hD1, upI_n (by omega)]
  have e22 : D2.2 = C.2 := by rw [hD2, hD1]; rfl
  have t2 : tkw D2 n (sbT 1) ([32] ++ (sbT 3 ++ ([32] ++ (numT gap ++ lsT ls)))) := tkw_c ht e12 (by rw [e22]) (by rw [e22]) (by rw [e22])
  obtain ⟨q2, p2, -⟩ := id t2
  obtain ⟨D3, a1, a2, a3⟩ := av_w (z := z) (sp := [32]) p2 spK_1 (W := sbT 3) ⟨by decide, by decide, by decide⟩ (Or.inr l32)
  obtain ⟨q3, p3, -⟩ := id a2
  obtain ⟨D4, b1, b2, b3⟩ := av_n (z := z) (sp := [32]) hg p3 spK_1 (enT_d (lsT_en ls))
  obtain ⟨-, q4, -, p4, -⟩ := id b2
  obtain ⟨D5, c1, c2, c3⟩ := av_T (z := z) (lsT_en ls) p4
  obtain ⟨D6, hD6⟩ : ∃ D, D = upI D5 B 0 (gap : Int) := ⟨_, rfl⟩
  have fr5 : frW B C D5 := frW_S (frW_S (frW_S fr2 a3) b3) c3
  have fr6 : frW B C D6 := by rw [hD6]; exact frW_I hB fr5 (by omega)
  have o5 : ∀ q, q ≠ 1001 → D5.1 q = D2.1 q := fun q hq => by rw [c3.1 q hq, b3.1 q hq, a3.1 q hq]
  have o6 : ∀ q, q ≠ 1001 → q ≠ B → D6.1 q = D2.1 q := fun q h1 h2 => by rw [hD6, upI_n h2, o5 q h1]
  have o62 : D6.2.1 = C.2.1 := by rw [hD6]; show D5.2.1 = _; rw [c3.2.2.1, b3.2.2.1, a3.2.2.1, e22]
  have s6 : rdQ B s0L D6 := by
    refine ⟨⟨hB, ?_, by decide, fun i hi => absurd hi (Nat.not_lt_zero _)⟩, ?_, by decide, fun f hf => absurd hf (Nat.not_lt_zero _), fun i hi => ?_⟩
    · rw [o6 _ (by omega) (by omega), hD2, upI_n (by omega), hD1, upI_e]; rfl
    · rw [o6 _ (by omega) (by omega), hD2, upI_e]; rfl
    · rw [cph_eq (D := D6) (C := C) (by rw [o6 _ (by omega) (by omega), hD2, upI_n (by omega), hD1, upI_n (by omega)]) (fun c hc => by rw [o62])]
      exact hph i hi
  have f6 : frB B D6 D6 := ⟨fun _ _ _ => rfl, fun _ _ => rfl, fun _ _ => rfl, fun _ _ _ _ _ => rfl, fun _ _ _ => rfl⟩
  have t6 : tkT D6 n (lsT ls) := tkT_c c2 (by rw [hD6, upI_n (by omega)]) (by rw [hD6]; rfl) (by rw [hD6]; rfl)
  obtain ⟨C', j', r1, r2, r3, r4⟩ := f25l (z := z) (h := h) hB hst ls 0 D6 s0L ho s6 f6 t6 (by omega)
  refine ⟨C', ?_, r2, frW_B fr6 r3, by rw [r3.1 B (by omega) (Or.inl (Nat.le_refl _)), hD6, upI_e, if_pos rfl]⟩
  have k27 := fw27 (z := z) (h := h) hst (i := 1) (by decide) (by decide) t2 a1
  have k27' := fw27 (z := z) (h := h) hst (i := 3) (by decide) (by decide) a2 b1
  have k37 := fw37 (z := z) (h := h) b2 (lo := 0) (hi := 99) (by omega) (by omega) (by decide) (by decide) c1
  have y1 : am_pf (clPut h C) (B + 1) 3 0 0 (.int (wI 0)) = some (clPut h D1) := by rw [hD1]; exact cl_p3_0 hk.2.1 (by omega)
  have y2 : ru_ev z 26 [.ref (B + 4)] (clPut h D1) = some (.inl none, clPut h D2) := by rw [hD2]; exact m26 hk.2.2.2.2.1
  have y3 : am_pf (clPut h D5) B 2 0 0 (.int (wI (gap : Int))) = some (clPut h D6) := by rw [hD6]; exact cl_p2_0 hk.1 (by omega)
  have x5 := fw39 (z := z) (h := h) (K := 205) (by decide) r4.2.2.2.2 (by decide)
  rw [if_pos rfl] at x5
  obtain ⟨v0, v1, v2, v3, v4, v5, v6, v7, v8⟩ := sprF hB (h := h) (C := C)
  obtain ⟨u0, u1, u2, u3, u4, u5, u6, u7, u8⟩ := sprF hB (h := h) (C := D1)
  obtain ⟨w0, w1, w2, w3, w4, w5, w6, w7, w8⟩ := sprF hB (h := h) (C := C')
  rw [r2.2.1] at w7
  have hP5 := r2.2.2.1
  have dP : (((lsZ s0L ls).2.2.2.1 : Int) ≤ 0) = False := eq_false (by omega)
  have r1' : ru_n z 25 40 [some (.ref B), some (.ref 1001), some (.int (wI 0))] [] (clPut h D6) = _ := r1
  simp (disch := omega) only [en25, e25_0, e25_1, e25_4, e25_5, e25_8, e25_9, e25_12, e25_15, e25_16, e25_18, e25_21, e25_22, e25_24, e25_27, e25_28, e25_29, e25_30, e25_32, e25_35, e25_38, e25_39, e25_72, e25_73, e25_74, e25_77, e25_80, e25_81, e25_84, e25_85, e25_86, e25_89, e25_92, e25_95, e25_96, e25_99, e25_100, e25_101, e25_104, ↓reduceIte, Bool.false_eq_true, not_false_eq_true, not_true_eq_false, Nat.reduceLeDiff, Nat.reduceAdd, Nat.reduceEqDiff, Int.reduceToNat, Int.toNat_natCast, iB0, iB1, ru_klI, ru_klR, ru_klF, ru_klJ, ru_kl0, ru_cs0, ru_csI, ru_csR, ru_csF, ru_csJ, wI_add, wI_sub, wI_mul, wI_lt, wI_le, wI_inj, ru_fdE, ru_fdN, ru_iaN, ru_baN, ru_laN, ru_qaN, ru_pfN, ru_isN, ru_bsN, ru_jsN, ru_qsN, ru_set2, Nat.add_right_cancel_iff, if_true, if_false, ite_self, Int.reduceEq, and_self, Int.add_neg_cancel_right, Int.add_zero, Int.zero_add, v0, v2, v4, u0, u3, u6, y1, y2, cl_e1, k27, k27', k37, y3, (sprF hB (h := h) (C := D5)).1, r1', x5, fw36, w0, w3, w6, w7, dP, d0, d1, not_true, not_false_iff]
end RED
