/-! ===== the lines of a known text; the class reads a name ===== -/
/-- a line: its kind (0 a name, 1 a photo, 2 a person), two words, three numbers -/
abbrev tLn : Type := Nat × List Nat × List Nat × Nat × Nat × Nat
/-- what was told: the names and how many, the photos and how many -/
abbrev tSt : Type := Nat × (Nat → List Nat) × (Nat → List Nat) × Nat × (Nat → tPh)
def llX (x : tLn) : List Nat := if x.1 = 0 then lwT 4 ++ (x.2.1 ++ ([32] ++ x.2.2.1)) else if x.1 = 1 then lwT 5 ++ (numT x.2.2.2.1 ++ ([32] ++ numT x.2.2.2.2.1)) else lwT 6 ++ (numT x.2.2.2.1 ++ ([32] ++ (numT x.2.2.2.2.1 ++ ([32] ++ numT x.2.2.2.2.2))))
def upW {α : Type} (F : Nat → α) (N : Nat) (w : α) : Nat → α := fun i => if i = N then w else F i
theorem upW_e {α : Type} {F : Nat → α} {N : Nat} {w : α} : upW F N w N = w := if_pos rfl
theorem upW_n {α : Type} {F : Nat → α} {N i : Nat} {w : α} (h : i ≠ N) : upW F N w i = F i := if_neg h
def nph (w h : Nat) : tPh := (up1 (up1 (up1 (up1 (fun _ => 0) 0 (w : Int)) 1 (h : Int)) 4 ((w : Int) - 1)) 5 ((h : Int) - 1), fun _ _ => 0)
def lst (s : tSt) (x : tLn) : tSt := if x.1 = 0 then (s.1 + 1, upW s.2.1 s.1 x.2.1, upW s.2.2.1 s.1 x.2.2.1, s.2.2.2) else if x.1 = 1 then (s.1, s.2.1, s.2.2.1, s.2.2.2.1 + 1, upW s.2.2.2.2 s.2.2.2.1 (nph x.2.2.2.1 x.2.2.2.2.1)) else (s.1, s.2.1, s.2.2.1, s.2.2.2.1, upW s.2.2.2.2 x.2.2.2.1 (laQ (s.2.2.2.2 x.2.2.2.1) ((s.2.2.2.2 x.2.2.2.1).1 7).toNat x.2.2.2.2.1 x.2.2.2.2.2))
def wok (W : List Nat) : Prop := wdK W ∧ ∀ j, 5 ≤ j → j < 14 → ¬ W = sbT j
def ok1 (s : tSt) (x : tLn) : Prop := (x.1 = 0 ∧ s.1 < 20 ∧ wok x.2.1 ∧ wok x.2.2.1 ∧ ∀ m, m < s.1 → ¬ (s.2.1 m = x.2.1 ∧ s.2.2.1 m = x.2.2.1)) ∨ (x.1 = 1 ∧ s.2.2.2.1 < 5 ∧ (1 ≤ x.2.2.2.1 ∧ x.2.2.2.1 ≤ 99) ∧ 1 ≤ x.2.2.2.2.1 ∧ x.2.2.2.2.1 ≤ 99) ∨ (x.1 = 2 ∧ x.2.2.2.1 < s.2.2.2.1 ∧ ((x.2.2.2.2.1 : Nat) : Int) < (s.2.2.2.2 x.2.2.2.1).1 0 ∧ ((x.2.2.2.2.2 : Nat) : Int) < (s.2.2.2.2 x.2.2.2.1).1 1 ∧ (s.2.2.2.2 x.2.2.2.1).1 7 < 12 ∧ x.2.2.2.2.1 ≤ 99 ∧ x.2.2.2.2.2 ≤ 99)
/-- the album that is read: told is s -/
def rdQ (B : Nat) (s : tSt) (C : tCl) : Prop := nmS C B s.1 s.2.1 s.2.2.1 ∧ C.1 (B + 4) 0 = ((s.2.2.2.1 : Nat) : Int) ∧ s.2.2.2.1 ≤ 5 ∧ (∀ f, f < s.2.2.2.1 → pheq (cph C (B + 6 + 5 * f)) (s.2.2.2.2 f) ∧ ∀ i, (s.2.2.2.2 f).2 2 i = 0) ∧ ∀ i, i < 5 → phR (cph C (B + 6 + 5 * i))
def frB (B : Nat) (C0 C : tCl) : Prop := (∀ q, q ≠ 1001 → (q ≤ B ∨ B + 30 < q) → C.1 q = C0.1 q) ∧ (∀ i, i < 4 → C.1 1001 i = C0.1 1001 i) ∧ (∀ q, (q < B ∨ B + 30 < q) → C.2.1 q = C0.2.1 q) ∧ (∀ q j, q ≠ 1001 → q ≠ B + 2 → q ≠ B + 3 → C.2.2.1 q j = C0.2.2.1 q j) ∧ ∀ q j, q ≠ 1001 → C.2.2.2 q j = C0.2.2.2 q j
theorem rdQ_S {B : Nat} {s : tSt} {C C' : tCl} (hB : B = 1003 ∨ B = 1034) (h : rdQ B s C) (k : inS C C') : rdQ B s C' := by
  obtain ⟨a1, a2, a3, a4, a5⟩ := h
  have e : ∀ f, cph C' (B + 6 + 5 * f) = cph C (B + 6 + 5 * f) := fun f => cph_eq (k.1 _ (by omega)) (fun c hc => by rw [k.2.2.1])
  exact ⟨nmS_S a1 k, by rw [k.1 _ (by omega)]; exact a2, a3, fun f hf => by rw [e]; exact a4 f hf, fun i hi => by rw [e]; exact a5 i hi⟩
theorem frB_S {B : Nat} {C0 C C' : tCl} (h : frB B C0 C) (k : inS C C') : frB B C0 C' := by
  obtain ⟨a1, a2, a3, a4, a5⟩ := h
  exact ⟨fun q h1 h2 => by rw [k.1 q h1]; exact a1 q h1 h2, fun i hi => by rw [k.2.1 i (by omega)]; exact a2 i hi, fun q hq => by rw [k.2.2.1]; exact a3 q hq, fun q j h1 h2 h3 => by rw [k.2.2.2.1 q j (by omega)]; exact a4 q j h1 h2 h3, fun q j h1 => by rw [k.2.2.2.2 q j (by omega)]; exact a5 q j h1⟩
theorem tkT_c {C C' : tCl} {n : Nat} {T : List Nat} (h : tkT C n T) (h1 : C'.1 1001 = C.1 1001) (h2 : C'.2.1 1002 = C.2.1 1002) (h4 : C'.2.2.2 1001 7 = C.2.2.2 1001 7) : tkT C' n T := by
  have hs : ∀ k R, tks C n k R → tks C' n k R := fun k R hk => by
    obtain ⟨s, e, k1, k2, k3, k4, k5⟩ := hk
    exact ⟨s, e, k1, poR_c k2 h1 h2, by rw [h1]; exact k3, k4, by rw [h4]; exact k5⟩
  rcases h with ⟨e, k⟩ | ⟨T', e, k⟩ | ⟨T', e, k⟩
  · refine Or.inl ⟨e, ?_⟩
    obtain ⟨k1, k2, k3, ⟨s, k4, k5⟩, k6⟩ := k
    exact ⟨by rw [h1]; exact k1, k2, fun i hi => by rw [h2]; exact k3 i hi, ⟨s, k4, by rw [h1]; exact k5⟩, by rw [h4]; exact k6⟩
  · exact Or.inr (Or.inl ⟨T', e, hs _ _ k⟩)
  · exact Or.inr (Or.inr ⟨T', e, hs _ _ k⟩)
theorem fdN_q {F1 F2 : Nat → Nat → Int} {f1 f2 : Nat → Int} : ∀ d i, (∀ m, i ≤ m → m < i + d → ¬ (agN (F1 m) f1 8 0 = 0 ∧ agN (F2 m) f2 8 0 = 0)) → fdN F1 F2 f1 f2 d i = -1
  | 0, i, _ => rfl
  | d + 1, i, h => by
    rw [fdN, if_neg (h i (Nat.le_refl _) (by omega))]
    exact fdN_q d (i + 1) (fun m a b => h m (by omega) (by omega))
section LNS
variable {z : Bool} {C0 C : tCl} {n B : Nat} {h : am_H} {s : tSt} {x : tLn}
theorem fw43n {N : Nat} {F L : Nat → List Nat} {W V : List Nat} (hs : nmS C B N F L) (hW : wdK W) (hV : wdK V) (hno : ∀ m, m < N → ¬ (F m = W ∧ L m = V)) : ru_ev z 43 [.ref (B + 1), .long (wdL (lsF W)), .long (wdL (lsF V))] (clPut h C) = some (.inl (some (.int (wI (-1)))), clPut h C) := by
  obtain ⟨hA, hN, hN2, hw⟩ := hs
  have c := c43 (z := z) (h := h) (C := C) (F1 := fun i => lsF (F i)) (F2 := fun i => lsF (L i)) hA hN hN2 (lsF_lt hW) (lsF_lt hV) (fun i hi => ⟨lsF_lt (hw i hi).1.1, lsF_lt (hw i hi).1.2, (hw i hi).2.1.1, (hw i hi).2.1.2⟩)
  have e : fdN (fun i => lsF (F i)) (fun i => lsF (L i)) (lsF W) (lsF V) N 0 = -1 := by
    refine fdN_q N 0 (fun m _ hm hh => ?_)
    obtain ⟨⟨m1, m2⟩, -, -, -⟩ := hw m (by omega)
    obtain ⟨q1, q2⟩ := hh
    rw [ag_eq (lsF_lt m1) (lsF_lt hW)] at q1
    rw [ag_eq (lsF_lt m2) (lsF_lt hV)] at q2
    exact hno m (by omega) ⟨lsF_eq m1 hW q1, lsF_eq m2 hV q2⟩
  rw [e] at c
  exact c
theorem na_nm {N : Nat} {F L : Nat → List Nat} {W V : List Nat} (hs : nmS C B N F L) (h20 : N < 20) (hW : wok W) (hV : wok V) (hno : ∀ m, m < N → ¬ (F m = W ∧ L m = V)) : nmS (naC C B N (wdL (lsF W)) (wdL (lsF V))) B (N + 1) (upW F N W) (upW L N V) := by
  obtain ⟨hA, hN, hN2, hw⟩ := hs
  have j2 : ∀ i, (naC C B N (wdL (lsF W)) (wdL (lsF V))).2.2.1 (B + 2) i = if i = N then wdL (lsF W) else C.2.2.1 (B + 2) i := fun i => by
    show (if B + 2 = B + 3 then _ else if B + 2 = B + 2 then (if i = N then wdL (lsF W) else C.2.2.1 (B + 2) i) else C.2.2.1 (B + 2) i) = _
    rw [if_neg (by omega), if_pos rfl]
  have j3 : ∀ i, (naC C B N (wdL (lsF W)) (wdL (lsF V))).2.2.1 (B + 3) i = if i = N then wdL (lsF V) else C.2.2.1 (B + 3) i := fun i => by
    show (if B + 3 = B + 3 then (if i = N then wdL (lsF V) else (if B + 3 = B + 2 then _ else C.2.2.1 (B + 3) i)) else _) = _
    rw [if_pos rfl]
    by_cases e : i = N
    · rw [if_pos e, if_pos e]
    · rw [if_neg e, if_neg (show ¬ B + 3 = B + 2 by omega), if_neg e]
  refine ⟨hA, ?_, by omega, fun i hi => ?_⟩
  · show (if B + 1 = B + 1 then (if 0 = 0 then (N : Int) + 1 else _) else _) = ((N + 1 : Nat) : Int)
    rw [if_pos rfl, if_pos rfl]
    omega
  · rw [j2, j3]
    by_cases e : i = N
    · subst e
      rw [upW_e, upW_e, if_pos rfl, if_pos rfl]
      exact ⟨⟨hW.1, hV.1⟩, ⟨rfl, rfl⟩, fun j h1 h2 => ⟨hW.2 j h1 h2, hV.2 j h1 h2⟩, fun m hm => by rw [upW_n (by omega), upW_n (by omega)]; exact hno m hm⟩
    · rw [upW_n e, upW_n e, if_neg e, if_neg e]
      obtain ⟨k1, k2, k3, k4⟩ := hw i (by omega)
      exact ⟨k1, k2, k3, fun m hm => by rw [upW_n (by omega), upW_n (by omega)]; exact k4 m hm⟩
theorem f41 (hB : B = 1003 ∨ B = 1034) (hst : strs h) (hs : rdQ B s C) (hf : frB B C0 C) (hx : x.1 = 0) (ho : ok1 s x) {W T : List Nat} (ht : tkw C n W ([32] ++ (x.2.1 ++ ([32] ++ (x.2.2.1 ++ T))))) (hT : enT T) : ∃ C', ru_ev z 41 [.ref B, .ref 1001] (clPut h C) = some (.inl none, clPut h C') ∧ rdQ B (lst s x) C' ∧ frB B C0 C' ∧ tkT C' n T := by
  obtain ⟨-, h20, hW, hV, hno⟩ : x.1 = 0 ∧ s.1 < 20 ∧ wok x.2.1 ∧ wok x.2.2.1 ∧ ∀ m, m < s.1 → ¬ (s.2.1 m = x.2.1 ∧ s.2.2.1 m = x.2.2.1) := by
    rcases ho with k | k | k
    · exact k
    · have := k.1; omega
    · have := k.1; omega
  have l32 : isL 32 = false := by decide
  obtain ⟨q0, p0, -⟩ := ht
  obtain ⟨C1, a1, a2, a3⟩ := av_w (z := z) (sp := [32]) p0 spK_1 hW.1 (Or.inr l32)
  obtain ⟨q1, p1, -⟩ := id a2
  obtain ⟨C2, b1, b2, b3⟩ := av_w (z := z) (sp := [32]) p1 spK_1 hV.1 (enT_l hT)
  obtain ⟨q2, p2, -⟩ := id b2
  obtain ⟨C3, c1, c2, c3⟩ := av_T (z := z) hT p2
  have s1 := rdQ_S hB hs a3
  have s2 := rdQ_S hB s1 b3
  have s3 := rdQ_S hB s2 c3
  have f3 := frB_S (frB_S (frB_S hf a3) b3) c3
  have k42 := fw42 (z := z) (h := h) hst a2 hW.2
  have k42' := fw42 (z := z) (h := h) hst b2 hV.2
  have k43 := fw43n (z := z) (h := h) s2.1 hW.1 hV.1 hno
  have k44 := c44 (z := z) (h := h) (C := C3) hB s3.1.2.1 h20 (v := wdL (lsF x.2.1)) (w := wdL (lsF x.2.2.1))
  refine ⟨naC C3 B s.1 (wdL (lsF x.2.1)) (wdL (lsF x.2.2.1)), ?_, ?_, ?_, ?_⟩
  · obtain ⟨f0, f1, f2, f3', f4, f5, f6, f7, f8⟩ := sprF hB (h := h) (C := C)
    obtain ⟨g0, -, g2, -, g4, -, -, -, -⟩ := sprF hB (h := h) (C := C2)
    obtain ⟨e0, -, e2, -, e4, -, -, -, -⟩ := sprF hB (h := h) (C := C3)
    have d1 : ((20 : Int) ≤ C.1 (B + 1) 0) = False := eq_false (by rw [hs.1.2.1]; omega)
    have b20 : 0 ≤ C.1 (B + 1) 0 ∧ C.1 (B + 1) 0 ≤ 20 := by rw [hs.1.2.1]; omega
    simp (disch := omega) only [en41, e41_0, e41_1, e41_2, e41_5, e41_8, e41_10, e41_13, e41_14, e41_17, e41_18, e41_19, e41_22, e41_23, e41_26, e41_27, e41_30, e41_31, e41_32, e41_35, e41_36, e41_39, e41_41, e41_42, e41_43, e41_46, e41_47, e41_49, e41_52, e41_53, e41_56, e41_57, e41_60, e41_61, e41_62, e41_65, e41_66, e41_69, e41_70, e41_73, e41_74, e41_76, e41_79, ↓reduceIte, Bool.false_eq_true, not_false_eq_true, not_true_eq_false, Nat.reduceLeDiff, Nat.reduceAdd, Nat.reduceEqDiff, Int.reduceToNat, Int.toNat_natCast, iB0, iB1, ru_klI, ru_klR, ru_klF, ru_klJ, ru_kl0, ru_cs0, ru_csI, ru_csR, ru_csF, ru_csJ, wI_add, wI_sub, wI_mul, wI_lt, wI_le, wI_inj, ru_fdE, ru_fdN, ru_iaN, ru_baN, ru_laN, ru_qaN, ru_pfN, ru_isN, ru_bsN, ru_jsN, ru_qsN, ru_set2, Nat.add_right_cancel_iff, if_true, if_false, ite_self, Int.reduceEq, and_self, Int.add_neg_cancel_right, Int.add_zero, Int.zero_add, f0, f2, f5, g0, g2, g4, e0, e2, e4, d1, fw36, a1, b1, c1, k42, k42', k43, k44, not_true, not_false_iff]
  · have e1 : ∀ q, q ≠ B + 1 → (naC C3 B s.1 (wdL (lsF x.2.1)) (wdL (lsF x.2.2.1))).1 q = C3.1 q := fun q hq => upI_n hq
    have ec : ∀ f, cph (naC C3 B s.1 (wdL (lsF x.2.1)) (wdL (lsF x.2.2.1))) (B + 6 + 5 * f) = cph C3 (B + 6 + 5 * f) := fun f => cph_eq (e1 _ (by omega)) (fun c hc => rfl)
    unfold lst
    rw [if_pos hx]
    exact ⟨na_nm s3.1 h20 hW hV hno, by rw [e1 _ (by omega)]; exact s3.2.1, s3.2.2.1, fun f hf => by rw [ec]; exact s3.2.2.2.1 f hf, fun i hi => by rw [ec]; exact s3.2.2.2.2 i hi⟩
  · obtain ⟨y1, y2, y3, y4, y5⟩ := f3
    refine ⟨fun q h1 h2 => by rw [show (naC C3 B s.1 (wdL (lsF x.2.1)) (wdL (lsF x.2.2.1))).1 q = C3.1 q from upI_n (by omega)]; exact y1 q h1 h2, fun i hi => by rw [show (naC C3 B s.1 (wdL (lsF x.2.1)) (wdL (lsF x.2.2.1))).1 1001 = C3.1 1001 from upI_n (by omega)]; exact y2 i hi, y3, fun q j h1 h2 h3 => ?_, y5⟩
    show (if q = B + 3 then _ else if q = B + 2 then _ else C3.2.2.1 q j) = _
    rw [if_neg h3, if_neg h2]
    exact y4 q j h1 h2 h3
  · exact tkT_c c2 (upI_n (by omega)) rfl rfl
end LNS
