/-! ===== law and class between acts ===== -/
/-- what the law holds beside the class -/
def laI (X : am_H) (B : Nat) (A : tLw) (n : Nat) (g : Nat → Int32) (t : Nat) (F L : Nat → List Nat) : Prop := ylP X B A ∧ dwP X B n g t ∧ lnS X B A F L ∧ lwS X ∧ dgI X ∧ strs X
/-- its numbers -/
def wlI (A : tLw) (NN P : Nat) : Prop := A.1 1 = (NN : Int) ∧ NN ≤ 6 ∧ A.1 2 = (P : Int) ∧ (1 ≤ P ∧ P ≤ 3) ∧ (0 ≤ A.1 0 ∧ A.1 0 ≤ 20) ∧ ylR A ∧ ∀ f, f < P → phN (A.2.1 f) (NN : Int) ∧ (1 ≤ (A.2.1 f).1 0 ∧ (A.2.1 f).1 0 ≤ 90) ∧ (1 ≤ (A.2.1 f).1 1 ∧ (A.2.1 f).1 1 ≤ 60) ∧ (∀ i : Nat, (A.2.1 f).1 7 ≤ (i : Int) → (A.2.1 f).2 2 i = 0) ∧ (A.2.1 f).1 4 < (A.2.1 f).1 0
def acI (X : am_H) (B : Nat) (A : tLw) (n : Nat) (g : Nat → Int32) (t : Nat) (F L : Nat → List Nat) (C : tCl) (NN P : Nat) : Prop := laI X B A n g t F L ∧ wlI A NN P ∧ clI X C ∧ 1315 ≤ X.2.1 ∧ yqI C (A.1 0) NN F L ∧ ypI C P A.2.1 ∧ C.1 1001 1 = 0
theorem strs_ag {X Y : am_H} (h : strs X) (k : ∀ q, q < 600 → Y.1 q = X.1 q) : strs Y := fun i hi => by
  obtain ⟨a1, ⟨f, a2, a3⟩, a4, a5⟩ := h i hi
  exact ⟨by rw [k _ (by omega)]; exact a1, ⟨f, by rw [k _ (by omega)]; exact a2, a3⟩, a4, a5⟩
theorem laI_W {X Y : am_H} {B : Nat} {A A' : tLw} {n : Nat} {g : Nat → Int32} {t t' : Nat} {F L : Nat → List Nat} (hk : txK B n) (h : laI X B A n g t F L) (k : ∀ q, q < 1000 → (q < B ∨ B + 30 ≤ q) → Y.1 q = X.1 q) (hy : ylP Y B A') (hd : dwP Y B n g t') (h1 : A'.1 1 = A.1 1) (h2 : A'.2.2 = A.2.2) : laI Y B A' n g t' F L := by
  obtain ⟨a1, a2, a3, a4, a5, a6⟩ := h
  obtain ⟨k1, k2, k3⟩ := hk
  have hl := lnS_ag a3 k
  refine ⟨hy, hd, ?_, lwS_ag a4 (fun q hq => k q (by omega) (by omega)), dgI_ag a5 (fun q hq => k q (by omega) (by omega)), strs_ag a6 (fun q hq => k q (by omega) (by omega))⟩
  unfold lnS at hl ⊢
  rw [h1, h2]
  exact hl
theorem dwP_ag {X Y : am_H} {B n t : Nat} {g : Nat → Int32} (h : dwP X B n g t) (h1 : Y.1 1 = X.1 1) (h2 : Y.1 B = X.1 B) : dwP Y B n g t := ⟨by rw [h1]; exact h.1, by rw [h2]; exact h.2⟩
theorem cnS {q : tPh} (hr : phR q) : cnB (shw q) (q.1 7).toNat = cnB (shS q) 12 := by
  have h := (phR_s hr).2.2.2.2.2.2.2
  refine cnB_ext (by omega) (fun o ho => ?_) (fun o h1 h2 hs => ?_)
  · by_cases e : shw q o = true
    · have e2 : shS q o = true := by
        unfold shS
        rw [e, Bool.and_true, decide_eq_true_eq]
        omega
      rw [e, e2]
    · have e2 : ¬ shS q o = true := fun hs => e (by
        unfold shS at hs
        rw [Bool.and_eq_true] at hs
        exact hs.2)
      rw [Bool.eq_false_iff.mpr e, Bool.eq_false_iff.mpr e2]
  · have := (shS_rng hr hs).2.2.1
    omega
theorem yc_ib {C : tCl} {gap : Int} {NN P : Nat} {F L : Nat → List Nat} {Q : Nat → tPh} {n : Int} {f : Nat → Int} (h : yqI C gap NN F L) (hp : ypI C P Q) : yqI (ibP C n f) gap NN F L ∧ ypI (ibP C n f) P Q := by
  have e1 : ∀ q, q ≠ 1001 → (ibP C n f).1 q = C.1 q := fun q hq => by unfold ibP; exact upI_n hq
  have e2 : ∀ q, q ≠ 1002 → (ibP C n f).2.1 q = C.2.1 q := fun q hq => if_neg hq
  obtain ⟨a1, a2, -⟩ := yc_fr (C' := ibP C n f) h rfl rfl (fun x x1 _ _ _ _ => e1 x x1) (fun x x1 _ _ => e2 x x1) (fun _ _ _ => rfl) (by rw [cph_eq (e1 _ (by decide)) (fun c hc => e2 _ (by omega))]; exact h.2.2.1.2)
  exact ⟨a1, a2 P Q hp⟩
