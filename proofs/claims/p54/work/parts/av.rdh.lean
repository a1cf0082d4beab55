/-! ===== phrases: the reader, how class and reference stand ===== -/
/-- the reader's numbers: given, queued, called; its queue, its first words -/
abbrev tRd : Type := Int × Int × Int × (Nat → Int) × (Nat → Int64)
def rdL (R nm : Nat) (S : tRd) : List Value := [.ref 1001, .ref nm, .ref 1065, .ref 1070, .int (wI S.1), .ref (R + 1), .int (wI S.2.1), .int (wI S.2.2.1), .ref (R + 2)]
def rdH (h : am_H) (R nm : Nat) (S : tRd) : am_H := (fun q => if q = R then some (.inr (8, rdL R nm S)) else if q = R + 1 then some (.inl (0, 12, .inl (fun i => wI (S.2.2.2.1 i)))) else if q = R + 2 then some (.inl (3, 12, .inr (.inl S.2.2.2.2))) else h.1 q, h.2)
theorem rdH_thr {h : am_H} {R nm : Nat} {S : tRd} : thr (rdH h R nm S) = rdH (thr h) R nm S := rfl
theorem rdH_o {h : am_H} {R nm q : Nat} {S : tRd} (h1 : q < R ∨ R + 2 < q) : (rdH h R nm S).1 q = h.1 q := by
  show (if q = R then _ else if q = R + 1 then _ else if q = R + 2 then _ else h.1 q) = _
  rw [if_neg (by omega), if_neg (by omega), if_neg (by omega)]
section RDH
variable {z : Bool} {h : am_H} {C : tCl} {R nm : Nat} {S : tRd}
theorem strs_rd (hR : 1315 ≤ R) (hs : strs h) : strs (rdH h R nm S) := fun i hi => by
  obtain ⟨a1, ⟨f, a2, a3⟩, a4, a5⟩ := hs i hi
  exact ⟨by rw [rdH_o (by omega)]; exact a1, ⟨f, by rw [rdH_o (by omega)]; exact a2, a3⟩, a4, a5⟩
theorem rd_e (hR : 1315 ≤ R) : (clPut (rdH h R nm S) C).1 R = some (.inr (8, rdL R nm S)) := by
  rw [clPut_o (by omega)]
  exact if_pos rfl
theorem rd_e1 (hR : 1315 ≤ R) : (clPut (rdH h R nm S) C).1 (R + 1) = some (.inl (0, 12, .inl (fun i => wI (S.2.2.2.1 i)))) := by
  rw [clPut_o (by omega)]
  show (if R + 1 = R then _ else if R + 1 = R + 1 then _ else _) = _
  rw [if_neg (by omega), if_pos rfl]
theorem rd_e2 (hR : 1315 ≤ R) : (clPut (rdH h R nm S) C).1 (R + 2) = some (.inl (3, 12, .inr (.inl S.2.2.2.2))) := by
  rw [clPut_o (by omega)]
  show (if R + 2 = R then _ else if R + 2 = R + 1 then _ else if R + 2 = R + 2 then _ else _) = _
  rw [if_neg (by omega), if_neg (by omega), if_pos rfl]
theorem rd_f0 (hR : 1315 ≤ R) : am_fd (clPut (rdH h R nm S) C) R 8 0 = some (.ref 1001) := ru_fd (rd_e hR) rfl
theorem rd_f1 (hR : 1315 ≤ R) : am_fd (clPut (rdH h R nm S) C) R 8 1 = some (.ref nm) := ru_fd (rd_e hR) rfl
theorem rd_f2 (hR : 1315 ≤ R) : am_fd (clPut (rdH h R nm S) C) R 8 2 = some (.ref 1065) := ru_fd (rd_e hR) rfl
theorem rd_f3 (hR : 1315 ≤ R) : am_fd (clPut (rdH h R nm S) C) R 8 3 = some (.ref 1070) := ru_fd (rd_e hR) rfl
theorem rd_f4 (hR : 1315 ≤ R) : am_fd (clPut (rdH h R nm S) C) R 8 4 = some (.int (wI S.1)) := ru_fd (rd_e hR) rfl
theorem rd_f5 (hR : 1315 ≤ R) : am_fd (clPut (rdH h R nm S) C) R 8 5 = some (.ref (R + 1)) := ru_fd (rd_e hR) rfl
theorem rd_f6 (hR : 1315 ≤ R) : am_fd (clPut (rdH h R nm S) C) R 8 6 = some (.int (wI S.2.1)) := ru_fd (rd_e hR) rfl
theorem rd_f7 (hR : 1315 ≤ R) : am_fd (clPut (rdH h R nm S) C) R 8 7 = some (.int (wI S.2.2.1)) := ru_fd (rd_e hR) rfl
theorem rd_f8 (hR : 1315 ≤ R) : am_fd (clPut (rdH h R nm S) C) R 8 8 = some (.ref (R + 2)) := ru_fd (rd_e hR) rfl
theorem rd_set {T : tRd} (hR : 1315 ≤ R) {a : Nat} {e : am_C} (ha : R ≤ a) (he : (rdH h R nm T).1 a = some e) (ho : ∀ q, q ≠ a → (rdH h R nm T).1 q = (rdH h R nm S).1 q) : am_set (clPut (rdH h R nm S) C) a e = clPut (rdH h R nm T) C := by
  rw [cl_seto (by omega)]
  refine congrArg (fun H => clPut H C) (Prod.ext (funext fun q => ?_) rfl)
  show (if q = a then some e else (rdH h R nm S).1 q) = (rdH h R nm T).1 q
  by_cases c : q = a
  · rw [if_pos c, c, he]
  · rw [if_neg c, ho q c]
theorem rd_s4 (hR : 1315 ≤ R) {v : Int} : am_pf (clPut (rdH h R nm S) C) R 8 4 0 (.int (wI v)) = some (clPut (rdH h R nm (v, S.2)) C) := by
  rw [ru_pf0 (rd_e hR) ⟨by decide, (by show 4 < 9; decide)⟩]
  refine congrArg some (rd_set hR (Nat.le_refl _) ?_ (fun q hq => ?_))
  · exact if_pos rfl
  · show (if q = R then _ else if q = R + 1 then _ else if q = R + 2 then _ else h.1 q) = (if q = R then _ else if q = R + 1 then _ else if q = R + 2 then _ else h.1 q)
    rw [if_neg hq, if_neg hq]
theorem rd_s6 (hR : 1315 ≤ R) {v : Int} : am_pf (clPut (rdH h R nm S) C) R 8 6 0 (.int (wI v)) = some (clPut (rdH h R nm (S.1, v, S.2.2)) C) := by
  rw [ru_pf0 (rd_e hR) ⟨by decide, (by show 6 < 9; decide)⟩]
  refine congrArg some (rd_set hR (Nat.le_refl _) ?_ (fun q hq => ?_))
  · exact if_pos rfl
  · show (if q = R then _ else if q = R + 1 then _ else if q = R + 2 then _ else h.1 q) = (if q = R then _ else if q = R + 1 then _ else if q = R + 2 then _ else h.1 q)
    rw [if_neg hq, if_neg hq]
theorem rd_s7 (hR : 1315 ≤ R) {v : Int} : am_pf (clPut (rdH h R nm S) C) R 8 7 0 (.int (wI v)) = some (clPut (rdH h R nm (S.1, S.2.1, v, S.2.2.2)) C) := by
  rw [ru_pf0 (rd_e hR) ⟨by decide, (by show 7 < 9; decide)⟩]
  refine congrArg some (rd_set hR (Nat.le_refl _) ?_ (fun q hq => ?_))
  · exact if_pos rfl
  · show (if q = R then _ else if q = R + 1 then _ else if q = R + 2 then _ else h.1 q) = (if q = R then _ else if q = R + 1 then _ else if q = R + 2 then _ else h.1 q)
    rw [if_neg hq, if_neg hq]
theorem rd_q (hR : 1315 ≤ R) {i : Int} (h1 : 0 ≤ i) (h2 : i < 12) : am_ia (clPut (rdH h R nm S) C) (R + 1) (wI i) = some (wI (S.2.2.2.1 i.toNat)) := ru_ia (rd_e1 hR) h1 (by omega) (by omega)
theorem rd_w (hR : 1315 ≤ R) {i v : Int} (h1 : 0 ≤ i) (h2 : i < 12) : am_is (clPut (rdH h R nm S) C) (R + 1) (wI i) (wI v) = some (clPut (rdH h R nm (S.1, S.2.1, S.2.2.1, up1 S.2.2.2.1 i.toNat v, S.2.2.2.2)) C) := by
  rw [ru_is (rd_e1 hR) h1 (by omega) (by omega)]
  refine congrArg some (rd_set hR (by omega) ?_ (fun q hq => ?_))
  · show (if R + 1 = R then _ else if R + 1 = R + 1 then _ else _) = _
    rw [if_neg (by omega), if_pos rfl]
    refine congrArg (fun f => some (Sum.inl (0, 12, Sum.inl f))) (funext fun j => ?_)
    show wI (if j = i.toNat then v else S.2.2.2.1 j) = (if j = i.toNat then wI v else wI (S.2.2.2.1 j))
    split <;> rfl
  · show (if q = R then _ else if q = R + 1 then _ else if q = R + 2 then _ else h.1 q) = (if q = R then _ else if q = R + 1 then _ else if q = R + 2 then _ else h.1 q)
    rw [if_neg hq, if_neg hq]
    rfl
theorem rd_l (hR : 1315 ≤ R) {i : Int} (h1 : 0 ≤ i) (h2 : i < 12) : am_la (clPut (rdH h R nm S) C) (R + 2) (wI i) = some (S.2.2.2.2 i.toNat) := ru_la (rd_e2 hR) h1 (by omega) (by omega)
theorem rd_j (hR : 1315 ≤ R) {i : Int} {v : Int64} (h1 : 0 ≤ i) (h2 : i < 12) : am_js (clPut (rdH h R nm S) C) (R + 2) (wI i) v = some (clPut (rdH h R nm (S.1, S.2.1, S.2.2.1, S.2.2.2.1, am_up S.2.2.2.2 i.toNat v)) C) := by
  rw [ru_js (rd_e2 hR) h1 (by omega) (by omega)]
  refine congrArg some (rd_set hR (by omega) ?_ (fun q hq => ?_))
  · show (if R + 2 = R then _ else if R + 2 = R + 1 then _ else if R + 2 = R + 2 then _ else _) = _
    rw [if_neg (by omega), if_neg (by omega), if_pos rfl]
  · show (if q = R then _ else if q = R + 1 then _ else if q = R + 2 then _ else h.1 q) = (if q = R then _ else if q = R + 1 then _ else if q = R + 2 then _ else h.1 q)
    rw [if_neg hq, if_neg hq]
    rfl
end RDH
/-- the class, the reference while phrases are read -/
def prC (C0 C : tCl) : Prop := (∀ q, q ≠ 1001 → C.1 q = C0.1 q) ∧ (∀ q, q ≠ 1069 → q ≠ 1078 → C.2.1 q = C0.2.1 q) ∧ (∀ q j, ¬ (q = 1001 ∧ j = 8) → C.2.2.1 q j = C0.2.2.1 q j) ∧ ∀ q j, ¬ (q = 1001 ∧ j = 7) → C.2.2.2 q j = C0.2.2.2 q j
def prM (M0 M : tMd) : Prop := (∀ k, (k < 10 ∨ 18 < k) → k ≠ 35 → M.1 k = M0.1 k) ∧ ∀ c, c ≠ 0 → c ≠ 4 → c ≠ 7 → M.2 c = M0.2 c
def psE (p q : tPh) : Prop := (∀ k, k < 8 → p.1 k = q.1 k) ∧ ∀ c, c < 3 → p.2 c = q.2 c
def prI (n : Nat) (C0 : tCl) (M0 : tMd) (C : tCl) (M : tMd) (gv : Int) : Prop := prC C0 C ∧ (∀ i, i < 4 → C.1 1001 i = C0.1 1001 i) ∧ prM M0 M ∧ M.1 17 = 0 ∧ M.1 35 = gv ∧ mdR M ∧ rgI M ∧ phN (mph M n) (M.1 20) ∧ phR (cph C 1065) ∧ pheq (cph C 1065) (mph M n) ∧ psE (mph M n) (mph M0 n) ∧ psE (cph C 1065) (cph C0 1065) ∧ ∀ j, (j < 54 * n ∨ 54 * n + 54 ≤ j) → M.2 0 j = M0.2 0 j
def epI (n : Nat) (C0 : tCl) (M0 : tMd) (C : tCl) (M : tMd) : Prop := prC C0 C ∧ C.1 1001 1 = C0.1 1001 1 ∧ C.1 1001 2 = M.1 17 ∧ C.1 1001 3 = M.1 18 ∧ (0 ≤ M.1 18 ∧ M.1 18 ≤ 1200) ∧ prM M0 M ∧ phR (cph C 1065) ∧ (∀ j, (j < 54 * n ∨ 54 * n + 54 ≤ j) → M.2 0 j = M0.2 0 j) ∧ mutM M
theorem prC_S {C0 C C' : tCl} (h : prC C0 C) (k : inS C C') : prC C0 C' := ⟨fun q h1 => (k.1 q h1).trans (h.1 q h1), fun q h1 h2 => by rw [k.2.2.1]; exact h.2.1 q h1 h2, fun q j h1 => (k.2.2.2.1 q j h1).trans (h.2.2.1 q j h1), fun q j h1 => (k.2.2.2.2 q j h1).trans (h.2.2.2 q j h1)⟩
theorem prM_S {M0 M M' : tMd} (h : prM M0 M) (k : scS M M') : prM M0 M' := ⟨fun q h1 h2 => (k.1 q (by omega)).trans (h.1 q h1 h2), fun c h0 h1 h2 => (k.2 c h1).trans (h.2 c h0 h1 h2)⟩
theorem mph_S {M M' : tMd} (k : ∀ c, c ≠ 4 → c ≠ 7 → M'.2 c = M.2 c) (n : Nat) : mph M' n = mph M n := by
  rw [mph_f, mph_f, k 0 (by decide) (by decide), k 8 (by decide) (by decide), k 9 (by decide) (by decide)]
theorem mdR_S {M M' : tMd} (h : mdR M) (k1 : ∀ k, (k < 10 ∨ 18 < k) → k ≠ 35 → M'.1 k = M.1 k) (k2 : ∀ c, c ≠ 4 → c ≠ 7 → M'.2 c = M.2 c) : mdR M' := by
  obtain ⟨a1, a2, a3, a4, a5, a6, a7⟩ := h
  exact ⟨by rw [k1 0 (by omega) (by decide)]; exact a1, by rw [k1 1 (by omega) (by decide)]; exact a2, by rw [k1 4 (by omega) (by decide)]; exact a3, by rw [k1 20 (by omega) (by decide)]; exact a4, by rw [k1 25 (by omega) (by decide)]; exact a5, by rw [k1 24 (by omega) (by decide)]; exact a6, fun f hf => by rw [mph_S k2]; exact a7 f hf⟩
theorem rgI_S {M M' : tMd} (h : rgI M) (k1 : M'.1 25 = M.1 25) (k2 : ∀ c, c ≠ 4 → c ≠ 7 → M'.2 c = M.2 c) : rgI M' := by
  unfold rgI at h ⊢
  rw [k1, k2 0 (by decide) (by decide), k2 1 (by decide) (by decide), k2 8 (by decide) (by decide), k2 9 (by decide) (by decide)]
  exact h
/-- cells of the token, of the first words, may change -/
theorem prI_of {n : Nat} {C0 C C' : tCl} {M0 M M' : tMd} {gv : Int} (h : prI n C0 M0 C M gv) (k : inS C C') (k1 : ∀ k, (k < 10 ∨ 16 < k) → M'.1 k = M.1 k) (k2 : ∀ c, c ≠ 4 → c ≠ 7 → M'.2 c = M.2 c) : prI n C0 M0 C' M' gv := by
  obtain ⟨a1, a2, a3, a4, a5, a6, a7, a8, a9, b1, b2, b3, b4⟩ := h
  have e1 : cph C' 1065 = cph C 1065 := cph_eq (k.1 _ (by decide)) (fun c hc => by rw [k.2.2.1])
  refine ⟨prC_S a1 k, fun i hi => by rw [k.2.1 i (by omega)]; exact a2 i hi, ⟨fun q h1 h2 => (k1 q (by omega)).trans (a3.1 q h1 h2), fun c h0 h4 h7 => (k2 c h4 h7).trans (a3.2 c h0 h4 h7)⟩, by rw [k1 17 (by omega)]; exact a4, by rw [k1 35 (by omega)]; exact a5, mdR_S a6 (fun q h1 _ => k1 q (by omega)) k2, rgI_S a7 (k1 25 (by omega)) k2, by rw [mph_S k2, k1 20 (by omega)]; exact a8, by rw [e1]; exact a9, by rw [e1, mph_S k2]; exact b1, by rw [mph_S k2]; exact b2, by rw [e1]; exact b3, fun j hj => by rw [k2 0 (by decide) (by decide)]; exact b4 j hj⟩
theorem prI_tok {n : Nat} {C0 C C' : tCl} {M0 M M' : tMd} {gv : Int} (h : prI n C0 M0 C M gv) (k : inS C C') (k2 : scS M M') : prI n C0 M0 C' M' gv := prI_of h k (fun q hq => k2.1 q (by omega)) (fun c h4 _ => k2.2 c h4)
theorem inS_refl (C : tCl) : inS C C := ⟨fun _ _ => rfl, fun _ _ => rfl, rfl, fun _ _ _ => rfl, fun _ _ _ => rfl⟩
theorem pr_byI {l n : Nat} {C0 C : tCl} {M0 M : tMd} {gv : Int} (hb : byI C0 M0 l) (h : prI n C0 M0 C M gv) : byI C M l := by
  unfold byI at hb ⊢
  rw [h.1.2.1 1002 (by decide) (by decide), h.2.2.1.2 3 (by decide) (by decide) (by decide)]; exact hb
theorem ep_of {n l s : Nat} {C0 C : tCl} {M0 M : tMd} {gv : Int} (h : prI n C0 M0 C M gv) (ht : tkR C M l s) (hn : l ≤ 1200) {t : Int} (h1 : 1 ≤ t ∧ t ≤ 9) : epI n C0 M0 (erC C t) (erM M t) := by
  obtain ⟨a1, a2, a3, a4, a5, a6, a7, a8, a9, b1, b2, b3, b4⟩ := h
  obtain ⟨t1, t2, t3, t4, t5, -⟩ := id ht
  have e17 : (erM M t).1 17 = t := rfl
  have e18 : (erM M t).1 18 = M.1 12 := rfl
  have eo : ∀ q, q ≠ 1001 → (erC C t).1 q = C.1 q := fun q hq => by
    funext j
    show (if q = 1001 then _ else (if q = 1001 then _ else C.1 q j)) = _
    rw [if_neg hq, if_neg hq]
  refine ⟨⟨fun q hq => (eo q hq).trans (a1.1 q hq), a1.2.1, a1.2.2.1, a1.2.2.2⟩, a2 1 (by decide), rfl, ?_, by rw [e18, t5]; omega, ⟨fun k h1 h2 => ?_, a3.2⟩, by rw [cph_eq (eo _ (by decide)) (fun c hc => rfl)]; exact a9, b4, mut_er ht h1⟩
  · rw [e18, t5]; exact t4
  · rw [erM_o (by omega) (by omega)]; exact a3.1 k h1 h2
