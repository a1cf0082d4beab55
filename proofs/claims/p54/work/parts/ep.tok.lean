/-! ===== the class's tokens, when the text is known ===== -/
theorem eF_eq {P : Nat → Bool} {d p q : Nat} (h1 : p ≤ q) (h2 : q ≤ p + d) (h3 : ∀ i, p ≤ i → i < q → P i = true) (h4 : q = p + d ∨ P q = false) : eF P d p = q := by
  have b := eF_b P d p
  rcases Nat.lt_trichotomy (eF P d p) q with c | c | c
  · have f := eF_f P d p (by omega)
    rw [h3 _ b.1 c] at f
    exact absurd f (by decide)
  · exact c
  · rcases h4 with h4 | h4
    · omega
    · have t := eF_t P d p q h1 c
      rw [h4] at t
      exact absurd t (by decide)
/-- from e on the text is R, to the end n -/
def poR (C : tCl) (n e : Nat) (R : List Nat) : Prop := C.1 1001 4 = (n : Int) ∧ C.1 1001 6 = (e : Int) ∧ n ≤ 1200 ∧ (∀ i, i < n → -128 ≤ C.2.1 1002 i ∧ C.2.1 1002 i ≤ 127) ∧ e + R.length = n ∧ ∀ i, i < R.length → C.2.1 1002 (e + i) = ((R.getD i 0 : Nat) : Int)
def lsF (W : List Nat) : Nat → Int := fun j => ((W.getD j 0 : Nat) : Int)
def isL (c : Nat) : Bool := decide (97 ≤ c ∧ c ≤ 122)
def isD (c : Nat) : Bool := decide (48 ≤ c ∧ c ≤ 57)
def wdK (W : List Nat) : Prop := 1 ≤ W.length ∧ W.length ≤ 8 ∧ ∀ q, q < W.length → isL (W.getD q 0) = true
/-- the token is the word W, behind it R -/
def tkw (C : tCl) (n : Nat) (W R : List Nat) : Prop := ∃ s, poR C n (s + W.length) R ∧ C.1 1001 5 = (s : Int) ∧ wdK W ∧ C.2.2.2 1001 7 = 200 ∧ (∀ q, q < W.length → C.2.1 1002 (s + q) = ((W.getD q 0 : Nat) : Int)) ∧ C.2.2.1 1001 8 = wdL (lsF W)
def tkn (C : tCl) (n : Nat) (v : Int) (R : List Nat) : Prop := ∃ s e, s < e ∧ poR C n e R ∧ C.1 1001 5 = (s : Int) ∧ C.2.2.2 1001 7 = 201 ∧ C.1 1001 9 = v ∧ 0 ≤ v ∧ v ≤ 9999
def tks (C : tCl) (n k : Nat) (R : List Nat) : Prop := ∃ s e, s < e ∧ poR C n e R ∧ C.1 1001 5 = (s : Int) ∧ (k = 202 ∨ k = 203) ∧ C.2.2.2 1001 7 = k
def tke (C : tCl) (n : Nat) : Prop := C.1 1001 4 = (n : Int) ∧ n ≤ 1200 ∧ (∀ i, i < n → -128 ≤ C.2.1 1002 i ∧ C.2.1 1002 i ≤ 127) ∧ (∃ s : Nat, s ≤ n ∧ C.1 1001 5 = (s : Int)) ∧ C.2.2.2 1001 7 = 205
/-- a record of the token -/
def mkM (C : tCl) (n s e : Nat) (kd len num : Int) (f : Nat → Int) : tMd := (fun k => if k = 10 then n else if k = 11 then e else if k = 12 then s else if k = 13 then kd else if k = 15 then len else if k = 16 then num else 0, fun c => if c = 4 then f else if c = 3 then fun i => C.2.1 1002 i % 256 else fun _ => 0)
theorem mkM_by {C : tCl} {n s e : Nat} {kd len num : Int} {f : Nat → Int} (hn : n ≤ 1200) (hb : ∀ i, i < n → -128 ≤ C.2.1 1002 i ∧ C.2.1 1002 i ≤ 127) : byI C (mkM C n s e kd len num f) n := ⟨hn, fun i hi => ⟨hb i hi, rfl⟩⟩
theorem lsF_lw {C : tCl} {s : Nat} {W : List Nat} (h : ∀ q, q < W.length → C.2.1 1002 (s + q) = ((W.getD q 0 : Nat) : Int)) : lwF C s W.length = lsF W := by
  funext j
  unfold lwF lsF
  by_cases c : j < W.length
  · rw [if_pos c, h j c]
  · rw [if_neg c, List.getD, List.getElem?_eq_none (by omega)]; rfl
def mkW (C : tCl) (n s : Nat) (W : List Nat) : tMd := mkM C n s (s + W.length) 1 W.length 0 (lsF W)
theorem tkw_R {C : tCl} {n : Nat} {W R : List Nat} (h : tkw C n W R) : ∃ s, tkR C (mkW C n s W) n s ∧ byI C (mkW C n s W) n := by
  obtain ⟨s, ⟨p1, p2, p3, p4, p5, p6⟩, h1, ⟨w1, w2, w3⟩, h3, h4, h5⟩ := h
  refine ⟨s, ⟨p1, rfl, by omega, h1, rfl, Or.inr ⟨s + W.length, by omega, by omega, p2, rfl, Or.inl ⟨h3, rfl, by omega, ?_, fun q hq => ?_, fun q hq => ?_, ?_⟩⟩⟩, mkM_by p3 p4⟩
  · rw [show s + W.length - s = W.length by omega]; rfl
  · rw [show s + W.length - s = W.length by omega]
    show lsF W q = _
    by_cases c : q < W.length
    · rw [if_pos c, h4 q c]; rfl
    · rw [if_neg c]; unfold lsF; rw [List.getD, List.getElem?_eq_none (by omega)]; rfl
  · have hq' : q < W.length := by omega
    have := w3 q hq'
    unfold isL at this
    have := of_decide_eq_true this
    rw [h4 q hq']
    omega
  · rw [h5, show s + W.length - s = W.length by omega, lsF_lw h4]
def mkN (C : tCl) (n s e : Nat) (kd num : Int) : tMd := mkM C n s e kd 0 num (fun _ => 0)
theorem tkn_R {C : tCl} {n : Nat} {v : Int} {R : List Nat} (h : tkn C n v R) : ∃ s e, tkR C (mkN C n s e 2 v) n s ∧ byI C (mkN C n s e 2 v) n := by
  obtain ⟨s, e, h0, ⟨p1, p2, p3, p4, p5, p6⟩, h1, h2, h3, h4, h5⟩ := h
  exact ⟨s, e, ⟨p1, rfl, by omega, h1, rfl, Or.inr ⟨e, h0, by omega, p2, rfl, Or.inr (Or.inl ⟨h2, rfl, h3, h4, h5⟩)⟩⟩, mkM_by p3 p4⟩
theorem tks_R {C : tCl} {n k : Nat} {R : List Nat} (h : tks C n k R) : ∃ (s e : Nat) (kd : Int), (kd = 3 ∨ kd = 4) ∧ tkR C (mkN C n s e kd 0) n s ∧ byI C (mkN C n s e kd 0) n := by
  obtain ⟨s, e, h0, ⟨p1, p2, p3, p4, p5, p6⟩, h1, h2, h3⟩ := h
  rcases h2 with rfl | rfl
  · exact ⟨s, e, 3, Or.inl rfl, ⟨p1, rfl, by omega, h1, rfl, Or.inr ⟨e, h0, by omega, p2, rfl, Or.inr (Or.inr (Or.inl ⟨h3, rfl⟩))⟩⟩, mkM_by p3 p4⟩
  · exact ⟨s, e, 4, Or.inr rfl, ⟨p1, rfl, by omega, h1, rfl, Or.inr ⟨e, h0, by omega, p2, rfl, Or.inr (Or.inr (Or.inr (Or.inl ⟨h3, rfl⟩)))⟩⟩, mkM_by p3 p4⟩
theorem tke_R {C : tCl} {n : Nat} (h : tke C n) : ∃ s, tkR C (mkN C n s n 0 0) n s ∧ byI C (mkN C n s n 0 0) n := by
  obtain ⟨p1, p3, p4, ⟨s, hs, h1⟩, h2⟩ := h
  exact ⟨s, ⟨p1, rfl, hs, h1, rfl, Or.inl ⟨h2, rfl⟩⟩, mkM_by p3 p4⟩
theorem cmpW_eq {W T : List Nat} : ∀ d k, k + d = T.length → T.length = W.length → (∀ i, i < k → W.getD i 0 = T.getD i 0) → (cmpW (lsF W) T d k = true ↔ W = T)
  | 0, k, h1, h2, h3 => by
    refine ⟨fun _ => ?_, fun _ => rfl⟩
    refine List.ext_getElem h2.symm (fun i hi hi2 => ?_)
    have := h3 i (by omega)
    rw [List.getD, List.getD, List.getElem?_eq_getElem hi, List.getElem?_eq_getElem hi2] at this
    exact this
  | d + 1, k, h1, h2, h3 => by
    have e : cmpW (lsF W) T (d + 1) k = if lsF W k = ((T.getD k 0 : Nat) : Int) then cmpW (lsF W) T d (k + 1) else false := rfl
    rw [e]
    by_cases a1 : lsF W k = ((T.getD k 0 : Nat) : Int)
    · rw [if_pos a1]
      unfold lsF at a1
      exact cmpW_eq d (k + 1) (by omega) h2 (fun i hi => by
        by_cases c : i = k
        · rw [c]; omega
        · exact h3 i (by omega))
    · rw [if_neg a1]
      refine ⟨fun h => absurd h (by decide), fun he => absurd (by unfold lsF; rw [he]) a1⟩
theorem isW_mk {C : tCl} {n s : Nat} {W T : List Nat} : isW (mkW C n s W) T = decide (W = T) := by
  unfold isW
  show (decide ((1 : Int) = 1 ∧ (W.length : Int) = (T.length : Int)) && cmpW (lsF W) T T.length 0) = decide (W = T)
  by_cases c : W.length = T.length
  · rw [decide_eq_true (show (1 : Int) = 1 ∧ (W.length : Int) = (T.length : Int) by omega), Bool.true_and]
    apply Bool.eq_iff_iff.mpr
    rw [decide_eq_true_eq]
    exact cmpW_eq T.length 0 (Nat.zero_add _) c.symm (fun i hi => by omega)
  · rw [decide_eq_false (show ¬ ((1 : Int) = 1 ∧ (W.length : Int) = (T.length : Int)) by omega), Bool.false_and, decide_eq_false (fun h => c (by rw [h]))]
theorem isW_mkN {C : tCl} {n s e : Nat} {kd num : Int} {T : List Nat} (h : ¬ kd = 1) : isW (mkN C n s e kd num) T = false := by
  unfold isW
  rw [decide_eq_false (fun h2 => h h2.1), Bool.false_and]
