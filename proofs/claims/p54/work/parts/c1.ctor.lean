/-! ===== the constructors: the heap as they leave it ===== -/
def C0i : tCl := (fun q i => if q = 1001 ∧ i = 3 then -1 else 0, fun _ _ => 0, fun _ _ => 0, fun q i => if q = 1000 then (if i = 1 then 1003 else 1034) else if q = 1001 then 205 else if q = 1093 then 1094 + 27 * i else if q = 1256 then 1261 + 27 * i else if q = 1258 then 1259 else 0)
def M0i : tMd := (fun k => if k = 9 then -1 else 0, fun _ _ => 0)
def HI : am_H := clPut (mdPut (fun q => if q = 1259 then some (.inl (1, 16, .inl (fun _ => wI 0))) else none, 0, 0) M0i) C0i
/-- h with n cells laid at its end, as the constructors leave them -/
def blH (h : am_H) (n s : Nat) : am_H := (fun q => if h.2.1 ≤ q ∧ q < h.2.1 + n then HI.1 q else h.1 q, h.2.1 + n, h.2.2 + s)
theorem am_ext {h g : am_H} (h1 : ∀ q, h.1 q = g.1 q) (h2 : h.2 = g.2) : h = g := Prod.ext (funext h1) h2
theorem blH_bl {h : am_H} {n s m t : Nat} : blH (blH h n s) m t = blH h (n + m) (s + t) := by
  refine am_ext (fun q => ?_) (by show (h.2.1 + n + m, h.2.2 + s + t) = (h.2.1 + (n + m), h.2.2 + (s + t)); rw [Nat.add_assoc, Nat.add_assoc])
  show (if h.2.1 + n ≤ q ∧ q < h.2.1 + n + m then HI.1 q else if h.2.1 ≤ q ∧ q < h.2.1 + n then HI.1 q else h.1 q) = if h.2.1 ≤ q ∧ q < h.2.1 + (n + m) then HI.1 q else h.1 q
  by_cases c1 : h.2.1 + n ≤ q ∧ q < h.2.1 + n + m
  · rw [if_pos c1, if_pos (by omega)]
  · rw [if_neg c1]
    by_cases c2 : h.2.1 ≤ q ∧ q < h.2.1 + n
    · rw [if_pos c2, if_pos (by omega)]
    · rw [if_neg c2, if_neg (by omega)]
theorem blH_set {h : am_H} {a n s : Nat} {e : am_C} (ha : a < h.2.1) : blH (am_set h a e) n s = am_set (blH h n s) a e := by
  refine am_ext (fun q => ?_) rfl
  show (if h.2.1 ≤ q ∧ q < h.2.1 + n then HI.1 q else if q = a then some e else h.1 q) = if q = a then some e else if h.2.1 ≤ q ∧ q < h.2.1 + n then HI.1 q else h.1 q
  by_cases c : q = a
  · rw [if_neg (by omega), if_pos c, if_pos c]
  · rw [if_neg c, if_neg c]
theorem nw_set {h : am_H} {a n : Nat} {e e' : am_C} (ha : a < h.2.1) : am_new (am_set h a e) e' n = am_set (am_new h e' n) a e := by
  refine am_ext (fun q => ?_) rfl
  show (if q = h.2.1 then some e' else if q = a then some e else h.1 q) = if q = a then some e else if q = h.2.1 then some e' else h.1 q
  by_cases c : q = a
  · rw [if_neg (by omega), if_pos c, if_pos c]
  · rw [if_neg c, if_neg c]
theorem nw_bl {h : am_H} {e : am_C} {n s m : Nat} : am_new (blH h n s) e m = am_set (blH h (n + 1) (s + m)) (h.2.1 + n) e := by
  refine am_ext (fun q => ?_) (by show (h.2.1 + n + 1, h.2.2 + s + m) = (h.2.1 + (n + 1), h.2.2 + (s + m)); rw [Nat.add_assoc, Nat.add_assoc])
  show (if q = h.2.1 + n then some e else if h.2.1 ≤ q ∧ q < h.2.1 + n then HI.1 q else h.1 q) = if q = h.2.1 + n then some e else if h.2.1 ≤ q ∧ q < h.2.1 + (n + 1) then HI.1 q else h.1 q
  by_cases c : q = h.2.1 + n
  · rw [if_pos c, if_pos c]
  · rw [if_neg c, if_neg c]
    by_cases c2 : h.2.1 ≤ q ∧ q < h.2.1 + n
    · rw [if_pos c2, if_pos (by omega)]
    · rw [if_neg c2, if_neg (by omega)]
theorem nw_0 {h : am_H} {e : am_C} {m : Nat} : am_new h e m = am_set (blH h 1 m) h.2.1 e := by
  refine am_ext (fun q => ?_) rfl
  show (if q = h.2.1 then some e else h.1 q) = if q = h.2.1 then some e else if h.2.1 ≤ q ∧ q < h.2.1 + 1 then HI.1 q else h.1 q
  by_cases c : q = h.2.1
  · rw [if_pos c, if_pos c]
  · rw [if_neg c, if_neg c, if_neg (by omega)]
/-- a cell that is done -/
theorem bl_fin {h : am_H} {a n s : Nat} {e : am_C} (h1 : h.2.1 ≤ a) (h2 : a < h.2.1 + n) (he : HI.1 a = some e) : am_set (blH h n s) a e = blH h n s := by
  refine am_ext (fun q => ?_) rfl
  show (if q = a then some e else if h.2.1 ≤ q ∧ q < h.2.1 + n then HI.1 q else h.1 q) = if h.2.1 ≤ q ∧ q < h.2.1 + n then HI.1 q else h.1 q
  by_cases c : q = a
  · rw [if_pos c, if_pos (by omega), c, he]
  · rw [if_neg c]
theorem set_set {h : am_H} {a : Nat} {e f : am_C} : am_set (am_set h a e) a f = am_set h a f := by
  refine am_ext (fun q => ?_) rfl
  show (if q = a then some f else if q = a then some e else h.1 q) = if q = a then some f else h.1 q
  by_cases c : q = a
  · rw [if_pos c, if_pos c]
  · rw [if_neg c, if_neg c, if_neg c]
theorem bl_1 {h : am_H} {q n s : Nat} (h1 : h.2.1 ≤ q) (h2 : q < h.2.1 + n) : (blH h n s).1 q = HI.1 q := if_pos ⟨h1, h2⟩
theorem bl_2 {h : am_H} {n s : Nat} : (blH h n s).2.1 = h.2.1 + n := rfl
theorem na_k {h : am_H} {m : Nat} (hm : m ≤ 5000) (k : Nat) : am_na h k (wI m) = if k ≤ 2 then some (am_new h (.inl (k, m, .inl (fun _ => wI 0))) m) else if k = 3 then some (am_new h (.inl (k, m, .inr (.inl (fun _ => 0)))) m) else if k = 4 then some (am_new h (.inl (k, m, .inr (.inr (.inr (.inl (fun _ => 0)))))) m) else if k = 5 ∨ k = 6 ∨ k = 7 then some (am_new h (.inl (k, m, .inr (.inr (.inr (.inr (fun _ => none)))))) m) else none := by
  unfold am_na
  have e1 : (wI m).toNatClampNeg = m := by rw [wI_clamp (by omega) (by omega)]; exact Int.toNat_natCast m
  rw [e1, if_pos ⟨by rw [wI_0, wI_lt (by omega) (by omega) (by omega) (by omega)]; omega, by omega⟩, ← wI_0]
/-- a row laid behind an object that is being made -/
theorem na_bl {h : am_H} {a n s k m : Nat} {e c : am_C} {mi : Int} (hmi : mi = m) (hm : m ≤ 5000) (ha : a < h.2.1 + n) (hc : (if k ≤ 2 then some (.inl (k, m, .inl (fun _ => wI 0))) else if k = 3 then some (.inl (k, m, .inr (.inl (fun _ => 0)))) else none) = some c) (hI : HI.1 (h.2.1 + n) = some c) : am_na (am_set (blH h n s) a e) k (wI mi) = some (am_set (blH h (n + 1) (s + m)) a e) := by
  rw [hmi, na_k hm]
  have key : am_new (am_set (blH h n s) a e) c m = am_set (blH h (n + 1) (s + m)) a e := by
    rw [nw_set (by rw [bl_2]; omega), nw_bl, bl_fin (by omega) (by omega) hI]
  by_cases k2 : k ≤ 2
  · rw [if_pos k2] at hc ⊢
    cases hc
    rw [key]
  · rw [if_neg k2] at hc ⊢
    by_cases k3 : k = 3
    · rw [if_pos k3] at hc ⊢
      cases hc
      rw [key]
    · rw [if_neg k3] at hc; cases hc
theorem pf_2 {h : am_H} {a c k v : Nat} {fs : List Value} (hc : c < 50) : am_pf (am_set h a (.inr (c, fs))) a c k 2 (.ref v) = if c < 50 ∧ k < fs.length then some (am_set h a (.inr (c, fs.set k (.ref v)))) else none := by
  by_cases e : c < 50 ∧ k < fs.length
  · rw [if_pos e, ru_pfE2 e]
  · rw [if_neg e]
    unfold am_pf
    rw [ru_setE]
    dsimp only
    rw [if_neg (fun h => e ⟨hc, h.2.2⟩)]
theorem HI_100 {q : Nat} (hk : clk q = 100) (h2 : 1000 ≤ q) : HI.1 q = some (.inl (0, cln q, .inl (fun _ => wI 0))) := clP100 hk h2
theorem HI_102 {q : Nat} (hk : clk q = 102) (h2 : 1000 ≤ q) : HI.1 q = some (.inl (2, cln q, .inl (fun _ => wI 0))) := clP102 hk h2
theorem HI_103 {q : Nat} (hk : clk q = 103) (h2 : 1000 ≤ q) : HI.1 q = some (.inl (3, cln q, .inr (.inl (fun _ => 0)))) := clP103 hk h2
theorem C0i_0 {q i : Nat} (h : q ≠ 1001) : C0i.1 q i = 0 := if_neg (fun e => h e.1)
section CTOR
variable {z : Bool} {h : am_H}
theorem b6 {a : Nat} (hp : isPh a) (ha : h.2.1 = a) : ru_ev z 6 [.ref a] (am_new h (.inr (6, [.int (wI 0), .int (wI 0), .int (wI 0), .int (wI 0), .int (wI 0), .int (wI 0), .int (wI 0), .int (wI 0), .null, .null, .null, .null])) 12) = some (.inl none, blH h 5 60) := by
  obtain ⟨k0, k1, k2, k3, k4, n1, n2, n3, n4, h2, h3⟩ := hp
  have r1 := HI_100 k1 (by omega)
  have r2 := HI_100 k2 (by omega)
  have r3 := HI_102 k3 (by omega)
  have r4 := HI_100 k4 (by omega)
  rw [n1] at r1
  rw [n2] at r2
  rw [n3] at r3
  rw [n4] at r4
  have a1 := fun e s => na_bl (h := h) (a := a) (n := 1) (s := s) (e := e) (k := 0) (m := 12) (mi := 12) rfl (by omega) (by omega) rfl (by rw [ha]; exact r1)
  have a2 := fun e s => na_bl (h := h) (a := a) (n := 2) (s := s) (e := e) (k := 0) (m := 12) (mi := 12) rfl (by omega) (by omega) rfl (by rw [ha]; exact r2)
  have a3 := fun e s => na_bl (h := h) (a := a) (n := 3) (s := s) (e := e) (k := 2) (m := 12) (mi := 12) rfl (by omega) (by omega) rfl (by rw [ha]; exact r3)
  have a4 := fun e s => na_bl (h := h) (a := a) (n := 4) (s := s) (e := e) (k := 0) (m := 12) (mi := 12) rfl (by omega) (by omega) rfl (by rw [ha]; exact r4)
  have z0 : ∀ i, C0i.1 a i = 0 := fun i => C0i_0 (by
    rintro rfl
    exact absurd k0 (by decide))
  have fin : am_set (blH h 5 60) a (.inr (6, ((([Value.int (wI 0), .int (wI 0), .int (wI 0), .int (wI 0), .int (wI 0), .int (wI 0), .int (wI 0), .int (wI 0), .null, .null, .null, .null].set 8 (.ref (a + 1))).set 9 (.ref (a + 2))).set 10 (.ref (a + 3))).set 11 (.ref (a + 4)))) = blH h 5 60 := by
    refine bl_fin (by omega) (by omega) ?_
    have e6 : HI.1 a = some (.inr (6, clL6 C0i a)) := clP6 k0 h2
    rw [e6]
    unfold clL6
    simp only [z0]
    rfl
  rw [nw_0, ha]
  simp (disch := omega) only [en6, e6_0, e6_1, e6_4, e6_5, e6_7, e6_9, e6_12, e6_13, e6_15, e6_17, e6_20, e6_21, e6_23, e6_25, e6_28, e6_29, e6_31, e6_33, e6_36, ↓reduceIte, Bool.false_eq_true, not_false_eq_true, not_true_eq_false, Nat.reduceLeDiff, Nat.reduceAdd, Nat.reduceEqDiff, Int.reduceToNat, Int.toNat_natCast, iB0, iB1, ru_klI, ru_klR, ru_klF, ru_klJ, ru_kl0, ru_cs0, ru_csI, ru_csR, ru_csF, ru_csJ, wI_add, wI_sub, wI_mul, wI_lt, wI_le, wI_inj, ru_fdE, ru_fdN, ru_iaN, ru_baN, ru_laN, ru_qaN, ru_pfN, ru_isN, ru_bsN, ru_jsN, ru_qsN, ru_set2, Nat.add_right_cancel_iff, if_true, if_false, ite_self, Int.reduceEq, and_self, Int.add_neg_cancel_right, Int.add_zero, Int.zero_add, ru_setE, a1, a2, a3, a4, bl_2, ha, pf_2, fin, List.length_set, List.length_cons, List.length_nil, Nat.reduceLT, and_self]
def ph0 : am_C := .inr (6, [.int (wI 0), .int (wI 0), .int (wI 0), .int (wI 0), .int (wI 0), .int (wI 0), .int (wI 0), .int (wI 0), .null, .null, .null, .null])
/-- the row of references while it is filled -/
def rfR (k m b w i : Nat) : am_C := .inl (k, m, .inr (.inr (.inr (.inr (fun j => if j < i then some (b + w * j) else none)))))
theorem rfR_up (k m b w i : Nat) : (.inl (k, m, .inr (.inr (.inr (.inr (am_up (fun j => if j < i then some (b + w * j) else none) i (some (b + w * i))))))) : am_C) = rfR k m b w (i + 1) := by
  have e : am_up (fun j => if j < i then some (b + w * j) else none) i (some (b + w * i)) = fun j => if j < i + 1 then some (b + w * j) else none := by
    funext j
    unfold am_up
    by_cases c : j = i
    · rw [if_pos c, if_pos (by omega), c]
    · rw [if_neg c]
      dsimp only
      by_cases c2 : j < i
      · rw [if_pos c2, if_pos (by omega)]
      · rw [if_neg c2, if_neg (by omega)]
  unfold rfR
  rw [e]
/-- a reference put into the row that is being filled, behind the object that is being made -/
theorem qs_bl {h : am_H} {a b x n s k m q w i c : Nat} {e : am_C} {fs : List Value} (hx : x = q + w * i) (hb : h.2.1 ≤ b) (h1 : b < x) (h2 : x < h.2.1 + n) (ha : a ≠ x) (hk : k = 5 ∨ k = 6) (hc : c = am_qc k) (hi : i < m) (hm : m ≤ 100) (hI : HI.1 x = some (.inr (c, fs))) : am_qs (am_set (am_set (blH h n s) a e) b (rfR k m q w i)) b (wI i) x = some (am_set (am_set (blH h n s) a e) b (rfR k m q w (i + 1))) := by
  unfold am_qs
  have e1 : (am_set (am_set (blH h n s) a e) b (rfR k m q w i)).1 x = some (.inr (c, fs)) := by
    rw [ru_setN (by omega), ru_setN (by omega), bl_1 (by omega) h2, hI]
  have e2 : (wI i).toNatClampNeg = i := by rw [wI_clamp (by omega) (by omega)]; exact Int.toNat_natCast i
  have e3 : am_in (wI i) m = true := by
    unfold am_in
    rw [e2, Bool.and_eq_true, decide_eq_true_eq, decide_eq_true_eq]
    exact ⟨by rw [wI_0, wI_lt (by omega) (by omega) (by omega) (by omega)]; omega, hi⟩
  rw [e1, ru_setE]
  unfold rfR
  dsimp only
  rw [if_pos ⟨by omega, hc, e3⟩, e2, set_set, hx, rfR_up]
  rfl
theorem b5l {t : Nat} (ht : isSt t) (ha : h.2.1 = t) {e : am_C} (he : e = .inr (9, [.int (wI 0), .ref (t + 1)])) : ∀ d i : Nat, i + d = 5 → ru_n z 5 14 [some (.ref t), some (.int (wI i))] [] (am_set (am_set (blH h (2 + 5 * i) (7 + 60 * i)) t e) (t + 1) (rfR 5 5 (t + 2) 5 i)) = some (.inl none, am_set (am_set (blH h 27 307) t e) (t + 1) (rfR 5 5 (t + 2) 5 5)) := by
  subst he
  intro d
  induction d with
  | zero =>
    intro i hi
    obtain rfl : i = 5 := by omega
    simp (disch := omega) only [e5_14, e5_15, e5_16, e5_38, ↓reduceIte, Bool.false_eq_true, not_false_eq_true, not_true_eq_false, Nat.reduceLeDiff, Nat.reduceAdd, Nat.reduceEqDiff, Int.reduceToNat, Int.toNat_natCast, iB0, iB1, ru_klI, ru_klR, ru_klF, ru_klJ, ru_kl0, ru_cs0, ru_csI, ru_csR, ru_csF, ru_csJ, wI_add, wI_sub, wI_mul, wI_lt, wI_le, wI_inj, ru_fdE, ru_fdN, ru_iaN, ru_baN, ru_laN, ru_qaN, ru_pfN, ru_isN, ru_bsN, ru_jsN, ru_qsN, ru_set2, Nat.add_right_cancel_iff, if_true, if_false, ite_self, Int.reduceEq, and_self, Int.add_neg_cancel_right, Int.add_zero, Int.zero_add, Int.le_refl, show ((5 : Nat) : Int) = 5 from rfl]
  | succ d ih =>
    intro i hi
    have ih1 := ih (i + 1) (by omega)
    have c : ((5 : Int) ≤ (i : Int)) = False := eq_false (by omega)
    have hp := isSt_ph ht (i := i) (by omega)
    generalize hXX : am_set (am_set (blH h (2 + 5 * i) (7 + 60 * i)) t (.inr (9, [.int (wI 0), .ref (t + 1)]))) (t + 1) (rfR 5 5 (t + 2) 5 i) = X
    have hX : X.2.1 = t + 2 + 5 * i := by rw [← hXX]; show h.2.1 + (2 + 5 * i) = _; omega
    have k6 := b6 (z := z) (h := X) hp hX
    have fx : am_fd X t 9 1 = some (.ref (t + 1)) := by
      rw [← hXX]
      exact ru_fd (fs := [.int (wI 0), .ref (t + 1)]) (by rw [ru_setN (by omega), ru_setE]) rfl
    have eb : blH X 5 60 = am_set (am_set (blH h (2 + 5 * (i + 1)) (7 + 60 * (i + 1))) t (.inr (9, [.int (wI 0), .ref (t + 1)]))) (t + 1) (rfR 5 5 (t + 2) 5 i) := by
      rw [← hXX, blH_set (by show t + 1 < h.2.1 + (2 + 5 * i); omega), blH_set (by show t < h.2.1 + (2 + 5 * i); omega), blH_bl, show 2 + 5 * i + 5 = 2 + 5 * (i + 1) by omega, show 7 + 60 * i + 60 = 7 + 60 * (i + 1) by omega]
    have eq := qs_bl (h := h) (a := t) (b := t + 1) (x := t + 2 + 5 * i) (n := 2 + 5 * (i + 1)) (s := 7 + 60 * (i + 1)) (k := 5) (m := 5) (q := t + 2) (w := 5) (i := i) (c := 6) (e := .inr (9, [.int (wI 0), .ref (t + 1)])) (fs := clL6 C0i (t + 2 + 5 * i)) rfl (by omega) (by omega) (by omega) (by omega) (Or.inl rfl) rfl (by omega) (by omega) (clP6 hp.1 hp.2.2.2.2.2.2.2.2.2.1)
    rw [eb] at k6
    rw [e5_14]
    simp only [Int.natCast_add, Int.natCast_one] at ih1
    simp (disch := omega) only [e5_15, e5_16, e5_19, e5_20, e5_23, e5_24, e5_27, e5_28, e5_31, e5_32, e5_35, ↓reduceIte, Bool.false_eq_true, not_false_eq_true, not_true_eq_false, Nat.reduceLeDiff, Nat.reduceAdd, Nat.reduceEqDiff, Int.reduceToNat, Int.toNat_natCast, iB0, iB1, ru_klI, ru_klR, ru_klF, ru_klJ, ru_kl0, ru_cs0, ru_csI, ru_csR, ru_csF, ru_csJ, wI_add, wI_sub, wI_mul, wI_lt, wI_le, wI_inj, ru_fdE, ru_fdN, ru_iaN, ru_baN, ru_laN, ru_qaN, ru_pfN, ru_isN, ru_bsN, ru_jsN, ru_qsN, ru_set2, Nat.add_right_cancel_iff, if_true, if_false, ite_self, Int.reduceEq, and_self, Int.add_neg_cancel_right, Int.add_zero, Int.zero_add, c, fx, hX, k6, eq, ru_ctR]
    exact ih1
theorem b5 {t : Nat} (ht : isSt t) (ha : h.2.1 = t) : ru_ev z 5 [.ref t] (am_new h (.inr (9, [.int (wI 0), .null])) 2) = some (.inl none, blH h 27 307) := by
  have k := b5l (z := z) (h := h) ht ha rfl 5 0 (by omega)
  obtain ⟨k1, k2, k3, k4⟩ := isSt_k ht
  have nq : am_na (am_set (blH h 1 2) t (.inr (9, [.int (wI 0), .null]))) 5 (wI 5) = some (am_set (am_set (blH h 2 7) t (.inr (9, [.int (wI 0), .null]))) (t + 1) (rfR 5 5 (t + 2) 5 0)) := by
    have := na_k (h := am_set (blH h 1 2) t (.inr (9, [.int (wI 0), .null]))) (m := 5) (by omega) 5
    rw [show ((5 : Nat) : Int) = 5 from rfl] at this
    rw [this, if_neg (by omega), if_neg (by omega), if_neg (by omega), if_pos (by omega), nw_set (by show t < h.2.1 + 1; omega), nw_bl, ru_setcomm (by omega), ha]
    have e0 : rfR 5 5 (t + 2) 5 0 = .inl (5, 5, .inr (.inr (.inr (.inr (fun _ => none))))) := by
      unfold rfR
      simp only [Nat.not_lt_zero, if_false]
    rw [e0]
  have pf : am_pf (am_set (am_set (blH h 2 7) t (.inr (9, [.int (wI 0), .null]))) (t + 1) (rfR 5 5 (t + 2) 5 0)) t 9 1 2 (.ref (t + 1)) = some (am_set (am_set (blH h 2 7) t (.inr (9, [.int (wI 0), .ref (t + 1)]))) (t + 1) (rfR 5 5 (t + 2) 5 0)) := by
    rw [ru_pfN (by omega), pf_2 (by decide), if_pos (by decide)]; rfl
  have fin : am_set (am_set (blH h 27 307) t (.inr (9, [.int (wI 0), .ref (t + 1)]))) (t + 1) (rfR 5 5 (t + 2) 5 5) = blH h 27 307 := by
    have e1 : HI.1 t = some (.inr (9, [.int (wI 0), .ref (t + 1)])) := by
      have : HI.1 t = some (.inr (9, clL9 C0i t)) := clP9 k1 (by omega)
      rw [this]
      unfold clL9
      rw [C0i_0 (by rintro rfl; exact absurd k1 (by decide))]
    have e2 : HI.1 (t + 1) = some (rfR 5 5 (t + 2) 5 5) := clP105 k2 (by omega)
    rw [bl_fin (by omega) (by omega) e1, bl_fin (by omega) (by omega) e2]
  have hX : (am_set (blH h 1 2) t (.inr (9, [.int (wI 0), .null]))).2.1 = t + 1 := by show h.2.1 + 1 = _; omega
  rw [fin] at k
  rw [show ((0 : Nat) : Int) = 0 from rfl] at k
  simp only [Nat.mul_zero, Nat.add_zero] at k
  rw [nw_0, ha]
  have sl : [Value.int (wI 0), .null].set 1 (.ref (t + 1)) = [.int (wI 0), .ref (t + 1)] := rfl
  simp (disch := omega) only [e5_0, e5_1, e5_4, e5_5, e5_6, e5_9, e5_12, e5_13, en5, ↓reduceIte, Bool.false_eq_true, not_false_eq_true, not_true_eq_false, Nat.reduceLeDiff, Nat.reduceAdd, Nat.reduceEqDiff, Int.reduceToNat, Int.toNat_natCast, iB0, iB1, ru_klI, ru_klR, ru_klF, ru_klJ, ru_kl0, ru_cs0, ru_csI, ru_csR, ru_csF, ru_csJ, wI_add, wI_sub, wI_mul, wI_lt, wI_le, wI_inj, ru_fdE, ru_fdN, ru_iaN, ru_baN, ru_laN, ru_qaN, ru_pfN, ru_isN, ru_bsN, ru_jsN, ru_qsN, ru_set2, Nat.add_right_cancel_iff, if_true, if_false, ite_self, Int.reduceEq, and_self, Int.add_neg_cancel_right, Int.add_zero, Int.zero_add, ru_setE, nq, bl_2, ha, pf_2, sl, k, List.length_nil, List.length_cons, Nat.zero_le, Option.map_some, Nat.reduceLT, and_self]
end CTOR
