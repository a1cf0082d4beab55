/-! ===== numbers: an int of the machine is 'wI z' ===== -/
def wI (z : Int) : Int32 := Int32.ofInt z
theorem wI_toInt {z : Int} (h1 : -2147483648 ≤ z) (h2 : z < 2147483648) : (wI z).toInt = z := Int32.toInt_ofInt_of_le (by omega) (by omega)
theorem wI_of (x : Int32) : x = wI x.toInt := (Int32.ofInt_toInt x).symm
theorem wI_rng (x : Int32) : -2147483648 ≤ x.toInt ∧ x.toInt < 2147483648 := ⟨by have := x.le_toInt; omega, by have := x.toInt_lt; omega⟩
theorem wI_ex (x : Int32) : ∃ z : Int, x = wI z ∧ -2147483648 ≤ z ∧ z < 2147483648 := ⟨x.toInt, wI_of x, wI_rng x⟩
theorem wI_add (a b : Int) : wI a + wI b = wI (a + b) := (Int32.ofInt_add a b).symm
theorem wI_sub (a b : Int) : wI a - wI b = wI (a - b) := (Int32.ofInt_sub a b).symm
theorem wI_mul (a b : Int) : wI a * wI b = wI (a * b) := (Int32.ofInt_mul a b).symm
theorem wI_neg (a : Int) : - wI a = wI (-a) := (Int32.ofInt_neg a).symm
theorem wI_lt {a b : Int} (h1 : -2147483648 ≤ a) (h2 : a < 2147483648) (h3 : -2147483648 ≤ b) (h4 : b < 2147483648) : (wI a < wI b) = (a < b) := by
  rw [Int32.lt_iff_toInt_lt, wI_toInt h1 h2, wI_toInt h3 h4]
theorem wI_le {a b : Int} (h1 : -2147483648 ≤ a) (h2 : a < 2147483648) (h3 : -2147483648 ≤ b) (h4 : b < 2147483648) : (wI a ≤ wI b) = (a ≤ b) := by
  rw [Int32.le_iff_toInt_le, wI_toInt h1 h2, wI_toInt h3 h4]
theorem wI_inj {a b : Int} (h1 : -2147483648 ≤ a) (h2 : a < 2147483648) (h3 : -2147483648 ≤ b) (h4 : b < 2147483648) : (wI a = wI b) = (a = b) := by
  rw [← Int32.toInt_inj, wI_toInt h1 h2, wI_toInt h3 h4]
theorem wI_0 : (0 : Int32) = wI 0 := by decide +kernel
theorem wI_1 : (1 : Int32) = wI 1 := by decide +kernel
theorem wI_m1 : (-1 : Int32) = wI (-1) := by decide +kernel
theorem wI_nI (n : Nat) : nI n = wI n := (Int32.ofInt_eq_ofNat).symm
theorem wI_clamp {z : Int} (h1 : -2147483648 ≤ z) (h2 : z < 2147483648) : (wI z).toNatClampNeg = z.toNat := Int32.toNatClampNeg_ofInt_of_le (by omega) (by omega)
theorem wI_div {a b : Int} (h1 : 0 ≤ a) (h2 : a < 2147483648) (h3 : 0 < b) (h4 : b < 2147483648) : wI a / wI b = wI (a / b) := by
  apply Int32.toInt_inj.mp
  have h5 : a / b ≤ a := Int.ediv_le_self b h1
  have h6 : 0 ≤ a / b := Int.ediv_nonneg h1 (by omega)
  rw [Int32.toInt_div, wI_toInt (by omega) h2, wI_toInt (by omega) h4, wI_toInt (by omega) (by omega), Int.tdiv_eq_ediv_of_nonneg h1, Int.bmod_eq_of_le (by omega) (by omega)]
theorem wI_rem {a b : Int} (h1 : 0 ≤ a) (h2 : a < 2147483648) (h3 : 0 < b) (h4 : b < 2147483648) : wI a - wI a / wI b * wI b = wI (a % b) := by
  rw [wI_div h1 h2 h3 h4, wI_mul, wI_sub]
  congr 1
  have := Int.mul_ediv_add_emod a b
  rw [Int.mul_comm] at this
  omega
theorem wI_ne0 {a : Int} (h1 : 0 < a) (h2 : a < 2147483648) : (wI a = 0) = False := by
  rw [wI_0, wI_inj (by omega) h2 (by omega) (by omega)]
  exact eq_false (by omega)
/-- a Boolean as an int -/
def wB (b : Bool) : Int32 := if b = true then wI 1 else wI 0
theorem wB_and (b : Bool) : wB b &&& 1 = wB b := by cases b <;> decide +kernel
theorem wI_and1 {a : Int} (h1 : 0 ≤ a) (h2 : a ≤ 1) : wI a &&& 1 = wI a := by
  have : a = 0 ∨ a = 1 := by omega
  rcases this with rfl | rfl <;> decide +kernel
/-- places of arrays -/
theorem wI_am_in {z : Int} {n : Nat} (h1 : 0 ≤ z) (h2 : z < n) (h3 : z < 2147483648) : am_in (wI z) n = true := by
  simp only [am_in, Bool.and_eq_true, decide_eq_true_eq]
  rw [wI_clamp (by omega) h3, wI_0, wI_lt (by omega) h3 (by omega) (by omega)]
  exact ⟨by omega, by omega⟩
/-! ===== reads and writes, by what is known of the cell ===== -/
theorem ru_fd {h : am_H} {a ci k : Nat} {fs : List Value} {v : Value} (e : h.1 a = some (.inr (ci, fs))) (hv : fs[k]? = some v) : am_fd h a ci k = some v := by
  unfold am_fd
  rw [e]
  dsimp only
  rw [if_pos rfl, hv]
theorem ru_ia {h : am_H} {a n : Nat} {f : Nat → Int32} {z : Int} (e : h.1 a = some (.inl (0, n, .inl f))) (h1 : 0 ≤ z) (h2 : z < n) (h3 : z < 2147483648) : am_ia h a (wI z) = some (f z.toNat) := by
  unfold am_ia
  rw [e]
  dsimp only
  rw [if_pos ⟨Or.inl rfl, wI_am_in h1 h2 h3⟩, wI_clamp (by omega) h3]
theorem ru_ia10 {h : am_H} {a n : Nat} {f : Nat → Int32} {z : Int} (e : h.1 a = some (.inl (10, n, .inl f))) (h1 : 0 ≤ z) (h2 : z < n) (h3 : z < 2147483648) : am_ia h a (wI z) = some (f z.toNat) := by
  unfold am_ia
  rw [e]
  dsimp only
  rw [if_pos ⟨Or.inr rfl, wI_am_in h1 h2 h3⟩, wI_clamp (by omega) h3]
theorem ru_ba {h : am_H} {a k n : Nat} {f : Nat → Int32} {z : Int} (e : h.1 a = some (.inl (k, n, .inl f))) (hk : k = 1 ∨ k = 2 ∨ k = 11) (h1 : 0 ≤ z) (h2 : z < n) (h3 : z < 2147483648) : am_ba h a (wI z) = some (f z.toNat) := by
  unfold am_ba
  rw [e]
  dsimp only
  rw [if_pos ⟨hk, wI_am_in h1 h2 h3⟩, wI_clamp (by omega) h3]
theorem ru_la {h : am_H} {a n : Nat} {f : Nat → Int64} {z : Int} (e : h.1 a = some (.inl (3, n, .inr (.inl f)))) (h1 : 0 ≤ z) (h2 : z < n) (h3 : z < 2147483648) : am_la h a (wI z) = some (f z.toNat) := by
  unfold am_la
  rw [e]
  dsimp only
  rw [if_pos ⟨rfl, wI_am_in h1 h2 h3⟩, wI_clamp (by omega) h3]
theorem ru_da {h : am_H} {a n : Nat} {f : Nat → UInt64} {z : Int} (e : h.1 a = some (.inl (4, n, .inr (.inr (.inr (.inl f)))))) (h1 : 0 ≤ z) (h2 : z < n) (h3 : z < 2147483648) : am_da h a (wI z) = some (f z.toNat) := by
  unfold am_da
  rw [e]
  dsimp only
  rw [if_pos ⟨rfl, wI_am_in h1 h2 h3⟩, wI_clamp (by omega) h3]
theorem ru_qa {h : am_H} {a k n : Nat} {f : Nat → Option Nat} {z : Int} (e : h.1 a = some (.inl (k, n, .inr (.inr (.inr (.inr f)))))) (hk : k = 5 ∨ k = 6) (h1 : 0 ≤ z) (h2 : z < n) (h3 : z < 2147483648) : am_qa h a (wI z) = f z.toNat := by
  unfold am_qa
  rw [e]
  dsimp only
  rw [if_pos ⟨⟨by omega, by omega⟩, wI_am_in h1 h2 h3⟩, wI_clamp (by omega) h3]
theorem ru_qa2 {h : am_H} {a k n : Nat} {f : Nat → Option Nat} {z : Int} (e : h.1 a = some (.inl (k, n, .inr (.inr (.inr (.inr f)))))) (hk : 5 ≤ k ∧ k ≤ 9) (h1 : 0 ≤ z) (h2 : z < n) (h3 : z < 2147483648) : am_qa h a (wI z) = f z.toNat := by
  unfold am_qa
  rw [e]
  dsimp only
  rw [if_pos ⟨hk, wI_am_in h1 h2 h3⟩, wI_clamp (by omega) h3]
theorem ru_al {h : am_H} {a k n : Nat} {f : (Nat → Int32) ⊕ ((Nat → Int64) ⊕ ((Nat → UInt32) ⊕ ((Nat → UInt64) ⊕ (Nat → Option Nat))))} (e : h.1 a = some (.inl (k, n, f))) (hk : k < 12) : am_al h a = some (wI n) := by
  unfold am_al
  rw [e]
  dsimp only
  rw [if_pos hk, wI_nI]
theorem ru_is {h : am_H} {a n : Nat} {f : Nat → Int32} {z : Int} {v : Int32} (e : h.1 a = some (.inl (0, n, .inl f))) (h1 : 0 ≤ z) (h2 : z < n) (h3 : z < 2147483648) : am_is h a (wI z) v = some (am_set h a (.inl (0, n, .inl (am_up f z.toNat v)))) := by
  unfold am_is
  rw [e]
  dsimp only
  rw [if_pos ⟨rfl, wI_am_in h1 h2 h3⟩, wI_clamp (by omega) h3]
theorem ru_bs {h : am_H} {a n : Nat} {f : Nat → Int32} {z : Int} {v : Int32} (e : h.1 a = some (.inl (1, n, .inl f))) (h1 : 0 ≤ z) (h2 : z < n) (h3 : z < 2147483648) : am_bs h a (wI z) v = some (am_set h a (.inl (1, n, .inl (am_up f z.toNat (am_nb v))))) := by
  unfold am_bs
  rw [e]
  dsimp only
  rw [if_pos (wI_am_in h1 h2 h3), if_pos rfl, wI_clamp (by omega) h3]
theorem ru_zs {h : am_H} {a n : Nat} {f : Nat → Int32} {z : Int} {v : Int32} (e : h.1 a = some (.inl (2, n, .inl f))) (h1 : 0 ≤ z) (h2 : z < n) (h3 : z < 2147483648) : am_bs h a (wI z) v = some (am_set h a (.inl (2, n, .inl (am_up f z.toNat (v &&& 1))))) := by
  unfold am_bs
  rw [e]
  dsimp only
  rw [if_pos (wI_am_in h1 h2 h3), if_neg (by decide), if_pos rfl, wI_clamp (by omega) h3]
theorem ru_js {h : am_H} {a n : Nat} {f : Nat → Int64} {z : Int} {v : Int64} (e : h.1 a = some (.inl (3, n, .inr (.inl f)))) (h1 : 0 ≤ z) (h2 : z < n) (h3 : z < 2147483648) : am_js h a (wI z) v = some (am_set h a (.inl (3, n, .inr (.inl (am_up f z.toNat v))))) := by
  unfold am_js
  rw [e]
  dsimp only
  rw [if_pos ⟨rfl, wI_am_in h1 h2 h3⟩, wI_clamp (by omega) h3]
theorem ru_ds {h : am_H} {a n : Nat} {f : Nat → UInt64} {z : Int} {v : UInt64} (e : h.1 a = some (.inl (4, n, .inr (.inr (.inr (.inl f)))))) (h1 : 0 ≤ z) (h2 : z < n) (h3 : z < 2147483648) : am_ds h a (wI z) v = some (am_set h a (.inl (4, n, .inr (.inr (.inr (.inl (am_up f z.toNat v))))))) := by
  unfold am_ds
  rw [e]
  dsimp only
  rw [if_pos ⟨rfl, wI_am_in h1 h2 h3⟩, wI_clamp (by omega) h3]
theorem ru_qs {h : am_H} {a k n x c : Nat} {f : Nat → Option Nat} {g : List Value} {z : Int} (e : h.1 a = some (.inl (k, n, .inr (.inr (.inr (.inr f)))))) (hx : h.1 x = some (.inr (c, g))) (hk : (k = 5 ∨ k = 6) ∧ c = am_qc k) (h1 : 0 ≤ z) (h2 : z < n) (h3 : z < 2147483648) : am_qs h a (wI z) x = some (am_set h a (.inl (k, n, .inr (.inr (.inr (.inr (am_up f z.toNat (some x)))))))) := by
  unfold am_qs
  rw [e, hx]
  dsimp only
  rw [if_pos ⟨hk.1.imp_right Or.inl, hk.2, wI_am_in h1 h2 h3⟩, wI_clamp (by omega) h3]
theorem ru_qs7 {h : am_H} {a k n x c : Nat} {f : Nat → Option Nat} {g : List Value} {z : Int} (e : h.1 a = some (.inl (k, n, .inr (.inr (.inr (.inr f)))))) (hx : h.1 x = some (.inr (c, g))) (hk : k = 7 ∧ c = 50) (h1 : 0 ≤ z) (h2 : z < n) (h3 : z < 2147483648) : am_qs h a (wI z) x = some (am_set h a (.inl (k, n, .inr (.inr (.inr (.inr (am_up f z.toNat (some x)))))))) := by
  unfold am_qs
  rw [e, hx]
  dsimp only
  rw [if_pos ⟨Or.inr (Or.inr hk.1), by rw [hk.1, hk.2]; rfl, wI_am_in h1 h2 h3⟩, wI_clamp (by omega) h3]
theorem ru_pf0 {h : am_H} {a ci k : Nat} {fs : List Value} {v : Int32} (e : h.1 a = some (.inr (ci, fs))) (hc : ci < 50 ∧ k < fs.length) : am_pf h a ci k 0 (.int v) = some (am_set h a (.inr (ci, fs.set k (.int v)))) := by
  unfold am_pf
  rw [e]
  dsimp only
  exact if_pos ⟨rfl, Or.inl hc.1, hc.2⟩
theorem ru_pf1 {h : am_H} {a ci k : Nat} {fs : List Value} {v : Int64} (e : h.1 a = some (.inr (ci, fs))) (hc : ci < 50 ∧ k < fs.length) : am_pf h a ci k 1 (.long v) = some (am_set h a (.inr (ci, fs.set k (.long v)))) := by
  unfold am_pf
  rw [e]
  dsimp only
  exact if_pos ⟨rfl, Or.inl hc.1, hc.2⟩
theorem ru_pf2 {h : am_H} {a ci k : Nat} {fs : List Value} {v : Nat} (e : h.1 a = some (.inr (ci, fs))) (hc : ci < 50 ∧ k < fs.length) : am_pf h a ci k 2 (.ref v) = some (am_set h a (.inr (ci, fs.set k (.ref v)))) := by
  unfold am_pf
  rw [e]
  dsimp only
  exact if_pos ⟨rfl, Or.inl hc.1, hc.2⟩
theorem ru_pf3 {h : am_H} {a ci k : Nat} {fs : List Value} {v : Int} (e : h.1 a = some (.inr (ci, fs))) (hc : ci < 50 ∧ k < fs.length) (hv : 0 ≤ v) (hw : v ≤ 1) : am_pf h a ci k 3 (.int (wI v)) = some (am_set h a (.inr (ci, fs.set k (.int (wI v))))) := by
  unfold am_pf
  rw [e]
  dsimp only
  rw [if_pos ⟨rfl, Or.inl hc.1, hc.2⟩]
  refine if_pos ?_
  have : v = 0 ∨ v = 1 := by omega
  rcases this with rfl | rfl
  · exact Or.inl (by decide +kernel)
  · exact Or.inr (by decide +kernel)
theorem ru_pf4 {h : am_H} {a ci k : Nat} {fs : List Value} {v : Int32} (e : h.1 a = some (.inr (ci, fs))) (hc : ci < 50 ∧ k < fs.length) (hv : am_nb v = v) : am_pf h a ci k 4 (.int v) = some (am_set h a (.inr (ci, fs.set k (.int v)))) := by
  unfold am_pf
  rw [e]
  dsimp only
  rw [if_pos ⟨rfl, Or.inl hc.1, hc.2⟩]
  exact if_pos hv
theorem ru_setE (h : am_H) (a : Nat) (e : am_C) : (am_set h a e).1 a = some e := by simp [am_set]
theorem ru_setN {h : am_H} {a b : Nat} {e : am_C} (hne : a ≠ b) : (am_set h b e).1 a = h.1 a := by simp [am_set, hne]
theorem ru_set2 (h : am_H) (a : Nat) (e : am_C) : (am_set h a e).2 = h.2 := rfl
theorem ru_setset (h : am_H) (a : Nat) (e e' : am_C) : am_set (am_set h a e) a e' = am_set h a e' := by
  unfold am_set
  congr 1
  funext q
  dsimp only
  split <;> rfl
theorem ru_up_wI (f : Nat → Int) (k : Nat) (v : Int) : am_up (fun i => wI (f i)) k (wI v) = fun i => wI (am_up f k v i) := by
  funext i
  unfold am_up
  split <;> rfl
theorem ru_upE {α : Type} (f : Nat → α) (k : Nat) (v : α) : am_up f k v k = v := by simp [am_up]
theorem ru_upN {α : Type} {f : Nat → α} {k j : Nat} {v : α} (h : j ≠ k) : am_up f k v j = f j := by simp [am_up, h]
theorem ru_pfs1 {h : am_H} {a : Nat} (e : h.1 a = some (.inr (50, [.null, .int 0]))) {v : Int32} (hv : am_nb v = v) : am_pf h a 50 1 4 (.int v) = some (am_set h a (.inr (50, [.null, .int v]))) := by
  unfold am_pf
  rw [e]
  dsimp only
  rw [if_pos ⟨rfl, Or.inr ⟨rfl, rfl⟩, by decide⟩]
  exact if_pos hv
theorem ru_pfs0 {h : am_H} {a v : Nat} {c : Value} (e : h.1 a = some (.inr (50, [.null, c]))) : am_pf h a 50 0 2 (.ref v) = some (am_set h a (.inr (50, [.ref v, c]))) := by
  unfold am_pf
  rw [e]
  dsimp only
  rw [if_pos ⟨rfl, Or.inr ⟨rfl, rfl⟩, Nat.zero_lt_succ _⟩]
  rfl
