/-! ===== the law's album written ===== -/
def ylE (X X' : am_H) (B : Nat) : Prop := (∀ q, (q ≤ B ∨ B + 30 ≤ q) → X'.1 q = X.1 q) ∧ X'.2 = X.2
def ylU (A : tLw) (f : Nat) (q : tPh) : tLw := (A.1, fun i => if i = f then q else A.2.1 i, A.2.2)
theorem ylU_s {A : tLw} {f : Nat} {q : tPh} : (ylU A f q).2.1 f = q := if_pos rfl
theorem ylU_n {A : tLw} {f g : Nat} {q : tPh} (h : g ≠ f) : (ylU A f q).2.1 g = A.2.1 g := if_neg h
theorem ylU_up {A : tLw} {f : Nat} {p q : tPh} : ylU (ylU A f p) f q = ylU A f q := by
  refine Prod.ext rfl (Prod.ext (funext fun i => ?_) rfl)
  show (if i = f then q else if i = f then p else A.2.1 i) = if i = f then q else A.2.1 i
  by_cases c : i = f
  · rw [if_pos c, if_pos c]
  · rw [if_neg c, if_neg c, if_neg c]
theorem ylU_R {A : tLw} {f : Nat} {q : tPh} (h : ylR A) (hq : phR q) : ylR (ylU A f q) := fun i => by
  by_cases c : i = f
  · rw [c, ylU_s]; exact hq
  · rw [ylU_n c]; exact h i
theorem ylE_r {X : am_H} {B : Nat} : ylE X X B := ⟨fun _ _ => rfl, rfl⟩
theorem ylE_t {X Y W : am_H} {B : Nat} (h : ylE X Y B) (k : ylE Y W B) : ylE X W B := ⟨fun q hq => (k.1 q hq).trans (h.1 q hq), k.2.trans h.2⟩
theorem ylE_s {X : am_H} {B a : Nat} {e : am_C} (h1 : B < a) (h2 : a < B + 30) : ylE X (am_set X a e) B := ⟨fun q hq => ru_setN (by omega), rfl⟩
theorem yi_is {X : am_H} {a n : Nat} {g : Nat → Int} (h : X.1 a = some (ylI 0 n g)) {i v : Int} (h1 : 0 ≤ i) (h2 : i < n) (h3 : n ≤ 100) : am_is X a (wI i) (wI v) = some (am_set X a (ylI 0 n (up1 g i.toNat v))) := by
  have e1 : am_is X a (wI i) (wI v) = some (am_set X a (.inl (0, n, .inl (am_up (fun i => wI (g i)) i.toNat (wI v))))) := ru_is (f := fun i => wI (g i)) h h1 h2 (by omega)
  rw [e1]
  have e0 : am_up (fun i => wI (g i)) i.toNat (wI v) = fun j => wI (up1 g i.toNat v j) := by funext j; unfold am_up up1; split <;> rfl
  rw [e0]
  rfl
theorem yi_bs {X : am_H} {a n : Nat} {g : Nat → Int} (h : X.1 a = some (ylI 2 n g)) {i v : Int} (hv : v = 0 ∨ v = 1) (h1 : 0 ≤ i) (h2 : i < n) (h3 : n ≤ 100) : am_bs X a (wI i) (wI v) = some (am_set X a (ylI 2 n (up1 g i.toNat v))) := by
  have e1 : am_bs X a (wI i) (wI v) = some (am_set X a (.inl (2, n, .inl (am_up (fun i => wI (g i)) i.toNat (wI v &&& 1))))) := ru_zs (f := fun i => wI (g i)) h h1 h2 (by omega)
  rw [e1]
  have e2 : wI v &&& 1 = wI v := by rcases hv with rfl | rfl <;> decide +kernel
  have e0 : am_up (fun i => wI (g i)) i.toNat (wI v &&& 1) = fun j => wI (up1 g i.toNat v j) := by rw [e2]; funext j; unfold am_up up1; split <;> rfl
  rw [e0]
  rfl
section WA
variable {X : am_H} {B : Nat} {A : tLw}
theorem ylU_f {f k : Nat} {q : tPh} (hq : q.1 k = (A.2.1 f).1 k) : (fun i => ((ylU A f q).2.1 i).1 k) = fun i => (A.2.1 i).1 k := by
  funext i
  by_cases c : i = f
  · rw [c, ylU_s, hq]
  · rw [ylU_n c]
theorem ylU_fu {f k : Nat} {q : tPh} : (fun i => ((ylU A f q).2.1 i).1 k) = up1 (fun i => (A.2.1 i).1 k) f (q.1 k) := by
  funext i
  unfold up1
  by_cases c : i = f
  · rw [c, ylU_s, if_pos rfl]
  · rw [ylU_n c, if_neg c]

/-- a row of photo f written -/
theorem ylP_row (h : ylP X B A) {f a : Nat} {e : am_C} {q : tPh} (hf : f < 3) (ho : a = B + 10 + f ∨ a = B + 14 + f ∨ a = B + 18 + f ∨ a = B + 22 + f ∨ a = B + 27 + f) (h0 : q.1 0 = (A.2.1 f).1 0) (h1 : q.1 1 = (A.2.1 f).1 1) (h6 : q.1 6 = (A.2.1 f).1 6) (h7 : q.1 7 = (A.2.1 f).1 7) (hp : ylPh (am_set X a e) B f q) : ylP (am_set X a e) B (ylU A f q) := by
  obtain ⟨⟨a1, a2, a3, a4, a5, a6, a7⟩, ⟨b1, b2, b3, b4, b5⟩, c⟩ := h
  refine ⟨⟨by rw [ru_setN (by omega)]; exact a1, by rw [ru_setN (by omega)]; exact a2, by rw [ru_setN (by omega)]; exact a3, by rw [ru_setN (by omega), ylU_f h0]; exact a4, by rw [ru_setN (by omega), ylU_f h1]; exact a5, by rw [ru_setN (by omega), ylU_f h7]; exact a6, by rw [ru_setN (by omega), ylU_f h6]; exact a7⟩,
    ⟨by rw [ru_setN (by omega)]; exact b1, by rw [ru_setN (by omega)]; exact b2, by rw [ru_setN (by omega)]; exact b3, by rw [ru_setN (by omega)]; exact b4, by rw [ru_setN (by omega)]; exact b5⟩, fun g hg => ?_⟩
  by_cases cg : g = f
  · rw [cg, ylU_s]; exact hp
  · rw [ylU_n cg]
    obtain ⟨d1, d2, d3, d4, d5⟩ := c g hg
    exact ⟨by rw [ru_setN (by omega)]; exact d1, by rw [ru_setN (by omega)]; exact d2, by rw [ru_setN (by omega)]; exact d3, by rw [ru_setN (by omega)]; exact d4, by rw [ru_setN (by omega)]; exact d5⟩
/-- a number of photo f written -/
theorem ylP_num (h : ylP X B A) {f k a : Nat} {v : Int} {kd : Nat} (hf : f < 3) (ho : (k = 0 ∧ a = B + 6 ∧ kd = 0) ∨ (k = 1 ∧ a = B + 7 ∧ kd = 0) ∨ (k = 7 ∧ a = B + 8 ∧ kd = 0) ∨ (k = 6 ∧ a = B + 25 ∧ kd = 2)) : ylP (am_set X a (ylI kd 3 (up1 (fun i => (A.2.1 i).1 k) f v))) B (ylU A f (up1 (A.2.1 f).1 k v, (A.2.1 f).2)) := by
  obtain ⟨⟨a1, a2, a3, a4, a5, a6, a7⟩, ⟨b1, b2, b3, b4, b5⟩, c⟩ := h
  have n1 : ∀ j, j ≠ k → (fun i => ((ylU A f (up1 (A.2.1 f).1 k v, (A.2.1 f).2)).2.1 i).1 j) = fun i => (A.2.1 i).1 j := fun j hj => ylU_f (up1_n hj)
  have s1 : (fun i => ((ylU A f (up1 (A.2.1 f).1 k v, (A.2.1 f).2)).2.1 i).1 k) = up1 (fun i => (A.2.1 i).1 k) f v := by
    rw [ylU_fu]; show up1 _ f (up1 (A.2.1 f).1 k v k) = _; rw [show up1 (A.2.1 f).1 k v k = v from if_pos rfl]
  refine ⟨⟨by rw [ru_setN (by omega)]; exact a1, by rw [ru_setN (by omega)]; exact a2, by rw [ru_setN (by omega)]; exact a3, ?_, ?_, ?_, ?_⟩,
    ⟨by rw [ru_setN (by omega)]; exact b1, by rw [ru_setN (by omega)]; exact b2, by rw [ru_setN (by omega)]; exact b3, by rw [ru_setN (by omega)]; exact b4, by rw [ru_setN (by omega)]; exact b5⟩, fun g hg => ?_⟩
  · rcases ho with ⟨rfl, rfl, rfl⟩ | ⟨rfl, rfl, rfl⟩ | ⟨rfl, rfl, rfl⟩ | ⟨rfl, rfl, rfl⟩
    · rw [ru_setE, s1]
    all_goals (rw [ru_setN (by omega), n1 0 (by decide)]; exact a4)
  · rcases ho with ⟨rfl, rfl, rfl⟩ | ⟨rfl, rfl, rfl⟩ | ⟨rfl, rfl, rfl⟩ | ⟨rfl, rfl, rfl⟩
    · rw [ru_setN (by omega), n1 1 (by decide)]; exact a5
    · rw [ru_setE, s1]
    all_goals (rw [ru_setN (by omega), n1 1 (by decide)]; exact a5)
  · rcases ho with ⟨rfl, rfl, rfl⟩ | ⟨rfl, rfl, rfl⟩ | ⟨rfl, rfl, rfl⟩ | ⟨rfl, rfl, rfl⟩
    · rw [ru_setN (by omega), n1 7 (by decide)]; exact a6
    · rw [ru_setN (by omega), n1 7 (by decide)]; exact a6
    · rw [ru_setE, s1]
    · rw [ru_setN (by omega), n1 7 (by decide)]; exact a6
  · rcases ho with ⟨rfl, rfl, rfl⟩ | ⟨rfl, rfl, rfl⟩ | ⟨rfl, rfl, rfl⟩ | ⟨rfl, rfl, rfl⟩
    · rw [ru_setN (by omega), n1 6 (by decide)]; exact a7
    · rw [ru_setN (by omega), n1 6 (by decide)]; exact a7
    · rw [ru_setN (by omega), n1 6 (by decide)]; exact a7
    · rw [ru_setE, s1]
  · obtain ⟨d1, d2, d3, d4, d5⟩ := c g hg
    have ek : ∀ i, i < 4 → ((ylU A f (up1 (A.2.1 f).1 k v, (A.2.1 f).2)).2.1 g).1 (i + 2) = (A.2.1 g).1 (i + 2) := fun i hi => by
      by_cases cg : g = f
      · rw [cg, ylU_s]; exact up1_n (by omega)
      · rw [ylU_n cg]
    have ec : ((ylU A f (up1 (A.2.1 f).1 k v, (A.2.1 f).2)).2.1 g).2 = (A.2.1 g).2 := by
      by_cases cg : g = f
      · rw [cg, ylU_s]
      · rw [ylU_n cg]
    refine ⟨?_, by rw [ru_setN (by omega), ec]; exact d2, by rw [ru_setN (by omega), ec]; exact d3, by rw [ru_setN (by omega), ec]; exact d4, by rw [ru_setN (by omega), ec]; exact d5⟩
    rw [ru_setN (by omega), d1]
    refine congrArg (fun w => some (ylI 0 4 w)) (funext fun i => ?_)
    by_cases ci : i < 4
    · rw [if_pos ci, if_pos ci, ek i ci]
    · rw [if_neg ci, if_neg ci]

theorem yl_wx (h : ylP X B A) {f : Nat} {k v : Int} (hf : f < 3) (h1 : 0 ≤ k) (h2 : k < 12) : ∃ X', am_is X (B + 14 + f) (wI k) (wI v) = some X' ∧ ylP X' B (ylU A f ((A.2.1 f).1, upC (A.2.1 f).2 0 (up1 ((A.2.1 f).2 0) k.toNat v))) ∧ ylE X X' B := by
  obtain ⟨d1, d2, d3, d4, d5⟩ := h.2.2 f hf
  refine ⟨_, yi_is d2 h1 (by omega) (by decide), ylP_row h hf (by omega) rfl rfl rfl rfl ⟨?_, ?_, ?_, ?_, ?_⟩, ylE_s (by omega) (by omega)⟩
  · rw [ru_setN (by omega), d1]
  · rw [ru_setE]; rfl
  · rw [ru_setN (by omega), d3]; rfl
  · rw [ru_setN (by omega), d4]; rfl
  · rw [ru_setN (by omega), d5]; rfl
theorem yl_wy (h : ylP X B A) {f : Nat} {k v : Int} (hf : f < 3) (h1 : 0 ≤ k) (h2 : k < 12) : ∃ X', am_is X (B + 18 + f) (wI k) (wI v) = some X' ∧ ylP X' B (ylU A f ((A.2.1 f).1, upC (A.2.1 f).2 1 (up1 ((A.2.1 f).2 1) k.toNat v))) ∧ ylE X X' B := by
  obtain ⟨d1, d2, d3, d4, d5⟩ := h.2.2 f hf
  refine ⟨_, yi_is d3 h1 (by omega) (by decide), ylP_row h hf (by omega) rfl rfl rfl rfl ⟨?_, ?_, ?_, ?_, ?_⟩, ylE_s (by omega) (by omega)⟩
  · rw [ru_setN (by omega), d1]
  · rw [ru_setN (by omega), d2]; rfl
  · rw [ru_setE]; rfl
  · rw [ru_setN (by omega), d4]; rfl
  · rw [ru_setN (by omega), d5]; rfl
theorem yl_wn (h : ylP X B A) {f : Nat} {k v : Int} (hf : f < 3) (h1 : 0 ≤ k) (h2 : k < 12) : ∃ X', am_is X (B + 22 + f) (wI k) (wI v) = some X' ∧ ylP X' B (ylU A f ((A.2.1 f).1, upC (A.2.1 f).2 3 (up1 ((A.2.1 f).2 3) k.toNat v))) ∧ ylE X X' B := by
  obtain ⟨d1, d2, d3, d4, d5⟩ := h.2.2 f hf
  refine ⟨_, yi_is d4 h1 (by omega) (by decide), ylP_row h hf (by omega) rfl rfl rfl rfl ⟨?_, ?_, ?_, ?_, ?_⟩, ylE_s (by omega) (by omega)⟩
  · rw [ru_setN (by omega), d1]
  · rw [ru_setN (by omega), d2]; rfl
  · rw [ru_setN (by omega), d3]; rfl
  · rw [ru_setE]; rfl
  · rw [ru_setN (by omega), d5]; rfl
theorem yl_wa (h : ylP X B A) {f : Nat} {k v : Int} (hf : f < 3) (hv : v = 0 ∨ v = 1) (h1 : 0 ≤ k) (h2 : k < 12) : ∃ X', am_bs X (B + 27 + f) (wI k) (wI v) = some X' ∧ ylP X' B (ylU A f ((A.2.1 f).1, upC (A.2.1 f).2 2 (up1 ((A.2.1 f).2 2) k.toNat v))) ∧ ylE X X' B := by
  obtain ⟨d1, d2, d3, d4, d5⟩ := h.2.2 f hf
  refine ⟨_, yi_bs d5 hv h1 (by omega) (by decide), ylP_row h hf (by omega) rfl rfl rfl rfl ⟨?_, ?_, ?_, ?_, ?_⟩, ylE_s (by omega) (by omega)⟩
  · rw [ru_setN (by omega), d1]
  · rw [ru_setN (by omega), d2]; rfl
  · rw [ru_setN (by omega), d3]; rfl
  · rw [ru_setN (by omega), d4]; rfl
  · rw [ru_setE]; rfl
theorem yl_wf (h : ylP X B A) {f : Nat} {k v : Int} (hf : f < 3) (h1 : 0 ≤ k) (h2 : k < 4) : ∃ X', am_is X (B + 10 + f) (wI k) (wI v) = some X' ∧ ylP X' B (ylU A f (up1 (A.2.1 f).1 (k.toNat + 2) v, (A.2.1 f).2)) ∧ ylE X X' B := by
  obtain ⟨d1, d2, d3, d4, d5⟩ := h.2.2 f hf
  have n1 : ∀ j, j ≠ k.toNat + 2 → up1 (A.2.1 f).1 (k.toNat + 2) v j = (A.2.1 f).1 j := fun j hj => if_neg hj
  refine ⟨_, yi_is d1 h1 (by omega) (by decide), ylP_row h hf (by omega) (n1 0 (by omega)) (n1 1 (by omega)) (n1 6 (by omega)) (n1 7 (by omega)) ⟨?_, ?_, ?_, ?_, ?_⟩, ylE_s (by omega) (by omega)⟩
  · rw [ru_setE]
    refine congrArg (fun w => some (ylI 0 4 w)) (funext fun i => ?_)
    show (if i = k.toNat then v else if i < 4 then (A.2.1 f).1 (i + 2) else 0) = if i < 4 then (if i + 2 = k.toNat + 2 then v else (A.2.1 f).1 (i + 2)) else 0
    by_cases c1 : i = k.toNat
    · rw [if_pos c1, if_pos (by omega), if_pos (by omega)]
    · rw [if_neg c1]
      by_cases c2 : i < 4
      · rw [if_pos c2, if_pos c2, if_neg (by omega)]
      · rw [if_neg c2, if_neg c2]
  · rw [ru_setN (by omega), d2]
  · rw [ru_setN (by omega), d3]
  · rw [ru_setN (by omega), d4]
  · rw [ru_setN (by omega), d5]
theorem yl_w8 (h : ylP X B A) {f : Nat} {v : Int} (hf : f < 3) : ∃ X', am_is X (B + 8) (wI f) (wI v) = some X' ∧ ylP X' B (ylU A f (up1 (A.2.1 f).1 7 v, (A.2.1 f).2)) ∧ ylE X X' B :=
  ⟨_, yi_is h.1.2.2.2.2.2.1 (by omega) (by omega) (by decide), ylP_num (k := 7) (kd := 0) h hf (Or.inr (Or.inr (Or.inl ⟨rfl, rfl, rfl⟩))), ylE_s (by omega) (by omega)⟩
theorem yl_w6 (h : ylP X B A) {f : Nat} {v : Int} (hf : f < 3) : ∃ X', am_is X (B + 6) (wI f) (wI v) = some X' ∧ ylP X' B (ylU A f (up1 (A.2.1 f).1 0 v, (A.2.1 f).2)) ∧ ylE X X' B :=
  ⟨_, yi_is h.1.2.2.2.1 (by omega) (by omega) (by decide), ylP_num (k := 0) (kd := 0) h hf (Or.inl ⟨rfl, rfl, rfl⟩), ylE_s (by omega) (by omega)⟩
theorem yl_w7 (h : ylP X B A) {f : Nat} {v : Int} (hf : f < 3) : ∃ X', am_is X (B + 7) (wI f) (wI v) = some X' ∧ ylP X' B (ylU A f (up1 (A.2.1 f).1 1 v, (A.2.1 f).2)) ∧ ylE X X' B :=
  ⟨_, yi_is h.1.2.2.2.2.1 (by omega) (by omega) (by decide), ylP_num (k := 1) (kd := 0) h hf (Or.inr (Or.inl ⟨rfl, rfl, rfl⟩)), ylE_s (by omega) (by omega)⟩
theorem yl_w25 (h : ylP X B A) {f : Nat} {v : Int} (hf : f < 3) (hv : v = 0 ∨ v = 1) : ∃ X', am_bs X (B + 25) (wI f) (wI v) = some X' ∧ ylP X' B (ylU A f (up1 (A.2.1 f).1 6 v, (A.2.1 f).2)) ∧ ylE X X' B :=
  ⟨_, yi_bs h.1.2.2.2.2.2.2 hv (by omega) (by omega) (by decide), ylP_num (k := 6) (kd := 2) h hf (Or.inr (Or.inr (Or.inr ⟨rfl, rfl, rfl⟩))), ylE_s (by omega) (by omega)⟩

end WA
