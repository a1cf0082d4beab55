/-! ===== soundness, 2: the heap ===== -/
def am_kt : Nat → FieldType
  | 0 => .int
  | 1 => .byte
  | 2 => .boolean
  | 3 => .long
  | 4 => .long
  | 5 => .object "CaptionAlbum$Photo"
  | 6 => .object "CaptionAlbum$State"
  | 7 => .object "java/lang/String"
  | 8 => .array .int
  | _ => .array .boolean
def am_ty (kc : Nat → ClassId) : List (ClassId × FieldType) := [(kc 0, am_kt 0), (kc 1, am_kt 1), (kc 2, am_kt 2), (kc 3, am_kt 3), (kc 4, am_kt 4), (kc 5, am_kt 5), (kc 6, am_kt 6), (kc 7, am_kt 7), (kc 8, am_kt 8), (kc 9, am_kt 9)]
theorem am_ty_at (kc : Nat → ClassId) {k : Nat} (hk : k < 10) : (am_ty kc)[k]? = some (kc k, am_kt k) := by
  match k, hk with
  | 0, _ => rfl
  | 1, _ => rfl
  | 2, _ => rfl
  | 3, _ => rfl
  | 4, _ => rfl
  | 5, _ => rfl
  | 6, _ => rfl
  | 7, _ => rfl
  | 8, _ => rfl
  | 9, _ => rfl
def am_tp (τ : Nat → Nat) (a : vp_A) : vp_A := match a with
  | (n, .inr (.inr (.inr (.inr f)))) => (n, .inr (.inr (.inr (.inr (fun j => (f j).map τ)))))
  | (n, .inl f) => (n, .inl f)
  | (n, .inr (.inl f)) => (n, .inr (.inl f))
  | (n, .inr (.inr (.inl f))) => (n, .inr (.inr (.inl f)))
  | (n, .inr (.inr (.inr (.inl f)))) => (n, .inr (.inr (.inr (.inl f))))
abbrev am_A (bs : Nat × Nat) : Nat → Prop := fun q => bs.1 ≤ q
/-- what a cell of the abstract heap says of the heap -/
def am_at (τ : Nat → Nat) (bs : Nat × Nat) (D : va_G) (cl : List vw_C) (kc : Nat → ClassId) (U : State) (H : Heap) (q : Nat) (e : am_C) : Prop := match e with
  | .inl (k, a) => ((k < 10 ∧ k ≠ 4) ∧ bs.2 ≤ q ∧ H[τ q]? = some (vp_cell (kc k) (am_tp τ a)) ∧ (k = 1 → ∀ f, a.2 = .inl f → ∀ j, am_nb (f j) = f j)) ∨
      ((k = 10 ∨ k = 11) ∧ q < bs.2 ∧ ∃ f, a.2 = .inl f ∧ va_T (if k = 10 then .int else .byte) (τ q) a.1 (fun j => .int (f j)) (am_A bs) U H ∧ (k = 11 → ∀ j, am_nb (f j) = f j))
  | .inr (ci, fs) => (ci < 50 ∧ bs.2 ≤ q ∧ va_at D cl (τ q, .inr (ci, fs.map (am_tv τ))) H) ∨ (ci = 50 ∧ bs.2 ≤ q ∧ fs.length = 2 ∧ va_at D cl (τ q, .inr (14, fs.map (am_tv τ) ++ [.int 0, .int 0])) H) ∨
      (ci = 50 ∧ q < bs.2 ∧ ∃ v, fs = [.ref v, .int 0] ∧ va_O "java/lang/String" (τ q) (am_A bs) U H ∧ va_OF "java/lang/String" "value" "[B" (.ref (τ v)) (τ q) (am_A bs) U H ∧ va_OF "java/lang/String" "coder" "B" (.int 0) (τ q) (am_A bs) U H)
def am_Wd (τ : Nat → Nat) (bs : Nat × Nat) (D : va_G) (cl : List vw_C) (kc : Nat → ClassId) (U : State) (h : am_H) (H : Heap) : Prop :=
  bs.2 ≤ h.2.1 ∧ H.size = bs.1 + (h.2.1 - bs.2) ∧ ∀ (q : Nat) (e : am_C), h.1 q = some e → q < h.2.1 ∧ am_at τ bs D cl kc U H q e
section AMH
variable {τ : Nat → Nat} {bs : Nat × Nat} {D : va_G} {cl : List vw_C} {kc : Nat → ClassId}
theorem am_at.moved {u U : State} {H : Heap} {q : Nat} {e : am_C} (hvm : u.vm.Alike U.vm) (h : am_at τ bs D cl kc u H q e) : am_at τ bs D cl kc U H q e := by
  obtain ⟨k, a⟩ | ⟨ci, fs⟩ := e
  · rcases h with h | ⟨h1, h2, f, h3, h4, h5⟩
    · exact Or.inl h
    · exact Or.inr ⟨h1, h2, f, h3, h4.moved hvm, h5⟩
  · rcases h with h | h | ⟨h1, h2, v, h3, h4, h5, h6⟩
    · exact Or.inl h
    · exact Or.inr (Or.inl h)
    · exact Or.inr (Or.inr ⟨h1, h2, v, h3, h4.moved hvm, h5.moved hvm, h6.moved hvm⟩)
theorem am_Wd.moved {u U : State} {H : Heap} {h : am_H} (hvm : u.vm.Alike U.vm) (w : am_Wd τ bs D cl kc u h H) : am_Wd τ bs D cl kc U h H := ⟨w.1, w.2.1, fun q e he => ⟨(w.2.2 q e he).1, (w.2.2 q e he).2.moved hvm⟩⟩
theorem am_at.kept {U : State} {H H1 : Heap} {q : Nat} {e : am_C} (h : am_at τ bs D cl kc U H q e) (hn : bs.2 ≤ q → H1[τ q]? = H[τ q]?) (ho : ∀ x : Nat, x < H.size → ¬ am_A bs x → H1[x]? = H[x]?) : am_at τ bs D cl kc U H1 q e := by
  obtain ⟨k, a⟩ | ⟨ci, fs⟩ := e
  · rcases h with ⟨h1, h2, h3, h4⟩ | ⟨h1, h2, f, h3, h4, h5⟩
    · exact Or.inl ⟨h1, h2, (hn h2).trans h3, h4⟩
    · exact Or.inr ⟨h1, h2, f, h3, h4.kept ho, h5⟩
  · rcases h with ⟨h1, h2, h3⟩ | ⟨h1, h2, h2l, h3⟩ | ⟨h1, h2, v, h3, h4, h5, h6⟩
    · exact Or.inl ⟨h1, h2, h3.kept (hn h2)⟩
    · exact Or.inr (Or.inl ⟨h1, h2, h2l, h3.kept (hn h2)⟩)
    · exact Or.inr (Or.inr ⟨h1, h2, v, h3, h4.kept ho, h5.kept ho, h6.kept ho⟩)
theorem am_Wd.set (hτ : ∀ a, bs.2 ≤ a → τ a = bs.1 + (a - bs.2)) {U : State} {H H1 : Heap} {h : am_H} {a : Nat} {e0 e : am_C} (w : am_Wd τ bs D cl kc U h H) (ha : h.1 a = some e0) (hn : bs.2 ≤ a) (z : H1.size = H.size) (o : ∀ q : Nat, q ≠ τ a → H1[q]? = H[q]?) (he : am_at τ bs D cl kc U H1 a e) : am_Wd τ bs D cl kc U (am_set h a e) H1 := by
  refine ⟨w.1, z.trans w.2.1, fun q e2 hq => ?_⟩
  by_cases hqa : q = a
  · subst hqa
    have : (am_set h q e).1 q = some e := by simp [am_set]
    cases this.symm.trans hq
    exact ⟨(w.2.2 q e0 ha).1, he⟩
  · have : (am_set h a e).1 q = h.1 q := by simp [am_set, hqa]
    rw [this] at hq
    obtain ⟨h1, h2⟩ := w.2.2 q e2 hq
    refine ⟨h1, h2.kept (fun hq0 => o _ (fun he => hqa ?_)) (fun x _ hx => o x (fun he => hx ?_))⟩
    · have a1 := hτ a hn
      have a2 := hτ q hq0
      omega
    · have a1 := hτ a hn
      show bs.1 ≤ x
      omega
theorem am_Wd.new (hτ : ∀ a, bs.2 ≤ a → τ a = bs.1 + (a - bs.2)) {U : State} {H H1 : Heap} {h : am_H} {e : am_C} {n : Nat} (w : am_Wd τ bs D cl kc U h H) (z : H1.size = H.size + 1) (o : ∀ q : Nat, q < H.size → H1[q]? = H[q]?) (he : am_at τ bs D cl kc U H1 h.2.1 e) : am_Wd τ bs D cl kc U (am_new h e n) H1 := by
  obtain ⟨w1, w2, w3⟩ := w
  refine ⟨by show bs.2 ≤ h.2.1 + 1; omega, by rw [z, w2]; show bs.1 + (h.2.1 - bs.2) + 1 = bs.1 + (h.2.1 + 1 - bs.2); omega, fun q e2 hq => ?_⟩
  show q < h.2.1 + 1 ∧ _
  by_cases hqa : q = h.2.1
  · subst hqa
    have : (am_new h e n).1 h.2.1 = some e := by simp [am_new]
    cases this.symm.trans hq
    exact ⟨by omega, he⟩
  · have : (am_new h e n).1 q = h.1 q := by simp [am_new, hqa]
    rw [this] at hq
    obtain ⟨h1, h2⟩ := w3 q e2 hq
    refine ⟨by omega, h2.kept (fun hq0 => o _ ?_) (fun x hx _ => o x hx)⟩
    have a2 := hτ q hq0
    omega
theorem am_in_vp {i : Int32} {n : Nat} (h : am_in i n = true) : vp_in i n := by
  simp only [am_in, Bool.and_eq_true, decide_eq_true_eq] at h
  exact fun q => q.elim h.1 (fun q => absurd h.2 (Nat.not_lt.mpr q))
theorem am_in_lt {i : Int32} {n : Nat} (h : am_in i n = true) : i.toNatClampNeg < n := by
  simp only [am_in, Bool.and_eq_true, decide_eq_true_eq] at h
  exact h.2
theorem am_one {q : Nat × va_E} {H : Heap} (h : va_at D cl q H) : va_P D cl [q] H := by
  intro k x hk
  have hz : k < 1 := (List.getElem?_eq_some_iff.mp hk).1
  rw [show k = 0 by omega] at hk
  cases hk
  exact h
end AMH
section AMR
variable {p : Program} {l : Launch} {e : Env} {R : Room} {s : State} {m : MethodId} {args : Array Value} {below : List Frame} {meth : Method} {c : Code} {H : Heap} {locs : List Loc} {cells slots : Nat} {Q : State → Prop}
variable {cc : ByteArray} {τ : Nat → Nat} {bs : Nat × Nat} {D : va_G} {cl : List vw_C} {kc : Nat → ClassId} {pc : Nat} {ls : Array Slot} {rest : List Value} {h : am_H}
theorem am_Wia (hx : p.tables.exec = Jvm.exec) (hb : c.code = cc) (hK : va_K D cl (am_ty kc) s) (w : am_Wd τ bs D cl kc s h H) {a : Nat} {i v : Int32} (hv : am_ia h a i = some v) (hdg : decode cc pc = .ok (.iaload, 1))
    (kk : W p l e R s m args below meth c H locs cells slots Q (F0 m (pc + 1) ls (.int v :: rest))) : W p l e R s m args below meth c H locs cells slots Q (F0 m pc ls (.int i :: .ref (τ a) :: rest)) := by
  unfold am_ia at hv
  split at hv
  · rename_i k n f hc
    split at hv
    · rename_i hcond
      cases hv
      obtain ⟨hk, hin⟩ := hcond
      rcases (w.2.2 a _ hc).2 with ⟨h1, h2, h3, -⟩ | ⟨h1, h2, f', h3, h4, -⟩
      · have hk0 : k = 0 := by omega
        subst hk0
        exact va_iald hx hb hK (am_one (q := (τ a, .inl (kc 0, n, .inl f))) h3) 0 0 rfl (am_ty_at kc (by decide)) (am_in_vp hin) hdg kk
      · have hk0 : k = 10 := by omega
        subst hk0
        cases h3
        obtain ⟨cell, g1, g2, g3, g4, g5, g6, g7⟩ := h4
        have hlt := am_in_lt hin
        refine W.iald (v := .int (f i.toNatClampNeg)) hx hb g1 g2 g3 (fun q => ?_) (g6 _ hlt) rfl rfl hdg kk
        rcases q with q | q
        · exact am_in_vp hin (Or.inl q)
        · dsimp only at g4; omega
    · cases hv
  · cases hv
theorem am_Wba (hx : p.tables.exec = Jvm.exec) (hb : c.code = cc) (hK : va_K D cl (am_ty kc) s) (w : am_Wd τ bs D cl kc s h H) {a : Nat} {i v : Int32} (hv : am_ba h a i = some v) (hdg : decode cc pc = .ok (.baload, 1))
    (kk : W p l e R s m args below meth c H locs cells slots Q (F0 m (pc + 1) ls (.int v :: rest))) : W p l e R s m args below meth c H locs cells slots Q (F0 m pc ls (.int i :: .ref (τ a) :: rest)) := by
  unfold am_ba at hv
  split at hv
  · rename_i k n f hc
    split at hv
    · rename_i hcond
      cases hv
      obtain ⟨hk, hin⟩ := hcond
      rcases (w.2.2 a _ hc).2 with ⟨h1, h2, h3, -⟩ | ⟨h1, h2, f', h3, h4, -⟩
      · rcases (show k = 1 ∨ k = 2 by omega) with rfl | rfl
        · exact va_bald hx hb hK (am_one (q := (τ a, .inl (kc 1, n, .inl f))) h3) 0 1 rfl (am_ty_at kc (by decide)) (am_in_vp hin) hdg kk
        · exact va_zald hx hb hK (am_one (q := (τ a, .inl (kc 2, n, .inl f))) h3) 0 2 rfl (am_ty_at kc (by decide)) (am_in_vp hin) hdg kk
      · have hk0 : k = 11 := by omega
        subst hk0
        cases h3
        obtain ⟨cell, g1, g2, g3, g4, g5, g6, g7⟩ := h4
        have hlt := am_in_lt hin
        refine W.bald (v := .int (f i.toNatClampNeg)) hx hb g1 g2 g3 (fun q => ?_) (g6 _ hlt) rfl rfl hdg kk
        rcases q with q | q
        · exact am_in_vp hin (Or.inl q)
        · dsimp only at g4; omega
    · cases hv
  · cases hv
theorem am_Wla (hx : p.tables.exec = Jvm.exec) (hb : c.code = cc) (hK : va_K D cl (am_ty kc) s) (w : am_Wd τ bs D cl kc s h H) {a : Nat} {i : Int32} {v : Int64} (hv : am_la h a i = some v) (hdg : decode cc pc = .ok (.laload, 1))
    (kk : W p l e R s m args below meth c H locs cells slots Q (F0 m (pc + 1) ls (.long v :: rest))) : W p l e R s m args below meth c H locs cells slots Q (F0 m pc ls (.int i :: .ref (τ a) :: rest)) := by
  unfold am_la at hv
  split at hv
  · rename_i k n f hc
    split at hv
    · rename_i hcond
      cases hv
      obtain ⟨rfl, hin⟩ := hcond
      rcases (w.2.2 a _ hc).2 with ⟨h1, h2, h3, -⟩ | ⟨h1, h2, f', h3, h4, -⟩
      · exact va_lald hx hb hK (am_one (q := (τ a, .inl (kc 3, n, .inr (.inl f)))) h3) 0 3 rfl (am_ty_at kc (by decide)) (am_in_vp hin) hdg kk
      · omega
    · cases hv
  · cases hv
theorem am_Wda (hx : p.tables.exec = Jvm.exec) (hb : c.code = cc) (hK : va_K D cl (am_ty kc) s) (w : am_Wd τ bs D cl kc s h H) {a : Nat} {i : Int32} {v : UInt64} (hv : am_da h a i = some v) (hdg : decode cc pc = .ok (.daload, 1))
    (kk : W p l e R s m args below meth c H locs cells slots Q (F0 m (pc + 1) ls (.double v :: rest))) : W p l e R s m args below meth c H locs cells slots Q (F0 m pc ls (.int i :: .ref (τ a) :: rest)) := by
  unfold am_da at hv
  split at hv
  · rename_i k n f hc
    split at hv
    · rename_i hcond
      cases hv
      obtain ⟨rfl, hin⟩ := hcond
      rcases (w.2.2 a _ hc).2 with ⟨h1, h2, h3, -⟩ | ⟨h1, h2, f', h3, h4, -⟩
      · exact absurd rfl h1.2
      · omega
    · cases hv
  · cases hv
theorem am_Wqa (hx : p.tables.exec = Jvm.exec) (hb : c.code = cc) (hK : va_K D cl (am_ty kc) s) (w : am_Wd τ bs D cl kc s h H) {a : Nat} {i : Int32} {v : Nat} (hv : am_qa h a i = some v) (hdg : decode cc pc = .ok (.aaload, 1))
    (kk : W p l e R s m args below meth c H locs cells slots Q (F0 m (pc + 1) ls (.ref (τ v) :: rest))) : W p l e R s m args below meth c H locs cells slots Q (F0 m pc ls (.int i :: .ref (τ a) :: rest)) := by
  unfold am_qa at hv
  split at hv
  · rename_i k n f hc
    split at hv
    · rename_i hcond
      obtain ⟨hk, hin⟩ := hcond
      have kk' : W p l e R s m args below meth c H locs cells slots Q (F0 m (pc + 1) ls (va_rf ((f i.toNatClampNeg).map τ) :: rest)) := by rw [hv]; exact kk
      rcases (w.2.2 a _ hc).2 with ⟨h1, h2, h3, -⟩ | ⟨h1, h2, f', h3, h4, -⟩
      · have hlt : i.toNatClampNeg < n := am_in_lt hin
        have key : ∀ ty : FieldType, am_kt k = ty → ty.isReference = true → W p l e R s m args below meth c H locs cells slots Q (F0 m pc ls (.int i :: .ref (τ a) :: rest)) := by
          intro ty hty hr
          have h3' : H[τ a]? = some (arrV (kc k) n (fun j => va_rf ((f j).map τ))) := h3
          have hk9 := (hK.2 k _ (am_ty_at kc h1.1)).1 n (fun j => va_rf ((f j).map τ))
          dsimp only at hk9
          rw [hty] at hk9
          exact W.aald (v := va_rf ((f i.toNatClampNeg).map τ)) (ty := ty) hx hb h3' hk9 hr (fun q => by cases q) (by show ¬ (i < 0 ∨ (arrV _ _ _).slots.size ≤ _); rw [arrV_size]; exact am_in_vp hin) (by show (arrV _ _ _).slots[_]? = _; rw [arrV_read _ _ hlt]) rfl rfl hdg kk'
        have hk2 : k = 5 ∨ k = 6 ∨ k = 7 ∨ k = 8 ∨ k = 9 := by omega
        rcases hk2 with rfl | rfl | rfl | rfl | rfl
        · exact key _ rfl rfl
        · exact key _ rfl rfl
        · exact key _ rfl rfl
        · exact key _ rfl rfl
        · exact key _ rfl rfl
      · omega
    · cases hv
  · cases hv
theorem am_Wal (hx : p.tables.exec = Jvm.exec) (hb : c.code = cc) (hK : va_K D cl (am_ty kc) s) (w : am_Wd τ bs D cl kc s h H) {a : Nat} {v : Int32} (hv : am_al h a = some v) (hdg : decode cc pc = .ok (.arraylength, 1))
    (kk : W p l e R s m args below meth c H locs cells slots Q (F0 m (pc + 1) ls (.int v :: rest))) : W p l e R s m args below meth c H locs cells slots Q (F0 m pc ls (.ref (τ a) :: rest)) := by
  unfold am_al at hv
  split at hv
  · rename_i k n b hc
    split at hv
    · cases hv
      rcases (w.2.2 a _ hc).2 with ⟨h1, h2, h3, -⟩ | ⟨h1, h2, f', h3, h4, -⟩
      · refine va_alen hx hb hK (am_one (q := (τ a, .inl (kc k, am_tp τ (n, b)))) h3) 0 k rfl (am_ty_at kc h1.1) ?_ hdg kk
        rcases b with f | f | f | f | f <;> rfl
      · dsimp only at h3 h4
        rcases h1 with rfl | rfl
        · obtain ⟨cell, g1, g2, g3, g4, g5, g6, g7⟩ := h4
          exact W.alen hx hb g1 g2 g5 rfl rfl hdg kk
        · obtain ⟨cell, g1, g2, g3, g4, g5, g6, g7⟩ := h4
          exact W.alen hx hb g1 g2 g5 rfl rfl hdg kk
    · cases hv
  · cases hv
end AMR
