/-! ===== soundness, 3b: rows of rows, a copy of bytes, a cast of bytes ===== -/
section AMW2
variable {p : Program} {l : Launch} {e : Env} {R : Room} {s : State} {m : MethodId} {args : Array Value} {below : List Frame} {meth : Method} {c : Code} {H : Heap} {locs : List Loc} {cells slots : Nat} {Q : State → Prop}
variable {cc : ByteArray} {τ : Nat → Nat} {bs : Nat × Nat} {D : va_G} {cl : List vw_C} {kc : Nat → ClassId} {pc : Nat} {ls : Array Slot} {rest : List Value} {h h' : am_H}
theorem am_mn_2 {k : Nat} {n m : Int32} (hv : am_mn h k n m = some h') : h'.2.1 = h.2.1 + (1 + n.toNatClampNeg) ∧ h'.2.2 = h.2.2 + (n.toNatClampNeg + n.toNatClampNeg * m.toNatClampNeg) := by
  unfold am_mn at hv
  split at hv
  · cases hv; exact ⟨rfl, rfl⟩
  · cases hv
theorem am_cn1_le {a : Nat} (hv : am_cn1 h a = some h') : h.2.1 ≤ h'.2.1 ∧ h.2.2 ≤ h'.2.2 := by
  unfold am_cn1 at hv
  repeat' split at hv
  all_goals (first | (cases hv; done) | (cases hv; exact ⟨Nat.le_succ _, Nat.le_add_right _ _⟩))
theorem am_Wmn (hx : p.tables.exec = Jvm.exec) (hb : c.code = cc) (hτ : ∀ a, bs.2 ≤ a → τ a = bs.1 + (a - bs.2)) {own : String} {index k : Nat} {ty : FieldType} (hown : s.vm.findClass own = some m.cls) (hclink : (Cond.classLink own index ("[" ++ (FieldType.array ty).toString)).before args s = true)
    (hover : (Cond.arrayOver (.array ty)).before args s = true) (harr : (Cond.arrayClass ty).before args s = true) (hkt : (k = 8 ∧ ty = .int) ∨ (k = 9 ∧ ty = .boolean))
    (hK : va_K D cl (am_ty kc) s) (w : am_Wd τ bs D cl kc s h H) (hS0 : va_S (am_A bs) s.heap H locs) {n m' : Int32} (hv : am_mn h k n m' = some h') (hcells : cells + (h'.2.1 - h.2.1) ≤ R.cells) (hslots : slots + (h'.2.2 - h.2.2) ≤ R.slots) (hdg : decode cc pc = .ok (.multianewarray index 2, 4))
    (kk : ∀ (H1 : Heap) (locs1 : List Loc), am_Wd τ bs D cl kc s h' H1 → va_S (am_A bs) s.heap H1 locs1 → W p l e R s m args below meth c H1 locs1 (cells + (h'.2.1 - h.2.1)) (slots + (h'.2.2 - h.2.2)) Q (F0 m (pc + 4) ls (.ref (τ h.2.1) :: rest))) : W p l e R s m args below meth c H locs cells slots Q (F0 m pc ls (.int m' :: .int n :: rest)) := by
  obtain ⟨z1, z2⟩ := am_mn_2 hv
  have e1 : h'.2.1 - h.2.1 = 1 + n.toNatClampNeg := by omega
  have e2 : h'.2.2 - h.2.2 = n.toNatClampNeg + n.toNatClampNeg * m'.toNatClampNeg := by omega
  rw [e1] at hcells kk
  rw [e2] at hslots kk
  unfold am_mn at hv
  split at hv
  · rename_i hcond
    cases hv
    obtain ⟨-, ⟨hn, hn2⟩, hm, hm2⟩ := hcond
    obtain ⟨w1, w2, w3⟩ := w
    have hsz : H.size = τ h.2.1 := by rw [w2, hτ _ w1]
    have key : ∀ (kI : Nat), kI < 10 → k < 10 → am_kt kI = ty → am_kt k = .array ty → fits ty (defaultValue ty) = true → componentBytes ty ≤ 8 → (defaultValue ty = .int 0) → kI = (if k = 8 then 0 else 2) → s.vm.findClass ("[" ++ ty.toString) = some (kc kI) → s.vm.findClass ("[" ++ (FieldType.array ty).toString) = some (kc k) →
        W p l e R s m args below meth c H locs cells slots Q (F0 m pc ls (.int m' :: .int n :: rest)) := by
      intro kI hkI hk10 hkI2 hk2 hdf hcb hd0 hkk hfI hfO
      refine mn_W hx hb hown hclink hover harr hdg hn hm hn2 hm2 hdf hcb hcells hslots fun cA comp H1 f1 f2 f3 f4 f5 f6 => ?_
      cases f1.symm.trans hfO
      cases f2.symm.trans hfI
      rw [hsz]
      have w' : am_Wd τ bs D cl kc s (fun q => if q = h.2.1 then some (.inl (k, n.toNatClampNeg, .inr (.inr (.inr (.inr (fun j => some (h.2.1 + 1 + j))))))) else if h.2.1 < q ∧ q < h.2.1 + 1 + n.toNatClampNeg then some (.inl (if k = 8 then 0 else 2, m'.toNatClampNeg, .inl (fun _ => 0))) else h.1 q, h.2.1 + (1 + n.toNatClampNeg), h.2.2 + (n.toNatClampNeg + n.toNatClampNeg * m'.toNatClampNeg)) H1 := by
        refine ⟨by show bs.2 ≤ h.2.1 + (1 + n.toNatClampNeg); omega, by rw [f3, w2]; show _ = bs.1 + (h.2.1 + (1 + n.toNatClampNeg) - bs.2); omega, fun q e2 hq => ?_⟩
        dsimp only at hq ⊢
        split at hq
        · rename_i hqa
          cases hq
          subst hqa
          refine ⟨by omega, Or.inl ⟨⟨hk10, fun hk4 => by rw [hk4] at hk2; cases hk2⟩, w1, ?_, fun q => ?_⟩⟩
          · rw [← hsz, f4]
            congr 1
            rw [show vp_cell (kc k) (am_tp τ (n.toNatClampNeg, Sum.inr (Sum.inr (Sum.inr (Sum.inr fun j => some (h.2.1 + 1 + j)))))) = arrV (kc k) n.toNatClampNeg (fun j => va_rf (some (τ (h.2.1 + 1 + j)))) from rfl]
            unfold mn_O arrV
            congr 1
            refine congrArg (fun g : Fin n.toNatClampNeg → Value => Array.ofFn g) (funext fun j => ?_)
            dsimp only
            rw [if_pos j.isLt]
            show Value.ref _ = va_rf (some (τ (h.2.1 + 1 + j.val)))
            rw [hτ _ (by omega), w2]
            have e9 : bs.1 + (h.2.1 - bs.2) + 1 + j.val = bs.1 + (h.2.1 + 1 + j.val - bs.2) := by omega
            exact congrArg Value.ref e9
          · intro f2 hf2
            cases hf2
        · split at hq
          · rename_i hqa
            cases hq
            obtain ⟨hq1, hq2⟩ := hqa
            refine ⟨by omega, Or.inl ⟨by rw [← hkk]; exact ⟨hkI, by split at hkk <;> omega⟩, by omega, ?_, fun hk1 f hf j => ?_⟩⟩
            · have hj := f6 (q - h.2.1 - 1) (by omega)
              have e9 : H.size + 1 + (q - h.2.1 - 1) = τ q := by rw [w2, hτ _ (by omega)]; omega
              rw [e9, hd0] at hj
              rw [← hkk]
              exact hj
            · cases hf
              show am_nb 0 = 0
              decide
          · obtain ⟨h1, h2⟩ := w3 q e2 hq
            refine ⟨by omega, h2.kept (fun hq0 => f5 _ ?_) (fun x hx _ => f5 x hx)⟩
            have a2 := hτ q hq0
            omega
      have hS1 : va_S (am_A bs) s.heap H1 (locs ++ (List.range n.toNatClampNeg).map fun j => ⟨τ h.2.1, j⟩) := by
        refine ⟨Nat.le_trans hS0.1 (by omega), fun x h1 h2 => (f5 x (by have := hS0.1; omega)).trans (hS0.2.1 x h1 h2), fun z hz => ?_⟩
        rcases List.mem_append.mp hz with hz | hz
        · exact hS0.2.2 z hz
        · obtain ⟨j, -, rfl⟩ := List.mem_map.mp hz
          exact am_Aτ hτ w1
      have kk2 := kk H1 _ w' hS1
      rw [Nat.add_assoc cells, Nat.add_assoc slots]
      exact kk2
    have t1 : ∀ kI, kI < 10 → s.vm.findClass ("[" ++ (am_kt kI).toString) = some (kc kI) ∨ ∃ C, am_kt kI = .object C := by
      intro kI hkI
      have h9 := (hK.2 kI _ (am_ty_at kc hkI)).2
      match kI, hkI with
      | 0, _ => exact Or.inl h9
      | 1, _ => exact Or.inl h9
      | 2, _ => exact Or.inl h9
      | 3, _ => exact Or.inl h9
      | 4, _ => exact Or.inl h9
      | 5, _ => exact Or.inr ⟨_, rfl⟩
      | 6, _ => exact Or.inr ⟨_, rfl⟩
      | 7, _ => exact Or.inr ⟨_, rfl⟩
      | 8, _ => exact Or.inl h9
      | 9, _ => exact Or.inl h9
    have t2 : ∀ kI, kI < 10 → (∀ C, am_kt kI ≠ .object C) → s.vm.findClass ("[" ++ (am_kt kI).toString) = some (kc kI) := by
      intro kI hkI hne
      rcases t1 kI hkI with h | ⟨C, h⟩
      · exact h
      · exact absurd h (hne C)
    rcases hkt with ⟨rfl, rfl⟩ | ⟨rfl, rfl⟩
    · exact key 0 (by decide) (by decide) rfl rfl rfl (by decide) rfl rfl (t2 0 (by decide) (fun C h => by cases h)) (t2 8 (by decide) (fun C h => by cases h))
    · exact key 2 (by decide) (by decide) rfl rfl rfl (by decide) rfl rfl (t2 2 (by decide) (fun C h => by cases h)) (t2 9 (by decide) (fun C h => by cases h))
  · cases hv
/-- where a fresh copy lies -/
theorem am_Wcn (hx : p.tables.exec = Jvm.exec) (hb : c.code = cc) (hτ : ∀ a, bs.2 ≤ a → τ a = bs.1 + (a - bs.2)) (hml : c.maxLocals = ls.size) {own : String} {index : Nat} (hown : s.vm.findClass own = some m.cls)
    (hlink : (Cond.methodLink own index ⟨"[B", "clone", "()Ljava/lang/Object;"⟩).before args s = true) (hsame : (Cond.sameMethod "[B" "java/lang/Object" "clone" "()Ljava/lang/Object;").before args s = true)
    (hnat : (Cond.native ⟨"java/lang/Object", "clone", "()Ljava/lang/Object;"⟩).before args s = true) (hinst : (Cond.instanceMethod ⟨"java/lang/Object", "clone", "()Ljava/lang/Object;"⟩).before args s = true)
    (hsel : (Cond.selects "[B" ⟨"[B", "clone", "()Ljava/lang/Object;"⟩ ⟨"java/lang/Object", "clone", "()Ljava/lang/Object;"⟩).before args s = true) (hcl : va_Nw (.castable "[B" "java/lang/Cloneable") s)
    (hK : va_K D cl (am_ty kc) s) (w : am_Wd τ bs D cl kc s h H) (hS0 : va_S (am_A bs) s.heap H locs) {a : Nat} (hv : am_cn1 h a = some h') (hframes : 1 ≤ R.frames) (hlocals : (rest.map fun v => v.category).sum + 14 ≤ R.locals) (hcells : cells + (h'.2.1 - h.2.1) ≤ R.cells) (hslots : slots + (h'.2.2 - h.2.2) ≤ R.slots) (hdg : decode cc pc = .ok (.invokevirtual index, 3))
    (kk : ∀ (H1 : Heap), am_Wd τ bs D cl kc s h' H1 → va_S (am_A bs) s.heap H1 locs → W p l e R s m args below meth c H1 locs (cells + (h'.2.1 - h.2.1)) (slots + (h'.2.2 - h.2.2)) Q (F0 m (pc + 3) ls (.ref (τ h.2.1) :: rest))) : W p l e R s m args below meth c H locs cells slots Q (F0 m pc ls (.ref (τ a) :: rest)) := by
  unfold am_cn1 at hv
  split at hv
  · rename_i k n f hc
    split at hv
    · rename_i hcond
      cases hv
      obtain ⟨rfl, hn⟩ := hcond
      rcases (w.2.2 a _ hc).2 with ⟨h1, h2, h3, h4⟩ | ⟨h1, -⟩
      · have e1 : (am_new h (.inl (1, n, .inl f)) n).2.1 - h.2.1 = 1 := by show h.2.1 + 1 - h.2.1 = 1; omega
        have e2 : (am_new h (.inl (1, n, .inl f)) n).2.2 - h.2.2 = n := by show h.2.2 + n - h.2.2 = n; omega
        rw [e1] at hcells kk
        rw [e2] at hslots kk
        have hsz : H.size = τ h.2.1 := by rw [w.2.1, hτ _ w.1]
        have h3' : H[τ a]? = some (vp_cell (kc 1) (n, .inl f)) := h3
        have hnm : s.vm.findClass "[B" = some (kc 1) := (hK.2 1 _ (am_ty_at kc (by decide))).2
        obtain ⟨c0, t0', f1, f2, f3⟩ := Cond.castable_spec (va_Nw.use (A := args) rfl hcl)
        cases hnm.symm.trans f1
        intro T hT X
        have hcellT : T.heap[τ a]? = some (vp_cell (kc 1) (n, .inl f)) := by rw [hT]; exact h3'
        obtain ⟨-, kA, hkA, comp, hkind⟩ := State.isArrayOf_alike X.warmed.alike ((hK.2 1 _ (am_ty_at kc (by decide))).1 0 (fun _ => .null))
        obtain ⟨-, kS, hkS, compS, hkindS⟩ := (hK.2 1 _ (am_ty_at kc (by decide))).1 0 (fun _ => .null)
        have hss : (vp_cell (kc 1) (n, .inl f)).slots.size = n := arrV_size _ _ _
        obtain ⟨vm', X', st⟩ := X.cloneArray hx hown hlink hsame hnat hinst hsel (a := τ a) (cell := vp_cell (kc 1) (n, .inl f)) hcellT (fun k h => by cases h) (fun h => by cases h) hnm f2 f3
          (fun i v hv => by
            have hi : i < n := by have := (Array.getElem?_eq_some_iff.mp hv).1; rw [hss] at this; exact this
            have hv2 : v = .int (f i) := by
              have := arrV_read (kc 1) (fun j => Value.int (f j)) hi
              rw [show (vp_cell (kc 1) (n, .inl f)).slots[i]? = some (.int (f i)) from this] at hv
              exact (Option.some.inj hv).symm
            have hk' : T.vm.classes[kc 1]? = some kA := hkA
            have hfit : fits .byte v = true := by
              rw [hv2, ← h4 rfl f rfl]
              exact pk_fb _
            show T.fitsSlot (kc 1) _ i v = true
            have hfit2 : fits (am_kt 1) v = true := hfit
            simpa [State.fitsSlot, State.slotType?, hk', hkind] using hfit2)
          (g := F0 m pc ls (.ref (τ a) :: rest)) rfl (by rw [hml]) rfl (by rw [hb]; exact hdg) hframes (by show 2 * 0 + _ + 14 ≤ _; omega) hcells (by rw [hss]; exact hslots) (hloader := Vm.clonesLoader_of_array hkS hkindS)
        have hcellE : ({ cls := (vp_cell (kc 1) (n, .inl f)).cls, slots := (vp_cell (kc 1) (n, .inl f)).slots } : Cell) = vp_cell (kc 1) (n, .inl f) := rfl
        rw [hcellE, hss] at X'
        generalize hH1 : H.push (vp_cell (kc 1) (n, .inl f)) = H1
        have z1 : H1.size = H.size + 1 := by rw [← hH1, Array.size_push]
        have g1 : H1[H.size]? = some (vp_cell (kc 1) (n, .inl f)) := by rw [← hH1, Array.getElem?_push_size]
        have o1 : ∀ q : Nat, q < H.size → H1[q]? = H[q]? := fun q hq => by rw [← hH1, Array.getElem?_push, if_neg (Nat.ne_of_lt hq)]
        obtain ⟨t, b1, b2⟩ := kk H1 (w.new hτ z1 o1 (Or.inl ⟨by decide, w.1, by rw [← hsz]; exact g1, h4⟩)) ⟨Nat.le_trans hS0.1 (by omega), fun x h1 h2 => (o1 x (by have := hS0.1; omega)).trans (hS0.2.1 x h1 h2), hS0.2.2⟩ ((T.setVm vm').pushCell (vp_cell (kc 1) (n, .inl f))) (by rw [← hH1, ← hT]; rfl) X'
        refine ⟨t, st t ?_, b2⟩
        rw [hcellE, hT, hsz]
        exact b1
      · omega
    · cases hv
  · cases hv
theorem am_Wcb (hx : p.tables.exec = Jvm.exec) (hb : c.code = cc) {own : String} {index : Nat} (hown : s.vm.findClass own = some m.cls) (hlink : (Cond.classLink own index "[B").before args s = true)
    (hK : va_K D cl (am_ty kc) s) (w : am_Wd τ bs D cl kc s h H) {a : Nat} (hv : am_isb h a = true) (hdg : decode cc pc = .ok (.checkcast index, 3))
    (kk : W p l e R s m args below meth c H locs cells slots Q (F0 m (pc + 3) ls (.ref (τ a) :: rest))) : W p l e R s m args below meth c H locs cells slots Q (F0 m pc ls (.ref (τ a) :: rest)) := by
  unfold am_isb at hv
  split at hv
  · rename_i k n f hc
    obtain rfl := of_decide_eq_true hv
    rcases (w.2.2 a _ hc).2 with ⟨h1, h2, h3, h4⟩ | ⟨h1, -⟩
    · exact va_castA (D := D) (cl := cl) hx hb hown hlink (am_one (q := (τ a, .inl (kc 1, n, .inl f))) h3) 0 rfl (hK.2 1 _ (am_ty_at kc (by decide))).2 hdg kk
    · omega
  · cases hv
end AMW2
/-- an array over this type can be made -/
def am_AO (t : FieldType) (U : State) : Prop := match t with
  | .object C => va_AO C U
  | .array t => (Cond.arrayOver (.array t)).before #[] U = true
  | _ => True
theorem am_AO.moved {t : FieldType} {u U : State} (hvm : u.vm.Alike U.vm) (h : am_AO t u) : am_AO t U := by
  cases t with
  | object C => exact va_AO.moved hvm h
  | array t =>
    obtain ⟨comp, c, k, h1, h2, h3, h4, h5⟩ := arrayOverA_spec h
    obtain ⟨k', hk', he⟩ := hvm.2.2 _ _ h3
    have hi : (U.vm.classes.findIdx? fun (x : Class) => match x.kind with | .array component _ => component == comp | _ => false) = some c := by
      have e1 := (va_idx_bare U.vm comp).symm
      have e2 := va_idx_bare u.vm comp
      first | rw [hvm.bare_eq] at e1 | rw [← hvm.bare_eq] at e1
      exact (e1.trans e2).trans h2
    have hkind : k'.kind = .array comp (.array t) := by rw [he]; exact h4
    have f1 : U.vm.findClass (FieldType.array t).toString = some comp := by rw [hvm.findClass]; exact h1
    have f2 : U.vm.findClass ("[" ++ (FieldType.array t).toString) = some c := by rw [hvm.findClass]; exact h5
    show (Cond.arrayOver (.array t)).before #[] U = true
    unfold Cond.before Cond.holds
    simp only [Cond.value]
    rw [f1, Option.bind_some]
    refine (congrArg (fun o : Option Nat => (o.bind (fun c => (U.vm.classes[c]?).map fun (k : Class) => match k.kind with | .array _ ty => decide (ty = FieldType.array t) && decide (U.vm.findClass ("[" ++ (FieldType.array t).toString) = some c) | _ => false) == some true)) hi).trans ?_
    simp [hk', hkind, f2]
  | _ => trivial
