/-! ===== soundness, 3: writes, new cells ===== -/
section AMW
variable {p : Program} {l : Launch} {e : Env} {R : Room} {s : State} {m : MethodId} {args : Array Value} {below : List Frame} {meth : Method} {c : Code} {H : Heap} {locs : List Loc} {cells slots : Nat} {Q : State → Prop}
variable {cc : ByteArray} {τ : Nat → Nat} {bs : Nat × Nat} {D : va_G} {cl : List vw_C} {kc : Nat → ClassId} {pc : Nat} {ls : Array Slot} {rest : List Value} {h h' : am_H}
theorem am_Aτ (hτ : ∀ a, bs.2 ≤ a → τ a = bs.1 + (a - bs.2)) {a : Nat} (ha : bs.2 ≤ a) : am_A bs (τ a) := by
  have := hτ a ha
  show bs.1 ≤ τ a
  omega
theorem am_Wis (hx : p.tables.exec = Jvm.exec) (hb : c.code = cc) (hτ : ∀ a, bs.2 ≤ a → τ a = bs.1 + (a - bs.2)) (hK : va_K D cl (am_ty kc) s) (w : am_Wd τ bs D cl kc s h H) (hS : va_S (am_A bs) s.heap H locs) {a : Nat} {i x : Int32} (hv : am_is h a i x = some h') (hdg : decode cc pc = .ok (.iastore, 1))
    (kk : ∀ (H1 : Heap) (locs1 : List Loc), am_Wd τ bs D cl kc s h' H1 → va_S (am_A bs) s.heap H1 locs1 → W p l e R s m args below meth c H1 locs1 cells slots Q (F0 m (pc + 1) ls rest)) : W p l e R s m args below meth c H locs cells slots Q (F0 m pc ls (.int x :: .int i :: .ref (τ a) :: rest)) := by
  unfold am_is at hv
  split at hv
  · rename_i k n f hc
    split at hv
    · rename_i hcond
      cases hv
      obtain ⟨rfl, hin⟩ := hcond
      rcases (w.2.2 a _ hc).2 with ⟨h1, h2, h3, -⟩ | ⟨h1, h2, f', h3, h4, -⟩
      · have h3' : H[τ a]? = some (vp_cell (kc 0) (n, .inl f)) := h3
        refine W.iast hx hb h3' ((hK.2 0 _ (am_ty_at kc (by decide))).1 n (fun j => .int (f j))) (fun q => by cases q) (by show ¬ (i < 0 ∨ (arrV _ _ _).slots.size ≤ _); rw [arrV_size]; exact am_in_vp hin) rfl rfl hdg fun H1 e z oq => ?_
        refine kk H1 _ (w.set hτ hc h2 z oq (Or.inl ⟨by decide, h2, ?_, fun q => by cases q⟩)) (hS.put z oq (am_Aτ hτ h2))
        show H1[τ a]? = some (vp_cell _ (n, .inl _))
        rw [e, vp_cell_i, vp_cell_i, arrV_store]
        congr 2
        funext q
        by_cases hq : q = i.toNatClampNeg
        · subst hq; simp [updV, am_up]
        · simp [updV, am_up, hq]
      · omega
    · cases hv
  · cases hv
theorem am_nb_nb (x : Int32) : am_nb (am_nb x) = am_nb x := by
  have h := pk_vb x
  exact h
theorem am_Wbs (hx : p.tables.exec = Jvm.exec) (hb : c.code = cc) (hτ : ∀ a, bs.2 ≤ a → τ a = bs.1 + (a - bs.2)) (hK : va_K D cl (am_ty kc) s) (w : am_Wd τ bs D cl kc s h H) (hS : va_S (am_A bs) s.heap H locs) {a : Nat} {i x : Int32} (hv : am_bs h a i x = some h') (hdg : decode cc pc = .ok (.bastore, 1))
    (kk : ∀ (H1 : Heap) (locs1 : List Loc), am_Wd τ bs D cl kc s h' H1 → va_S (am_A bs) s.heap H1 locs1 → W p l e R s m args below meth c H1 locs1 cells slots Q (F0 m (pc + 1) ls rest)) : W p l e R s m args below meth c H locs cells slots Q (F0 m pc ls (.int x :: .int i :: .ref (τ a) :: rest)) := by
  unfold am_bs at hv
  split at hv
  · rename_i k n f hc
    split at hv
    · rename_i hin
      split at hv
      · rename_i hk
        subst hk
        cases hv
        rcases (w.2.2 a _ hc).2 with ⟨h1, h2, h3, h5⟩ | ⟨h1, h2, f', h3, h4, -⟩
        · have h3' : H[τ a]? = some (vp_cell (kc 1) (n, .inl f)) := h3
          refine W.bast hx hb h3' ((hK.2 1 _ (am_ty_at kc (by decide))).1 n (fun j => .int (f j))) (fun q => by cases q) (by show ¬ (i < 0 ∨ (arrV _ _ _).slots.size ≤ _); rw [arrV_size]; exact am_in_vp hin) rfl rfl hdg fun H1 e z oq => ?_
          refine kk H1 _ (w.set hτ hc h2 z oq (Or.inl ⟨by decide, h2, ?_, fun _ f2 hf2 j => ?_⟩)) (hS.put z oq (am_Aτ hτ h2))
          · show H1[τ a]? = some (vp_cell _ (n, .inl _))
            rw [e, vp_cell_i, vp_cell_i, arrV_store]
            congr 2
            funext q
            by_cases hq : q = i.toNatClampNeg
            · subst hq; simp [updV, am_up, narrow, am_nb]
            · simp [updV, am_up, hq]
          · cases hf2
            unfold am_up
            split
            · exact am_nb_nb x
            · exact h5 rfl f rfl j
        · omega
      · split at hv
        · rename_i hk
          subst hk
          cases hv
          rcases (w.2.2 a _ hc).2 with ⟨h1, h2, h3, h5⟩ | ⟨h1, h2, f', h3, h4, -⟩
          · have h3' : H[τ a]? = some (vp_cell (kc 2) (n, .inl f)) := h3
            refine W.zast hx hb h3' ((hK.2 2 _ (am_ty_at kc (by decide))).1 n (fun j => .int (f j))) (fun q => by cases q) (by show ¬ (i < 0 ∨ (arrV _ _ _).slots.size ≤ _); rw [arrV_size]; exact am_in_vp hin) rfl rfl hdg fun H1 e z oq => ?_
            refine kk H1 _ (w.set hτ hc h2 z oq (Or.inl ⟨by decide, h2, ?_, fun q => by cases q⟩)) (hS.put z oq (am_Aτ hτ h2))
            show H1[τ a]? = some (vp_cell _ (n, .inl _))
            rw [e, vp_cell_i, vp_cell_i, arrV_store]
            congr 2
            funext q
            by_cases hq : q = i.toNatClampNeg
            · subst hq; simp [updV, am_up, narrow]
            · simp [updV, am_up, hq]
          · omega
        · cases hv
    · cases hv
  · cases hv
theorem am_Wjs (hx : p.tables.exec = Jvm.exec) (hb : c.code = cc) (hτ : ∀ a, bs.2 ≤ a → τ a = bs.1 + (a - bs.2)) (hK : va_K D cl (am_ty kc) s) (w : am_Wd τ bs D cl kc s h H) (hS : va_S (am_A bs) s.heap H locs) {a : Nat} {i : Int32} {x : Int64} (hv : am_js h a i x = some h') (hdg : decode cc pc = .ok (.lastore, 1))
    (kk : ∀ (H1 : Heap) (locs1 : List Loc), am_Wd τ bs D cl kc s h' H1 → va_S (am_A bs) s.heap H1 locs1 → W p l e R s m args below meth c H1 locs1 cells slots Q (F0 m (pc + 1) ls rest)) : W p l e R s m args below meth c H locs cells slots Q (F0 m pc ls (.long x :: .int i :: .ref (τ a) :: rest)) := by
  unfold am_js at hv
  split at hv
  · rename_i k n f hc
    split at hv
    · rename_i hcond
      cases hv
      obtain ⟨rfl, hin⟩ := hcond
      rcases (w.2.2 a _ hc).2 with ⟨h1, h2, h3, -⟩ | ⟨h1, h2, f', h3, h4, -⟩
      · have h3' : H[τ a]? = some (vp_cell (kc 3) (n, .inr (.inl f))) := h3
        refine W.last hx hb h3' ((hK.2 3 _ (am_ty_at kc (by decide))).1 n (fun j => .long (f j))) (fun q => by cases q) (by show ¬ (i < 0 ∨ (arrV _ _ _).slots.size ≤ _); rw [arrV_size]; exact am_in_vp hin) rfl rfl hdg fun H1 e z oq => ?_
        refine kk H1 _ (w.set hτ hc h2 z oq (Or.inl ⟨by decide, h2, ?_, fun q => by cases q⟩)) (hS.put z oq (am_Aτ hτ h2))
        show H1[τ a]? = some (vp_cell _ (n, .inr (.inl _)))
        rw [e, vp_cell_l, vp_cell_l, arrV_store]
        congr 2
        funext q
        by_cases hq : q = i.toNatClampNeg
        · subst hq; simp [updV, am_up]
        · simp [updV, am_up, hq]
      · omega
    · cases hv
  · cases hv
theorem am_Wds (hx : p.tables.exec = Jvm.exec) (hb : c.code = cc) (hτ : ∀ a, bs.2 ≤ a → τ a = bs.1 + (a - bs.2)) (hK : va_K D cl (am_ty kc) s) (w : am_Wd τ bs D cl kc s h H) (hS : va_S (am_A bs) s.heap H locs) {a : Nat} {i : Int32} {x : UInt64} (hv : am_ds h a i x = some h') (hdg : decode cc pc = .ok (.dastore, 1))
    (kk : ∀ (H1 : Heap) (locs1 : List Loc), am_Wd τ bs D cl kc s h' H1 → va_S (am_A bs) s.heap H1 locs1 → W p l e R s m args below meth c H1 locs1 cells slots Q (F0 m (pc + 1) ls rest)) : W p l e R s m args below meth c H locs cells slots Q (F0 m pc ls (.double x :: .int i :: .ref (τ a) :: rest)) := by
  unfold am_ds at hv
  split at hv
  · rename_i k n f hc
    split at hv
    · rename_i hcond
      cases hv
      obtain ⟨rfl, hin⟩ := hcond
      rcases (w.2.2 a _ hc).2 with ⟨h1, h2, h3, -⟩ | ⟨h1, h2, f', h3, h4, -⟩
      · exact absurd rfl h1.2
      · omega
    · cases hv
  · cases hv
theorem am_Wqs (hx : p.tables.exec = Jvm.exec) (hb : c.code = cc) (hτ : ∀ a, bs.2 ≤ a → τ a = bs.1 + (a - bs.2)) (hK : va_K D cl (am_ty kc) s) (w : am_Wd τ bs D cl kc s h H) (hS : va_S (am_A bs) s.heap H locs)
    {r6 r9 r14 : vw_C} (h6 : cl[6]? = some r6) (h9 : cl[9]? = some r9) (h14 : cl[14]? = some r14) (e6 : r6.1 = "CaptionAlbum$Photo") (e9 : r9.1 = "CaptionAlbum$State") (e14 : r14.1 = "java/lang/String") {a : Nat} {i : Int32} {x : Nat} (hv : am_qs h a i x = some h') (hdg : decode cc pc = .ok (.aastore, 1))
    (kk : ∀ (H1 : Heap) (locs1 : List Loc), am_Wd τ bs D cl kc s h' H1 → va_S (am_A bs) s.heap H1 locs1 → W p l e R s m args below meth c H1 locs1 cells slots Q (F0 m (pc + 1) ls rest)) : W p l e R s m args below meth c H locs cells slots Q (F0 m pc ls (.ref (τ x) :: .int i :: .ref (τ a) :: rest)) := by
  unfold am_qs at hv
  split at hv
  · rename_i k n f ci vs hc hxc
    split at hv
    · rename_i hcond
      cases hv
      obtain ⟨hk, hci, hin⟩ := hcond
      have hlt := am_in_lt hin
      have h0 : ¬ i < 0 := fun q => am_in_vp hin (Or.inl q)
      have hk7 : k < 10 := by omega
      rcases (w.2.2 a _ hc).2 with ⟨h1, h2, h3, -⟩ | ⟨h1, h2, f', h3, h4, -⟩
      · have h3' : H[τ a]? = some (vp_cell (kc k) (n, .inr (.inr (.inr (.inr (fun j => (f j).map τ)))))) := h3
        have key : ∀ (ci' : Nat) (r : vw_C), cl[ci']? = some r → am_kt k = .object r.1 → (∃ cellV : Cell, H[τ x]? = some cellV ∧ cellV.cls = D.1 ci' ∧ ∀ q, cellV.vm ≠ .statics q) → W p l e R s m args below meth c H locs cells slots Q (F0 m pc ls (.ref (τ x) :: .int i :: .ref (τ a) :: rest)) := by
          intro ci' r hcr hkt hcc
          obtain ⟨cellV, g1, g2, g3⟩ := hcc
          have hcls := (hK.1 ci' r hcr).2
          have hra := (hK.2 k _ (am_ty_at kc hk7)).2
          simp only [hkt] at hra
          obtain ⟨kA, comp, k1, k2, k3, -⟩ := hra
          have hcomp : comp = D.1 ci' := Option.some.inj (k3.symm.trans hcls.1)
          subst hcomp
          obtain ⟨kC, hkC, -⟩ := hcls.2
          refine W.aast hx hb h3' (fun q h => by cases h) (fun h => by cases h) k1 k2 rfl hkC ⟨h0, by show _ < (arrV _ _ _).slots.size; rw [arrV_size]; exact hlt⟩ g1 g3 (by rw [g2]; exact hkC) (by rw [g2]; exact va_assign hcls) rfl rfl hdg fun H1 e z oq => ?_
          refine kk H1 _ (w.set hτ hc h2 z oq (Or.inl ⟨h1, h2, ?_, fun q f2 hf2 => by cases hf2⟩)) (hS.put z oq (am_Aτ hτ h2))
          show H1[τ a]? = some (vp_cell _ (n, .inr (.inr (.inr (.inr _)))))
          rw [e, vp_cell_q, vp_cell_q, arrV_store]
          congr 2
          funext q
          by_cases hq : q = i.toNatClampNeg
          · subst hq; simp [updV, am_up, va_rf]
          · simp [updV, am_up, hq]
        have obj : ∀ (cj : Nat) (fs : List Value), va_at D cl (τ x, .inr (cj, fs)) H → ∃ cellV : Cell, H[τ x]? = some cellV ∧ cellV.cls = D.1 cj ∧ ∀ q, cellV.vm ≠ .statics q := by
          intro cj fs hv
          obtain ⟨r', hr', cellV, g1, g2, g3, -⟩ := hv
          exact ⟨cellV, g1, g2, fun q h => by rw [g3] at h; cases h⟩
        rcases (w.2.2 x _ hxc).2 with ⟨x1, x2, x3⟩ | ⟨x1, x2, x3, x4⟩ | ⟨x1, x2, v, x3, x4, -⟩
        · have hg := obj _ _ x3
          rcases hk with rfl | rfl | rfl
          · obtain rfl : ci = 6 := hci
            exact key 6 r6 h6 (by rw [e6]; rfl) hg
          · obtain rfl : ci = 9 := hci
            exact key 9 r9 h9 (by rw [e9]; rfl) hg
          · have : ci = 50 := hci
            omega
        · have hk2 : k = 7 := by
            rw [x1] at hci
            rcases hk with rfl | rfl | rfl
            · cases hci
            · cases hci
            · rfl
          subst hk2
          exact key 14 r14 h14 (by rw [e14]; rfl) (obj _ _ x4)
        · have hk2 : k = 7 := by
            rw [x1] at hci
            rcases hk with rfl | rfl | rfl
            · cases hci
            · cases hci
            · rfl
          subst hk2
          obtain ⟨cell, b1, b2, b3, -⟩ := x4
          have hcls := (hK.1 14 r14 h14).2
          rw [e14] at hcls
          exact key 14 r14 h14 (by rw [e14]; rfl) ⟨cell, b1, Option.some.inj (b3.symm.trans hcls.1), fun q h => by rw [h] at b2; cases b2⟩
      · omega
    · cases hv
  · cases hv
theorem am_Wput0 (hx : p.tables.exec = Jvm.exec) (hb : c.code = cc) (hτ : ∀ a, bs.2 ≤ a → τ a = bs.1 + (a - bs.2)) {own C : String} {T : u_T} {N ci index : Nat} {Ts : List Cond} (hts : ∀ w ∈ Ts, w.before args s = true) (hin : ∀ w ∈ u_ws C T N, w ∈ Ts) (ty0 : Nat → FieldType) (hty : ∀ k, k < N → parseFieldDescriptor (T k).2.2.1 = some (ty0 k)) (hnm : ∀ a, a < N → ∀ b, b < N → a ≠ b → (T a).2.1 ≠ (T b).2.1) (hown : s.vm.findClass own = some m.cls) (hK : va_K D cl (am_ty kc) s) (w : am_Wd τ bs D cl kc s h H) (hS0 : va_S (am_A bs) s.heap H locs)
    {a : Nat} {fs sx : List Value} {cj : Nat} (he : h.1 a = some (.inr (ci, fs))) (a2 : bs.2 ≤ a) (a3 : va_at D cl (τ a, .inr (cj, fs.map (am_tv τ) ++ sx)) H) {v : Value} (hat : ∀ (H1 : Heap) (k : Nat), va_at D cl (τ a, .inr (cj, (fs.set k v).map (am_tv τ) ++ sx)) H1 → am_at τ bs D cl kc s H1 a (.inr (ci, fs.set k v))) (hc : cl[cj]? = some (C, T, N)) (k : Nat) (hk : k < N) (hl : k < fs.length) (hlink : (Cond.fieldLink own index (T k).1 (T k).2.1 (T k).2.2.1).before args s = true) (hfin : (T k).2.2.2 = true → meth.name = "<init>" ∧ (T k).1 = own) (hn : narrow (ty0 k) (am_tv τ v) = am_tv τ v) (hfit : fits (ty0 k) (am_tv τ v) = true)
    (hdg : decode cc pc = .ok (.putfield index, 3)) (kk : ∀ (H1 : Heap) (locs1 : List Loc), am_Wd τ bs D cl kc s (am_set h a (.inr (ci, fs.set k v))) H1 → va_S (am_A bs) s.heap H1 locs1 → W p l e R s m args below meth c H1 locs1 cells slots Q (F0 m (pc + 3) ls rest)) : W p l e R s m args below meth c H locs cells slots Q (F0 m pc ls (am_tv τ v :: .ref (τ a) :: rest)) := by
  have hap := va_apart (own := own) hts hin ty0 hty hnm hK hc
  · obtain ⟨r, h1, cell, q1, q2, q3, q4⟩ := a3
    dsimp only at h1 q1 q2 q3 q4
    have hr : r = (C, T, N) := Option.some.inj (h1.symm.trans hc)
    subst hr
    obtain ⟨hS, hfc, kC, hkC, hkind⟩ := hK.1 cj _ hc
    obtain ⟨cf, kf, fi, f, hi, hsl⟩ := hS k hk
    have hlay := hts _ (hin _ (u_in_lay hk))
    have hst := (u_facts hfc hkC (u_lays hts hin hk) hi).1
    have fin : ∀ (H1 : Heap), H1[τ a]? = some (cell.setSlot f.slot (am_tv τ v)) → H1.size = H.size → (∀ q, q ≠ τ a → H1[q]? = H[q]?) → am_Wd τ bs D cl kc s (am_set h a (.inr (ci, fs.set k v))) H1 := by
      intro H1 e1 e2 e3
      rw [hsl] at e1
      refine w.set hτ he a2 e2 e3 (hat H1 k ⟨_, hc, ?_⟩)
      refine t_OB.to (V := updV (vp_V (fs.map (am_tv τ) ++ sx)) k (am_tv τ v)) ⟨_, e1, q2, q3, t_set q4 hap hk (am_tv τ v)⟩ (fun j _ => ?_)
      rw [vp_updV_set (by rw [List.length_append, List.length_map]; omega) (am_tv τ v) j, List.set_append_left _ _ (by rw [List.length_map]; exact hl), List.map_set]
    by_cases hf : (T k).2.2.2 = true
    · unfold u_lay at hlay
      rw [if_pos hf] at hlay
      obtain ⟨hin2, hdecl⟩ := hfin hf
      have hcf : m.cls = cf := by
        obtain ⟨_, _, c', _, _, _, -, -, hf', -, -, -, hown2, -⟩ := Cond.laysFinal_spec hlay
        have e1 : c' = cf := by have := hi.symm.trans hf'; simp at this; exact this.1.symm
        rw [hdecl] at hown2
        rw [← e1]; exact Option.some.inj (hown.symm.trans hown2)
      have h6 := u_fits hfc hkC hkind (Or.inr hlay) hi (hty k hk) hn hfit
      exact W.putFinK hx hb hown hlink hi hst hcf hin2 (by rw [q2]; exact h6) q1 q3 (by rw [hsl]; exact k2_hasslot (q4 k hk)) rfl rfl hdg fun H' e1 e2 e3 => kk H' _ (fin H' e1 e2 e3) (hS0.put e2 e3 (am_Aτ hτ a2))
    · unfold u_lay at hlay
      rw [if_neg hf] at hlay
      have h6 := u_store hfc hkC hkind hlay hi (hty k hk) hn hfit
      exact W.putK hx hb (f := f) ⟨hown, hlink, ⟨_, _, _, hi⟩, hst⟩ (by rw [q2]; exact h6) q1 q3 (by rw [hsl]; exact k2_hasslot (q4 k hk)) rfl rfl hdg fun H' e1 e2 e3 => kk H' _ (fin H' e1 e2 e3) (hS0.put e2 e3 (am_Aτ hτ a2))
theorem am_Wput (hx : p.tables.exec = Jvm.exec) (hb : c.code = cc) (hτ : ∀ a, bs.2 ≤ a → τ a = bs.1 + (a - bs.2)) {own C : String} {T : u_T} {N ci index : Nat} {Ts : List Cond} (hts : ∀ w ∈ Ts, w.before args s = true) (hin : ∀ w ∈ u_ws C T N, w ∈ Ts) (ty0 : Nat → FieldType) (hty : ∀ k, k < N → parseFieldDescriptor (T k).2.2.1 = some (ty0 k)) (hnm : ∀ a, a < N → ∀ b, b < N → a ≠ b → (T a).2.1 ≠ (T b).2.1) (hown : s.vm.findClass own = some m.cls) (hK : va_K D cl (am_ty kc) s) (w : am_Wd τ bs D cl kc s h H) (hS0 : va_S (am_A bs) s.heap H locs)
    {a cj : Nat} {fs : List Value} (he : h.1 a = some (.inr (ci, fs))) (hci : (ci < 50 ∧ cj = ci) ∨ (ci = 50 ∧ cj = 14 ∧ bs.2 ≤ a)) (hc : cl[cj]? = some (C, T, N)) (k : Nat) (hk : k < N) (hl : k < fs.length) (hlink : (Cond.fieldLink own index (T k).1 (T k).2.1 (T k).2.2.1).before args s = true) (hfin : (T k).2.2.2 = true → meth.name = "<init>" ∧ (T k).1 = own) {v : Value} (hn : narrow (ty0 k) (am_tv τ v) = am_tv τ v) (hfit : fits (ty0 k) (am_tv τ v) = true)
    (hdg : decode cc pc = .ok (.putfield index, 3)) (kk : ∀ (H1 : Heap) (locs1 : List Loc), am_Wd τ bs D cl kc s (am_set h a (.inr (ci, fs.set k v))) H1 → va_S (am_A bs) s.heap H1 locs1 → W p l e R s m args below meth c H1 locs1 cells slots Q (F0 m (pc + 3) ls rest)) : W p l e R s m args below meth c H locs cells slots Q (F0 m pc ls (am_tv τ v :: .ref (τ a) :: rest)) := by
  rcases (w.2.2 a _ he).2 with ⟨a1, a2, a3⟩ | ⟨a1, a2, al, a3⟩ | ⟨a1, a2, -⟩
  · obtain rfl : cj = ci := by omega
    exact am_Wput0 (sx := []) hx hb hτ hts hin ty0 hty hnm hown hK w hS0 he a2 (by rw [List.append_nil]; exact a3) (fun H1 k q => Or.inl ⟨a1, a2, by rw [List.append_nil] at q; exact q⟩) hc k hk hl hlink hfin hn hfit hdg kk
  · obtain rfl : cj = 14 := by omega
    exact am_Wput0 (sx := [.int 0, .int 0]) hx hb hτ hts hin ty0 hty hnm hown hK w hS0 he a2 a3 (fun H1 k q => Or.inr (Or.inl ⟨a1, a2, by rw [List.length_set]; exact al, q⟩)) hc k hk hl hlink hfin hn hfit hdg kk
  · omega
theorem am_Wpf (hx : p.tables.exec = Jvm.exec) (hb : c.code = cc) (hτ : ∀ a, bs.2 ≤ a → τ a = bs.1 + (a - bs.2)) {own C : String} {T : u_T} {N ci index : Nat} {Ts : List Cond} (hts : ∀ w ∈ Ts, w.before args s = true) (hin : ∀ w ∈ u_ws C T N, w ∈ Ts) (ty0 : Nat → FieldType) (hty : ∀ k, k < N → parseFieldDescriptor (T k).2.2.1 = some (ty0 k)) (hnm : ∀ a, a < N → ∀ b, b < N → a ≠ b → (T a).2.1 ≠ (T b).2.1) (hown : s.vm.findClass own = some m.cls) (hK : va_K D cl (am_ty kc) s) (w : am_Wd τ bs D cl kc s h H) (hS0 : va_S (am_A bs) s.heap H locs)
    {cj : Nat} (hcj : (ci < 50 ∧ cj = ci) ∨ (ci = 50 ∧ cj = 14)) (hc : cl[cj]? = some (C, T, N)) {k : Nat} (hk : k < N) (hlink : (Cond.fieldLink own index (T k).1 (T k).2.1 (T k).2.2.1).before args s = true) (hfin : (T k).2.2.2 = true → meth.name = "<init>" ∧ (T k).1 = own) {a ty : Nat} {v : Value}
    (htag : match ty with | 0 => ty0 k = .int | 1 => ty0 k = .long | 2 => (∃ n, ty0 k = .object n) ∨ (∃ t, ty0 k = .array t) | 3 => ty0 k = .boolean | 4 => ty0 k = .byte | _ => False) (hv : am_pf h a ci k ty v = some h')
    (hdg : decode cc pc = .ok (.putfield index, 3)) (kk : ∀ (H1 : Heap) (locs1 : List Loc), am_Wd τ bs D cl kc s h' H1 → va_S (am_A bs) s.heap H1 locs1 → W p l e R s m args below meth c H1 locs1 cells slots Q (F0 m (pc + 3) ls rest)) : W p l e R s m args below meth c H locs cells slots Q (F0 m pc ls (am_tv τ v :: .ref (τ a) :: rest)) := by
  unfold am_pf at hv
  split at hv
  · rename_i c' fs he
    split at hv
    · rename_i hcond
      obtain ⟨rfl, hci, hl⟩ := hcond
      have hci2 : (c' < 50 ∧ cj = c') ∨ (c' = 50 ∧ cj = 14 ∧ bs.2 ≤ a) := by
        rcases hcj with hcj | hcj
        · exact Or.inl hcj
        · rcases (w.2.2 a _ he).2 with ⟨a1, -⟩ | ⟨a1, a2, -⟩ | ⟨a1, a2, v', a3, b1, b2, -⟩
          · omega
          · exact Or.inr ⟨hcj.1, hcj.2, a2⟩
          · rcases hci with hci | hci
            · omega
            · rw [a3] at hci; cases hci.2
      have go := fun (v : Value) hn hfit => am_Wput (Q := Q) (R := R) (cells := cells) (slots := slots) (ls := ls) (rest := rest) (below := below) (e := e) (l := l) (pc := pc) (index := index) (v := v) hx hb hτ hts hin ty0 hty hnm hown hK w hS0 he hci2 hc k hk hl hlink hfin hn hfit hdg
      split at hv
      · cases hv
        exact go _ (by rw [show ty0 k = .int from htag]; rfl) (by rw [show ty0 k = .int from htag]; rfl) kk
      · cases hv
        exact go _ (by rw [show ty0 k = .long from htag]; rfl) (by rw [show ty0 k = .long from htag]; rfl) kk
      · cases hv
        rcases htag with ⟨n, hn⟩ | ⟨n, hn⟩
        · exact go _ (by rw [hn]; rfl) (by rw [hn]; rfl) kk
        · exact go _ (by rw [hn]; rfl) (by rw [hn]; rfl) kk
      · split at hv
        · rename_i h01
          cases hv
          refine go _ ?_ ?_ kk
          · rw [show ty0 k = .boolean from htag]
            rcases h01 with rfl | rfl <;> rfl
          · rw [show ty0 k = .boolean from htag]
            rcases h01 with rfl | rfl <;> rfl
        · cases hv
      · split at hv
        · rename_i h01
          cases hv
          refine go _ ?_ ?_ kk
          · rw [show ty0 k = .byte from htag]
            exact congrArg Value.int h01
          · rw [show ty0 k = .byte from htag]
            show fits .byte (.int _) = true
            rw [← h01]
            exact pk_fb _
        · cases hv
      · cases hv
    · cases hv
  · cases hv
theorem am_Wnew (hx : p.tables.exec = Jvm.exec) (hb : c.code = cc) (hτ : ∀ a, bs.2 ≤ a → τ a = bs.1 + (a - bs.2)) {own C : String} {T : u_T} {N ci index : Nat} {Ts : List Cond} (hts : ∀ w ∈ Ts, w.before args s = true) (hin : ∀ w ∈ u_ws C T N, w ∈ Ts) (ty0 : Nat → FieldType) (hty : ∀ k, k < N → parseFieldDescriptor (T k).2.2.1 = some (ty0 k)) (hown : s.vm.findClass own = some m.cls) (hcl : (Cond.classLink own index C).before args s = true) (hinst : (Cond.instantiable C N).before args s = true) (hini : (Cond.initialized C).before args s = true)
    (hK : va_K D cl (am_ty kc) s) (w : am_Wd τ bs D cl kc s h H) (hS0 : va_S (am_A bs) s.heap H locs) {cj : Nat} (hc : cl[cj]? = some (C, T, N)) {fs sx : List Value} (hat : ∀ (H1 : Heap) (q : Nat), bs.2 ≤ q → va_at D cl (τ q, .inr (cj, fs.map (am_tv τ) ++ sx)) H1 → am_at τ bs D cl kc s H1 q (.inr (ci, fs))) (hfs : ∀ j, j < N → defaultValue (ty0 j) = vp_V (fs.map (am_tv τ) ++ sx) j) (hcells : cells + 1 ≤ R.cells) (hslots : slots + N ≤ R.slots) (hdg : decode cc pc = .ok (.new index, 3))
    (kk : ∀ (H1 : Heap), am_Wd τ bs D cl kc s (am_new h (.inr (ci, fs)) N) H1 → va_S (am_A bs) s.heap H1 locs → W p l e R s m args below meth c H1 locs (cells + 1) (slots + N) Q (F0 m (pc + 3) ls (.ref (τ h.2.1) :: rest))) : W p l e R s m args below meth c H locs cells slots Q (F0 m pc ls rest) := by
  have hKn := hK.1 cj _ hc
  have hsz : H.size = τ h.2.1 := by rw [w.2.1, hτ _ w.1]
  refine W.newcK hx hb hown hcl hinst hini rfl hdg hcells hslots hKn.2.1 hsz fun H1 kC hkC e1 z1 o1 => ?_
  refine kk H1 (w.new hτ (by rw [z1, hsz]) (fun q hq => o1 q (by omega)) (hat H1 _ w.1 ⟨_, hc, (u_born ty0 hts hin hKn hkC e1 hty).to hfs⟩)) ⟨Nat.le_trans hS0.1 (by omega), fun x h1 h2 => (o1 x (by have := hS0.1; omega)).trans (hS0.2.1 x h1 h2), hS0.2.2⟩
theorem am_Wna (hx : p.tables.exec = Jvm.exec) (hb : c.code = cc) (hτ : ∀ a, bs.2 ≤ a → τ a = bs.1 + (a - bs.2)) {atype : ArrayType} (harr : (Cond.arrayClass (newarray.typeOf atype)).before args s = true) {k : Nat} (hk : k ≤ 3) (hkt : am_kt k = newarray.typeOf atype)
    (hK : va_K D cl (am_ty kc) s) (w : am_Wd τ bs D cl kc s h H) (hS0 : va_S (am_A bs) s.heap H locs) {n : Int32} (hv : am_na h k n = some h') (hcells : cells + (h'.2.1 - h.2.1) ≤ R.cells) (hslots : slots + (h'.2.2 - h.2.2) ≤ R.slots) (hdg : decode cc pc = .ok (.newarray atype, 2))
    (kk : ∀ (H1 : Heap), am_Wd τ bs D cl kc s h' H1 → va_S (am_A bs) s.heap H1 locs → W p l e R s m args below meth c H1 locs (cells + (h'.2.1 - h.2.1)) (slots + (h'.2.2 - h.2.2)) Q (F0 m (pc + 2) ls (.ref (τ h.2.1) :: rest))) : W p l e R s m args below meth c H locs cells slots Q (F0 m pc ls (.int n :: rest)) := by
  unfold am_na at hv
  split at hv
  · rename_i hcond
    obtain ⟨hn, hn2⟩ := hcond
    have hsz : H.size = τ h.2.1 := by rw [w.2.1, hτ _ w.1]
    have hk7 : k < 10 := by omega
    have key : ∀ (a0 : vp_A), (∀ cA : ClassId, vp_cell cA (am_tp τ a0) = arrV cA n.toNatClampNeg (fun _ => defaultValue (newarray.typeOf atype))) → (k = 1 → ∀ f, a0.2 = .inl f → ∀ j, am_nb (f j) = f j) → h' = am_new h (.inl (k, a0)) n.toNatClampNeg → W p l e R s m args below meth c H locs cells slots Q (F0 m pc ls (.int n :: rest)) := by
      intro a0 ha0 hnb he
      subst he
      have e1 : (am_new h (.inl (k, a0)) n.toNatClampNeg).2.1 - h.2.1 = 1 := by show h.2.1 + 1 - h.2.1 = 1; omega
      have e2 : (am_new h (.inl (k, a0)) n.toNatClampNeg).2.2 - h.2.2 = n.toNatClampNeg := by show h.2.2 + n.toNatClampNeg - h.2.2 = _; omega
      rw [e1] at hcells kk
      rw [e2] at hslots kk
      have hbytes : n.toNatClampNeg * componentBytes (newarray.typeOf atype) ≤ 536870912 := by
        have : componentBytes (newarray.typeOf atype) ≤ 8 := by cases atype <;> decide
        calc n.toNatClampNeg * componentBytes (newarray.typeOf atype) ≤ 100000 * 8 := Nat.mul_le_mul hn2 this
          _ ≤ 536870912 := by decide
      refine va_newaK hx hb harr rfl hdg rfl hn rfl hbytes hcells hslots hsz fun H1 cA f1 z1 o1 hAr hNm => ?_
      have hcA : cA = kc k := by
        have h9 := (hK.2 k _ (am_ty_at kc hk7)).2
        simp only [hkt] at h9
        have h10 : s.vm.findClass ("[" ++ (newarray.typeOf atype).toString) = some (kc k) := by cases atype <;> exact h9
        exact Option.some.inj (hNm.symm.trans h10)
      subst hcA
      refine kk H1 (w.new hτ (by rw [z1, hsz]) (fun q hq => o1 q (by omega)) (Or.inl ⟨⟨hk7, by omega⟩, w.1, by rw [ha0]; exact f1, hnb⟩)) ⟨Nat.le_trans hS0.1 (by omega), fun x h1 h2 => (o1 x (by have := hS0.1; omega)).trans (hS0.2.1 x h1 h2), hS0.2.2⟩
    have nb0 : am_nb 0 = 0 := by decide
    have hat : newarray.typeOf atype = am_kt k := hkt.symm
    split at hv
    · rename_i hk2
      cases hv
      refine key (n.toNatClampNeg, .inl (fun _ => 0)) (fun cA => ?_) (fun _ f hf j => by cases hf; exact nb0) rfl
      rw [hat]
      match k, hk2 with
      | 0, _ => rfl
      | 1, _ => rfl
      | 2, _ => rfl
    · split at hv
      · rename_i hk3
        cases hv
        subst hk3
        refine key (n.toNatClampNeg, .inr (.inl (fun _ => 0))) (fun cA => ?_) (fun q => by cases q) rfl
        rw [hat]; rfl
      · split at hv
        · rename_i hk4
          cases hv
          omega
        · split at hv
          · omega
          · cases hv
  · cases hv
theorem am_Wnq (hx : p.tables.exec = Jvm.exec) (hb : c.code = cc) (hτ : ∀ a, bs.2 ≤ a → τ a = bs.1 + (a - bs.2)) {own C : String} {index k : Nat} (hown : s.vm.findClass own = some m.cls) (hclink : (Cond.classLink own index C).before args s = true) (hover : (Cond.arrayOver (.object C)).before args s = true) (hk : k = 5 ∨ k = 6 ∨ k = 7) (hkt : am_kt k = .object C)
    (hK : va_K D cl (am_ty kc) s) (w : am_Wd τ bs D cl kc s h H) (hS0 : va_S (am_A bs) s.heap H locs) {n : Int32} (hv : am_na h k n = some h') (hcells : cells + (h'.2.1 - h.2.1) ≤ R.cells) (hslots : slots + (h'.2.2 - h.2.2) ≤ R.slots) (hdg : decode cc pc = .ok (.anewarray index, 3))
    (kk : ∀ (H1 : Heap), am_Wd τ bs D cl kc s h' H1 → va_S (am_A bs) s.heap H1 locs → W p l e R s m args below meth c H1 locs (cells + (h'.2.1 - h.2.1)) (slots + (h'.2.2 - h.2.2)) Q (F0 m (pc + 3) ls (.ref (τ h.2.1) :: rest))) : W p l e R s m args below meth c H locs cells slots Q (F0 m pc ls (.int n :: rest)) := by
  have hk7 : k < 10 := by omega
  have hv' : ¬ n < 0 ∧ n.toNatClampNeg ≤ 100000 ∧ h' = am_new h (.inl (k, n.toNatClampNeg, .inr (.inr (.inr (.inr (fun _ => none)))))) n.toNatClampNeg := by
    unfold am_na at hv
    split at hv
    · rename_i hcond
      split at hv
      · omega
      · split at hv
        · omega
        · split at hv
          · omega
          · exact ⟨hcond.1, hcond.2, (Option.some.inj hv).symm⟩
    · cases hv
  obtain ⟨hn, hn2, rfl⟩ := hv'
  have hsz : H.size = τ h.2.1 := by rw [w.2.1, hτ _ w.1]
  have e1 : (am_new h (.inl (k, n.toNatClampNeg, .inr (.inr (.inr (.inr (fun _ => none)))))) n.toNatClampNeg).2.1 - h.2.1 = 1 := by show h.2.1 + 1 - h.2.1 = 1; omega
  have e2 : (am_new h (.inl (k, n.toNatClampNeg, .inr (.inr (.inr (.inr (fun _ => none)))))) n.toNatClampNeg).2.2 - h.2.2 = n.toNatClampNeg := by show h.2.2 + n.toNatClampNeg - h.2.2 = _; omega
  rw [e1] at hcells kk
  rw [e2] at hslots kk
  refine W.anew hx hb hown hclink hover rfl hdg rfl hn (by omega) hcells hslots fun cA kA comp f1 f2 f3 f4 => ?_
  rw [hsz]
  generalize hH1 : H.push ({ cls := cA, slots := Array.replicate n.toNatClampNeg .null, vm := .none } : Cell) = H1
  have z1 : H1.size = H.size + 1 := by rw [← hH1, Array.size_push]
  have g1 : H1[H.size]? = some (arrV cA n.toNatClampNeg (fun _ => .null)) := by rw [← hH1, Array.getElem?_push_size, ← arrV_new]
  have o1 : ∀ q : Nat, q < H.size → H1[q]? = H[q]? := fun q hq => by rw [← hH1, Array.getElem?_push, if_neg (Nat.ne_of_lt hq)]
  have hcA : cA = kc k := by
    have h9 := (hK.2 k _ (am_ty_at kc hk7)).2
    simp only [hkt] at h9
    obtain ⟨-, -, -, -, -, h10⟩ := h9
    exact Option.some.inj (f1.symm.trans h10)
  subst hcA
  refine kk H1 (w.new hτ z1 o1 (Or.inl ⟨⟨hk7, by omega⟩, w.1, ?_, fun q => by omega⟩)) ⟨Nat.le_trans hS0.1 (by omega), fun x h1 h2 => (o1 x (by have := hS0.1; omega)).trans (hS0.2.1 x h1 h2), hS0.2.2⟩
  rw [hsz] at g1
  exact g1
theorem am_Wac (hx : p.tables.exec = Jvm.exec) (hb : c.code = cc) (hτ : ∀ a, bs.2 ≤ a → τ a = bs.1 + (a - bs.2)) (hml : c.maxLocals = ls.size) {own : String} {index : Nat} (hown : s.vm.findClass own = some m.cls) (hlink : (Cond.methodLink own index arraycopyName).before args s = true) (hnat : (Cond.native arraycopyName).before args s = true) (hstat : (Cond.static arraycopyName).before args s = true) (hini : (Cond.initialized "java/lang/System").before args s = true)
    (hK : va_K D cl (am_ty kc) s) (w : am_Wd τ bs D cl kc s h H) (hS : va_S (am_A bs) s.heap H locs) {a0 a : Nat} {sp dp n : Int32} (hv : am_ac h a0 sp a dp n = some h')
    (hframes : 1 ≤ R.frames) (hlocals : (rest.map fun v => v.category).sum + (nativeFrameWords "java/lang/System" "arraycopy" 5 + 11) ≤ R.locals) (hdg : decode cc pc = .ok (.invokestatic index, 3))
    (kk : ∀ (H1 : Heap) (locs1 : List Loc), am_Wd τ bs D cl kc s h' H1 → va_S (am_A bs) s.heap H1 locs1 → W p l e R s m args below meth c H1 locs1 cells slots Q (F0 m (pc + 3) ls rest)) : W p l e R s m args below meth c H locs cells slots Q (F0 m pc ls (.int n :: .int dp :: .ref (τ a) :: .int sp :: .ref (τ a0) :: rest)) := by
  have nn : ∀ z : Int32, ¬ z < 0 → z.toInt = (z.toNatClampNeg : Int) := by
    intro z hz
    have hz0 : (0 : Int) ≤ z.toInt := by
      have := Int32.not_lt.mp hz
      simpa using Int32.le_iff_toInt_le.mp this
    show z.toInt = ((z.toInt.toNat : Nat) : Int)
    omega
  unfold am_ac at hv
  split at hv
  · rename_i k0 n0 f k1 n1 g hc0a hc1a
    split at hv
    · rename_i hcond
      cases hv
      obtain ⟨hk0, rfl, h1, h2, h3, h4, h5, hne⟩ := hcond
      rcases (w.2.2 a _ hc1a).2 with ⟨-, d2, d3, d4⟩ | ⟨d1, -⟩
      · have hc1 : H[τ a]? = some (vp_cell (kc 1) (n1, .inl g)) := d3
        -- the source
        have src : ∃ scr : Cell, H[τ a0]? = some scr ∧ s.isArrayOf scr .byte ∧ scr.vm ≠ .unknown ∧ n0 ≤ scr.slots.size ∧ (∀ j : Nat, j < n0 → scr.slots[j]? = some (.int (f j))) ∧ ∀ j, am_nb (f j) = f j := by
          rcases (w.2.2 a0 _ hc0a).2 with ⟨s1, s2, s3, s4⟩ | ⟨s1, s2, f2, s3, s4, s5⟩
          · have hk : k0 = 1 := by omega
            subst hk
            refine ⟨_, s3, (hK.2 1 _ (am_ty_at kc (by decide))).1 n0 (fun j => .int (f j)), (fun q => by cases q), ?_, fun j hj => ?_, s4 rfl f rfl⟩
            · show n0 ≤ (arrV _ _ _).slots.size
              rw [arrV_size]
              exact Nat.le_refl _
            · exact arrV_read _ (fun j => .int (f j)) hj
          · have hk : k0 = 11 := by omega
            subst hk
            cases s3
            obtain ⟨cell, g1, g2, g3, g4, g5, g6, g7⟩ := s4
            exact ⟨cell, g1, g2, g3, g4, g6, s5 rfl⟩
        obtain ⟨scr, hc0, hs2, hs3, hs4, hs5, hnb⟩ := src
        intro T hT X
        obtain ⟨hs6, k0', hk0', cm0, hkk0⟩ := hs2
        obtain ⟨-, k1, hk1, cm1, hkk1⟩ := (hK.2 1 _ (am_ty_at kc (by decide))).1 n1 (fun j => .int (g j))
        obtain ⟨vm', X', step⟩ := X.arraycopy hx hown hlink hnat hstat hini (src := τ a0) (dst := τ a) (cs := scr) (cd := vp_cell (kc 1) (n1, .inl g)) (srcPos := sp) (destPos := dp) (n := n) (by rw [hT]; exact hc0) (by rw [hT]; exact hc1)
          hs6 (fun _ h => by cases h) hs3 (fun h => by cases h) hk0' hk1 hkk0 hkk1 (by simp [refKind, am_kt]) h1 h2 h3
          (by rw [nn sp h1, nn n h3]; omega)
          (by rw [nn dp h2, nn n h3]; show ¬ _ > ((arrV (kc 1) n1 (fun j => .int (g j))).slots.size : Int); rw [arrV_size]; omega)
          (fun vm₁ _ i hi => by
            have e : scr.slots.getD (sp.toNatClampNeg + i) .null = .int (f (sp.toNatClampNeg + i)) := by
              rw [Array.getD_eq_getD_getElem?, hs5 _ (by omega)]
              rfl
            refine ⟨?_, ?_⟩
            · rw [e, ← hnb]
              exact pk_fb _
            · rw [e]
              exact trivial)
          (g := F0 m pc ls (.int n :: .int dp :: .ref (τ a) :: .int sp :: .ref (τ a0) :: rest)) rfl (by rw [hml]) (rest := rest) rfl (by rw [hb]; exact hdg) hframes (by show 2 * 0 + _ + _ ≤ _; omega)
        have e1 : copied scr (vp_cell (kc 1) (n1, .inl g)) sp dp n = vp_cell (kc 1) (n1, .inl (va_cpy f g sp.toNatClampNeg dp.toNatClampNeg n.toNatClampNeg)) := va_copiedX (fun z => .int z) scr (kc 1) f g hs5 h4
        rw [e1] at X' step
        have hl : τ a < H.size := (Array.getElem?_eq_some_iff.mp hc1).1
        have hheap : ((T.setVm vm').setCell (τ a) (vp_cell (kc 1) (n1, .inl (va_cpy f g sp.toNatClampNeg dp.toNatClampNeg n.toNatClampNeg)))).heap = H.setIfInBounds (τ a) (vp_cell (kc 1) (n1, .inl (va_cpy f g sp.toNatClampNeg dp.toNatClampNeg n.toNatClampNeg))) := by rw [← hT]; rfl
        have oq : ∀ q : Nat, q ≠ τ a → (H.setIfInBounds (τ a) (vp_cell (kc 1) (n1, .inl (va_cpy f g sp.toNatClampNeg dp.toNatClampNeg n.toNatClampNeg))))[q]? = H[q]? := fun q hq => by simp [Array.getElem?_setIfInBounds, Ne.symm hq]
        obtain ⟨t, a1, b1⟩ := kk _ _ (w.set hτ hc1a d2 (by simp) oq (Or.inl ⟨by decide, d2, show (H.setIfInBounds (τ a) _)[τ a]? = some _ by simp [Array.getElem?_setIfInBounds, hl, am_tp], fun _ f2 hf2 j => by
            cases hf2
            unfold va_cpy
            split
            · exact hnb _
            · exact d4 rfl g rfl j⟩)) ⟨by simp; exact hS.1, fun q g1 g2 => by
            rw [oq q (fun e => g2 (by rw [e]; exact am_Aτ hτ d2))]
            exact hS.2.1 q g1 g2, fun q hq => by
            rcases List.mem_append.mp hq with h | h
            · exact hS.2.2 q h
            · obtain ⟨z, -, hz⟩ := List.mem_map.mp h
              rw [← hz]
              exact am_Aτ hτ d2⟩ _ hheap X'
        exact ⟨t, step t a1, b1⟩
      · omega
    · cases hv
  · cases hv
theorem am_Wgf (hx : p.tables.exec = Jvm.exec) (hb : c.code = cc) {own : String} {index : Nat} {Ts : List Cond} (hts : ∀ w ∈ Ts, w.before args s = true) (hcl : ∀ (ci : Nat) (q : vw_C), cl[ci]? = some q → ∀ w ∈ u_ws q.1 q.2.1 q.2.2, w ∈ Ts) (hown : s.vm.findClass own = some m.cls) (hK : va_K D cl (am_ty kc) s) (w : am_Wd τ bs D cl kc s h H) {a ci k : Nat} {v : Value}
    (h14 : ∃ T, cl[14]? = some ("java/lang/String", T, 4) ∧ (T 0).1 = "java/lang/String" ∧ (T 0).2.1 = "value" ∧ (T 0).2.2.1 = "[B" ∧ (T 1).1 = "java/lang/String" ∧ (T 1).2.1 = "coder" ∧ (T 1).2.2.1 = "B") (hlk : (ci < 50 ∧ ∃ C T N, cl[ci]? = some (C, T, N) ∧ k < N ∧ ((Cond.fieldLink own index (T k).1 (T k).2.1 (T k).2.2.1).before args s = true ∨ ∃ host, (Cond.fieldLinkNest own index (T k).1 (T k).2.1 (T k).2.2.1 host).before args s = true)) ∨ (ci = 50 ∧ ((k = 0 ∧ (Cond.fieldLink own index "java/lang/String" "value" "[B").before args s = true) ∨ (k = 1 ∧ (Cond.fieldLink own index "java/lang/String" "coder" "B").before args s = true))))
    (hv : am_fd h a ci k = some v) (hdg : decode cc pc = .ok (.getfield index, 3))
    (kk : W p l e R s m args below meth c H locs cells slots Q (F0 m (pc + 3) ls (am_tv τ v :: rest))) : W p l e R s m args below meth c H locs cells slots Q (F0 m pc ls (.ref (τ a) :: rest)) := by
  unfold am_fd at hv
  split at hv
  · rename_i c' fs hc
    split at hv
    · rename_i hcc
      subst hcc
      rcases hlk with ⟨l1, C, T, N, l2, l3, l4⟩ | ⟨rfl, hl⟩
      · rcases (w.2.2 a _ hc).2 with ⟨a1, a2, a3⟩ | ⟨a1, -⟩ | ⟨a1, -⟩
        · rcases l4 with l4 | ⟨host, l4⟩
          · exact va_get (D := D) (cl := cl) (tys := am_ty kc) (C := C) (T := T) (N := N) (ref := (T k).1) hx hb hts (hcl _ _ l2) hown hK (am_one a3) 0 rfl l2 k l3 l4 (fun _ h9 => h9) (by rw [List.getElem?_map, hv]; rfl) hdg kk
          · exact va_getN (D := D) (cl := cl) (tys := am_ty kc) (C := C) (T := T) (N := N) (ref := (T k).1) (host := host) hx hb hts (hcl _ _ l2) hown hK (am_one a3) 0 rfl l2 k l3 l4 (fun _ h9 => h9) (by rw [List.getElem?_map, hv]; rfl) hdg kk
        · omega
        · omega
      · rcases (w.2.2 a _ hc).2 with ⟨a1, -⟩ | ⟨-, a2, al, a3⟩ | ⟨-, a2, v', a3, a4, a5, a6⟩
        · omega
        · obtain ⟨T, g0, g1, g2, g3, g4, g5, g6⟩ := h14
          have hv2 : (fs.map (am_tv τ) ++ [.int 0, .int 0])[k]? = some (am_tv τ v) := by
            have hlt : k < fs.length := (List.getElem?_eq_some_iff.mp hv).1
            rw [List.getElem?_append_left (by rw [List.length_map]; exact hlt), List.getElem?_map, hv]
            rfl
          rcases hl with ⟨rfl, hl⟩ | ⟨rfl, hl⟩
          · exact va_get (D := D) (cl := cl) (tys := am_ty kc) (C := "java/lang/String") (T := T) (N := 4) (ref := (T 0).1) hx hb hts (hcl _ _ g0) hown hK (am_one a3) 0 rfl g0 0 (by decide) (by rw [g1, g2, g3]; exact hl) (fun _ h9 => h9) hv2 hdg kk
          · exact va_get (D := D) (cl := cl) (tys := am_ty kc) (C := "java/lang/String") (T := T) (N := 4) (ref := (T 1).1) hx hb hts (hcl _ _ g0) hown hK (am_one a3) 0 rfl g0 1 (by decide) (by rw [g4, g5, g6]; exact hl) (fun _ h9 => h9) hv2 hdg kk
        · subst a3
          rcases hl with ⟨rfl, hl⟩ | ⟨rfl, hl⟩
          · cases hv
            obtain ⟨cf, k, fi, f, cell, h1, h2, h3, h4, h5, h6⟩ := a5
            exact W.getf hx hb hown hl h1 h2 h3 h4 h5 rfl rfl hdg kk
          · cases hv
            obtain ⟨cf, k, fi, f, cell, h1, h2, h3, h4, h5, h6⟩ := a6
            exact W.getf hx hb hown hl h1 h2 h3 h4 h5 rfl rfl hdg kk
    · cases hv
  · cases hv
theorem am_Wd.thrown (hτ : ∀ a, bs.2 ≤ a → τ a = bs.1 + (a - bs.2)) {U : State} {H1 : Heap} {n : Nat} (w : am_Wd τ bs D cl kc U h H) (z : H1.size = H.size + 1) (o : ∀ q : Nat, q < H.size → H1[q]? = H[q]?) : am_Wd τ bs D cl kc U (h.1, h.2.1 + 1, h.2.2 + n) H1 := by
  obtain ⟨w1, w2, w3⟩ := w
  refine ⟨by show bs.2 ≤ h.2.1 + 1; omega, by rw [z, w2]; show bs.1 + (h.2.1 - bs.2) + 1 = bs.1 + (h.2.1 + 1 - bs.2); omega, fun q e2 hq => ?_⟩
  obtain ⟨h1, h2⟩ := w3 q e2 hq
  refine ⟨by show q < h.2.1 + 1; omega, h2.kept (fun hq0 => o _ ?_) (fun x hx _ => o x hx)⟩
  have a2 := hτ q hq0
  omega
end AMW
