/-! ===== soundness, 6: the main theorem ===== -/
section AMM
variable {τ : Nat → Nat} {bs : Nat × Nat} {D : va_G} {cl : List vw_C} {kc : Nat → ClassId} {Tg : List Cond} {P : am_P} {J : am_J} {F : am_F} {l : Launch}
variable {p : Program} {e : Env} {R : Room} {s : State} {m : MethodId} {args : Array Value} {below : List Frame} {meth : Method} {c : Code} {H : Heap} {locs : List Loc} {Q : State → Prop}
theorem am_pu_go (hG : am_Gs τ bs cl Tg P J F) {j pc len pc' cells slots : Nat} {i : Instr} {x : Nat × Nat × Nat} {L L' : am_L} {st st' : List Value} {sl : Array Slot} (hf : P.1 j pc = some (i, len, x)) (hp : am_pu pc i x L st = some (pc', L', st')) (C : am_Cx τ bs D cl kc Tg J F p l R s m args meth c j) (hS : va_S (am_A bs) s.heap H locs) (hL : am_LV τ sl L)
    (kk : ∀ sl' : Array Slot, am_LV τ sl' L' → W p l e R s m args below meth c H locs cells slots Q (F0 m pc' sl' (st'.map (am_tv τ)))) : W p l e R s m args below meth c H locs cells slots Q (F0 m pc sl (st.map (am_tv τ))) := by
  obtain ⟨hx, hb, hml, hown, hts, hr, hlocks, hname, hst, htab, hfr, hlo, hbs, hOK⟩ := C
  obtain ⟨hdg, hlen, htg, h10, hlk, htk, hhk⟩ := hG.2.2.2.2.2.1 j pc i len x hf
  refine am_pu_snd hx hb hdg hlen htg ?_ ?_ ?_ ?_ ?_ hG.2.1 hL hp kk
  · intro k q r sl' hi h0 hq kk2
    subst hi
    have hlen2 : len = 2 := by simpa [am_ln] using hlen
    subst hlen2
    simp only [am_lk, if_pos h0] at hlk
    obtain ⟨tx, hr⟩ := hlk
    rw [← hq] at kk2
    exact va_ldcS hx hb hown (hOK.2.1 _ hr) hdg kk2
  · intro k r sl' hi h0 kk2
    subst hi
    have hlen2 : len = 2 := by simpa [am_ln] using hlen
    subst hlen2
    simp only [am_lk, if_neg h0] at hlk
    exact lv_ldc hx hb hown (hts _ hlk) hdg kk2
  · intro k q r sl' hi h0 hq kk2
    subst hi
    have hlen2 : len = 3 := by simpa [am_ln] using hlen
    subst hlen2
    simp only [am_lk, if_pos h0] at hlk
    obtain ⟨tx, hr⟩ := hlk
    rw [← hq] at kk2
    exact am_ldcSW hx hb hown (hOK.2.1 _ hr) hdg kk2
  · intro k r sl' hi h0 kk2
    subst hi
    have hlen2 : len = 3 := by simpa [am_ln] using hlen
    subst hlen2
    simp only [am_lk, if_neg h0] at hlk
    exact lv_ldcw hx hb hown (hts _ hlk) hdg kk2
  · intro k r sl' hi kk2
    subst hi
    have hlen2 : len = 3 := by simpa [am_ln] using hlen
    subst hlen2
    obtain ⟨C, n, d, hz, hl⟩ := hlk
    exact va_gets hx hb (hOK.2.2.1 _ hz) hS hown (hts _ hl) (fun _ h9 => h9) hdg kk2
theorem am_he_go (hG : am_Gs τ bs cl Tg P J F) {j pc len pc' z0 s0 : Nat} {i : Instr} {x : Nat × Nat × Nat} {L : am_L} {st st' : List Value} {h h' : am_H} {sl : Array Slot} (hf : P.1 j pc = some (i, len, x)) (hk : am_kd i x = 1) (hp : am_he P.2.2.2 pc i x st h = some (pc', st', h')) (C : am_Cx τ bs D cl kc Tg J F p l R s m args meth c j) (w : am_Wd τ bs D cl kc s h H) (hS : va_S (am_A bs) s.heap H locs) (hL : am_LV τ sl L) (hLl : L.length = (J j).2.2.1) (hz : z0 ≤ h.2.1) (hs0 : s0 ≤ h.2.2) (hc : h'.2.1 - z0 ≤ R.cells) (hs : h'.2.2 - s0 ≤ R.slots)
    (kk : ∀ (H1 : Heap) (locs1 : List Loc), am_Wd τ bs D cl kc s h' H1 → va_S (am_A bs) s.heap H1 locs1 → W p l e R s m args below meth c H1 locs1 (h'.2.1 - z0) (h'.2.2 - s0) Q (F0 m pc' sl (st'.map (am_tv τ)))) : W p l e R s m args below meth c H locs (h.2.1 - z0) (h.2.2 - s0) Q (F0 m pc sl (st.map (am_tv τ))) := by
  obtain ⟨hx, hb, hml, hown, hts, hr, hlocks, hname, hst, htab, hfr, hlo, hbs, hOK⟩ := C
  obtain ⟨hτ, -, -, hcl, ⟨⟨r6, r9, h6, h9, e6, e9⟩, hdf, TS, hS14, s1, s2, s3, s4, s5, s6, s7, s8⟩, hprog, -, -, hnf⟩ := hG
  obtain ⟨hdg, hlen, htg, h10, hlk, htk, hhk⟩ := hprog j pc i len x hf
  have hK := hOK.1
  have e2 : ∀ h1 : am_H, h1.2 = h.2 → h1.2.1 - z0 = h.2.1 - z0 ∧ h1.2.2 - s0 = h.2.2 - s0 := fun h1 q => by rw [q]; exact ⟨rfl, rfl⟩
  have hsl : c.maxLocals = sl.size := by rw [hml, hL.1, hLl]
  have cat4 : ∀ r : List Value, r.length ≤ 4 → ((r.map (am_tv τ)).map fun v => v.category).sum ≤ 8 := by
    intro r hr4
    have key : ∀ r : List Value, ((r.map (am_tv τ)).map fun v => v.category).sum ≤ 2 * r.length := by
      intro r
      induction r with
      | nil => exact Nat.le_refl _
      | cons v r ih =>
        simp only [List.map_cons, List.sum_cons, List.length_cons]
        have : (am_tv τ v).category ≤ 2 := by rw [am_tv_cat]; cases v <;> simp [Value.category]
        omega
    have := key r
    omega
  unfold am_he at hp
  split at hp
  · -- getfield
    rename_i kx a0 r0
    have hlen2 : len = 3 := by simpa [am_ln] using hlen
    subst hlen2
    have hlk' : (x.1 < 50 ∧ ∃ C T N, cl[x.1]? = some (C, T, N) ∧ x.2.1 < N ∧ ((Cond.fieldLink (J j).1.cls kx (T x.2.1).1 (T x.2.1).2.1 (T x.2.1).2.2.1).before args s = true ∨ ∃ host, (Cond.fieldLinkNest (J j).1.cls kx (T x.2.1).1 (T x.2.1).2.1 (T x.2.1).2.2.1 host).before args s = true)) ∨ (x.1 = 50 ∧ ((x.2.1 = 0 ∧ (Cond.fieldLink (J j).1.cls kx "java/lang/String" "value" "[B").before args s = true) ∨ (x.2.1 = 1 ∧ (Cond.fieldLink (J j).1.cls kx "java/lang/String" "coder" "B").before args s = true))) := by
      rcases hlk with ⟨l1, C, T, N, l2, l3, l4⟩ | ⟨l1, ⟨l2, l3⟩ | ⟨l2, l3⟩⟩
      · refine Or.inl ⟨l1, C, T, N, l2, l3, ?_⟩
        rcases l4 with l4 | ⟨host, l4⟩
        · exact Or.inl (hts _ l4)
        · exact Or.inr ⟨host, va_Nw.use rfl (hOK.2.2.2.2.2.2.2.2.2 _ l4)⟩
      · exact Or.inr ⟨l1, Or.inl ⟨l2, hts _ l3⟩⟩
      · exact Or.inr ⟨l1, Or.inr ⟨l2, hts _ l3⟩⟩
    split at hp
    · rename_i hv; cases hp; exact am_Wgf hx hb hts (fun ci q hq => (hcl ci q hq).1) hown hK w ⟨TS, hS14, s1, s2, s3, s4, s5, s6⟩ hlk' hv hdg (kk H locs w hS)
    · rename_i hv; cases hp; exact am_Wgf hx hb hts (fun ci q hq => (hcl ci q hq).1) hown hK w ⟨TS, hS14, s1, s2, s3, s4, s5, s6⟩ hlk' hv hdg (kk H locs w hS)
    · rename_i hv; cases hp; exact am_Wgf hx hb hts (fun ci q hq => (hcl ci q hq).1) hown hK w ⟨TS, hS14, s1, s2, s3, s4, s5, s6⟩ hlk' hv hdg (kk H locs w hS)
    · cases hp
  · -- putfield
    have hlen2 : len = 3 := by simpa [am_ln] using hlen
    subst hlen2
    obtain ⟨h1, hv, hq⟩ := Option.map_eq_some_iff.mp hp
    cases hq
    rw [(e2 _ (am_pf_2 hv)).1, (e2 _ (am_pf_2 hv)).2] at kk
    obtain ⟨C, T, N, ty, l1, l0, l2, l3, l4, l5, l6⟩ := hlk
    have hcj : (x.1 < 50 ∧ (if x.1 = 50 then 14 else x.1) = x.1) ∨ (x.1 = 50 ∧ (if x.1 = 50 then 14 else x.1) = 14) := by
      by_cases hx : x.1 = 50
      · exact Or.inr ⟨hx, if_pos hx⟩
      · exact Or.inl ⟨by omega, if_neg hx⟩
    obtain ⟨c1, ty0, c2, c3, c4⟩ := hcl _ _ l1
    have hty : ty0 x.2.1 = ty := Option.some.inj ((c2 _ l2).symm.trans l5)
    refine am_Wpf (ty0 := ty0) hx hb hτ hts c1 c2 c3 hown hK w hS hcj l1 l2 (hts _ l3) (fun hfin => ?_) ?_ hv hdg kk
    · rw [hname]; exact l4 hfin
    · rw [hty]; exact l6
  · have hlen2 : len = 1 := by simpa [am_ln] using hlen
    subst hlen2
    obtain ⟨v, hv, hq⟩ := Option.map_eq_some_iff.mp hp; cases hq
    exact am_Wia hx hb hK w hv hdg (kk H locs w hS)
  · have hlen2 : len = 1 := by simpa [am_ln] using hlen
    subst hlen2
    obtain ⟨v, hv, hq⟩ := Option.map_eq_some_iff.mp hp; cases hq
    exact am_Wba hx hb hK w hv hdg (kk H locs w hS)
  · have hlen2 : len = 1 := by simpa [am_ln] using hlen
    subst hlen2
    obtain ⟨v, hv, hq⟩ := Option.map_eq_some_iff.mp hp; cases hq
    exact am_Wla hx hb hK w hv hdg (kk H locs w hS)
  · have hlen2 : len = 1 := by simpa [am_ln] using hlen
    subst hlen2
    obtain ⟨v, hv, hq⟩ := Option.map_eq_some_iff.mp hp; cases hq
    exact am_Wda hx hb hK w hv hdg (kk H locs w hS)
  · have hlen2 : len = 1 := by simpa [am_ln] using hlen
    subst hlen2
    obtain ⟨v, hv, hq⟩ := Option.map_eq_some_iff.mp hp; cases hq
    exact am_Wqa hx hb hK w hv hdg (kk H locs w hS)
  · have hlen2 : len = 1 := by simpa [am_ln] using hlen
    subst hlen2
    obtain ⟨h1, hv, hq⟩ := Option.map_eq_some_iff.mp hp; cases hq
    rw [(e2 _ (am_is_2 hv)).1, (e2 _ (am_is_2 hv)).2] at kk
    exact am_Wis hx hb hτ hK w hS hv hdg kk
  · have hlen2 : len = 1 := by simpa [am_ln] using hlen
    subst hlen2
    obtain ⟨h1, hv, hq⟩ := Option.map_eq_some_iff.mp hp; cases hq
    rw [(e2 _ (am_bs_2 hv)).1, (e2 _ (am_bs_2 hv)).2] at kk
    exact am_Wbs hx hb hτ hK w hS hv hdg kk
  · have hlen2 : len = 1 := by simpa [am_ln] using hlen
    subst hlen2
    obtain ⟨h1, hv, hq⟩ := Option.map_eq_some_iff.mp hp; cases hq
    rw [(e2 _ (am_js_2 hv)).1, (e2 _ (am_js_2 hv)).2] at kk
    exact am_Wjs hx hb hτ hK w hS hv hdg kk
  · have hlen2 : len = 1 := by simpa [am_ln] using hlen
    subst hlen2
    obtain ⟨h1, hv, hq⟩ := Option.map_eq_some_iff.mp hp; cases hq
    rw [(e2 _ (am_ds_2 hv)).1, (e2 _ (am_ds_2 hv)).2] at kk
    exact am_Wds hx hb hτ hK w hS hv hdg kk
  · have hlen2 : len = 1 := by simpa [am_ln] using hlen
    subst hlen2
    obtain ⟨h1, hv, hq⟩ := Option.map_eq_some_iff.mp hp; cases hq
    rw [(e2 _ (am_qs_2 hv)).1, (e2 _ (am_qs_2 hv)).2] at kk
    exact am_Wqs hx hb hτ hK w hS h6 h9 hS14 e6 e9 rfl hv hdg kk
  · have hlen2 : len = 1 := by simpa [am_ln] using hlen
    subst hlen2
    obtain ⟨v, hv, hq⟩ := Option.map_eq_some_iff.mp hp; cases hq
    exact am_Wal hx hb hK w hv hdg (kk H locs w hS)
  · -- new
    have hlen2 : len = 3 := by simpa [am_ln] using hlen
    subst hlen2
    cases hp
    have hx2 : ¬ x.2.2 = 1 := by
      intro hq
      simp [am_kd, hq] at hk
    simp only [am_lk, if_neg hx2] at hlk
    obtain ⟨l0, C, T, l1, l2, l3, l4⟩ := hlk
    obtain ⟨c1, ty0, c2, c3, c4⟩ := hcl _ _ l1
    have z1 : (am_new h (.inr (x.1, P.2.2.2 x.1)) x.2.1).2.1 - z0 = h.2.1 - z0 + 1 := by show h.2.1 + 1 - z0 = _; omega
    have z2 : (am_new h (.inr (x.1, P.2.2.2 x.1)) x.2.1).2.2 - s0 = h.2.2 - s0 + x.2.1 := by show h.2.2 + x.2.1 - s0 = _; omega
    rw [z1] at hc kk
    rw [z2] at hs kk
    by_cases hx50 : x.1 = 50
    · rw [if_pos hx50] at l1 c4
      have hC : C = "java/lang/String" ∧ T = TS ∧ x.2.1 = 4 := by
        have e := Option.some.inj (l1.symm.trans hS14)
        exact ⟨congrArg (fun q => q.1) e, congrArg (fun q => q.2.1) e, congrArg (fun q => q.2.2) e⟩
      obtain ⟨rfl, rfl, hN⟩ := hC
      refine am_Wnew (sx := [.int 0, .int 0]) hx hb hτ hts c1 ty0 c2 hown (hts _ l2) (hts _ l3) (hts _ l4) hK w hS l1 (fun H1 q hq hv => Or.inr (Or.inl ⟨hx50, hq, by rw [hx50, hdf]; rfl, hv⟩)) ?_ hc hs hdg (fun H1 w1 hS1 => kk H1 locs w1 hS1)
      intro jj hj
      rw [hx50, hdf]
      rw [hN] at hj
      have d0 : ty0 0 = .array .byte := by
        have := c2 0 (Nat.lt_of_lt_of_eq (by decide : 0 < 4) hN.symm)
        dsimp only at this
        rw [s3] at this
        exact (Option.some.inj ((show parseFieldDescriptor "[B" = some (.array .byte) by decide +kernel).symm.trans this)).symm
      have d1 : ty0 1 = .byte := by
        have := c2 1 (Nat.lt_of_lt_of_eq (by decide : 1 < 4) hN.symm)
        dsimp only at this
        rw [s6] at this
        exact (Option.some.inj ((show parseFieldDescriptor "B" = some .byte by decide +kernel).symm.trans this)).symm
      have d2 : ty0 2 = .int := by
        have := c2 2 (Nat.lt_of_lt_of_eq (by decide : 2 < 4) hN.symm)
        dsimp only at this
        rw [s7] at this
        exact (Option.some.inj ((show parseFieldDescriptor "I" = some .int by decide +kernel).symm.trans this)).symm
      have d3 : ty0 3 = .boolean := by
        have := c2 3 (Nat.lt_of_lt_of_eq (by decide : 3 < 4) hN.symm)
        dsimp only at this
        rw [s8] at this
        exact (Option.some.inj ((show parseFieldDescriptor "Z" = some .boolean by decide +kernel).symm.trans this)).symm
      match jj, hj with
      | 0, _ => rw [d0]; rfl
      | 1, _ => rw [d1]; rfl
      | 2, _ => rw [d2]; rfl
      | 3, _ => rw [d3]; rfl
    · rw [if_neg hx50] at l1 c4
      exact am_Wnew (sx := []) hx hb hτ hts c1 ty0 c2 hown (hts _ l2) (hts _ l3) (hts _ l4) hK w hS l1 (fun H1 q hq hv => Or.inl ⟨by omega, hq, by rw [List.append_nil] at hv; exact hv⟩) (fun jj hj => by rw [List.append_nil]; exact c4 jj hj) hc hs hdg (fun H1 w1 hS1 => kk H1 locs w1 hS1)
  · -- newarray
    have hlen2 : len = 2 := by simpa [am_ln] using hlen
    subst hlen2
    split at hp
    · obtain ⟨h1, hv, hq⟩ := Option.map_eq_some_iff.mp hp; cases hq
      obtain ⟨l1, l2, l3⟩ := hlk
      have le := am_na_le hv
      have z1 : h'.2.1 - z0 = h.2.1 - z0 + (h'.2.1 - h.2.1) := by omega
      have z2 : h'.2.2 - s0 = h.2.2 - s0 + (h'.2.2 - h.2.2) := by omega
      rw [z1] at hc kk
      rw [z2] at hs kk
      exact am_Wna hx hb hτ (hts _ l2) l1 l3 hK w hS hv hc hs hdg (fun H1 w1 hS1 => kk H1 locs w1 hS1)
    · cases hp
  · have hlen2 : len = 3 := by simpa [am_ln] using hlen
    subst hlen2
    split at hp
    · rename_i h56
      obtain ⟨h1, hv, hq⟩ := Option.map_eq_some_iff.mp hp; cases hq
      obtain ⟨C, l2, l3, l4⟩ := hlk
      have le := am_na_le hv
      have z1 : h'.2.1 - z0 = h.2.1 - z0 + (h'.2.1 - h.2.1) := by omega
      have z2 : h'.2.2 - s0 = h.2.2 - s0 + (h'.2.2 - h.2.2) := by omega
      rw [z1] at hc kk
      rw [z2] at hs kk
      exact am_Wnq hx hb hτ hown (hts _ l2) (va_AO.use (hOK.2.2.2.2.2.1 _ l3)) h56 l4 hK w hS hv hc hs hdg (fun H1 w1 hS1 => kk H1 locs w1 hS1)
    · cases hp
  · -- Object()
    have hlen2 : len = 3 := by simpa [am_ln] using hlen
    subst hlen2
    split at hp
    · rename_i hr4
      cases hp
      have hx2 : x.1 = 999998 := by
        by_cases hq : x.1 = 999998
        · exact hq
        · simp [am_kd, hq] at hk
      simp only [am_lk, if_pos hx2] at hlk
      exact W.objInit hx hb hown (hts _ hlk.1) (hts _ hlk.2.1) (hts _ hlk.2.2) rfl hsl.symm rfl hdg (by omega) (by have := cat4 _ hr4; show 2 * 0 + _ + 12 ≤ _; omega) (kk H locs w hS)
    · cases hp
  · -- rows of rows
    have hlen2 : len = 4 := by simpa [am_ln] using hlen
    subst hlen2
    obtain ⟨h1, hv, hq⟩ := Option.map_eq_some_iff.mp hp; cases hq
    obtain ⟨ty, l1, l2, l3, l4⟩ := hlk
    have le := am_mn_2 hv
    have z1 : h'.2.1 - z0 = h.2.1 - z0 + (h'.2.1 - h.2.1) := by omega
    have z2 : h'.2.2 - s0 = h.2.2 - s0 + (h'.2.2 - h.2.2) := by omega
    rw [z1] at hc kk
    rw [z2] at hs kk
    exact am_Wmn hx hb hτ hown (hts _ l1) (hOK.2.2.2.2.2.1 _ l2) (hts _ l3) l4 hK w hS hv hc hs hdg kk
  · -- a copy of bytes
    have hlen2 : len = 3 := by simpa [am_ln] using hlen
    subst hlen2
    split at hp
    · rename_i hr4
      obtain ⟨h1, hv, hq⟩ := Option.map_eq_some_iff.mp hp; cases hq
      have hx2 : x.1 = 999997 := by
        by_cases hq : x.1 = 999997
        · exact hq
        · simp [am_kd, hq] at hk
      simp only [am_lk, if_pos hx2] at hlk
      obtain ⟨l1, l2, l3, l4, l5, l6⟩ := hlk
      have le := am_cn1_le hv
      have z1 : h'.2.1 - z0 = h.2.1 - z0 + (h'.2.1 - h.2.1) := by omega
      have z2 : h'.2.2 - s0 = h.2.2 - s0 + (h'.2.2 - h.2.2) := by omega
      rw [z1] at hc kk
      rw [z2] at hs kk
      have hcw : va_Nw (.castable "[B" "java/lang/Cloneable") s := by
        have := hOK.2.2.2.2.1 _ l6
        unfold am_cw at this
        rw [if_neg (by decide)] at this
        exact this
      exact am_Wcn hx hb hτ hsl hown (hts _ l1) (hts _ l2) (hts _ l3) (hts _ l4) (hts _ l5) hcw hK w hS hv (by omega) (by have := cat4 _ hr4; omega) hc hs hdg (fun H1 w1 hS1 => kk H1 locs w1 hS1)
    · cases hp
  · -- a cast of bytes
    have hlen2 : len = 3 := by simpa [am_ln] using hlen
    subst hlen2
    split at hp
    · rename_i hv
      cases hp
      exact am_Wcb hx hb hown (hts _ hlk) hK w hv hdg (kk H locs w hS)
    · cases hp
  · -- arraycopy
    have hlen2 : len = 3 := by simpa [am_ln] using hlen
    subst hlen2
    split at hp
    · rename_i hr4
      obtain ⟨h1, hv, hq⟩ := Option.map_eq_some_iff.mp hp; cases hq
      rw [(e2 _ (am_ac_2 hv)).1, (e2 _ (am_ac_2 hv)).2] at kk
      have hx2 : x.1 = 999999 := by
        by_cases hq : x.1 = 999999
        · exact hq
        · simp [am_kd, hq] at hk
      simp only [am_lk, if_pos hx2] at hlk
      exact am_Wac hx hb hτ hsl hown (hts _ hlk.1) (hts _ hlk.2.1) (hts _ hlk.2.2.1) (hts _ hlk.2.2.2) hK w hS hv (by omega) (by have := cat4 _ hr4; omega) hdg kk
    · cases hp
  · cases hp
end AMM
