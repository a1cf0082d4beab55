/-! ===== soundness, 6: the main theorem ===== -/
section AMM
variable {τ : Nat → Nat} {bs : Nat} {D : va_G} {cl : List vw_C} {kc : Nat → ClassId} {Tg : List Cond} {P : am_P} {J : am_J} {F : am_F} {l : Launch}
variable {p : Program} {e : Env} {R : Room} {s : State} {m : MethodId} {args : Array Value} {below : List Frame} {meth : Method} {c : Code} {H : Heap} {locs : List Loc} {Q : State → Prop}
theorem am_pu_go (hG : am_Gs τ bs cl Tg P J F) {j pc len pc' cells slots : Nat} {i : Instr} {x : Nat × Nat × Nat} {L L' : am_L} {st st' : List Value} {sl : Array Slot} (hf : P.1 j pc = some (i, len, x)) (hp : am_pu pc i x L st = some (pc', L', st')) (C : am_Cx τ bs D cl kc Tg J F p l R s m args meth c j) (hS : va_S (am_A bs) s.heap H locs) (hL : am_LV τ sl L)
    (kk : ∀ sl' : Array Slot, am_LV τ sl' L' → W p l e R s m args below meth c H locs cells slots Q (F0 m pc' sl' (st'.map (am_tv τ)))) : W p l e R s m args below meth c H locs cells slots Q (F0 m pc sl (st.map (am_tv τ))) := by
  obtain ⟨hx, hb, hml, hown, hts, hr, hlocks, hname, hst, htab, hfr, hlo, hbs, hOK⟩ := C
  obtain ⟨hdg, hlen, htg, h10, hlk, htk, hhk⟩ := hG.2.2.2.2.2.1 j pc i len x hf
  refine am_pu_snd hx hb hdg hlen htg ?_ ?_ ?_ ?_ ?_ hG.2.1 hL hp kk
  · intro k q r sl' hi h0 hq kk2
    subst hi
    have hlen2 : len = 2 := by simpa [am_ln] using hlen
    subst hlen2
    simp only [am_lk, if_pos h0] at hlk
    obtain ⟨tx, hr⟩ := hlk
    rw [← hq] at kk2
    exact va_ldcS hx hb hown (hOK.2.1 _ hr) hdg kk2
  · intro k r sl' hi h0 kk2
    subst hi
    have hlen2 : len = 2 := by simpa [am_ln] using hlen
    subst hlen2
    simp only [am_lk, if_neg h0] at hlk
    exact lv_ldc hx hb hown (hts _ hlk) hdg kk2
  · intro k q r sl' hi h0 hq kk2
    subst hi
    have hlen2 : len = 3 := by simpa [am_ln] using hlen
    subst hlen2
    simp only [am_lk, if_pos h0] at hlk
    obtain ⟨tx, hr⟩ := hlk
    rw [← hq] at kk2
    exact am_ldcSW hx hb hown (hOK.2.1 _ hr) hdg kk2
  · intro k r sl' hi h0 kk2
    subst hi
    have hlen2 : len = 3 := by simpa [am_ln] using hlen
    subst hlen2
    simp only [am_lk, if_neg h0] at hlk
    exact lv_ldcw hx hb hown (hts _ hlk) hdg kk2
  · intro k r sl' hi kk2
    subst hi
    have hlen2 : len = 3 := by simpa [am_ln] using hlen
    subst hlen2
    obtain ⟨C, n, d, hz, hl⟩ := hlk
    exact va_gets hx hb (hOK.2.2.1 _ hz) hS hown (hts _ hl) (fun _ h9 => h9) hdg kk2
theorem am_he_go (hG : am_Gs τ bs cl Tg P J F) {j pc len pc' z0 s0 : Nat} {i : Instr} {x : Nat × Nat × Nat} {L : am_L} {st st' : List Value} {h h' : am_H} {sl : Array Slot} (hf : P.1 j pc = some (i, len, x)) (hk : am_kd i x = 1) (hp : am_he P.2.2.2 pc i x st h = some (pc', st', h')) (C : am_Cx τ bs D cl kc Tg J F p l R s m args meth c j) (w : am_Wd τ bs D cl kc s h H) (hS : va_S (am_A bs) s.heap H locs) (hL : am_LV τ sl L) (hLl : L.length = (J j).2.2.1) (hz : z0 ≤ h.2.1) (hs0 : s0 ≤ h.2.2) (hc : h'.2.1 - z0 ≤ R.cells) (hs : h'.2.2 - s0 ≤ R.slots)
    (kk : ∀ (H1 : Heap) (locs1 : List Loc), am_Wd τ bs D cl kc s h' H1 → va_S (am_A bs) s.heap H1 locs1 → W p l e R s m args below meth c H1 locs1 (h'.2.1 - z0) (h'.2.2 - s0) Q (F0 m pc' sl (st'.map (am_tv τ)))) : W p l e R s m args below meth c H locs (h.2.1 - z0) (h.2.2 - s0) Q (F0 m pc sl (st.map (am_tv τ))) := by
  obtain ⟨hx, hb, hml, hown, hts, hr, hlocks, hname, hst, htab, hfr, hlo, hbs, hOK⟩ := C
  obtain ⟨hτ, -, -, hcl, ⟨r6, r9, h6, h9, e6, e9⟩, hprog, -, -, hnf⟩ := hG
  obtain ⟨hdg, hlen, htg, h10, hlk, htk, hhk⟩ := hprog j pc i len x hf
  have hK := hOK.1
  have e2 : ∀ h1 : am_H, h1.2 = h.2 → h1.2.1 - z0 = h.2.1 - z0 ∧ h1.2.2 - s0 = h.2.2 - s0 := fun h1 q => by rw [q]; exact ⟨rfl, rfl⟩
  have hsl : c.maxLocals = sl.size := by rw [hml, hL.1, hLl]
  have cat4 : ∀ r : List Value, r.length ≤ 4 → ((r.map (am_tv τ)).map fun v => v.category).sum ≤ 8 := by
    intro r hr4
    have key : ∀ r : List Value, ((r.map (am_tv τ)).map fun v => v.category).sum ≤ 2 * r.length := by
      intro r
      induction r with
      | nil => exact Nat.le_refl _
      | cons v r ih =>
        simp only [List.map_cons, List.sum_cons, List.length_cons]
        have : (am_tv τ v).category ≤ 2 := by rw [am_tv_cat]; cases v <;> simp [Value.category]
        omega
    have := key r
    omega
  unfold am_he at hp
  split at hp
  · -- getfield
    rename_i kx a0 r0
    have hlen2 : len = 3 := by simpa [am_ln] using hlen
    subst hlen2
    have hlk' : (x.1 < 50 ∧ ∃ C T N, cl[x.1]? = some (C, T, N) ∧ x.2.1 < N ∧ (Cond.fieldLink (J j).1.cls kx (T x.2.1).1 (T x.2.1).2.1 (T x.2.1).2.2.1).before args s = true) ∨ (x.1 = 50 ∧ ((x.2.1 = 0 ∧ (Cond.fieldLink (J j).1.cls kx "java/lang/String" "value" "[B").before args s = true) ∨ (x.2.1 = 1 ∧ (Cond.fieldLink (J j).1.cls kx "java/lang/String" "coder" "B").before args s = true))) := by
      rcases hlk with ⟨l1, C, T, N, l2, l3, l4⟩ | ⟨l1, ⟨l2, l3⟩ | ⟨l2, l3⟩⟩
      · exact Or.inl ⟨l1, C, T, N, l2, l3, hts _ l4⟩
      · exact Or.inr ⟨l1, Or.inl ⟨l2, hts _ l3⟩⟩
      · exact Or.inr ⟨l1, Or.inr ⟨l2, hts _ l3⟩⟩
    split at hp
    · rename_i hv; cases hp; exact am_Wgf hx hb hts (fun ci q hq => (hcl ci q hq).1) hown hK w hlk' hv hdg (kk H locs w hS)
    · rename_i hv; cases hp; exact am_Wgf hx hb hts (fun ci q hq => (hcl ci q hq).1) hown hK w hlk' hv hdg (kk H locs w hS)
    · rename_i hv; cases hp; exact am_Wgf hx hb hts (fun ci q hq => (hcl ci q hq).1) hown hK w hlk' hv hdg (kk H locs w hS)
    · cases hp
  · -- putfield
    have hlen2 : len = 3 := by simpa [am_ln] using hlen
    subst hlen2
    obtain ⟨h1, hv, hq⟩ := Option.map_eq_some_iff.mp hp
    cases hq
    rw [(e2 _ (am_pf_2 hv)).1, (e2 _ (am_pf_2 hv)).2] at kk
    obtain ⟨C, T, N, ty, l1, l2, l3, l4, l5, l6⟩ := hlk
    obtain ⟨c1, ty0, c2, c3, c4⟩ := hcl _ _ l1
    have hty : ty0 x.2.1 = ty := Option.some.inj ((c2 _ l2).symm.trans l5)
    refine am_Wpf (ty0 := ty0) hx hb hτ hts c1 c2 c3 hown hK w hS l1 l2 (hts _ l3) (fun hfin => ?_) ?_ hv hdg kk
    · rw [hname]; exact l4 hfin
    · rw [hty]; exact l6
  · have hlen2 : len = 1 := by simpa [am_ln] using hlen
    subst hlen2
    obtain ⟨v, hv, hq⟩ := Option.map_eq_some_iff.mp hp; cases hq
    exact am_Wia hx hb hK w hv hdg (kk H locs w hS)
  · have hlen2 : len = 1 := by simpa [am_ln] using hlen
    subst hlen2
    obtain ⟨v, hv, hq⟩ := Option.map_eq_some_iff.mp hp; cases hq
    exact am_Wba hx hb hK w hv hdg (kk H locs w hS)
  · have hlen2 : len = 1 := by simpa [am_ln] using hlen
    subst hlen2
    obtain ⟨v, hv, hq⟩ := Option.map_eq_some_iff.mp hp; cases hq
    exact am_Wla hx hb hK w hv hdg (kk H locs w hS)
  · have hlen2 : len = 1 := by simpa [am_ln] using hlen
    subst hlen2
    obtain ⟨v, hv, hq⟩ := Option.map_eq_some_iff.mp hp; cases hq
    exact am_Wda hx hb hK w hv hdg (kk H locs w hS)
  · have hlen2 : len = 1 := by simpa [am_ln] using hlen
    subst hlen2
    obtain ⟨v, hv, hq⟩ := Option.map_eq_some_iff.mp hp; cases hq
    exact am_Wqa hx hb hK w hv hdg (kk H locs w hS)
  · have hlen2 : len = 1 := by simpa [am_ln] using hlen
    subst hlen2
    obtain ⟨h1, hv, hq⟩ := Option.map_eq_some_iff.mp hp; cases hq
    rw [(e2 _ (am_is_2 hv)).1, (e2 _ (am_is_2 hv)).2] at kk
    exact am_Wis hx hb hτ hK w hS hv hdg kk
  · have hlen2 : len = 1 := by simpa [am_ln] using hlen
    subst hlen2
    obtain ⟨h1, hv, hq⟩ := Option.map_eq_some_iff.mp hp; cases hq
    rw [(e2 _ (am_bs_2 hv)).1, (e2 _ (am_bs_2 hv)).2] at kk
    exact am_Wbs hx hb hτ hK w hS hv hdg kk
  · have hlen2 : len = 1 := by simpa [am_ln] using hlen
    subst hlen2
    obtain ⟨h1, hv, hq⟩ := Option.map_eq_some_iff.mp hp; cases hq
    rw [(e2 _ (am_js_2 hv)).1, (e2 _ (am_js_2 hv)).2] at kk
    exact am_Wjs hx hb hτ hK w hS hv hdg kk
  · have hlen2 : len = 1 := by simpa [am_ln] using hlen
    subst hlen2
    obtain ⟨h1, hv, hq⟩ := Option.map_eq_some_iff.mp hp; cases hq
    rw [(e2 _ (am_ds_2 hv)).1, (e2 _ (am_ds_2 hv)).2] at kk
    exact am_Wds hx hb hτ hK w hS hv hdg kk
  · have hlen2 : len = 1 := by simpa [am_ln] using hlen
    subst hlen2
    obtain ⟨h1, hv, hq⟩ := Option.map_eq_some_iff.mp hp; cases hq
    rw [(e2 _ (am_qs_2 hv)).1, (e2 _ (am_qs_2 hv)).2] at kk
    exact am_Wqs hx hb hτ hK w hS h6 h9 e6 e9 hv hdg kk
  · have hlen2 : len = 1 := by simpa [am_ln] using hlen
    subst hlen2
    obtain ⟨v, hv, hq⟩ := Option.map_eq_some_iff.mp hp; cases hq
    exact am_Wal hx hb hK w hv hdg (kk H locs w hS)
  · -- new
    have hlen2 : len = 3 := by simpa [am_ln] using hlen
    subst hlen2
    cases hp
    have hx2 : ¬ x.2.2 = 1 := by
      intro hq
      simp [am_kd, hq] at hk
    simp only [am_lk, if_neg hx2] at hlk
    obtain ⟨l0, C, T, l1, l2, l3, l4⟩ := hlk
    obtain ⟨c1, ty0, c2, c3, c4⟩ := hcl _ _ l1
    have z1 : (am_new h (.inr (x.1, P.2.2.2 x.1)) x.2.1).2.1 - z0 = h.2.1 - z0 + 1 := by show h.2.1 + 1 - z0 = _; omega
    have z2 : (am_new h (.inr (x.1, P.2.2.2 x.1)) x.2.1).2.2 - s0 = h.2.2 - s0 + x.2.1 := by show h.2.2 + x.2.1 - s0 = _; omega
    rw [z1] at hc kk
    rw [z2] at hs kk
    exact am_Wnew hx hb hτ hts c1 ty0 c2 hown (hts _ l2) (hts _ l3) (hts _ l4) hK w hS l1 l0 c4 hc hs hdg (fun H1 w1 hS1 => kk H1 locs w1 hS1)
  · -- newarray
    have hlen2 : len = 2 := by simpa [am_ln] using hlen
    subst hlen2
    split at hp
    · obtain ⟨h1, hv, hq⟩ := Option.map_eq_some_iff.mp hp; cases hq
      obtain ⟨l1, l2, l3⟩ := hlk
      have le := am_na_le hv
      have z1 : h'.2.1 - z0 = h.2.1 - z0 + (h'.2.1 - h.2.1) := by omega
      have z2 : h'.2.2 - s0 = h.2.2 - s0 + (h'.2.2 - h.2.2) := by omega
      rw [z1] at hc kk
      rw [z2] at hs kk
      exact am_Wna hx hb hτ (hts _ l2) l1 l3 hK w hS hv hc hs hdg (fun H1 w1 hS1 => kk H1 locs w1 hS1)
    · cases hp
  · have hlen2 : len = 3 := by simpa [am_ln] using hlen
    subst hlen2
    split at hp
    · rename_i h56
      obtain ⟨h1, hv, hq⟩ := Option.map_eq_some_iff.mp hp; cases hq
      obtain ⟨C, l2, l3, l4⟩ := hlk
      have le := am_na_le hv
      have z1 : h'.2.1 - z0 = h.2.1 - z0 + (h'.2.1 - h.2.1) := by omega
      have z2 : h'.2.2 - s0 = h.2.2 - s0 + (h'.2.2 - h.2.2) := by omega
      rw [z1] at hc kk
      rw [z2] at hs kk
      exact am_Wnq hx hb hτ hown (hts _ l2) (va_AO.use (hOK.2.2.2.2.2.1 _ l3)) h56 l4 hK w hS hv hc hs hdg (fun H1 w1 hS1 => kk H1 locs w1 hS1)
    · cases hp
  · -- Object()
    have hlen2 : len = 3 := by simpa [am_ln] using hlen
    subst hlen2
    split at hp
    · rename_i hr4
      cases hp
      have hx2 : x.1 = 999998 := by
        by_cases hq : x.1 = 999998
        · exact hq
        · simp [am_kd, hq] at hk
      simp only [am_lk, if_pos hx2] at hlk
      exact W.objInit hx hb hown (hts _ hlk.1) (hts _ hlk.2.1) (hts _ hlk.2.2) rfl hsl.symm rfl hdg (by omega) (by have := cat4 _ hr4; show 2 * 0 + _ + 12 ≤ _; omega) (kk H locs w hS)
    · cases hp
  · -- arraycopy
    have hlen2 : len = 3 := by simpa [am_ln] using hlen
    subst hlen2
    split at hp
    · rename_i hr4
      obtain ⟨h1, hv, hq⟩ := Option.map_eq_some_iff.mp hp; cases hq
      rw [(e2 _ (am_ac_2 hv)).1, (e2 _ (am_ac_2 hv)).2] at kk
      have hx2 : x.1 = 999999 := by
        by_cases hq : x.1 = 999999
        · exact hq
        · simp [am_kd, hq] at hk
      simp only [am_lk, if_pos hx2] at hlk
      exact am_Wac hx hb hτ hsl hown (hts _ hlk.1) (hts _ hlk.2.1) (hts _ hlk.2.2.1) (hts _ hlk.2.2.2) hK w hS hv (by omega) (by have := cat4 _ hr4; omega) hdg kk
    · cases hp
  · cases hp
end AMM
