/-! ===== soundness, 7: the main theorem ===== -/
theorem am_hf_find {Tg : List Cond} {nL : Nat} {own : String} {cc : ByteArray} {pc E q k : Nat} : ∀ (tb : List ExceptionTableEntry) (ah : List (Nat × Nat × Nat × Nat × Nat × Nat)), am_hk Tg nL own cc (tb.map (fun h => (h.startPc, h.endPc, h.handlerPc, h.catchType))) ah → am_hf ah pc E = some (q, k) →
    ∃ (pre : List ExceptionTableEntry) (x : ExceptionTableEntry) (suf : List ExceptionTableEntry), tb = pre ++ x :: suf ∧ (∀ z ∈ pre, covers z pc = false ∨ (z.catchType ≠ 0 ∧ ∃ E' : Nat, E' < 3 ∧ E' ≠ E ∧ Cond.classLink own z.catchType (am_xn E') ∈ Tg)) ∧ covers x pc = true ∧ x.catchType ≠ 0 ∧ E < 3 ∧ k < nL ∧ Cond.classLink own x.catchType (am_xn E) ∈ Tg ∧
      ((k < 4 ∧ decode cc x.handlerPc = .ok (.astore_n (Fin.ofNat 4 k), 1) ∧ q = x.handlerPc + 1) ∨ (decode cc x.handlerPc = .ok (.astore k, 2) ∧ q = x.handlerPc + 2)) := by
  intro tb
  induction tb with
  | nil => intro ah h1 h2; cases ah with
    | nil => cases h2
    | cons _ _ => cases h1
  | cons z tb ih =>
    intro ah h1 h2
    cases ah with
    | nil => cases h1
    | cons y ah =>
      obtain ⟨s', t', cp', E', q', k'⟩ := y
      obtain ⟨g1, g2, g3, g4, g5, g6, g7, g8⟩ := h1
      simp only [am_hf] at h2
      by_cases hc : s' ≤ pc ∧ pc < t' ∧ E' = E
      · rw [if_pos hc] at h2
        obtain ⟨c1, c2, rfl⟩ := hc
        cases h2
        refine ⟨[], z, tb, rfl, fun _ h => absurd h List.not_mem_nil, ?_, g4, g5, g3, g6, g7⟩
        simp only [covers, Bool.and_eq_true, decide_eq_true_eq]
        omega
      · rw [if_neg hc] at h2
        obtain ⟨pre, x, suf, e1, e2, e3⟩ := ih ah g8 h2
        refine ⟨z :: pre, x, suf, by rw [e1]; rfl, fun y hy => ?_, e3⟩
        rcases List.mem_cons.mp hy with rfl | hy
        · by_cases hcv : covers y pc = true
          · right
            refine ⟨g4, E', g5, fun hE => hc ?_, g6⟩
            simp only [covers, Bool.and_eq_true, decide_eq_true_eq] at hcv
            exact ⟨by omega, by omega, hE⟩
          · left
            simpa using hcv
        · exact e2 y hy
theorem am_ps_some {τ : Nat → Nat} {c : Nat} {v : Option Value} {vs : List Value} (h : am_ps c v = some vs) : (v.map (am_tv τ)).toList = vs.map (am_tv τ) := by
  unfold am_ps at h
  split at h <;> first | (cases h; done) | (cases h; rfl)
theorem am_F_trans {bs : Nat × Nat} {s : State} {st t : State} {H : Heap} {locs L : List Loc} (h0 : st.heap = H) (hS : va_S (am_A bs) s.heap H locs) (hF : va_F (am_A bs) st t) (hL : ∀ q ∈ L, am_A bs q.base) : va_S (am_A bs) s.heap t.heap (locs ++ L) := by
  obtain ⟨f1, f2⟩ := hF
  rw [h0] at f1 f2
  refine ⟨Nat.le_trans hS.1 f1, fun q h1 h2 => (f2 q (Nat.lt_of_lt_of_le h1 hS.1) h2).trans (hS.2.1 q h1 h2), fun z hz => ?_⟩
  rcases List.mem_append.mp hz with h | h
  · exact hS.2.2 z h
  · exact hL z h
theorem am_kd2 {i : Instr} {x : Nat × Nat × Nat} (h : am_kd i x = 2) : (∃ k, i = .invokevirtual k ∧ x.1 ≠ 999997) ∨ (∃ k, i = .invokestatic k ∧ x.1 ≠ 999999) ∨ (∃ k, i = .invokespecial k ∧ x.1 ≠ 999998) := by
  unfold am_kd at h
  split at h
  all_goals (try (cases h; done))
  all_goals (try (split at h <;> (try (cases h; done))))
  · exact Or.inl ⟨_, rfl, by assumption⟩
  · exact Or.inr (Or.inl ⟨_, rfl, by assumption⟩)
  · exact Or.inr (Or.inr ⟨_, rfl, by assumption⟩)
theorem am_kd4 {i : Instr} {x : Nat × Nat × Nat} (h : am_kd i x = 4) : ∃ k, i = .new k ∧ x.2.2 = 1 := by
  unfold am_kd at h
  split at h
  all_goals (try (cases h; done))
  all_goals (try (split at h <;> (try (cases h; done))))
  exact ⟨_, rfl, by assumption⟩
theorem am_kd3 {i : Instr} {x : Nat × Nat × Nat} (h : am_kd i x = 3) : am_ln i = 1 := by
  unfold am_kd at h
  split at h
  all_goals (try (cases h; done))
  all_goals (try (split at h <;> (try (cases h; done))))
  all_goals rfl
theorem am_Wmono {p : Program} {l : Launch} {e : Env} {R : Room} {s : State} {m : MethodId} {args : Array Value} {below : List Frame} {meth : Method} {c : Code} {H : Heap} {locs : List Loc} {cells slots : Nat} {Q Q' : State → Prop} {g : JFrame} (hQ : ∀ t, Q t → Q' t) (k : W p l e R s m args below meth c H locs cells slots Q g) : W p l e R s m args below meth c H locs cells slots Q' g := by
  intro T hT X
  obtain ⟨t, a, b⟩ := k T hT X
  exact ⟨t, a, hQ t b⟩
theorem am_cat (τ : Nat → Nat) (r : List Value) (hr4 : r.length ≤ 4) : ((r.map (am_tv τ)).map fun v => v.category).sum ≤ 8 := by
  have key : ∀ r : List Value, ((r.map (am_tv τ)).map fun v => v.category).sum ≤ 2 * r.length := by
    intro r
    induction r with
    | nil => exact Nat.le_refl _
    | cons v r ih =>
      simp only [List.map_cons, List.sum_cons, List.length_cons]
      have : (am_tv τ v).category ≤ 2 := by rw [am_tv_cat]; cases v <;> simp [Value.category]
      omega
  have := key r
  omega
theorem am_cat2 (τ : Nat → Nat) (r : List Value) (h : am_cs r ≤ 8) : ((r.map (am_tv τ)).map fun v => v.category).sum ≤ 8 := by
  have key : ∀ r : List Value, ((r.map (am_tv τ)).map fun v => v.category).sum = am_cs r := by
    intro r
    induction r with
    | nil => rfl
    | cons v r ih => simp only [List.map_cons, List.sum_cons, am_cs, am_tv_cat, ih]
  rw [key]
  exact h
/-- a handler's store of the thrown object -/
theorem am_LV_hd {τ : Nat → Nat} {sl' : Array Slot} {L : am_L} {k q : Nat} (hk : k < L.length) (h2 : lv_has sl' L.length ((k, .ref q) :: ((am_as L).map fun q => (q.1, am_tv τ q.2)).filter (fun q => !(q.1 == k) && !(q.1 + 1 == k && q.2.category == 2)))) : am_LV τ sl' (am_no (am_ls1 L k .null) k) := by
  refine ⟨by rw [am_no_len, am_ls1_len]; exact h2.1, h2.2.1, fun i w hi => ?_⟩
  obtain ⟨k1, hi⟩ := am_no_get hi
  rcases am_ls1_get hi with ⟨rfl, rfl⟩ | ⟨g1, g2, g3⟩
  · exact absurd rfl k1
  · refine h2.2.2 (i, am_tv τ w) (List.mem_cons_of_mem _ (List.mem_filter.mpr ⟨List.mem_map.mpr ⟨(i, w), am_as_mem.mpr g2, rfl⟩, ?_⟩))
    have hc : (am_tv τ w).category = w.category := am_tv_cat τ w
    simp only [Bool.and_eq_true, Bool.not_eq_true', beq_eq_false_iff_ne, ne_eq, Bool.and_eq_false_imp, beq_iff_eq]
    exact ⟨g1, fun q => by rw [hc]; simpa using g3 q⟩
section AMM
variable {τ : Nat → Nat} {bs : Nat × Nat} {D : va_G} {cl : List vw_C} {kc : Nat → ClassId} {Tg : List Cond} {P : am_P} {J : am_J} {F : am_F} {l : Launch}
theorem am_noth (hG : am_Gs τ bs cl Tg P J F) : ∀ (n j pc : Nat) (L : am_L) (st : List Value) (h : am_H) (out : am_O) (h' : am_H), (J j).2.2.2.2.2 ≠ [] → am_run P n j pc L st h = some (out, h') → ∃ v, out = .inl v := by
  intro n
  induction n with
  | zero => intro j pc L st h out h' hj hh; cases hh
  | succ n ih =>
    intro j pc L st h out h' hj hh
    obtain ⟨i, len, x, hf, ⟨hk, pc', ls', st', hp, h1⟩ | ⟨hk, pc', st', h2, hp, h1⟩ | ⟨hk, hst, h1⟩ | ⟨hk, v, hr, he⟩ | ⟨hk, hst, he⟩⟩ := am_st_elim (show am_st P (am_run P n j) (fun t ls h => am_run P n t 0 ls [] h) j pc L st h = some (out, h') from hh)
    · exact ih _ _ _ _ _ _ _ hj h1
    · exact ih _ _ _ _ _ _ _ hj h1
    · obtain ⟨-, -, -, -, -, -, hhk⟩ := hG.2.2.2.2.2.1 j pc i len x hf
      have hne : P.2.2.1 j ≠ [] := by
        intro hq
        rw [hq] at hhk
        cases hJ : (J j).2.2.2.2.2 with
        | nil => exact hj hJ
        | cons a b => rw [hJ] at hhk; exact hhk
      cases hz : am_ca P (fun t ls h => am_run P n t 0 ls [] h) x.1 (st.take x.2.1).reverse h with
      | none => rw [hz] at h1; cases h1
      | some z =>
        obtain ⟨o1, h2⟩ := z
        rw [hz] at h1
        obtain v | E := o1
        · change (match am_ps x.2.2 v with | some vs => am_run P n j (pc + 3) L (vs ++ st.drop x.2.1) h2 | none => none) = some (out, h') at h1
          cases hp : am_ps x.2.2 v with
          | none => rw [hp] at h1; cases h1
          | some vs => rw [hp] at h1; exact ih _ _ _ _ _ _ _ hj h1
        · change (match am_hn (P.2.2.1 j) pc E with | some (some (p, k)) => am_run P n j p (am_no (am_ls1 L k .null) k) [] h2 | some none => some (.inr E, h2) | none => none) = some (out, h') at h1
          cases hp : am_hn (P.2.2.1 j) pc E with
          | none => rw [hp] at h1; cases h1
          | some y => cases y with
            | none =>
              exfalso
              unfold am_hn at hp
              split at hp
              · rename_i hq; exact hne hq
              · cases hm : am_hf _ pc E with
                | none => rw [hm] at hp; cases hp
                | some y => rw [hm] at hp; cases hp
            | some vs => rw [hp] at h1; exact ih _ _ _ _ _ _ _ hj h1
    · cases he; exact ⟨v, rfl⟩
    · obtain ⟨-, -, -, -, hlk, -, -⟩ := hG.2.2.2.2.2.1 j pc i len x hf
      obtain ⟨k, rfl, hx2⟩ := am_kd4 hk
      simp only [am_lk, if_pos hx2] at hlk
      obtain ⟨-, _, _, _, _, _, _, -, -, -, -, -, -, -, -, -, -, -, -, hq⟩ := hlk
      exact absurd hq hj
theorem am_recv (h14 : ∃ T, cl[14]? = some ("java/lang/String", T, 4) ∧ (T 0).1 = "java/lang/String" ∧ (T 0).2.1 = "value" ∧ (T 0).2.2.1 = "[B" ∧ (T 1).1 = "java/lang/String" ∧ (T 1).2.1 = "coder" ∧ (T 1).2.2.1 = "B" ∧ (T 2).2.2.1 = "I" ∧ (T 3).2.2.1 = "Z") {s : State} {H : Heap} {h : am_H} {rc : Nat} {C : String} {argsV : List Value} (hK : va_K D cl (am_ty kc) s) (w : am_Wd τ bs D cl kc s h H) (hr : am_rc h rc argsV = true) (hC : am_cn cl rc = some C) : ∃ a As, argsV = .ref a :: As ∧ ∃ cellB : Cell, H[τ a]? = some cellB ∧ cellB.vm.isStatics = false ∧ s.vm.findClass C = some cellB.cls := by
  cases rc with
  | zero => cases hC
  | succ ci =>
    have key : ∃ a As, argsV = .ref a :: As ∧ (match h.1 a with | some (.inr (ci', _)) => decide (ci' = ci) | _ => false) = true := by
      match argsV, hr with
      | .ref a :: As, hr => exact ⟨a, As, rfl, hr⟩
      | [], hr => cases hr
      | .int _ :: _, hr => cases hr
      | .long _ :: _, hr => cases hr
      | .float _ :: _, hr => cases hr
      | .double _ :: _, hr => cases hr
      | .null :: _, hr => cases hr
      | .retAddr _ :: _, hr => cases hr
    obtain ⟨a, As, rfl, hr2⟩ := key
    refine ⟨a, As, rfl, ?_⟩
    split at hr2
    · rename_i ci' fs hm
      have hci := of_decide_eq_true hr2
      subst hci
      simp only [am_cn] at hC
      rcases (w.2.2 a _ hm).2 with ⟨a1, a2, a3⟩ | ⟨a1, a2, al, a3⟩ | ⟨a1, a2, v, a3, a4, -⟩
      · rw [if_neg (by omega)] at hC
        obtain ⟨q, hq, rfl⟩ := Option.map_eq_some_iff.mp hC
        exact va_recv hK (am_one a3) hq (q0 := 0) rfl
      · rw [if_pos a1] at hC
        cases hC
        obtain ⟨T, h14, -⟩ := h14
        exact va_recv hK (am_one a3) h14 (q0 := 0) rfl
      · rw [if_pos a1] at hC
        cases hC
        obtain ⟨cell, b1, b2, b3, -⟩ := a4
        exact ⟨cell, b1, b2, b3⟩
    · cases hr2
set_option maxHeartbeats 16000000 in
theorem am_snd (hG : am_Gs τ bs cl Tg P J F) : ∀ (n j pc : Nat) (L : am_L) (st : List Value) (h : am_H) (out : am_O) (h' : am_H), am_run P n j pc L st h = some (out, h') →
    ∀ {p : Program} {e : Env} {R : Room} {s : State} {m : MethodId} {args : Array Value} {below : List Frame} {meth : Method} {c : Code} (H : Heap) (locs : List Loc) (sl : Array Slot) (z0 s0 : Nat), am_Cx τ bs D cl kc Tg J F p l R s m args meth c j → am_Wd τ bs D cl kc s h H → va_S (am_A bs) s.heap H locs → am_LV τ sl L → L.length = (J j).2.2.1 → z0 ≤ h.2.1 → s0 ≤ h.2.2 → h'.2.1 - z0 ≤ R.cells → h'.2.2 - s0 ≤ R.slots →
      W p l e R s m args below meth c H locs (h.2.1 - z0) (h.2.2 - s0) (vx_MQ below (am_Qc τ bs D cl kc out h') (am_XC τ bs D cl kc out h') args s (h'.2.1 - z0) (h'.2.2 - s0) (am_A bs)) (F0 m pc sl (st.map (am_tv τ))) := by
  intro n
  induction n with
  | zero => intro j pc L st h out h' hh; cases hh
  | succ n ih =>
    intro j pc L st h out h' hh p e R s m args below meth c H locs sl z0 s0 C w hS hL hLl hz hs0 hc hs
    obtain ⟨i, len, x, hf, ⟨hk, pc', ls', st', hp, h1⟩ | ⟨hk, pc', st', h2, hp, h1⟩ | ⟨hk, hst, h1⟩ | ⟨hk, v, hr, he⟩ | ⟨hk, hst, he⟩⟩ := am_st_elim (show am_st P (am_run P n j) (fun t ls h => am_run P n t 0 ls [] h) j pc L st h = some (out, h') from hh)
    · exact am_pu_go hG hf hp C hS hL (fun sl' hL' => ih j pc' ls' st' h out h' h1 H locs sl' z0 s0 C w hS hL' ((am_pu_len hp).trans hLl) hz hs0 hc hs)
    · have le := am_he_le hp
      have le2 := am_run_le n j pc' L st' h2 out h' h1
      exact am_he_go hG hf hk hp C w hS hL hLl hz hs0 (by omega) (by omega) (fun H1 locs1 w1 hS1 => ih j pc' L st' h2 out h' h1 H1 locs1 sl z0 s0 C w1 hS1 hL hLl (by omega) (by omega) hc hs)
    · -- a call
      obtain ⟨hx, hb, hml, hown, hts, hrt, hlocks, hname, hnost, htab, hfr, hlo, hbs, hOK⟩ := id C
      obtain ⟨hτ, -, hgood, -, -, hprog, hnc, hcast, -⟩ := id hG
      obtain ⟨hdg, hlen, htg, h10, hlk, htk, hhk⟩ := hprog j pc i len x hf
      obtain ⟨k1, k2, k3, k4, k5, k6, k7, k8⟩ := htk hk
      have hK := hOK.1
      cases hz2 : am_ca P (fun t ls h => am_run P n t 0 ls [] h) x.1 (st.take x.2.1).reverse h with
      | none => rw [hz2] at h1; cases h1
      | some z =>
        obtain ⟨o1, h2⟩ := z
        rw [hz2] at h1
        unfold am_ca at hz2
        split at hz2
        rotate_left
        · cases hz2
        rename_i hcond
        obtain ⟨hrc, hal⟩ := hcond
        have le1 := am_run_le n _ _ _ _ _ _ _ hz2
        rw [← k2] at hz2 hal
        obtain ⟨argsV, hav⟩ : ∃ z, z = (st.take x.2.1).reverse := ⟨_, rfl⟩
        rw [← hav] at hz2 hrc hal
        have hstk : st = argsV.reverse ++ st.drop x.2.1 := by rw [hav, List.reverse_reverse, List.take_append_drop]
        have hnv : argsV.length = x.2.1 := by rw [hav, List.length_reverse, List.length_take]; omega
        generalize hrr : st.drop x.2.1 = r at h1 hst hstk
        have hcat := am_cat2 τ r hst.2
        have hroom : 2 * (F0 m pc sl (st.map (am_tv τ))).monitorRoom + ((r.map (am_tv τ)).map fun v => v.category).sum ≤ 8 := by show 2 * 0 + _ ≤ 8; omega
        have hsl : (F0 m pc sl (st.map (am_tv τ))).locals.size = (J j).2.2.1 := by show sl.size = _; rw [hL.1, hLl]
        have CF : CallFix p m c (J j).2.1 (J j).2.2.1 s args Tg (J j).1.cls := ⟨hx, hb, hml, hown, hts⟩
        have hle3 : h2.2.1 ≤ h'.2.1 ∧ h2.2.2 ≤ h'.2.2 := by
          obtain v | E := o1
          · change (match am_ps x.2.2 v with | some vs => am_run P n j (pc + 3) L (vs ++ r) h2 | none => none) = some (out, h') at h1
            cases hp : am_ps x.2.2 v with
            | none => rw [hp] at h1; cases h1
            | some vs => rw [hp] at h1; exact am_run_le n _ _ _ _ _ _ _ h1
          · change (match am_hn (P.2.2.1 j) pc E with | some (some (p, k)) => am_run P n j p (am_no (am_ls1 L k .null) k) [] h2 | some none => some (.inr E, h2) | none => none) = some (out, h') at h1
            cases hp : am_hn (P.2.2.1 j) pc E with
            | none => rw [hp] at h1; cases h1
            | some y => cases y with
              | none => rw [hp] at h1; cases h1; exact ⟨Nat.le_refl _, Nat.le_refl _⟩
              | some vs => rw [hp] at h1; exact am_run_le n _ _ _ _ _ _ _ h1
        have hcell : h.2.1 - z0 + (h2.2.1 - h.2.1) ≤ R.cells ∧ h.2.2 - s0 + (h2.2.2 - h.2.2) ≤ R.slots := by omega
        have hrf : (J x.1).2.2.2.2.1 + 1 ≤ R.frames := by omega
        have hrl : 8 + ((J x.1).2.2.1 + 11) + 100 * (J x.1).2.2.2.2.1 ≤ R.locals := by omega
        have pay : ∀ (cw : Cond), cw ∈ Tg → ∀ w ∈ cw :: Tg, ∀ (a' : Array Value) (U : State), s.WarmedH U.vm → w.before a' U = true := by
          intro cw hcw w hw a' U hW
          have hw' : w ∈ Tg := by
            rcases List.mem_cons.mp hw with rfl | h
            · exact hcw
            · exact h
          exact word_at hW (good_of_word (hgood w hw')) (hts w hw')
        have hlenp : ∀ (nn : Nat), (parseMethodDescriptor (J x.1).1.desc).map (fun d => d.parameters.length) = some nn → ∀ sig, parseMethodDescriptor (J x.1).1.desc = some sig → nn = sig.parameters.length := by
          intro nn hnn sig hsig
          rw [hsig] at hnn
          exact (Option.some.inj hnn).symm
        -- the contract's start
        obtain ⟨Pc, hPc⟩ : ∃ Pc : Array Value → State → Prop, Pc = fun a U => a = (argsV.map (am_tv τ)).toArray ∧ am_Wd τ bs D cl kc U h U.heap ∧ am_OK τ bs D cl kc F U U.heap ∧ bs.1 ≤ U.heap.size := ⟨_, rfl⟩
        have hblind : FrameBlind Pc := by
          intro a U g mk hq
          rw [hPc] at hq ⊢
          obtain ⟨q1, q2, q3, q4⟩ := hq
          exact ⟨q1, q2.moved (U := U.calling g mk a) (Vm.Alike.refl U.vm), q3.warm (U := U.calling g mk a) (State.WarmedH.refl U), q4⟩
        have hpre : ∀ U : State, U.heap = H → s.WarmedH U.vm → Pc (argsV.map (am_tv τ)).toArray U := by
          intro U hU hW
          rw [hPc]
          exact ⟨rfl, by rw [hU]; exact w.moved hW.alike, by rw [hU]; exact (hOK.kept hS.2.1).warm hW, by rw [hU]; exact Nat.le_trans hbs hS.1⟩
        have bodyW : ∀ (ws : List Cond), (∀ w ∈ Tg, w ∈ ws) → ∀ (p : Program) (e : Env) (s : State) (m : MethodId) (args : Array Value) (below : List Frame) (meth : Method) (c : Code) (s₁ : State), BodyLoose p l (J x.1).1 (headSpec ws { frames := (J x.1).2.2.2.2.1, cells := h2.2.1 - h.2.1, slots := h2.2.2 - h.2.2, locals := 100 * (J x.1).2.2.2.2.1 }) (J x.1).2.1 (J x.1).2.2.1 (J x.1).2.2.2.1 e s m args below meth c s₁ → c.maxLocals = (J x.1).2.2.1 → c.exceptionTable.toList.map (fun h => (h.startPc, h.endPc, h.handlerPc, h.catchType)) = (J x.1).2.2.2.2.2 → Pc args s →
            W p l e { frames := (J x.1).2.2.2.2.1, cells := h2.2.1 - h.2.1, slots := h2.2.2 - h.2.2, locals := 100 * (J x.1).2.2.2.2.1 } s m args below meth c s.heap [] 0 0 (vx_MQ below (am_Qc τ bs D cl kc o1 h2) (am_XC τ bs D cl kc o1 h2) args s (h2.2.1 - h.2.1) (h2.2.2 - h.2.2) (am_A bs)) (entryFrame m args (J x.1).2.2.1) := by
          intro ws hws p e s m args below meth c s₁ B hml2 ht2 hv
          rw [hPc] at hv
          obtain ⟨rfl, v1, v2, v3⟩ := hv
          have hts2 : ∀ w ∈ ws, w.before _ s = true := atoms_spec (ws := ws) B.pre
          have C2 : am_Cx τ bs D cl kc Tg J F p l { frames := (J x.1).2.2.2.2.1, cells := h2.2.1 - h.2.1, slots := h2.2.2 - h.2.2, locals := 100 * (J x.1).2.2.2.2.1 } s m (argsV.map (am_tv τ)).toArray meth c x.1 :=
            ⟨B.exec, B.bytes, hml2, findClass_of_methodNamed B.named, fun w hw => hts2 w (hws w hw), B.returns, B.notSynchronized, (name_of_methodNamed B.named B.method).1, hnost, ht2, Nat.le_refl _, Nat.le_refl _, v3, v2⟩
          have key := ih x.1 0 (am_en (J x.1).2.2.1 argsV) [] h o1 h2 hz2 (e := e) (below := below) s.heap [] _ h.2.1 h.2.2 C2 v1 va_S.rf (am_LV_entry hal) (am_en_len hal) (Nat.le_refl _) (Nat.le_refl _) (Nat.le_refl _) (Nat.le_refl _)
          rw [Nat.sub_self, Nat.sub_self] at key
          rw [lg_entry_eq]
          exact key
        have goR : ∀ (v : Option Value) (st₀ t : State) (L' : List Loc), st₀.heap = H → am_Qc τ bs D cl kc o1 h2 (argsV.map (am_tv τ)).toArray st₀ (.returned v) t → s.WarmedH t.vm → (∀ q ∈ L', am_A bs q.base) → W p l e R s m args below meth c t.heap (locs ++ L') (h.2.1 - z0 + (h2.2.1 - h.2.1)) (h.2.2 - s0 + (h2.2.2 - h.2.2)) (vx_MQ below (am_Qc τ bs D cl kc out h') (am_XC τ bs D cl kc out h') args s (h'.2.1 - z0) (h'.2.2 - s0) (am_A bs)) (F0 m (pc + 3) sl (v.toList ++ r.map (am_tv τ))) := by
          intro v st₀ t L' h0 hq hW hL'
          obtain ⟨v1, rfl, hv1, w1, f1⟩ := hq
          cases hv1
          change (match am_ps x.2.2 v1 with | some vs => am_run P n j (pc + 3) L (vs ++ r) h2 | none => none) = some (out, h') at h1
          cases hp : am_ps x.2.2 v1 with
          | none => rw [hp] at h1; cases h1
          | some vs =>
            rw [hp] at h1
            have key := ih j (pc + 3) L (vs ++ r) h2 out h' h1 (e := e) (below := below) t.heap (locs ++ L') sl z0 s0 C (w1.moved hW.alike.symm) (am_F_trans h0 hS f1 hL') hL hLl (by omega) (by omega) hc hs
            rw [am_ps_some hp, ← List.map_append]
            exact W.cs (by omega) (by omega) key
        have goX : ∀ (q : Addr) (st₀ t : State) (L' : List Loc) (E : String) (ce : Cell), st₀.heap = H → am_XC τ bs D cl kc o1 h2 E st₀ t → s.WarmedH t.vm → (∀ q ∈ L', am_A bs q.base) → t.heap[q]? = some ce → ce.vm = .none → s.vm.findClass E = some ce.cls → vx_W p l e R s m args below meth c t.heap (locs ++ L') (h.2.1 - z0 + (h2.2.1 - h.2.1)) (h.2.2 - s0 + (h2.2.2 - h.2.2)) (vx_MQ below (am_Qc τ bs D cl kc out h') (am_XC τ bs D cl kc out h') args s (h'.2.1 - z0) (h'.2.2 - s0) (am_A bs)) (F0 m pc sl (r.map (am_tv τ))) q := by
          intro q st₀ t L' E ce h0 hq hW hL' hce hcv hcl
          obtain ⟨E1, rfl, hE3, rfl, w1, f1⟩ := hq
          have hS1 := am_F_trans h0 hS f1 hL'
          change (match am_hn (P.2.2.1 j) pc E1 with | some (some (p, k)) => am_run P n j p (am_no (am_ls1 L k .null) k) [] h2 | some none => some (.inr E1, h2) | none => none) = some (out, h') at h1
          cases hp : am_hn (P.2.2.1 j) pc E1 with
          | none => rw [hp] at h1; cases h1
          | some y => cases y with
            | none =>
              rw [hp] at h1
              cases h1
              have hnil : P.2.2.1 j = [] := by
                unfold am_hn at hp
                split at hp
                · assumption
                · cases hm : am_hf _ pc E1 with
                  | none => rw [hm] at hp; cases hp
                  | some y => rw [hm] at hp; cases hp
              rw [hnil] at hhk
              have hJn : (J j).2.2.2.2.2 = [] := by
                cases hJ : (J j).2.2.2.2.2 with
                | nil => rfl
                | cons a b => rw [hJ] at hhk; exact hhk.elim
              rw [hJn] at htab
              refine vx_out (fun y hy => ?_) hlocks hce hcv hcl (fun t' ht' hal' => ⟨E1, rfl, hE3, rfl, ?_, ?_⟩) hS1.2.2 (by omega) (by omega)
              · rw [List.map_eq_nil_iff.mp htab] at hy
                exact absurd hy List.not_mem_nil
              · rw [ht']
                exact (w1.moved hW.alike.symm).moved hal'
              · exact hS1.F ht'
            | some vs =>
              obtain ⟨qq, kk⟩ := vs
              rw [hp] at h1
              have hfind : am_hf (P.2.2.1 j) pc E1 = some (qq, kk) := by
                unfold am_hn at hp
                split at hp
                · cases hp
                · rename_i hq
                  obtain ⟨y, hy, he⟩ := Option.map_eq_some_iff.mp hp
                  cases he
                  rw [hq]
                  exact hy
              have hhk2 : am_hk Tg (J j).2.2.1 (J j).1.cls (J j).2.1 (c.exceptionTable.toList.map (fun h => (h.startPc, h.endPc, h.handlerPc, h.catchType))) (P.2.2.1 j) := by rw [htab]; exact hhk
              obtain ⟨pre, y, suf, e1, e2, e3, e4, e5, e6, e7, e8⟩ := am_hf_find _ _ hhk2 hfind
              refine vx_catch hown pre y suf e1 (fun z hz => ?_) e3 e4 (hts _ e7) (va_Nw.use rfl (am_cw_xn (hOK.2.2.2.2.1 _ (hcast E1 hE3)))) hce hcv hcl ?_
              · rcases e2 z hz with g | ⟨g1, E', g2, g3, g4⟩
                · exact Or.inl g
                · exact Or.inr ⟨g1, _, hts _ g4, hOK.2.2.2.2.2.2.1 _ (hnc E1 E' hE3 g2 (fun h => g3 h.symm))⟩
              · have hkL : kk < L.length := by rw [hLl]; exact e6
                have fin : ∀ sl' : Array Slot, lv_has sl' L.length ((kk, .ref q) :: ((am_as L).map fun q => (q.1, am_tv τ q.2)).filter (fun q => !(q.1 == kk) && !(q.1 + 1 == kk && q.2.category == 2))) → W p l e R s m args below meth c t.heap (locs ++ L') (h.2.1 - z0 + (h2.2.1 - h.2.1)) (h.2.2 - s0 + (h2.2.2 - h.2.2)) (vx_MQ below (am_Qc τ bs D cl kc out h') (am_XC τ bs D cl kc out h') args s (h'.2.1 - z0) (h'.2.2 - s0) (am_A bs)) (F0 m qq sl' []) := by
                  intro sl' hh
                  have key := ih j qq (am_no (am_ls1 L kk .null) kk) [] h2 out h' h1 (e := e) (below := below) t.heap (locs ++ L') sl' z0 s0 C (w1.moved hW.alike.symm) hS1 (am_LV_hd hkL hh) (by rw [am_no_len, am_ls1_len]; exact hLl) (by omega) (by omega) hc hs
                  exact W.cs (by omega) (by omega) key
                rcases e8 with ⟨g1, g2, rfl⟩ | ⟨g2, rfl⟩
                · exact lv_astore_n hx hb g2 (show ((Fin.ofNat 4 kk : Fin 4) : Nat) = kk from Nat.mod_eq_of_lt g1) (am_LV_has hL) hkL rfl fin
                · exact lv_astore hx hb g2 (am_LV_has hL) hkL rfl fin
        have hlen3 : len = 3 := by
          rcases am_kd2 hk with ⟨k, rfl, -⟩ | ⟨k, rfl, -⟩ | ⟨k, rfl, -⟩ <;> simpa [am_ln] using hlen
        subst hlen3
        -- the ways of linking
        have inst : ∀ (hnn : (parseMethodDescriptor (J x.1).1.desc).map (fun d => d.parameters.length) = some (x.2.1 - 1)) (Cn : String), am_cn cl (P.2.1 x.1).2 = some Cn → (J x.1).2.2.2.2.2 = [] → ∃ a As, argsV = .ref a :: As ∧ PreV s H Cn (τ a) Pc (As.map (am_tv τ)) ∧ PreS s H Pc (.ref (τ a) :: As.map (am_tv τ)) ∧ (As.map (am_tv τ)).length = x.2.1 - 1 ∧ (F0 m pc sl (st.map (am_tv τ))).stack = (As.map (am_tv τ)).reverse ++ .ref (τ a) :: r.map (am_tv τ) ∧
            vx_Met l (J x.1).1 (Cond.code (J x.1).1 (J x.1).2.1 (J x.1).2.2.1 (J x.1).2.2.2.1 :: Tg) { frames := (J x.1).2.2.2.2.1, cells := h2.2.1 - h.2.1, slots := h2.2.2 - h.2.2, locals := 100 * (J x.1).2.2.2.2.1 } Pc (am_Qc τ bs D cl kc o1 h2) (am_XC τ bs D cl kc o1 h2) (h2.2.1 - h.2.1) (h2.2.2 - h.2.2) (am_A bs) ∧ Cond.code (J x.1).1 (J x.1).2.1 (J x.1).2.2.1 (J x.1).2.2.2.1 ∈ Tg := by
          intro hnn Cn hCn hhh
          obtain ⟨a, As, rfl, cellB, hcB, hoB, hclB⟩ := am_recv hG.2.2.2.2.1.2.2 hK w hrc hCn
          refine ⟨a, As, rfl, ⟨hblind, ⟨cellB, hcB, hoB, hclB⟩, hpre⟩, ⟨hblind, hpre⟩, ?_, ?_, ?_, ?_⟩
          · rw [List.length_map]
            simp only [List.length_cons] at hnv
            omega
          · show st.map (am_tv τ) = _
            rw [hstk, List.map_append, List.map_reverse, List.map_cons, List.reverse_cons, List.append_assoc]
            rfl
          · refine am_MetX k4 rfl (fun p e s m args below meth c s₁ B hml2 ht2 hv => bodyW _ (fun w hw => List.mem_cons_of_mem _ hw) p e s m args below meth c s₁ B hml2 (by rw [hhh]; exact ht2) hv)
          · rw [hhh] at k8
            exact k8
        rcases am_kd2 hk with ⟨k, rfl, hx9⟩ | ⟨k, rfl, hx9⟩ | ⟨k, rfl, hx9⟩
        · simp only [am_lk, if_neg hx9] at hlk
          obtain ⟨hhh, Cn, hCn, hl⟩ := hlk
          obtain ⟨a, As, rfl, hpv, hps, hnA, hstA, hM, hcd⟩ := inst k6 Cn hCn hhh
          rcases hl with ⟨l1, l2, l3, l4⟩ | ⟨y, l1, l2, l3, l4, l5⟩ | ⟨l1, ⟨host, l2⟩, l3, l4⟩ | ⟨y, yb, ym, yr, l1, l2, l3, l4, l5, l6, l7, l8⟩
          · exact am_Wcall (vx_runV (n := x.2.1 - 1) CF hM ⟨⟨rfl, rfl, hrf, hrl, pay _ hcd, List.mem_cons_self, hts _ hcd, hts _ k7, k5, hlenp _ k6, hts _ l2⟩, hts _ l3, hts _ l4⟩ hpv rfl hnA hsl hstA hroom hdg hcell) goR goX
          · refine am_Wcall (vx_runU (n := x.2.1 - 1) (x := y) (owner := (J x.1).1.cls) CF hM ⟨⟨rfl, rfl, hrf, hrl, pay _ hcd, List.mem_cons_self⟩, hts _ hcd, hts _ k7, k5, fun sig hsig => hlenp _ k6 sig (by rw [l1]; exact hsig), hts _ l2, hts _ l3, ?_, hts _ l4, hts _ l5⟩ hpv rfl hnA hsl hstA hroom hdg hcell) goR goX
            rw [← l1]
            exact va_Decl.of (hts _ l5) (hts _ hcd)
          · exact am_Wcall (vx_runVN (n := x.2.1 - 1) (host := host) CF hM ⟨⟨⟨rfl, rfl, hrf, hrl, pay _ hcd, List.mem_cons_self⟩, hts _ hcd, hts _ k7, k5, hlenp _ k6, va_Nw.use rfl (hOK.2.2.2.1 _ l2)⟩, hts _ l3, hts _ l4⟩ hpv rfl hnA hsl hstA hroom hdg hcell) goR goX
          · exact am_Wcall (vx_runU (n := x.2.1 - 1) (x := y) (owner := y.cls) CF hM ⟨⟨rfl, rfl, hrf, hrl, pay _ hcd, List.mem_cons_self⟩, hts _ hcd, hts _ k7, l8, fun sig hsig => hlenp _ k6 sig (by rw [← l7]; exact hsig), hts _ l1, hts _ l2, va_Decl.of (hts _ l3) (hts _ l4), hts _ l5, hts _ l6⟩ hpv rfl hnA hsl hstA hroom hdg hcell) goR goX
        · simp only [am_lk, if_neg hx9] at hlk
          obtain ⟨l1, l2⟩ := hlk
          have hst2 : (F0 m pc sl (st.map (am_tv τ))).stack = (argsV.map (am_tv τ)).reverse ++ r.map (am_tv τ) := by
            show st.map (am_tv τ) = _
            rw [hstk, List.map_append, List.map_reverse]
          have hn2 : (argsV.map (am_tv τ)).length = x.2.1 := by rw [List.length_map]; exact hnv
          cases hJ : (J x.1).2.2.2.2.2 with
          | nil =>
            rw [hJ] at k8
            have hM := am_MetX (l := l) (Qc := am_Qc τ bs D cl kc o1 h2) (XC := am_XC τ bs D cl kc o1 h2) (mc := h2.2.1 - h.2.1) (ms := h2.2.2 - h.2.2) (free := am_A bs) (ws' := Tg) (rm := { frames := (J x.1).2.2.2.2.1, cells := h2.2.1 - h.2.1, slots := h2.2.2 - h.2.2, locals := 100 * (J x.1).2.2.2.2.1 }) (Pc := Pc) (cc := (J x.1).2.1) (maxL := (J x.1).2.2.1) (ret := (J x.1).2.2.2.1) k4 rfl (fun p e s m args below meth c s₁ B hml2 ht2 hv => bodyW _ (fun w hw => List.mem_cons_of_mem _ hw) p e s m args below meth c s₁ B hml2 (by rw [hJ]; exact ht2) hv)
            exact am_Wcall (vx_runS (n := x.2.1) CF hM ⟨⟨rfl, rfl, hrf, hrl, pay _ k8, List.mem_cons_self, hts _ k8, hts _ k7, k5, hlenp _ k6, hts _ l1⟩, hts _ l2⟩ ⟨hblind, hpre⟩ rfl hn2 hsl hst2 hroom hdg hcell) goR goX
          | cons a b =>
            rw [hJ] at k8
            obtain ⟨vv, rfl⟩ := am_noth hG n x.1 _ _ _ _ _ _ (by rw [hJ]; exact List.cons_ne_nil a b) hz2
            have hM := am_MetW (l := l) (Qc := am_Qc τ bs D cl kc (.inl vv) h2) (mc := h2.2.1 - h.2.1) (ms := h2.2.2 - h.2.2) (free := am_A bs) (ws' := Tg) (rm := { frames := (J x.1).2.2.2.2.1, cells := h2.2.1 - h.2.1, slots := h2.2.2 - h.2.2, locals := 100 * (J x.1).2.2.2.2.1 }) (Pc := Pc) (cc := (J x.1).2.1) (maxL := (J x.1).2.2.1) (ret := (J x.1).2.2.2.1) (hh := a :: b) k4 rfl (fun p e s m args below meth c s₁ B hml2 ht2 hv => am_Wmono (fun t ht => by
                obtain ⟨o, q1, q2, q3⟩ := ht
                refine ⟨o, q1, q2, ?_⟩
                rcases q3 with q3 | ⟨q, -, E, ce, Ls, ⟨E', he, -⟩, -⟩
                · exact q3
                · cases he) (bodyW _ (fun w hw => List.mem_cons_of_mem _ hw) p e s m args below meth c s₁ B hml2 (by rw [hJ]; exact ht2) hv))
            exact am_WcallS (vx_runSW (n := x.2.1) CF hM ⟨⟨rfl, rfl, hrf, hrl, pay _ k8, List.mem_cons_self⟩, hts _ k8, hts _ k7, k5, hlenp _ k6, hts _ l1, hts _ l2⟩ ⟨hblind, hpre⟩ rfl hn2 hsl hst2 hroom hdg hcell) goR
        · simp only [am_lk, if_neg hx9] at hlk
          obtain ⟨hhh, Cn, hCn, hl⟩ := hlk
          obtain ⟨a, As, rfl, hpv, hps, hnA, hstA, hM, hcd⟩ := inst k6 Cn hCn hhh
          rcases hl with ⟨l1, l2, l3, l4⟩ | ⟨l1, ⟨ci, q, l2, l3, l4⟩, l5, l6, l7, l8⟩
          · rw [l2] at hM hcd
            rcases l4 with l4 | ⟨host, l4⟩
            · exact am_Wcall (vx_runI (n := x.2.1 - 1) CF hM ⟨⟨rfl, rfl, hrf, hrl, pay _ hcd, List.mem_cons_self, hts _ hcd, hts _ k7, k5, hlenp _ k6, hts _ l4⟩, l1, hts _ l3⟩ hps rfl hnA hsl hstA hroom hdg hcell) goR goX
            · exact am_Wcall (vx_runIN (n := x.2.1 - 1) (host := host) CF hM ⟨⟨⟨rfl, rfl, hrf, hrl, pay _ hcd, List.mem_cons_self⟩, hts _ hcd, hts _ k7, k5, hlenp _ k6, va_Nw.use rfl (hOK.2.2.2.1 _ l4)⟩, l1, hts _ l3⟩ hps rfl hnA hsl hstA hroom hdg hcell) goR goX
          · have hCq : Cn = q.1 := by
              rw [l2] at hCn
              simp only [am_cn, if_neg l3, l4] at hCn
              exact (Option.some.inj hCn).symm
            subst hCq
            exact am_Wcall (vx_runSU (n := x.2.1 - 1) (hK.1 ci q l4).2 CF hM ⟨⟨rfl, rfl, hrf, hrl, pay _ hcd, List.mem_cons_self⟩, hts _ l5, hts _ l6, hts _ l7, hts _ l8, hts _ k7, hts _ hcd, l1, hlenp _ k6⟩ hpv rfl hnA hsl hstA hroom hdg hcell) goR goX
    · -- an end
      cases he
      obtain ⟨hx, hb, hml, hown, hts, hrt, hlocks, hname, hnost, htab, hfr, hlo, hbs, hOK⟩ := C
      obtain ⟨hdg, hlen, htg, h10, hlk, htk, hhk⟩ := hG.2.2.2.2.2.1 j pc i len x hf
      have hlen1 := am_kd3 hk
      rw [hlen1] at hlen
      have hlen2 : len = 1 := by simpa using hlen
      subst hlen2
      refine vx_ret ?_
      have fin : ∀ (v : Option Value) (t : State), t.heap = H → s.WarmedH t.vm → am_Qc τ bs D cl kc (.inl v) h args s (.returned (v.map (am_tv τ))) t := fun v t ht hW => ⟨v, rfl, rfl, by rw [ht]; exact w.moved hW.alike, hS.F ht⟩
      unfold am_re at hr
      split at hr
      · cases hr; exact W.vret hx hb (hrt.trans hlk) (fin none) hS.2.2 hdg hlocks
      · split at hr
        · rename_i h0; cases hr
          simp only [am_lk, h0] at hlk
          exact W.iret hx hb (hrt.trans hlk) (fin _) hS.2.2 hdg hlocks
        · rename_i h0; cases hr
          simp only [am_lk, h0] at hlk
          exact am_Wret hx hb (hrt.trans hlk) rfl (fin _) hS.2.2 hdg hlocks
        · rename_i h0; cases hr
          simp only [am_lk, h0] at hlk
          exact am_Wret hx hb (hrt.trans hlk) rfl (fin _) hS.2.2 hdg hlocks
        · rename_i h0; cases hr
          simp only [am_lk, h0] at hlk
          exact am_Wret hx hb (hrt.trans hlk) rfl (fin _) hS.2.2 hdg hlocks
        · cases hr
      · cases hr; exact W.lret hx hb (hrt.trans hlk) (fin _) hS.2.2 hdg hlocks
      · cases hr; exact W.fret hx hb (hrt.trans hlk) (fin _) hS.2.2 hdg hlocks
      · cases hr
        rcases hlk with ⟨nn, hlk⟩ | ⟨tt, hlk⟩
        · exact W.aret hx hb (hrt.trans hlk) (Or.inl ⟨_, rfl⟩) (Or.inr ⟨_, rfl⟩) (fin _) hS.2.2 hdg hlocks
        · exact W.aret hx hb (hrt.trans hlk) (Or.inr ⟨_, rfl⟩) (Or.inr ⟨_, rfl⟩) (fin _) hS.2.2 hdg hlocks
      · cases hr
    · -- a throw
      cases he
      obtain ⟨hx, hb, hml, hown, hts, hrt, hlocks, hname, hnost, htab, hfr, hlo, hbs, hOK⟩ := C
      obtain ⟨hτ, -, hgood, -, -, hprog, -, -, -⟩ := hG
      obtain ⟨hdg, hlen, htg, h10, hlk, htk, hhk⟩ := hprog j pc i len x hf
      obtain ⟨k, rfl, hx2⟩ := am_kd4 hk
      have hlen2 : len = 3 := by simpa [am_ln] using hlen
      subst hlen2
      simp only [am_lk, if_pos hx2] at hlk
      obtain ⟨hE, names, tx, is, ic, sa, ww, hww, d3, d4, d6, d9, hfit, hnames, hnl, hcl, hini, hstr, hat, hhh⟩ := hlk
      have hat' : ∀ w ∈ vx_atS (J j).1.cls ic (am_xn x.1) names, w.before args s = true := by
        intro w hw
        rcases hat w hw with h | ⟨r, hr, rfl⟩
        · exact hts w h
        · exact va_Nw.use (am_cw_on r) (hOK.2.2.2.2.1 r hr)
      have hgood' : ∀ w ∈ Cond.classLink (J j).1.cls k (am_xn x.1) :: Cond.initialized (am_xn x.1) :: vx_atS (J j).1.cls ic (am_xn x.1) names, vx_ot w = true := by
        have g : ∀ w ∈ Tg, vx_ot w = true := fun w hw => by simp only [vx_ot, hgood w hw, Bool.or_true]
        intro w hw
        rcases List.mem_cons.mp hw with rfl | hw
        · exact g _ hcl
        · rcases List.mem_cons.mp hw with rfl | hw
          · exact g _ hini
          · rcases hat w hw with h | ⟨r, hr, rfl⟩
            · exact g w h
            · simp only [vx_ot, am_cw_on, Bool.true_or]
      have hout : ∀ (pc : Nat), ∀ x ∈ c.exceptionTable.toList, covers x pc = false := by
        intro pc x hx
        rw [hhh] at htab
        rw [List.map_eq_nil_iff.mp htab] at hx
        exact absurd hx List.not_mem_nil
      have hsl : sl.size = c.maxLocals := by rw [hml, hL.1, hLl]
      have z1 : h.2.1 + 1 - z0 = h.2.1 - z0 + 1 := by omega
      have z2 : h.2.2 + 6 - s0 = h.2.2 - s0 + 6 := by omega
      have hcat := am_cat τ st hst
      have hxx : ∀ t : State, s.vm.Alike t.vm → t.heap.size = H.size + 1 → (∀ q : Nat, q < H.size → t.heap[q]? = H[q]?) → am_XC τ bs D cl kc (.inr x.1) (h.1, h.2.1 + 1, h.2.2 + 6) (am_xn x.1) s t := fun t hvm hsz hq =>
        ⟨x.1, rfl, hE, rfl, (am_Wd.thrown hτ w hsz hq).moved hvm, Nat.le_trans hS.1 (by omega), fun q h1 h2 => (hq q (Nat.lt_of_lt_of_le h1 hS.1)).trans (hS.2.1 q h1 h2)⟩
      rcases hww with rfl | rfl
      · rw [if_pos rfl] at d4
        exact am_throwS (names := names) (A := am_A bs) hx hb hnost hown hfit hnames (hts _ hcl) (hts _ hini) (hOK.2.1 _ hstr) hat' hgood' hOK.2.2.2.2.2.2.2.1 hOK.2.2.2.2.2.2.2.2.1 hS hsl hdg d3 d4 d6 d9 (hout _) (by omega) (by omega) (by rw [← z1]; exact hc) (by rw [← z2]; exact hs) hlocks hxx hS.2.2 (by rw [z1]; exact Nat.le_refl _) (by rw [z2]; exact Nat.le_refl _)
      · rw [if_neg (by decide)] at d4
        exact am_throwSW (names := names) (A := am_A bs) hx hb hnost hown hfit hnames (hts _ hcl) (hts _ hini) (hOK.2.1 _ hstr) hat' hgood' hOK.2.2.2.2.2.2.2.1 hOK.2.2.2.2.2.2.2.2.1 hS hsl hdg d3 d4 d6 d9 (hout _) (by omega) (by omega) (by rw [← z1]; exact hc) (by rw [← z2]; exact hs) hlocks hxx hS.2.2 (by rw [z1]; exact Nat.le_refl _) (by rw [z2]; exact Nat.le_refl _)
end AMM
