/-! ===== soundness, 1: locals, and the instructions that touch no heap ===== -/
def am_tv (τ : Nat → Nat) : Value → Value
  | .ref a => .ref (τ a)
  | v => v
theorem am_tv_cat (τ : Nat → Nat) (v : Value) : (am_tv τ v).category = v.category := by cases v <;> rfl
def am_LV (τ : Nat → Nat) (sl : Array Slot) (L : am_L) : Prop := sl.size = L.length ∧ lv_wf sl ∧ ∀ (k : Nat) (v : Value), am_lg L k = some v → sl[k]? = some (.val (am_tv τ v))
theorem am_lg_lt {L : am_L} {k : Nat} {v : Value} (h : am_lg L k = some v) : k < L.length := by
  induction L generalizing k with
  | nil => cases h
  | cons x L ih => cases k with
    | zero => simp
    | succ k => simp only [List.length_cons]; have := ih h; omega
theorem am_ls1_len (L : am_L) (i : Nat) (v : Value) : (am_ls1 L i v).length = L.length := by
  induction L generalizing i with
  | nil => rfl
  | cons x L ih =>
    match i, L with
    | 0, _ => rfl
    | 1, [] => rfl
    | 1, _ :: _ => rfl
    | n + 2, L => simp only [am_ls1, List.length_cons, ih]
theorem am_no_len (L : am_L) (i : Nat) : (am_no L i).length = L.length := by
  induction L generalizing i with
  | nil => rfl
  | cons x L ih => cases i with
    | zero => rfl
    | succ i => simp only [am_no, List.length_cons, ih]
theorem am_no_get {L : am_L} {i k : Nat} {w : Value} (h : am_lg (am_no L i) k = some w) : k ≠ i ∧ am_lg L k = some w := by
  induction L generalizing i k with
  | nil => cases h
  | cons x L ih => cases i with
    | zero => cases k with
      | zero => cases h
      | succ k => exact ⟨by omega, h⟩
    | succ i => cases k with
      | zero => exact ⟨by omega, h⟩
      | succ k =>
        obtain ⟨h1, h2⟩ := ih (i := i) (k := k) h
        exact ⟨by omega, h2⟩
theorem am_kl_some {x : Option Value} {w : Value} (h : am_kl x = some w) : x = some w ∧ w.category ≠ 2 := by
  match x, h with
  | some (.int _), h => cases h; exact ⟨rfl, by simp [Value.category]⟩
  | some (.float _), h => cases h; exact ⟨rfl, by simp [Value.category]⟩
  | some .null, h => cases h; exact ⟨rfl, by decide⟩
  | some (.ref _), h => cases h; exact ⟨rfl, by simp [Value.category]⟩
  | some (.retAddr _), h => cases h; exact ⟨rfl, by simp [Value.category]⟩
theorem am_ls1_get {L : am_L} {i k : Nat} {v w : Value} (h : am_lg (am_ls1 L i v) k = some w) : (k = i ∧ w = v) ∨ (k ≠ i ∧ am_lg L k = some w ∧ (k + 1 = i → w.category ≠ 2)) := by
  induction L generalizing i k with
  | nil => cases h
  | cons x L ih =>
    match i, L with
    | 0, L => cases k with
      | zero => exact Or.inl ⟨rfl, (Option.some.inj h).symm⟩
      | succ k => exact Or.inr ⟨by omega, h, fun q => by omega⟩
    | 1, [] =>
      cases k with
      | zero =>
        obtain ⟨h1, h2⟩ := am_kl_some (show am_kl x = some w from h)
        exact Or.inr ⟨by omega, h1, fun _ => h2⟩
      | succ k => cases h
    | 1, y :: L =>
      match k with
      | 0 =>
        obtain ⟨h1, h2⟩ := am_kl_some (show am_kl x = some w from h)
        exact Or.inr ⟨by omega, h1, fun _ => h2⟩
      | 1 => exact Or.inl ⟨rfl, (Option.some.inj h).symm⟩
      | k + 2 => exact Or.inr ⟨by omega, h, fun q => by omega⟩
    | n + 2, L => cases k with
      | zero => exact Or.inr ⟨by omega, h, fun q => by omega⟩
      | succ k =>
        rcases ih (i := n + 1) (k := k) h with ⟨h1, h2⟩ | ⟨h1, h2, h3⟩
        · exact Or.inl ⟨by omega, h2⟩
        · exact Or.inr ⟨by omega, h2, fun q => h3 (by omega)⟩
def am_as (L : am_L) : List (Nat × Value) := (List.range L.length).filterMap fun k => (am_lg L k).map fun v => (k, v)
theorem am_as_mem {L : am_L} {k : Nat} {v : Value} : (k, v) ∈ am_as L ↔ am_lg L k = some v := by
  unfold am_as
  constructor
  · intro h
    obtain ⟨j, -, hj⟩ := List.mem_filterMap.mp h
    cases hz : am_lg L j with
    | none => rw [hz] at hj; cases hj
    | some w => rw [hz] at hj; cases hj; exact hz
  · intro h
    exact List.mem_filterMap.mpr ⟨k, List.mem_range.mpr (am_lg_lt h), by rw [h]; rfl⟩
theorem am_LV_has {τ : Nat → Nat} {sl : Array Slot} {L : am_L} (h : am_LV τ sl L) : lv_has sl L.length ((am_as L).map fun q => (q.1, am_tv τ q.2)) := by
  refine ⟨h.1, h.2.1, fun q hq => ?_⟩
  obtain ⟨⟨k, v⟩, h1, rfl⟩ := List.mem_map.mp hq
  exact h.2.2 k v (am_as_mem.mp h1)
theorem am_LV_st1 {τ : Nat → Nat} {sl' : Array Slot} {L : am_L} {i : Nat} {v : Value} (hi : i < L.length) (h2 : lv_has sl' L.length ((i, am_tv τ v) :: ((am_as L).map fun q => (q.1, am_tv τ q.2)).filter (fun q => !(q.1 == i) && !(q.1 + 1 == i && q.2.category == 2)))) : am_LV τ sl' (am_ls1 L i v) := by
  refine ⟨by rw [am_ls1_len]; exact h2.1, h2.2.1, fun k w hk => ?_⟩
  rcases am_ls1_get hk with ⟨rfl, rfl⟩ | ⟨g1, g2, g3⟩
  · exact h2.2.2 _ List.mem_cons_self
  · refine h2.2.2 (k, am_tv τ w) (List.mem_cons_of_mem _ (List.mem_filter.mpr ⟨List.mem_map.mpr ⟨(k, w), am_as_mem.mpr g2, rfl⟩, ?_⟩))
    have hc : (am_tv τ w).category = w.category := am_tv_cat τ w
    simp only [Bool.and_eq_true, Bool.not_eq_true', beq_eq_false_iff_ne, ne_eq, Bool.and_eq_false_imp, beq_iff_eq]
    exact ⟨g1, fun q => by rw [hc]; simpa using g3 q⟩
theorem am_LV_st2 {τ : Nat → Nat} {sl' : Array Slot} {L : am_L} {i : Nat} {v : Value} (hi : i + 1 < L.length) (h2 : lv_has sl' L.length ((i, am_tv τ v) :: ((am_as L).map fun q => (q.1, am_tv τ q.2)).filter (fun q => !(q.1 == i) && (!(q.1 == i + 1) && !(q.1 + 1 == i && q.2.category == 2))))) : am_LV τ sl' (am_no (am_ls1 L i v) (i + 1)) := by
  refine ⟨by rw [am_no_len, am_ls1_len]; exact h2.1, h2.2.1, fun k w hk => ?_⟩
  obtain ⟨k1, hk⟩ := am_no_get hk
  rcases am_ls1_get hk with ⟨rfl, rfl⟩ | ⟨g1, g2, g3⟩
  · exact h2.2.2 _ List.mem_cons_self
  · refine h2.2.2 (k, am_tv τ w) (List.mem_cons_of_mem _ (List.mem_filter.mpr ⟨List.mem_map.mpr ⟨(k, w), am_as_mem.mpr g2, rfl⟩, ?_⟩))
    have hc : (am_tv τ w).category = w.category := am_tv_cat τ w
    simp only [Bool.and_eq_true, Bool.not_eq_true', beq_eq_false_iff_ne, ne_eq, Bool.and_eq_false_imp, beq_iff_eq]
    exact ⟨g1, k1, fun q => by rw [hc]; simpa using g3 q⟩
theorem am_LV_no {τ : Nat → Nat} {sl : Array Slot} {L : am_L} (i : Nat) (h : am_LV τ sl L) : am_LV τ sl (am_no L i) := ⟨by rw [am_no_len]; exact h.1, h.2.1, fun k w hk => h.2.2 k w (am_no_get hk).2⟩

/-- how long an instruction is (0: any) -/
def am_ln (i : Instr) : Nat := match i with
  | .bipush _ => 2
  | .ldc _ => 2
  | .iload _ => 2
  | .lload _ => 2
  | .fload _ => 2
  | .aload _ => 2
  | .istore _ => 2
  | .lstore _ => 2
  | .fstore _ => 2
  | .astore _ => 2
  | .newarray _ => 2
  | .sipush _ => 3
  | .ldc_w _ => 3
  | .iinc _ _ => 3
  | .goto _ => 3
  | .ifCond _ _ => 3
  | .if_icmp _ _ => 3
  | .if_acmp _ _ => 3
  | .ifnull _ => 3
  | .ifnonnull _ => 3
  | .getstatic _ => 3
  | .getfield _ => 3
  | .putfield _ => 3
  | .invokevirtual _ => 3
  | .invokespecial _ => 3
  | .invokestatic _ => 3
  | .new _ => 3
  | .anewarray _ => 3
  | .checkcast _ => 3
  | .multianewarray _ _ => 4
  | .tableswitch _ _ _ _ => 0
  | _ => 1
/-- where a branch goes -/
def am_tg (pc : Nat) (i : Instr) (x : Nat × Nat × Nat) : Bool := match i with
  | .goto o => decide ((pc : Int) + o = (x.1 : Int))
  | .ifCond _ o => decide ((pc : Int) + o = (x.1 : Int))
  | .if_icmp _ o => decide ((pc : Int) + o = (x.1 : Int))
  | .if_acmp _ o => decide ((pc : Int) + o = (x.1 : Int))
  | .ifnull _ => true
  | .ifnonnull o => decide ((pc : Int) + o = (x.1 : Int))
  | .tableswitch d lo hi os => decide (0 ≤ (pc : Int) + d) && os.toList.all (fun o => decide (0 ≤ (pc : Int) + o)) && decide (os.size = (hi - lo + 1).toNat)
  | _ => true
section AMP
variable {p : Program} {l : Launch} {e : Env} {R : Room} {s : State} {m : MethodId} {args : Array Value} {below : List Frame} {meth : Method} {c : Code} {H : Heap} {locs : List Loc} {cells slots : Nat} {Q : State → Prop}
variable {cc : ByteArray} {τ : Nat → Nat}
theorem am_ldcSW (hexec : p.tables.exec = Jvm.exec) (hb : c.code = cc) {pc : Nat} {ls : Array Slot} {rest : List Value} {own tx : String} {index q : Nat} (hown : s.vm.findClass own = some m.cls) (hZ : vk_R own index tx q s) (hdg : decode cc pc = .ok (.ldc_w index, 3))
    (k : W p l e R s m args below meth c H locs cells slots Q (F0 m (pc + 3) ls (.ref q :: rest))) : W p l e R s m args below meth c H locs cells slots Q (F0 m pc ls rest) := by
  intro T hT X
  obtain ⟨t, a1, b1⟩ := k T hT X
  exact ⟨t, Stand.ldcStringW X hexec hown (text := tx) (a := q) hZ.1 hZ.2 (g := F0 m pc ls rest) rfl (by rw [hb]; exact hdg) t a1, b1⟩
set_option maxHeartbeats 8000000 in
theorem am_pu_snd (hx : p.tables.exec = Jvm.exec) (hb : c.code = cc) {pc len : Nat} {i : Instr} {x : Nat × Nat × Nat} {L L' : am_L} {sl : Array Slot} {st st' : List Value} {pc' : Nat} (hdg : decode cc pc = .ok (i, len)) (hlen : am_ln i = 0 ∨ len = am_ln i) (htg : am_tg pc i x = true)
    (hldc : ∀ k q r sl', i = .ldc k → x.1 = 0 → x.2.1 = q → W p l e R s m args below meth c H locs cells slots Q (F0 m (pc + 2) sl' (.ref (τ q) :: r)) → W p l e R s m args below meth c H locs cells slots Q (F0 m pc sl' r))
    (hldci : ∀ k r sl', i = .ldc k → ¬ x.1 = 0 → W p l e R s m args below meth c H locs cells slots Q (F0 m (pc + 2) sl' (.int (nI x.2.1) :: r)) → W p l e R s m args below meth c H locs cells slots Q (F0 m pc sl' r))
    (hldcw : ∀ k q r sl', i = .ldc_w k → x.1 = 0 → x.2.1 = q → W p l e R s m args below meth c H locs cells slots Q (F0 m (pc + 3) sl' (.ref (τ q) :: r)) → W p l e R s m args below meth c H locs cells slots Q (F0 m pc sl' r))
    (hldcwi : ∀ k r sl', i = .ldc_w k → ¬ x.1 = 0 → W p l e R s m args below meth c H locs cells slots Q (F0 m (pc + 3) sl' (.int (nI x.2.1) :: r)) → W p l e R s m args below meth c H locs cells slots Q (F0 m pc sl' r))
    (hgs : ∀ k r sl', i = .getstatic k → W p l e R s m args below meth c H locs cells slots Q (F0 m (pc + 3) sl' (am_tv τ (am_gz x) :: r)) → W p l e R s m args below meth c H locs cells slots Q (F0 m pc sl' r))
    (hinj : ∀ a b, 200 ≤ a → a < 206 → 200 ≤ b → b < 206 → τ a = τ b → a = b)
    (hL : am_LV τ sl L) (hp : am_pu pc i x L st = some (pc', L', st')) (kk : ∀ sl' : Array Slot, am_LV τ sl' L' → W p l e R s m args below meth c H locs cells slots Q (F0 m pc' sl' (st'.map (am_tv τ)))) : W p l e R s m args below meth c H locs cells slots Q (F0 m pc sl (st.map (am_tv τ))) := by
  unfold am_pu at hp
  split at hp
  all_goals (first | (simp [am_ln] at hlen; subst hlen) | skip)
  · cases hp; exact lv_iconst hx hb hdg rfl (kk sl hL)
  · cases hp; exact lv_bipush hx hb hdg rfl (kk sl hL)
  · cases hp; exact lv_sipush hx hb hdg rfl (kk sl hL)
  · cases hp; exact lv_lconst hx hb hdg rfl (kk sl hL)
  · split at hp
    · rename_i hn; cases hp; subst hn; exact lv_fconst0 hx hb hdg (kk sl hL)
    · cases hp
  · split at hp
    · rename_i h0; cases hp; exact hldc _ _ _ _ rfl h0 rfl (kk sl hL)
    · rename_i h0; cases hp; exact hldci _ _ _ rfl h0 (kk sl hL)
  · split at hp
    · rename_i h0; cases hp; exact hldcw _ _ _ _ rfl h0 rfl (kk sl hL)
    · rename_i h0; cases hp; exact hldcwi _ _ _ rfl h0 (kk sl hL)
  · cases hp; exact hgs _ _ _ rfl (kk sl hL)
  · split at hp
    · rename_i hv; cases hp; exact lv_iload_n hx hb hdg rfl (hL.2.2 _ _ hv) (kk sl hL)
    · cases hp
  · split at hp
    · rename_i hv; cases hp; exact lv_iload hx hb hdg (hL.2.2 _ _ hv) (kk sl hL)
    · cases hp
  · split at hp
    · rename_i hv; cases hp; exact lv_lload_n hx hb hdg rfl (hL.2.2 _ _ hv) (kk sl hL)
    · cases hp
  · split at hp
    · rename_i hv; cases hp; exact lv_lload hx hb hdg (hL.2.2 _ _ hv) (kk sl hL)
    · cases hp
  · split at hp
    · rename_i hv; cases hp; exact lv_fload_n hx hb hdg rfl (hL.2.2 _ _ hv) (kk sl hL)
    · cases hp
  · split at hp
    · rename_i hv; cases hp; exact lv_fload hx hb hdg (hL.2.2 _ _ hv) (kk sl hL)
    · cases hp
  · split at hp
    · rename_i hv; cases hp; exact lv_aload_n hx hb hdg rfl (hL.2.2 _ _ hv) (kk sl hL)
    · cases hp
  · split at hp
    · rename_i hv; cases hp; exact lv_aload hx hb hdg (hL.2.2 _ _ hv) (kk sl hL)
    · cases hp
  · split at hp
    · rename_i hk; cases hp; exact lv_istore_n hx hb hdg rfl (am_LV_has hL) hk rfl (fun ls' h' => kk ls' (am_LV_st1 hk h'))
    · cases hp
  · split at hp
    · rename_i hk; cases hp; exact lv_istore hx hb hdg (am_LV_has hL) hk rfl (fun ls' h' => kk ls' (am_LV_st1 hk h'))
    · cases hp
  · split at hp
    · rename_i hk; cases hp; exact lv_fstore_n hx hb hdg rfl (am_LV_has hL) hk rfl (fun ls' h' => kk ls' (am_LV_st1 hk h'))
    · cases hp
  · split at hp
    · rename_i hk; cases hp; exact lv_fstore hx hb hdg (am_LV_has hL) hk rfl (fun ls' h' => kk ls' (am_LV_st1 hk h'))
    · cases hp
  · split at hp
    · rename_i hk; cases hp; exact lv_astore_n hx hb hdg rfl (am_LV_has hL) hk rfl (fun ls' h' => kk ls' (am_LV_st1 hk h'))
    · cases hp
  · split at hp
    · rename_i hk; cases hp; exact lv_astore hx hb hdg (am_LV_has hL) hk rfl (fun ls' h' => kk ls' (am_LV_st1 hk h'))
    · cases hp
  · split at hp
    · rename_i hk; cases hp; exact lv_lstore_n hx hb hdg rfl (am_LV_has hL) hk rfl (fun ls' h' => kk ls' (am_LV_st2 hk h'))
    · cases hp
  · split at hp
    · rename_i hk; cases hp; exact lv_lstore hx hb hdg (am_LV_has hL) hk rfl (fun ls' h' => kk ls' (am_LV_st2 hk h'))
    · cases hp
  · split at hp
    · rename_i v hv
      split at hp
      · rename_i hk
        cases hp
        obtain ⟨z, hz⟩ := List.getElem?_of_mem (List.mem_map.mpr ⟨_, am_as_mem.mpr hv, rfl⟩ : (_, am_tv τ (.int v)) ∈ (am_as L).map fun q => (q.1, am_tv τ q.2))
        exact lv_iinc hx hb hdg (am_LV_has hL) hz rfl hk rfl (fun ls' h' => kk ls' (am_LV_st1 hk h'))
      · cases hp
    · cases hp
  · cases hp; exact lv_iadd hx hb hdg (kk sl hL)
  · cases hp; exact lv_isub hx hb hdg (kk sl hL)
  · cases hp; exact lv_imul hx hb hdg (kk sl hL)
  · cases hp; exact lv_iand hx hb hdg (kk sl hL)
  · cases hp; exact lv_ior hx hb hdg (kk sl hL)
  · cases hp; exact lv_ixor hx hb hdg (kk sl hL)
  · cases hp; exact lv_ishl hx hb hdg (kk sl hL)
  · cases hp; exact lv_ishr hx hb hdg (kk sl hL)
  · cases hp; exact lv_iushr hx hb hdg rfl (kk sl hL)
  · split at hp
    · cases hp
    · rename_i h0; cases hp; exact lv_idiv hx hb hdg h0 (kk sl hL)
  · split at hp
    · cases hp
    · rename_i h0; cases hp; exact lv_irem hx hb hdg h0 (kk sl hL)
  · cases hp; exact lv_ineg hx hb hdg (kk sl hL)
  · cases hp; exact lv_i2l hx hb hdg rfl (kk sl hL)
  · cases hp; exact lv_l2i hx hb hdg rfl (kk sl hL)
  · cases hp; exact lv_i2b hx hb hdg rfl (kk sl hL)
  · cases hp; exact lv_i2c hx hb hdg rfl (kk sl hL)
  · cases hp; exact lv_i2f hx hb hdg (kk sl hL)
  · split at hp
    · rename_i h0; cases hp; exact lv_f2d hx hb hdg h0 (kk sl hL)
    · cases hp
  · split at hp
    · rename_i h0; cases hp; exact lv_fdiv hx hb hdg h0 (kk sl hL)
    · cases hp
  · cases hp; exact lv_fcmp hx hb hdg (kk sl hL)
  · cases hp; exact lv_dcmp hx hb hdg (kk sl hL)
  · cases hp; exact lv_lor hx hb hdg (kk sl hL)
  · cases hp; exact lv_lshl hx hb hdg rfl (kk sl hL)
  · cases hp; exact lv_lshr hx hb hdg rfl (kk sl hL)
  · cases hp; exact W.lcmp hx hb hdg (kk sl hL)
  · split at hp
    · rename_i h0; cases hp; exact lv_dup hx hb hdg ((am_tv_cat τ _).trans h0) (kk sl hL)
    · cases hp
  · split at hp
    · rename_i h0; cases hp; exact lv_pop hx hb hdg ((am_tv_cat τ _).trans h0) (kk sl hL)
    · cases hp
  · split at hp
    · rename_i h0; cases hp; exact lv_dup_x1 hx hb hdg ((am_tv_cat τ _).trans h0.1) ((am_tv_cat τ _).trans h0.2) (kk sl hL)
    · cases hp
  · split at hp
    · rename_i h0; cases hp; exact lv_dup2_11 hx hb hdg ((am_tv_cat τ _).trans h0.1) ((am_tv_cat τ _).trans h0.2) (kk sl hL)
    · cases hp
  · cases hp; exact lv_goto hx hb hdg (of_decide_eq_true htg) (kk sl hL)
  · cases hp; exact lv_if_eq hx hb hdg (of_decide_eq_true htg) (fun q => by rw [if_pos q] at kk; exact kk sl hL) (fun q => by rw [if_neg q] at kk; exact kk sl hL)
  · cases hp; exact lv_if_ne hx hb hdg (of_decide_eq_true htg) (fun q => by rw [if_pos q] at kk; exact kk sl hL) (fun q => by rw [if_neg (fun z => z q)] at kk; exact kk sl hL)
  · cases hp; exact lv_if_lt hx hb hdg (of_decide_eq_true htg) (fun q => by rw [if_pos q] at kk; exact kk sl hL) (fun q => by rw [if_neg q] at kk; exact kk sl hL)
  · cases hp; exact lv_if_ge hx hb hdg (of_decide_eq_true htg) (fun q => by rw [if_pos q] at kk; exact kk sl hL) (fun q => by rw [if_neg q] at kk; exact kk sl hL)
  · cases hp; exact lv_if_gt hx hb hdg (of_decide_eq_true htg) (fun q => by rw [if_pos q] at kk; exact kk sl hL) (fun q => by rw [if_neg q] at kk; exact kk sl hL)
  · cases hp; exact lv_if_le hx hb hdg (of_decide_eq_true htg) (fun q => by rw [if_pos q] at kk; exact kk sl hL) (fun q => by rw [if_neg q] at kk; exact kk sl hL)
  · cases hp; exact lv_icmp_eq hx hb hdg (of_decide_eq_true htg) (fun q => by rw [if_pos q] at kk; exact kk sl hL) (fun q => by rw [if_neg q] at kk; exact kk sl hL)
  · cases hp; exact lv_icmp_ne hx hb hdg (of_decide_eq_true htg) (fun q => by rw [if_pos q] at kk; exact kk sl hL) (fun q => by rw [if_neg (fun z => z q)] at kk; exact kk sl hL)
  · cases hp; exact lv_icmp_lt hx hb hdg (of_decide_eq_true htg) (fun q => by rw [if_pos q] at kk; exact kk sl hL) (fun q => by rw [if_neg q] at kk; exact kk sl hL)
  · cases hp; exact lv_icmp_ge hx hb hdg (of_decide_eq_true htg) (fun q => by rw [if_pos q] at kk; exact kk sl hL) (fun q => by rw [if_neg q] at kk; exact kk sl hL)
  · cases hp; exact lv_icmp_gt hx hb hdg (of_decide_eq_true htg) (fun q => by rw [if_pos q] at kk; exact kk sl hL) (fun q => by rw [if_neg q] at kk; exact kk sl hL)
  · cases hp; exact lv_icmp_le hx hb hdg (of_decide_eq_true htg) (fun q => by rw [if_pos q] at kk; exact kk sl hL) (fun q => by rw [if_neg q] at kk; exact kk sl hL)
  · split at hp
    · rename_i o b a r h0
      cases hp
      exact lv_acmp_eq (rx := some (τ a)) (ry := some (τ b)) hx hb hdg (of_decide_eq_true htg) (fun q => by rw [if_pos (hinj a b h0.1 h0.2.1 h0.2.2.1 h0.2.2.2 (Option.some.inj q))] at kk; exact kk sl hL) (fun q => by rw [if_neg (fun z => q (by rw [z]))] at kk; exact kk sl hL)
    · cases hp
  · split at hp
    · rename_i o b a r h0
      cases hp
      exact lv_acmp_ne (rx := some (τ a)) (ry := some (τ b)) hx hb hdg (of_decide_eq_true htg) (fun q => by rw [if_pos (fun z => q (by rw [z]))] at kk; exact kk sl hL) (fun q => by rw [if_neg (fun z => z (hinj a b h0.1 h0.2.1 h0.2.2.1 h0.2.2.2 (Option.some.inj q)))] at kk; exact kk sl hL)
    · cases hp
  · cases hp; exact lv_ifnonnull hx hb hdg (of_decide_eq_true htg) (kk sl hL)
  · cases hp; exact lv_ifnull hx hb hdg (kk sl hL)
  · cases hp
    rename_i d lo hi os a
    simp only [am_tg, Bool.and_eq_true, decide_eq_true_eq, List.all_eq_true] at htg
    obtain ⟨⟨hd, ho⟩, hs⟩ := htg
    by_cases hc : a.toInt < lo ∨ hi < a.toInt
    · refine lv_tableOut hx hb hdg hc (tgt := am_sw pc d lo hi os a) (by rw [am_sw, if_pos hc]; omega) (kk sl hL)
    · have hlt : (a.toInt - lo).toNat < os.size := by rw [hs]; omega
      have hg : os[(a.toInt - lo).toNat]? = some os[(a.toInt - lo).toNat] := Array.getElem?_eq_getElem hlt
      have hn := ho os[(a.toInt - lo).toNat] (Array.mem_toList_iff.mpr (Array.getElem_mem hlt))
      refine lv_tableIn hx hb hdg (fun q => hc (Or.inl q)) (fun q => hc (Or.inr q)) hg (tgt := am_sw pc d lo hi os a) (by rw [am_sw, if_neg hc, hg]; dsimp only; omega) (kk sl hL)
  · cases hp; exact lv_null hx hb hdg (kk sl hL)
  · cases hp
end AMP
theorem am_pu_len {pc : Nat} {i : Instr} {x : Nat × Nat × Nat} {L L' : am_L} {st st' : List Value} {pc' : Nat} (hp : am_pu pc i x L st = some (pc', L', st')) : L'.length = L.length := by
  unfold am_pu at hp
  repeat' split at hp
  all_goals (first | (cases hp; done) | (cases hp; rfl) | (cases hp; simp only [am_ls1_len, am_no_len]))
