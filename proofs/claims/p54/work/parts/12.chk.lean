/-! ===== the checks of the tables, and what they say ===== -/
def tb_nm : List String := ["java/lang/RuntimeException", "java/lang/Exception"]
def tb_ty : Nat → FieldType → Bool
  | 0, .int => true
  | 1, .long => true
  | 2, .object _ => true
  | 2, .array _ => true
  | 3, .boolean => true
  | 4, .byte => true
  | _, _ => false
theorem tb_ty_ok {k : Nat} {ty : FieldType} : tb_ty k ty = true → (match k with | 0 => ty = .int | 1 => ty = .long | 2 => (∃ n, ty = .object n) ∨ (∃ t, ty = .array t) | 3 => ty = .boolean | 4 => ty = .byte | _ => False) := by
  intro h
  unfold tb_ty at h
  split at h <;> first | rfl | exact Or.inl ⟨_, rfl⟩ | exact Or.inr ⟨_, rfl⟩ | cases h
/-- of a method that is called -/
def tb_jk (t : Nat) : Bool := plainFor (tb_J t).1 && decide ((tb_J t).1.cls ≠ "java/lang/invoke/MethodHandle" ∧ (tb_J t).1.cls ≠ "java/lang/invoke/VarHandle") && decide ((tb_J t).2.2.1 ≤ 80) &&
  decide ((parseMethodDescriptor (tb_J t).1.desc).map (fun d => d.parameters.length) = some (tb_naf t))
/-- a call's target -/
def tb_tk (j : Nat) (i : Instr) (x : Nat × Nat × Nat) (hs : List Nat) : Bool := decide ((tb_J x.1).2.2.2.2.1 < (tb_J j).2.2.2.2.1) && decide (x.1 < 500) &&
  decide (some (tb_naf x.1) = some (match i with | .invokestatic _ => x.2.1 | _ => x.2.1 - 1)) && tb_in (hs.getD (hs.length - 2) 0) (.initialized (tb_J x.1).1.cls) &&
  (match (tb_J x.1).2.2.2.2.2 with | [] => tb_in (hs.getD (hs.length - 1) 0) (.code (tb_J x.1).1 (tb_J x.1).2.1 (tb_J x.1).2.2.1 (tb_J x.1).2.2.2.1) | hh => tb_in (hs.getD (hs.length - 1) 0) (.codeWith (tb_J x.1).1 (tb_J x.1).2.1 (tb_J x.1).2.2.1 (tb_J x.1).2.2.2.1 hh))
def tb_lk (j pc : Nat) (i : Instr) (x : Nat × Nat × Nat) (hs : List Nat) : Bool := match i with
  | .ldc k => if x.1 = 0 then (match tb_S[hs.getD 0 0]? with | some r => decide (r.1 = (tb_J j).1.cls) && decide (r.2.1 = k) && decide (r.2.2.2 = x.2.1) | none => false) else tb_in (hs.getD 0 0) (.constant (tb_J j).1.cls k (nI x.2.1))
  | .ldc_w k => if x.1 = 0 then (match tb_S[hs.getD 0 0]? with | some r => decide (r.1 = (tb_J j).1.cls) && decide (r.2.1 = k) && decide (r.2.2.2 = x.2.1) | none => false) else tb_in (hs.getD 0 0) (.constant (tb_J j).1.cls k (nI x.2.1))
  | .getstatic k => (match tb_st[hs.getD 0 0]? with | some r => decide (r.2.2.2 = am_gz x) && tb_in (hs.getD 1 0) (.fieldLink (tb_J j).1.cls k r.1 r.2.1 r.2.2.1) | none => false)
  | .getfield k => if x.1 = 50 then ((decide (x.2.1 = 0) && tb_in (hs.getD 0 0) (.fieldLink (tb_J j).1.cls k "java/lang/String" "value" "[B")) || (decide (x.2.1 = 1) && tb_in (hs.getD 0 0) (.fieldLink (tb_J j).1.cls k "java/lang/String" "coder" "B")))
      else decide (x.1 < 50) && (match tb_cl[x.1]? with | some q => decide (x.2.1 < q.2.2) && (if hs.getD 0 0 = 1000000 then (match tb_fn[hs.getD 1 0]? with | some r => decide (r.1 = (tb_J j).1.cls) && decide (r.2.1 = k) && decide (r.2.2.1 = ⟨(q.2.1 x.2.1).1, (q.2.1 x.2.1).2.1, (q.2.1 x.2.1).2.2.1⟩) | none => false) else tb_in (hs.getD 0 0) (.fieldLink (tb_J j).1.cls k (q.2.1 x.2.1).1 (q.2.1 x.2.1).2.1 (q.2.1 x.2.1).2.2.1)) | none => false)
  | .putfield k => decide (x.1 ≤ 50) && (match tb_cl[if x.1 = 50 then 14 else x.1]? with | some q => decide (x.2.1 < q.2.2) && tb_in (hs.getD 0 0) (.fieldLink (tb_J j).1.cls k (q.2.1 x.2.1).1 (q.2.1 x.2.1).2.1 (q.2.1 x.2.1).2.2.1) &&
      (!(q.2.1 x.2.1).2.2.2 || (decide ((tb_J j).1.name = "<init>") && decide ((q.2.1 x.2.1).1 = (tb_J j).1.cls))) && (match parseFieldDescriptor (q.2.1 x.2.1).2.2.1 with | some ty => tb_ty x.2.2 ty | none => false) | none => false)
  | .new k => if x.2.2 = 1 then
      decide (x.1 < 3) && decide (tb_th[hs.getD 0 0]? = some ((tb_J j).1.cls, hs.getD 2 0, x.1)) && decide (hs.getD 3 0 = 2 ∨ hs.getD 3 0 = 3) && decide (decode (tb_J j).2.1 (pc + 3) = .ok (.dup, 1)) &&
      decide (decode (tb_J j).2.1 (pc + 4) = .ok (if hs.getD 3 0 = 2 then .ldc (hs.getD 1 0) else .ldc_w (hs.getD 1 0), hs.getD 3 0)) && decide (decode (tb_J j).2.1 (pc + 4 + hs.getD 3 0) = .ok (.invokespecial (hs.getD 2 0), 3)) && decide (decode (tb_J j).2.1 (pc + 7 + hs.getD 3 0) = .ok (.athrow, 1)) &&
      (match tb_S[hs.getD 4 0]? with | some r => decide (r.1 = (tb_J j).1.cls) && decide (r.2.1 = hs.getD 1 0) | none => false) && tb_in (hs.getD 5 0) (.classLink (tb_J j).1.cls k (am_xn x.1)) && tb_in (hs.getD 6 0) (.initialized (am_xn x.1)) && decide ((tb_J j).2.2.2.2.2 = [])
    else decide (x.1 ≤ 50) && (match tb_cl[if x.1 = 50 then 14 else x.1]? with | some q => decide (q.2.2 = x.2.1) && tb_in (hs.getD 0 0) (.classLink (tb_J j).1.cls k q.1) && tb_in (hs.getD 1 0) (.instantiable q.1 x.2.1) && tb_in (hs.getD 2 0) (.initialized q.1) | none => false)
  | .newarray at_ => decide (x.1 ≤ 3) && tb_in (hs.getD 0 0) (.arrayClass (newarray.typeOf at_)) && decide (am_kt x.1 = newarray.typeOf at_)
  | .anewarray k => (match tb_ao[hs.getD 0 0]? with | some (.object C) => tb_in (hs.getD 1 0) (.classLink (tb_J j).1.cls k C) && decide (am_kt x.1 = .object C) | _ => false)
  | .multianewarray k _ => (match tb_ao[hs.getD 0 0]? with | some (.array ty) => tb_in (hs.getD 1 0) (.classLink (tb_J j).1.cls k ("[" ++ (FieldType.array ty).toString)) && tb_in (hs.getD 2 0) (.arrayClass ty) && decide ((x.1 = 8 ∧ ty = .int) ∨ (x.1 = 9 ∧ ty = .boolean)) | _ => false)
  | .checkcast k => tb_in (hs.getD 0 0) (.classLink (tb_J j).1.cls k "[B")
  | .invokevirtual k => if x.1 = 999997 then tb_in (hs.getD 0 0) (.methodLink (tb_J j).1.cls k ⟨"[B", "clone", "()Ljava/lang/Object;"⟩) && tb_in (hs.getD 1 0) (.sameMethod "[B" "java/lang/Object" "clone" "()Ljava/lang/Object;") && tb_in (hs.getD 2 0) (.native ⟨"java/lang/Object", "clone", "()Ljava/lang/Object;"⟩) && tb_in (hs.getD 3 0) (.instanceMethod ⟨"java/lang/Object", "clone", "()Ljava/lang/Object;"⟩) && tb_in (hs.getD 4 0) (.selects "[B" ⟨"[B", "clone", "()Ljava/lang/Object;"⟩ ⟨"java/lang/Object", "clone", "()Ljava/lang/Object;"⟩) else decide ((tb_J x.1).2.2.2.2.2 = []) && (match am_cn tb_cl (tb_rcf x.1) with
    | some C => if hs.getD 0 0 = 0 then decide ((tb_J x.1).1.cls = C) && tb_in (hs.getD 1 0) (.methodLink (tb_J j).1.cls k (tb_J x.1).1) && tb_in (hs.getD 2 0) (.instanceMethod (tb_J x.1).1) && tb_in (hs.getD 3 0) (.selects C (tb_J x.1).1 (tb_J x.1).1)
      else if hs.getD 0 0 = 2 then decide ((tb_J x.1).1.cls = C) && (match tb_ns[hs.getD 1 0]? with | some r => decide (r.1 = (tb_J j).1.cls) && decide (r.2.1 = k) && decide (r.2.2.1 = (tb_J x.1).1) | none => false) && tb_in (hs.getD 2 0) (.instanceMethod (tb_J x.1).1) && tb_in (hs.getD 3 0) (.selects C (tb_J x.1).1 (tb_J x.1).1)
      else if hs.getD 0 0 = 3 then (match tb_wa (hs.getD 4 0) with
        | some (.code y b m r) => tb_in (hs.getD 1 0) (.methodLink (tb_J j).1.cls k y) && tb_in (hs.getD 2 0) (.sameMethod y.cls y.cls y.name y.desc) && tb_in (hs.getD 3 0) (.instanceMethod y) && tb_in (hs.getD 4 0) (.code y b m r) && tb_in (hs.getD 5 0) (.selects C y (tb_J x.1).1) && tb_in (hs.getD 6 0) (.instanceMethod (tb_J x.1).1) && decide (y.desc = (tb_J x.1).1.desc) && decide (y.cls ≠ "java/lang/invoke/MethodHandle" ∧ y.cls ≠ "java/lang/invoke/VarHandle")
        | _ => false)
      else (match tb_wa (hs.getD 1 0) with
        | some (.methodLink _ _ y) => decide ((tb_J x.1).1 = ⟨(tb_J x.1).1.cls, y.name, y.desc⟩) && tb_in (hs.getD 1 0) (.methodLink (tb_J j).1.cls k y) && tb_in (hs.getD 2 0) (.sameMethod y.cls (tb_J x.1).1.cls y.name y.desc) && tb_in (hs.getD 3 0) (.selects C y (tb_J x.1).1) && tb_in (hs.getD 4 0) (.instanceMethod (tb_J x.1).1)
        | _ => false)
    | none => false)
  | .invokestatic k => if x.1 = 999999 then tb_in (hs.getD 0 0) (.methodLink (tb_J j).1.cls k arraycopyName) && tb_in (hs.getD 1 0) (.native arraycopyName) && tb_in (hs.getD 2 0) (.static arraycopyName) && tb_in (hs.getD 3 0) (.initialized "java/lang/System")
      else tb_in (hs.getD 0 0) (.methodLink (tb_J j).1.cls k (tb_J x.1).1) && tb_in (hs.getD 1 0) (.static (tb_J x.1).1)
  | .invokespecial k => if x.1 = 999998 then tb_in (hs.getD 0 0) (.methodLink (tb_J j).1.cls k Lib.objectInit) && tb_in (hs.getD 1 0) (.instanceMethod Lib.objectInit) && tb_in (hs.getD 2 0) (.code Lib.objectInit ⟨#[0xb1]⟩ 1 none)
      else decide ((tb_J x.1).2.2.2.2.2 = []) && (match am_cn tb_cl (tb_rcf x.1) with
        | some C => (match hs.getD 0 0 with
          | 0 => decide ((tb_J x.1).1.name = "<init>") && decide ((tb_J x.1).2.2.2.1 = none) && tb_in (hs.getD 1 0) (.methodLink (tb_J j).1.cls k (tb_J x.1).1) && tb_in (hs.getD 2 0) (.instanceMethod (tb_J x.1).1)
          | 1 => decide ((tb_J x.1).1.name = "<init>") && decide ((tb_J x.1).2.2.2.1 = none) && (match tb_ns[hs.getD 1 0]? with | some r => decide (r.1 = (tb_J j).1.cls) && decide (r.2.1 = k) && decide (r.2.2.1 = (tb_J x.1).1) | none => false) && tb_in (hs.getD 2 0) (.instanceMethod (tb_J x.1).1)
          | _ => decide ((tb_J x.1).1.name ≠ "<init>") && decide (tb_rcf x.1 - 1 < 15 ∧ 0 < tb_rcf x.1) && tb_in (hs.getD 1 0) (.methodLink (tb_J j).1.cls k (tb_J x.1).1) && tb_in (hs.getD 2 0) (.sameMethod (tb_J x.1).1.cls (tb_J x.1).1.cls (tb_J x.1).1.name (tb_J x.1).1.desc) && tb_in (hs.getD 3 0) (.superclass (tb_J j).1.cls (tb_J x.1).1.cls) && tb_in (hs.getD 4 0) (.instanceMethod (tb_J x.1).1))
        | none => false)
  | .ireturn => (match x.1 with | 0 => decide ((tb_J j).2.2.2.1 = some .int) | 1 => decide ((tb_J j).2.2.2.1 = some .boolean) | 2 => decide ((tb_J j).2.2.2.1 = some .char) | 3 => decide ((tb_J j).2.2.2.1 = some .byte) | _ => false)
  | .lreturn => decide ((tb_J j).2.2.2.1 = some .long)
  | .freturn => decide ((tb_J j).2.2.2.1 = some .float)
  | .areturn => (match (tb_J j).2.2.2.1 with | some (.object _) => true | some (.array _) => true | _ => false)
  | .return_ => decide ((tb_J j).2.2.2.1 = none)
  | _ => true
def tb_hk (nL : Nat) (own : String) (cc : ByteArray) : List (Nat × Nat × Nat × Nat) → List (Nat × Nat × Nat × Nat × Nat × Nat) → List Nat → Bool
  | [], [], _ => true
  | (s, t, hp, cp) :: r, (s', t', cp', E, q, k) :: r', hs => decide (s = s' ∧ t = t' ∧ k < nL ∧ cp ≠ 0 ∧ E < 3) && tb_in (hs.headD 0) (.classLink own cp (am_xn E)) &&
      ((decide (k < 4) && decide (decode cc hp = .ok (.astore_n (Fin.ofNat 4 k), 1)) && decide (q = hp + 1)) || (decide (decode cc hp = .ok (.astore k, 2)) && decide (q = hp + 2))) && tb_hk nL own cc r r' hs.tail
  | _, _, _ => false
theorem tb_hk_ok {nL : Nat} {own : String} {cc : ByteArray} : ∀ (a : List (Nat × Nat × Nat × Nat)) (b : List (Nat × Nat × Nat × Nat × Nat × Nat)) (hs : List Nat), tb_hk nL own cc a b hs = true → am_hk tb_Tg nL own cc a b := by
  intro a
  induction a with
  | nil => intro b hs h; cases b with
    | nil => trivial
    | cons x b => cases h
  | cons x a ih =>
    intro b hs h
    cases b with
    | nil => cases h
    | cons y b =>
      obtain ⟨s, t, hp, cp⟩ := x
      obtain ⟨s', t', cp', E, q, k⟩ := y
      simp only [tb_hk, Bool.and_eq_true, Bool.or_eq_true, decide_eq_true_eq] at h
      obtain ⟨⟨⟨⟨h1, h2, h3, h4, h5⟩, h6⟩, h7⟩, h8⟩ := h
      refine ⟨h1, h2, h3, h4, h5, tb_in_ok h6, ?_, ih _ _ h8⟩
      rcases h7 with ⟨⟨h7, h9⟩, h10⟩ | ⟨h7, h9⟩
      · exact Or.inl ⟨h7, h9, h10⟩
      · exact Or.inr ⟨h7, h9⟩
/-- a row of the table -/
def tb_ck (j : Nat) (e : tb_E) : Bool := decide (decode (tb_J j).2.1 e.1 = .ok (e.2.1.1, e.2.1.2.1)) && decide (am_ln e.2.1.1 = 0 ∨ e.2.1.2.1 = am_ln e.2.1.1) && am_tg e.1 e.2.1.1 e.2.1.2.2 && tb_lk j e.1 e.2.1.1 e.2.1.2.2 e.2.2 && (if am_kd e.2.1.1 e.2.1.2.2 = 2 then tb_tk j e.2.1.1 e.2.1.2.2 e.2.2 else true)
def tb_ckj (j : Nat) : Bool := decide (10 ≤ (tb_J j).2.2.2.2.1) && tb_hk (tb_J j).2.2.1 (tb_J j).1.cls (tb_J j).2.1 (tb_J j).2.2.2.2.2 (tb_ahf j) (tb_hxf j)
theorem tb_fd_mem {L : List tb_E} {pc : Nat} {e : tb_E} (h : tb_fd L pc = some e) : e ∈ L ∧ e.1 = pc := by
  induction L with
  | nil => cases h
  | cons x L ih =>
    unfold tb_fd at h
    split at h
    · rename_i hx; cases h; exact ⟨List.mem_cons_self, hx⟩
    · exact ⟨List.mem_cons_of_mem _ (ih h).1, (ih h).2⟩
set_option maxRecDepth 100000 in
set_option maxHeartbeats 8000000 in
theorem tb_lk_ok {z : Bool} (hth : ∀ r ∈ tb_th, (Bundle.fit (am_xn r.2.2) = true ∧ ∀ w ∈ vx_atS r.1 r.2.1 (am_xn r.2.2) tb_nm, w ∈ tb_Tg ∨ ∃ r ∈ tb_ca, w = am_cw r)) {j pc : Nat} {i : Instr} {x : Nat × Nat × Nat} {hs : List Nat} (h : tb_lk j pc i x hs = true) : am_lk tb_cl tb_Tg (tb_PP z) tb_J (tb_F z) j pc i x := by
  have hrc : ∀ t, ((tb_PP z).2.1 t).2 = tb_rcf t := fun t => rfl
  cases i <;> first | exact True.intro | skip
  case ldc k =>
    simp only [tb_lk] at h
    simp only [am_lk]
    split at h
    · rename_i h0
      rw [if_pos h0]
      split at h
      · rename_i r hr
        simp only [Bool.and_eq_true, decide_eq_true_eq] at h
        obtain ⟨⟨h1, h2⟩, h3⟩ := h
        refine ⟨r.2.2.1, ?_⟩
        rw [← h1, ← h2, ← h3]
        exact List.mem_of_getElem? hr
      · cases h
    · rename_i h0
      rw [if_neg h0]
      exact tb_in_ok h
  case ldc_w k =>
    simp only [tb_lk] at h
    simp only [am_lk]
    split at h
    · rename_i h0
      rw [if_pos h0]
      split at h
      · rename_i r hr
        simp only [Bool.and_eq_true, decide_eq_true_eq] at h
        obtain ⟨⟨h1, h2⟩, h3⟩ := h
        refine ⟨r.2.2.1, ?_⟩
        rw [← h1, ← h2, ← h3]
        exact List.mem_of_getElem? hr
      · cases h
    · rename_i h0
      rw [if_neg h0]
      exact tb_in_ok h
  case getstatic k =>
    simp only [tb_lk] at h
    simp only [am_lk]
    split at h
    · rename_i r hr
      simp only [Bool.and_eq_true, decide_eq_true_eq] at h
      refine ⟨r.1, r.2.1, r.2.2.1, ?_, tb_in_ok h.2⟩
      rw [← h.1]
      exact List.mem_append_left _ (List.mem_of_getElem? hr)
    · cases h
  case getfield k =>
    simp only [tb_lk] at h
    simp only [am_lk]
    split at h
    · rename_i h0
      simp only [Bool.or_eq_true, Bool.and_eq_true, decide_eq_true_eq] at h
      refine Or.inr ⟨h0, ?_⟩
      rcases h with ⟨h1, h2⟩ | ⟨h1, h2⟩
      · exact Or.inl ⟨h1, tb_in_ok h2⟩
      · exact Or.inr ⟨h1, tb_in_ok h2⟩
    · simp only [Bool.and_eq_true, decide_eq_true_eq] at h
      obtain ⟨h1, h2⟩ := h
      split at h2
      · rename_i q hq
        simp only [Bool.and_eq_true, decide_eq_true_eq] at h2
        refine Or.inl ⟨h1, q.1, q.2.1, q.2.2, hq, h2.1, ?_⟩
        have h3 := h2.2
        split at h3
        · split at h3
          · rename_i r hr
            simp only [Bool.and_eq_true, decide_eq_true_eq] at h3
            refine Or.inr ⟨r.2.2.2, ?_⟩
            rw [← h3.1.1, ← h3.1.2, ← h3.2]
            exact List.mem_of_getElem? hr
          · cases h3
        · exact Or.inl (tb_in_ok h3)
      · cases h2
  case putfield k =>
    simp only [tb_lk, Bool.and_eq_true, decide_eq_true_eq] at h
    obtain ⟨h0, h⟩ := h
    simp only [am_lk]
    split at h
    · rename_i q hq
      simp only [Bool.and_eq_true, decide_eq_true_eq, Bool.or_eq_true, Bool.not_eq_true'] at h
      obtain ⟨⟨⟨h1, h2⟩, h3⟩, h4⟩ := h
      split at h4
      · rename_i ty hty
        refine ⟨q.1, q.2.1, q.2.2, ty, hq, h0, h1, tb_in_ok h2, fun hf => ?_, hty, tb_ty_ok h4⟩
        rcases h3 with h3 | h3
        · rw [hf] at h3; cases h3
        · exact h3
      · cases h4
    · cases h
  case new k =>
    simp only [tb_lk] at h
    simp only [am_lk]
    split at h
    · rename_i h0
      rw [if_pos h0]
      simp only [Bool.and_eq_true, decide_eq_true_eq] at h
      obtain ⟨⟨⟨⟨⟨⟨⟨⟨⟨⟨h1, h2⟩, h3⟩, h4⟩, h5⟩, h6⟩, h7⟩, h8⟩, h9⟩, h10⟩, h11⟩ := h
      split at h8
      · rename_i r hr
        simp only [Bool.and_eq_true, decide_eq_true_eq] at h8
        obtain ⟨g1, g2⟩ := hth _ (List.mem_of_getElem? h2)
        refine ⟨h1, tb_nm, r.2.2.1, hs.getD 1 0, hs.getD 2 0, r.2.2.2, hs.getD 3 0, h3, h4, h5, h6, h7, g1, by decide +kernel, by decide, tb_in_ok h9, tb_in_ok h10, ?_, g2, h11⟩
        rw [← h8.1, ← h8.2]
        exact List.mem_of_getElem? hr
      · cases h8
    · rename_i h0
      rw [if_neg h0]
      simp only [Bool.and_eq_true, decide_eq_true_eq] at h
      obtain ⟨h1, h2⟩ := h
      split at h2
      · rename_i q hq
        simp only [Bool.and_eq_true, decide_eq_true_eq] at h2
        obtain ⟨⟨⟨g1, g2⟩, g3⟩, g4⟩ := h2
        refine ⟨h1, q.1, q.2.1, ?_, tb_in_ok g2, tb_in_ok g3, tb_in_ok g4⟩
        rw [← g1]
        exact hq
      · cases h2
  case newarray at_ =>
    simp only [tb_lk, Bool.and_eq_true, decide_eq_true_eq] at h
    exact ⟨h.1.1, tb_in_ok h.1.2, h.2⟩
  case anewarray k =>
    simp only [tb_lk] at h
    split at h
    · rename_i C hC
      simp only [Bool.and_eq_true, decide_eq_true_eq] at h
      exact ⟨C, tb_in_ok h.1, List.mem_of_getElem? hC, h.2⟩
    · cases h
  case multianewarray k d =>
    simp only [tb_lk] at h
    split at h
    · rename_i ty hC
      simp only [Bool.and_eq_true, decide_eq_true_eq] at h
      exact ⟨ty, tb_in_ok h.1.1, List.mem_of_getElem? hC, tb_in_ok h.1.2, h.2⟩
    · cases h
  case checkcast k =>
    simp only [tb_lk] at h
    exact tb_in_ok h
  case invokevirtual k =>
    simp only [tb_lk] at h
    simp only [am_lk, hrc]
    split at h
    · rename_i h0
      rw [if_pos h0]
      simp only [Bool.and_eq_true] at h
      obtain ⟨⟨⟨⟨h1, h2⟩, h3⟩, h4⟩, h5⟩ := h
      exact ⟨tb_in_ok h1, tb_in_ok h2, tb_in_ok h3, tb_in_ok h4, tb_in_ok h5, by show _ ∈ tb_ca; decide +kernel⟩
    · rename_i h0
      rw [if_neg h0]
      simp only [Bool.and_eq_true, decide_eq_true_eq] at h
      obtain ⟨h1, h2⟩ := h
      split at h2
      · rename_i C hC
        refine ⟨h1, C, hC, ?_⟩
        split at h2
        · simp only [Bool.and_eq_true, decide_eq_true_eq] at h2
          obtain ⟨⟨⟨g1, g2⟩, g3⟩, g4⟩ := h2
          exact Or.inl ⟨g1, tb_in_ok g2, tb_in_ok g3, tb_in_ok g4⟩
        · split at h2
          · simp only [Bool.and_eq_true, decide_eq_true_eq] at h2
            obtain ⟨⟨⟨g1, g2⟩, g3⟩, g4⟩ := h2
            split at g2
            · rename_i r hr
              simp only [Bool.and_eq_true, decide_eq_true_eq] at g2
              refine Or.inr (Or.inr (Or.inl ⟨g1, ⟨r.2.2.2, ?_⟩, tb_in_ok g3, tb_in_ok g4⟩))
              rw [← g2.1.1, ← g2.1.2, ← g2.2]
              exact List.mem_of_getElem? hr
            · cases g2
          · split at h2
            · split at h2
              · rename_i y b m r hy
                simp only [Bool.and_eq_true, decide_eq_true_eq] at h2
                obtain ⟨⟨⟨⟨⟨⟨⟨g1, g2⟩, g3⟩, g4⟩, g5⟩, g6⟩, g7⟩, g8⟩ := h2
                exact Or.inr (Or.inr (Or.inr ⟨y, b, m, r, tb_in_ok g1, tb_in_ok g2, tb_in_ok g3, tb_in_ok g4, tb_in_ok g5, tb_in_ok g6, g7, g8⟩))
              · cases h2
            · split at h2
              · rename_i y hy
                simp only [Bool.and_eq_true, decide_eq_true_eq] at h2
                obtain ⟨⟨⟨⟨g1, g2⟩, g3⟩, g4⟩, g5⟩ := h2
                exact Or.inr (Or.inl ⟨y, g1, tb_in_ok g2, tb_in_ok g3, tb_in_ok g4, tb_in_ok g5⟩)
              · cases h2
      · cases h2
  case invokestatic k =>
    simp only [tb_lk] at h
    simp only [am_lk]
    split at h
    · rename_i h0
      rw [if_pos h0]
      simp only [Bool.and_eq_true] at h
      exact ⟨tb_in_ok h.1.1.1, tb_in_ok h.1.1.2, tb_in_ok h.1.2, tb_in_ok h.2⟩
    · rename_i h0
      rw [if_neg h0]
      simp only [Bool.and_eq_true] at h
      exact ⟨tb_in_ok h.1, tb_in_ok h.2⟩
  case invokespecial k =>
    simp only [tb_lk] at h
    simp only [am_lk, hrc]
    split at h
    · rename_i h0
      rw [if_pos h0]
      simp only [Bool.and_eq_true] at h
      exact ⟨tb_in_ok h.1.1, tb_in_ok h.1.2, tb_in_ok h.2⟩
    · rename_i h0
      rw [if_neg h0]
      simp only [Bool.and_eq_true, decide_eq_true_eq] at h
      obtain ⟨h1, h2⟩ := h
      split at h2
      · rename_i C hC
        refine ⟨h1, C, hC, ?_⟩
        split at h2
        · simp only [Bool.and_eq_true, decide_eq_true_eq] at h2
          obtain ⟨⟨⟨g1, g2⟩, g3⟩, g4⟩ := h2
          exact Or.inl ⟨g1, g2, tb_in_ok g4, Or.inl (tb_in_ok g3)⟩
        · simp only [Bool.and_eq_true, decide_eq_true_eq] at h2
          obtain ⟨⟨⟨g1, g2⟩, g3⟩, g4⟩ := h2
          split at g3
          · rename_i r hr
            simp only [Bool.and_eq_true, decide_eq_true_eq] at g3
            refine Or.inl ⟨g1, g2, tb_in_ok g4, Or.inr ⟨r.2.2.2, ?_⟩⟩
            rw [← g3.1.1, ← g3.1.2, ← g3.2]
            exact List.mem_of_getElem? hr
          · cases g3
        · simp only [Bool.and_eq_true, decide_eq_true_eq] at h2
          obtain ⟨⟨⟨⟨⟨g1, g2⟩, g3⟩, g4⟩, g5⟩, g6⟩ := h2
          refine Or.inr ⟨g1, ⟨tb_rcf x.1 - 1, tb_cl[tb_rcf x.1 - 1]'(by simpa [tb_cl] using g2.1), by omega, by omega, List.getElem?_eq_getElem _⟩, tb_in_ok g3, tb_in_ok g4, tb_in_ok g5, tb_in_ok g6⟩
      · cases h2
  case ireturn =>
    simp only [tb_lk] at h
    simp only [am_lk]
    split at h <;> simp_all
  case lreturn => simpa [tb_lk, am_lk] using h
  case freturn => simpa [tb_lk, am_lk] using h
  case areturn =>
    simp only [tb_lk] at h
    simp only [am_lk]
    split at h
    · rename_i hh; exact Or.inl ⟨_, hh⟩
    · rename_i hh; exact Or.inr ⟨_, hh⟩
    · cases h
  case return_ => simpa [tb_lk, am_lk] using h
theorem tb_tk_ok {z : Bool} (hjk : ∀ t, t < 500 → tb_jk t = true) {j : Nat} {i : Instr} {x : Nat × Nat × Nat} {hs : List Nat} (h : am_kd i x = 2 → tb_tk j i x hs = true) : am_tk (tb_PP z) tb_J tb_Tg j i x := by
  intro h2
  have h := h h2
  simp only [tb_tk, Bool.and_eq_true, decide_eq_true_eq] at h
  obtain ⟨⟨⟨⟨g1, g0⟩, g2⟩, g3⟩, g4⟩ := h
  have k := hjk x.1 g0
  simp only [tb_jk, Bool.and_eq_true, decide_eq_true_eq] at k
  obtain ⟨⟨⟨k1, k2⟩, k3⟩, k4⟩ := k
  refine ⟨g1, rfl, k3, k1, k2, k4.trans g2, tb_in_ok g3, ?_⟩
  revert g4
  cases (tb_J x.1).2.2.2.2.2 with
  | nil => exact fun g4 => tb_in_ok g4
  | cons a b => exact fun g4 => tb_in_ok g4
