/-! ===== soundness, 5: the whole ===== -/
/-- the name of a receiver's class -/
def am_cn (cl : List vw_C) (rc : Nat) : Option String := match rc with
  | 0 => none
  | ci + 1 => if ci = 50 then some "java/lang/String" else (cl[ci]?).map (·.1)
/-- what an instruction's links say -/
def am_lk (cl : List vw_C) (Tg : List Cond) (P : am_P) (J : am_J) (F : am_F) (j pc : Nat) (i : Instr) (x : Nat × Nat × Nat) : Prop := match i with
  | .ldc k => if x.1 = 0 then (∃ tx, ((J j).1.cls, k, tx, x.2.1) ∈ F.1) else Cond.constant (J j).1.cls k (nI x.2.1) ∈ Tg
  | .ldc_w k => if x.1 = 0 then (∃ tx, ((J j).1.cls, k, tx, x.2.1) ∈ F.1) else Cond.constant (J j).1.cls k (nI x.2.1) ∈ Tg
  | .getstatic k => ∃ C n d, (C, n, d, am_gz x) ∈ F.2.1 ∧ Cond.fieldLink (J j).1.cls k C n d ∈ Tg
  | .getfield k => (x.1 < 50 ∧ ∃ C T N, cl[x.1]? = some (C, T, N) ∧ x.2.1 < N ∧ (Cond.fieldLink (J j).1.cls k (T x.2.1).1 (T x.2.1).2.1 (T x.2.1).2.2.1 ∈ Tg ∨ ∃ host, ((J j).1.cls, k, (⟨(T x.2.1).1, (T x.2.1).2.1, (T x.2.1).2.2.1⟩ : MethodName), host) ∈ F.2.2.2.2.2.2)) ∨
      (x.1 = 50 ∧ ((x.2.1 = 0 ∧ Cond.fieldLink (J j).1.cls k "java/lang/String" "value" "[B" ∈ Tg) ∨ (x.2.1 = 1 ∧ Cond.fieldLink (J j).1.cls k "java/lang/String" "coder" "B" ∈ Tg)))
  | .putfield k => ∃ C T N ty, cl[if x.1 = 50 then 14 else x.1]? = some (C, T, N) ∧ x.1 ≤ 50 ∧ x.2.1 < N ∧ Cond.fieldLink (J j).1.cls k (T x.2.1).1 (T x.2.1).2.1 (T x.2.1).2.2.1 ∈ Tg ∧ ((T x.2.1).2.2.2 = true → (J j).1.name = "<init>" ∧ (T x.2.1).1 = (J j).1.cls) ∧ parseFieldDescriptor (T x.2.1).2.2.1 = some ty ∧
      (match x.2.2 with | 0 => ty = .int | 1 => ty = .long | 2 => (∃ n, ty = .object n) ∨ (∃ t, ty = .array t) | 3 => ty = .boolean | 4 => ty = .byte | _ => False)
  | .new k => if x.2.2 = 1 then
      (x.1 < 3 ∧ ∃ (names : List String) (tx : String) (is ic sa w : Nat), (w = 2 ∨ w = 3) ∧ decode (J j).2.1 (pc + 3) = .ok (.dup, 1) ∧ decode (J j).2.1 (pc + 4) = .ok (if w = 2 then .ldc is else .ldc_w is, w) ∧ decode (J j).2.1 (pc + 4 + w) = .ok (.invokespecial ic, 3) ∧ decode (J j).2.1 (pc + 7 + w) = .ok (.athrow, 1) ∧
        Bundle.fit (am_xn x.1) = true ∧ (∀ n ∈ names, Bundle.fit n = true) ∧ names.length ≤ 3 ∧ Cond.classLink (J j).1.cls k (am_xn x.1) ∈ Tg ∧ Cond.initialized (am_xn x.1) ∈ Tg ∧ ((J j).1.cls, is, tx, sa) ∈ F.1 ∧
        (∀ w ∈ vx_atS (J j).1.cls ic (am_xn x.1) names, w ∈ Tg ∨ ∃ r ∈ F.2.2.2.1, w = am_cw r) ∧ (J j).2.2.2.2.2 = [])
    else (x.1 ≤ 50 ∧ ∃ C T, cl[if x.1 = 50 then 14 else x.1]? = some (C, T, x.2.1) ∧ Cond.classLink (J j).1.cls k C ∈ Tg ∧ Cond.instantiable C x.2.1 ∈ Tg ∧ Cond.initialized C ∈ Tg)
  | .newarray at_ => x.1 ≤ 3 ∧ Cond.arrayClass (newarray.typeOf at_) ∈ Tg ∧ am_kt x.1 = newarray.typeOf at_
  | .anewarray k => ∃ C, Cond.classLink (J j).1.cls k C ∈ Tg ∧ .object C ∈ F.2.2.2.2.1 ∧ am_kt x.1 = .object C
  | .multianewarray k _ => ∃ ty, Cond.classLink (J j).1.cls k ("[" ++ (FieldType.array ty).toString) ∈ Tg ∧ .array ty ∈ F.2.2.2.2.1 ∧ Cond.arrayClass ty ∈ Tg ∧ ((x.1 = 8 ∧ ty = .int) ∨ (x.1 = 9 ∧ ty = .boolean))
  | .checkcast k => Cond.classLink (J j).1.cls k "[B" ∈ Tg
  | .invokevirtual k => if x.1 = 999997 then (Cond.methodLink (J j).1.cls k ⟨"[B", "clone", "()Ljava/lang/Object;"⟩ ∈ Tg ∧ Cond.sameMethod "[B" "java/lang/Object" "clone" "()Ljava/lang/Object;" ∈ Tg ∧ Cond.native ⟨"java/lang/Object", "clone", "()Ljava/lang/Object;"⟩ ∈ Tg ∧ Cond.instanceMethod ⟨"java/lang/Object", "clone", "()Ljava/lang/Object;"⟩ ∈ Tg ∧ Cond.selects "[B" ⟨"[B", "clone", "()Ljava/lang/Object;"⟩ ⟨"java/lang/Object", "clone", "()Ljava/lang/Object;"⟩ ∈ Tg ∧ ("[B", "java/lang/Cloneable") ∈ F.2.2.2.1) else (J x.1).2.2.2.2.2 = [] ∧ ∃ C, am_cn cl (P.2.1 x.1).2 = some C ∧
      (((J x.1).1.cls = C ∧ Cond.methodLink (J j).1.cls k (J x.1).1 ∈ Tg ∧ Cond.instanceMethod (J x.1).1 ∈ Tg ∧ Cond.selects C (J x.1).1 (J x.1).1 ∈ Tg) ∨
       (∃ y, (J x.1).1 = ⟨(J x.1).1.cls, y.name, y.desc⟩ ∧ Cond.methodLink (J j).1.cls k y ∈ Tg ∧ Cond.sameMethod y.cls (J x.1).1.cls y.name y.desc ∈ Tg ∧ Cond.selects C y (J x.1).1 ∈ Tg ∧ Cond.instanceMethod (J x.1).1 ∈ Tg) ∨
       ((J x.1).1.cls = C ∧ (∃ host, ((J j).1.cls, k, (J x.1).1, host) ∈ F.2.2.1) ∧ Cond.instanceMethod (J x.1).1 ∈ Tg ∧ Cond.selects C (J x.1).1 (J x.1).1 ∈ Tg) ∨
       (∃ y b m r, Cond.methodLink (J j).1.cls k y ∈ Tg ∧ Cond.sameMethod y.cls y.cls y.name y.desc ∈ Tg ∧ Cond.instanceMethod y ∈ Tg ∧ Cond.code y b m r ∈ Tg ∧ Cond.selects C y (J x.1).1 ∈ Tg ∧ Cond.instanceMethod (J x.1).1 ∈ Tg ∧ y.desc = (J x.1).1.desc ∧ (y.cls ≠ "java/lang/invoke/MethodHandle" ∧ y.cls ≠ "java/lang/invoke/VarHandle")))
  | .invokestatic k => if x.1 = 999999 then Cond.methodLink (J j).1.cls k arraycopyName ∈ Tg ∧ Cond.native arraycopyName ∈ Tg ∧ Cond.static arraycopyName ∈ Tg ∧ Cond.initialized "java/lang/System" ∈ Tg
      else Cond.methodLink (J j).1.cls k (J x.1).1 ∈ Tg ∧ Cond.static (J x.1).1 ∈ Tg
  | .invokespecial k => if x.1 = 999998 then Cond.methodLink (J j).1.cls k Lib.objectInit ∈ Tg ∧ Cond.instanceMethod Lib.objectInit ∈ Tg ∧ Cond.code Lib.objectInit ⟨#[0xb1]⟩ 1 none ∈ Tg
      else (J x.1).2.2.2.2.2 = [] ∧ ∃ C, am_cn cl (P.2.1 x.1).2 = some C ∧ (((J x.1).1.name = "<init>" ∧ (J x.1).2.2.2.1 = none ∧ Cond.instanceMethod (J x.1).1 ∈ Tg ∧ (Cond.methodLink (J j).1.cls k (J x.1).1 ∈ Tg ∨ ∃ host, ((J j).1.cls, k, (J x.1).1, host) ∈ F.2.2.1)) ∨
        ((J x.1).1.name ≠ "<init>" ∧ (∃ ci q, (P.2.1 x.1).2 = ci + 1 ∧ ci ≠ 50 ∧ cl[ci]? = some q) ∧ Cond.methodLink (J j).1.cls k (J x.1).1 ∈ Tg ∧ Cond.sameMethod (J x.1).1.cls (J x.1).1.cls (J x.1).1.name (J x.1).1.desc ∈ Tg ∧ Cond.superclass (J j).1.cls (J x.1).1.cls ∈ Tg ∧ Cond.instanceMethod (J x.1).1 ∈ Tg))
  | .ireturn => (match x.1 with | 0 => (J j).2.2.2.1 = some .int | 1 => (J j).2.2.2.1 = some .boolean | 2 => (J j).2.2.2.1 = some .char | 3 => (J j).2.2.2.1 = some .byte | _ => False)
  | .lreturn => (J j).2.2.2.1 = some .long
  | .freturn => (J j).2.2.2.1 = some .float
  | .areturn => (∃ n, (J j).2.2.2.1 = some (.object n)) ∨ ∃ t, (J j).2.2.2.1 = some (.array t)
  | .return_ => (J j).2.2.2.1 = none
  | _ => True
/-- what a call's target must be -/
def am_tk (P : am_P) (J : am_J) (Tg : List Cond) (j : Nat) (i : Instr) (x : Nat × Nat × Nat) : Prop := am_kd i x = 2 →
  (J x.1).2.2.2.2.1 < (J j).2.2.2.2.1 ∧ (J x.1).2.2.1 = (P.2.1 x.1).1 ∧ (J x.1).2.2.1 ≤ 80 ∧ plainFor (J x.1).1 = true ∧ ((J x.1).1.cls ≠ "java/lang/invoke/MethodHandle" ∧ (J x.1).1.cls ≠ "java/lang/invoke/VarHandle") ∧
  (parseMethodDescriptor (J x.1).1.desc).map (fun d => d.parameters.length) = some (match i with | .invokestatic _ => x.2.1 | _ => x.2.1 - 1) ∧ Cond.initialized (J x.1).1.cls ∈ Tg ∧
  (match (J x.1).2.2.2.2.2 with | [] => Cond.code (J x.1).1 (J x.1).2.1 (J x.1).2.2.1 (J x.1).2.2.2.1 ∈ Tg | hh => Cond.codeWith (J x.1).1 (J x.1).2.1 (J x.1).2.2.1 (J x.1).2.2.2.1 hh ∈ Tg)
/-- the handlers: the class file's, and the abstract ones beside them -/
def am_hk (Tg : List Cond) (nL : Nat) (own : String) (cc : ByteArray) : List (Nat × Nat × Nat × Nat) → List (Nat × Nat × Nat × Nat × Nat × Nat) → Prop
  | [], [] => True
  | (s, t, hp, cp) :: r, (s', t', cp', E, q, k) :: r' => s = s' ∧ t = t' ∧ k < nL ∧ cp ≠ 0 ∧ E < 3 ∧ Cond.classLink own cp (am_xn E) ∈ Tg ∧
      ((k < 4 ∧ decode cc hp = .ok (.astore_n (Fin.ofNat 4 k), 1) ∧ q = hp + 1) ∨ (decode cc hp = .ok (.astore k, 2) ∧ q = hp + 2)) ∧ am_hk Tg nL own cc r r'
  | _, _ => False
/-- what is known once and for all -/
def am_Gs (τ : Nat → Nat) (bs : Nat × Nat) (cl : List vw_C) (Tg : List Cond) (P : am_P) (J : am_J) (F : am_F) : Prop :=
  (∀ a, bs.2 ≤ a → τ a = bs.1 + (a - bs.2)) ∧ (∀ a b, 200 ≤ a → a < 206 → 200 ≤ b → b < 206 → τ a = τ b → a = b) ∧ (∀ w ∈ Tg, goodWord w = true) ∧
  (∀ (ci : Nat) (q : vw_C), cl[ci]? = some q → (∀ w ∈ u_ws q.1 q.2.1 q.2.2, w ∈ Tg) ∧ ∃ ty0 : Nat → FieldType, (∀ k, k < q.2.2 → parseFieldDescriptor (q.2.1 k).2.2.1 = some (ty0 k)) ∧ (∀ a, a < q.2.2 → ∀ b, b < q.2.2 → a ≠ b → (q.2.1 a).2.1 ≠ (q.2.1 b).2.1) ∧ ∀ j, j < q.2.2 → defaultValue (ty0 j) = vp_V ((P.2.2.2 ci).map (am_tv τ)) j) ∧
  ((∃ r6 r9 : vw_C, cl[6]? = some r6 ∧ cl[9]? = some r9 ∧ r6.1 = "CaptionAlbum$Photo" ∧ r9.1 = "CaptionAlbum$State") ∧ P.2.2.2 50 = [.null, .int 0] ∧ ∃ T, cl[14]? = some ("java/lang/String", T, 4) ∧ (T 0).1 = "java/lang/String" ∧ (T 0).2.1 = "value" ∧ (T 0).2.2.1 = "[B" ∧ (T 1).1 = "java/lang/String" ∧ (T 1).2.1 = "coder" ∧ (T 1).2.2.1 = "B" ∧ (T 2).2.2.1 = "I" ∧ (T 3).2.2.1 = "Z") ∧
  (∀ j pc i len x, P.1 j pc = some (i, len, x) → decode (J j).2.1 pc = .ok (i, len) ∧ (am_ln i = 0 ∨ len = am_ln i) ∧ am_tg pc i x = true ∧ 10 ≤ (J j).2.2.2.2.1 ∧ am_lk cl Tg P J F j pc i x ∧ am_tk P J Tg j i x ∧ am_hk Tg (J j).2.2.1 (J j).1.cls (J j).2.1 (J j).2.2.2.2.2 (P.2.2.1 j)) ∧
  (∀ E E' : Nat, E < 3 → E' < 3 → E ≠ E' → (am_xn E, am_xn E') ∈ F.2.2.2.2.2.1) ∧ (∀ E : Nat, E < 3 → (am_xn E, am_xn E) ∈ F.2.2.2.1) ∧ nativeFrameWords "java/lang/System" "arraycopy" 5 ≤ 900
/-- what is known in a frame -/
def am_Cx (τ : Nat → Nat) (bs : Nat × Nat) (D : va_G) (cl : List vw_C) (kc : Nat → ClassId) (Tg : List Cond) (J : am_J) (F : am_F) (p : Program) (l : Launch) (R : Room) (s : State) (m : MethodId) (args : Array Value) (meth : Method) (c : Code) (j : Nat) : Prop :=
  p.tables.exec = Jvm.exec ∧ c.code = (J j).2.1 ∧ c.maxLocals = (J j).2.2.1 ∧ s.vm.findClass (J j).1.cls = some m.cls ∧ (∀ w ∈ Tg, w.before args s = true) ∧ meth.sig.returnType = (J j).2.2.2.1 ∧ meth.locks = false ∧ meth.name = (J j).1.name ∧ l.stackTraces = false ∧
  c.exceptionTable.toList.map (fun h => (h.startPc, h.endPc, h.handlerPc, h.catchType)) = (J j).2.2.2.2.2 ∧ (J j).2.2.2.2.1 ≤ R.frames ∧ 100 * (J j).2.2.2.2.1 ≤ R.locals ∧ bs.1 ≤ s.heap.size ∧ am_OK τ bs D cl kc F s s.heap
/-- how a method ends -/
def am_Qc (τ : Nat → Nat) (bs : Nat × Nat) (D : va_G) (cl : List vw_C) (kc : Nat → ClassId) (out : am_O) (h' : am_H) : Array Value → State → Outcome → State → Prop := fun _ st o t =>
  ∃ v, out = .inl v ∧ o = .returned (v.map (am_tv τ)) ∧ am_Wd τ bs D cl kc t h' t.heap ∧ va_F (am_A bs) st t
def am_XC (τ : Nat → Nat) (bs : Nat × Nat) (D : va_G) (cl : List vw_C) (kc : Nat → ClassId) (out : am_O) (h' : am_H) : String → State → State → Prop := fun En st t =>
  ∃ E, out = .inr E ∧ E < 3 ∧ En = am_xn E ∧ am_Wd τ bs D cl kc t h' t.heap ∧ va_F (am_A bs) st t
theorem am_pf_2 {h h1 : am_H} {a ci k ty : Nat} {v : Value} (hv : am_pf h a ci k ty v = some h1) : h1.2 = h.2 := by
  unfold am_pf at hv
  repeat' split at hv
  all_goals (first | (cases hv; done) | (cases hv; rfl))
theorem am_is_2 {h h1 : am_H} {a : Nat} {i v : Int32} (hv : am_is h a i v = some h1) : h1.2 = h.2 := by
  unfold am_is at hv
  repeat' split at hv
  all_goals (first | (cases hv; done) | (cases hv; rfl))
theorem am_bs_2 {h h1 : am_H} {a : Nat} {i v : Int32} (hv : am_bs h a i v = some h1) : h1.2 = h.2 := by
  unfold am_bs at hv
  repeat' split at hv
  all_goals (first | (cases hv; done) | (cases hv; rfl))
theorem am_js_2 {h h1 : am_H} {a : Nat} {i : Int32} {v : Int64} (hv : am_js h a i v = some h1) : h1.2 = h.2 := by
  unfold am_js at hv
  repeat' split at hv
  all_goals (first | (cases hv; done) | (cases hv; rfl))
theorem am_ds_2 {h h1 : am_H} {a : Nat} {i : Int32} {v : UInt64} (hv : am_ds h a i v = some h1) : h1.2 = h.2 := by
  unfold am_ds at hv
  repeat' split at hv
  all_goals (first | (cases hv; done) | (cases hv; rfl))
theorem am_qs_2 {h h1 : am_H} {a : Nat} {i : Int32} {v : Nat} (hv : am_qs h a i v = some h1) : h1.2 = h.2 := by
  unfold am_qs at hv
  repeat' split at hv
  all_goals (first | (cases hv; done) | (cases hv; rfl))
theorem am_ac_2 {h h1 : am_H} {a0 a : Nat} {sp dp n : Int32} (hv : am_ac h a0 sp a dp n = some h1) : h1.2 = h.2 := by
  unfold am_ac at hv
  repeat' split at hv
  all_goals (first | (cases hv; done) | (cases hv; rfl))
theorem am_na_le {h h1 : am_H} {k : Nat} {n : Int32} (hv : am_na h k n = some h1) : h.2.1 ≤ h1.2.1 ∧ h.2.2 ≤ h1.2.2 := by
  unfold am_na at hv
  repeat' split at hv
  all_goals (first | (cases hv; done) | (cases hv; exact ⟨Nat.le_succ _, Nat.le_add_right _ _⟩))
theorem am_he_le {df : Nat → List Value} {pc : Nat} {i : Instr} {x : Nat × Nat × Nat} {st st' : List Value} {h h' : am_H} {pc' : Nat} (hp : am_he df pc i x st h = some (pc', st', h')) : h.2.1 ≤ h'.2.1 ∧ h.2.2 ≤ h'.2.2 := by
  have e2 : ∀ h1 : am_H, h1.2 = h.2 → h.2.1 ≤ h1.2.1 ∧ h.2.2 ≤ h1.2.2 := fun h1 q => by rw [q]; exact ⟨Nat.le_refl _, Nat.le_refl _⟩
  unfold am_he at hp
  split at hp
  · split at hp <;> first | (cases hp; done) | (cases hp; exact ⟨Nat.le_refl _, Nat.le_refl _⟩)
  · obtain ⟨_, hv, hq⟩ := Option.map_eq_some_iff.mp hp; cases hq; exact e2 _ (am_pf_2 hv)
  · obtain ⟨_, hv, hq⟩ := Option.map_eq_some_iff.mp hp; cases hq; exact ⟨Nat.le_refl _, Nat.le_refl _⟩
  · obtain ⟨_, hv, hq⟩ := Option.map_eq_some_iff.mp hp; cases hq; exact ⟨Nat.le_refl _, Nat.le_refl _⟩
  · obtain ⟨_, hv, hq⟩ := Option.map_eq_some_iff.mp hp; cases hq; exact ⟨Nat.le_refl _, Nat.le_refl _⟩
  · obtain ⟨_, hv, hq⟩ := Option.map_eq_some_iff.mp hp; cases hq; exact ⟨Nat.le_refl _, Nat.le_refl _⟩
  · obtain ⟨_, hv, hq⟩ := Option.map_eq_some_iff.mp hp; cases hq; exact ⟨Nat.le_refl _, Nat.le_refl _⟩
  · obtain ⟨_, hv, hq⟩ := Option.map_eq_some_iff.mp hp; cases hq; exact e2 _ (am_is_2 hv)
  · obtain ⟨_, hv, hq⟩ := Option.map_eq_some_iff.mp hp; cases hq; exact e2 _ (am_bs_2 hv)
  · obtain ⟨_, hv, hq⟩ := Option.map_eq_some_iff.mp hp; cases hq; exact e2 _ (am_js_2 hv)
  · obtain ⟨_, hv, hq⟩ := Option.map_eq_some_iff.mp hp; cases hq; exact e2 _ (am_ds_2 hv)
  · obtain ⟨_, hv, hq⟩ := Option.map_eq_some_iff.mp hp; cases hq; exact e2 _ (am_qs_2 hv)
  · obtain ⟨_, hv, hq⟩ := Option.map_eq_some_iff.mp hp; cases hq; exact ⟨Nat.le_refl _, Nat.le_refl _⟩
  · cases hp; exact ⟨Nat.le_succ _, Nat.le_add_right _ _⟩
  · split at hp
    · obtain ⟨_, hv, hq⟩ := Option.map_eq_some_iff.mp hp; cases hq; exact am_na_le hv
    · cases hp
  · split at hp
    · obtain ⟨_, hv, hq⟩ := Option.map_eq_some_iff.mp hp; cases hq; exact am_na_le hv
    · cases hp
  · split at hp
    · cases hp; exact ⟨Nat.le_refl _, Nat.le_refl _⟩
    · cases hp
  · obtain ⟨_, hv, hq⟩ := Option.map_eq_some_iff.mp hp; cases hq; have := am_mn_2 hv; omega
  · split at hp
    · obtain ⟨_, hv, hq⟩ := Option.map_eq_some_iff.mp hp; cases hq; exact am_cn1_le hv
    · cases hp
  · split at hp
    · cases hp; exact ⟨Nat.le_refl _, Nat.le_refl _⟩
    · cases hp
  · split at hp
    · obtain ⟨_, hv, hq⟩ := Option.map_eq_some_iff.mp hp; cases hq; exact e2 _ (am_ac_2 hv)
    · cases hp
  · cases hp
theorem am_run_le {P : am_P} : ∀ (n j pc : Nat) (L : am_L) (st : List Value) (h : am_H) (o : am_O) (h' : am_H), am_run P n j pc L st h = some (o, h') → h.2.1 ≤ h'.2.1 ∧ h.2.2 ≤ h'.2.2 := by
  intro n
  induction n with
  | zero => intro j pc L st h o h' hh; cases hh
  | succ n ih =>
    intro j pc L st h o h' hh
    obtain ⟨i, len, x, hf, ⟨hk, pc', ls', st', hp, h1⟩ | ⟨hk, pc', st', h2, hp, h1⟩ | ⟨hk, hc, h1⟩ | ⟨hk, v, hr, he⟩ | ⟨hk, hc, he⟩⟩ := am_st_elim (show am_st P (am_run P n j) (fun t ls h => am_run P n t 0 ls [] h) j pc L st h = some (o, h') from hh)
    · exact ih _ _ _ _ _ _ _ h1
    · have g1 := am_he_le hp
      have g2 := ih _ _ _ _ _ _ _ h1
      exact ⟨Nat.le_trans g1.1 g2.1, Nat.le_trans g1.2 g2.2⟩
    · cases hz : am_ca P (fun t ls h => am_run P n t 0 ls [] h) x.1 (st.take x.2.1).reverse h with
      | none => rw [hz] at h1; cases h1
      | some z =>
        obtain ⟨o1, h2⟩ := z
        rw [hz] at h1
        have g1 : h.2.1 ≤ h2.2.1 ∧ h.2.2 ≤ h2.2.2 := by
          unfold am_ca at hz
          split at hz
          · exact ih _ _ _ _ _ _ _ hz
          · cases hz
        obtain v | E := o1
        · change (match am_ps x.2.2 v with | some vs => am_run P n j (pc + 3) L (vs ++ st.drop x.2.1) h2 | none => none) = some (o, h') at h1
          cases hp : am_ps x.2.2 v with
          | none => rw [hp] at h1; cases h1
          | some vs =>
            rw [hp] at h1
            have g2 := ih _ _ _ _ _ _ _ h1
            exact ⟨Nat.le_trans g1.1 g2.1, Nat.le_trans g1.2 g2.2⟩
        · change (match am_hn (P.2.2.1 j) pc E with | some (some (p, k)) => am_run P n j p (am_no (am_ls1 L k .null) k) [] h2 | some none => some (.inr E, h2) | none => none) = some (o, h') at h1
          cases hp : am_hn (P.2.2.1 j) pc E with
          | none => rw [hp] at h1; cases h1
          | some y => cases y with
            | none => rw [hp] at h1; cases h1; exact g1
            | some vs =>
              rw [hp] at h1
              have g2 := ih _ _ _ _ _ _ _ h1
              exact ⟨Nat.le_trans g1.1 g2.1, Nat.le_trans g1.2 g2.2⟩
    · cases he; exact ⟨Nat.le_refl _, Nat.le_refl _⟩
    · cases he; exact ⟨Nat.le_succ _, Nat.le_add_right _ _⟩
/-- the locals at the entry -/
theorem am_en_len {n : Nat} {vs : List Value} (h : (vs.flatMap am_sl).length ≤ n) : (am_en n vs).length = n := by
  simp only [am_en, List.length_append, List.length_replicate]
  omega
theorem am_lg_app {L M : am_L} {k : Nat} {v : Value} (h : am_lg (L ++ M) k = some v) : (k < L.length ∧ am_lg L k = some v) ∨ (L.length ≤ k ∧ am_lg M (k - L.length) = some v) := by
  induction L generalizing k with
  | nil => exact Or.inr ⟨Nat.zero_le _, h⟩
  | cons x L ih => cases k with
    | zero => exact Or.inl ⟨by simp, h⟩
    | succ k =>
      rcases ih (k := k) h with ⟨h1, h2⟩ | ⟨h1, h2⟩
      · exact Or.inl ⟨by simp only [List.length_cons]; omega, h2⟩
      · exact Or.inr ⟨by simp only [List.length_cons]; omega, by simp only [List.length_cons]; rw [show k + 1 - (L.length + 1) = k - L.length by omega]; exact h2⟩
theorem am_lg_rep {n k : Nat} {v : Value} (h : am_lg (List.replicate n none) k = some v) : False := by
  induction n generalizing k with
  | zero => cases h
  | succ n ih => cases k with
    | zero => cases h
    | succ k => exact ih (k := k) h
theorem am_sl_len (v : Value) : (am_sl v).length = if v.category = 2 then 2 else 1 := by
  unfold am_sl
  split <;> rfl
theorem am_args {τ : Nat → Nat} (vs : List Value) : ∀ (i k : Nat) (v : Value), am_lg (vs.flatMap am_sl) k = some v → (i + k, am_tv τ v) ∈ lv_args i (vs.map (am_tv τ)) := by
  induction vs with
  | nil => intro i k v h; cases h
  | cons w vs ih =>
    intro i k v h
    rw [List.flatMap_cons] at h
    show _ ∈ (i, am_tv τ w) :: lv_args (if (am_tv τ w).category = 2 then i + 2 else i + 1) (vs.map (am_tv τ))
    rw [am_tv_cat]
    rcases am_lg_app h with ⟨h1, h2⟩ | ⟨h1, h2⟩
    · unfold am_sl at h2
      split at h2
      · match k, h2 with
        | 0, h2 => cases h2; exact List.mem_cons_self
        | 1, h2 => cases h2
        | k + 2, h2 => cases h2
      · match k, h2 with
        | 0, h2 => cases h2; exact List.mem_cons_self
        | k + 1, h2 => cases h2
    · rw [am_sl_len] at h1 h2
      refine List.mem_cons_of_mem _ ?_
      by_cases hc : w.category = 2
      · rw [if_pos hc] at h1 h2 ⊢
        have := ih (i + 2) (k - 2) v h2
        rw [show i + 2 + (k - 2) = i + k by omega] at this
        exact this
      · rw [if_neg hc] at h1 h2 ⊢
        have := ih (i + 1) (k - 1) v h2
        rw [show i + 1 + (k - 1) = i + k by omega] at this
        exact this
theorem am_lg_sl {τ : Nat → Nat} (vs : List Value) : (lg_sl (vs.map (am_tv τ))).length = (vs.flatMap am_sl).length := by
  induction vs with
  | nil => rfl
  | cons w vs ih =>
    have e : lg_sl ((w :: vs).map (am_tv τ)) = (if (am_tv τ w).category = 2 then [.val (am_tv τ w), .second] else [.val (am_tv τ w)]) ++ lg_sl (vs.map (am_tv τ)) := rfl
    rw [e, List.flatMap_cons, List.length_append, List.length_append, ih, am_sl_len, am_tv_cat]
    split <;> rfl
theorem am_LV_entry {τ : Nat → Nat} {vs : List Value} {n : Nat} (h : (vs.flatMap am_sl).length ≤ n) : am_LV τ ((lg_sl (vs.map (am_tv τ)) ++ List.replicate (n - (lg_sl (vs.map (am_tv τ))).length) Slot.unset).toArray) (am_en n vs) := by
  obtain ⟨h1, h2, h3⟩ := lv_entry (vs.map (am_tv τ)) (n := n) (by rw [am_lg_sl]; exact h)
  refine ⟨by rw [am_en_len h]; exact h1, h2, fun k v hk => ?_⟩
  rcases am_lg_app hk with ⟨-, hk⟩ | ⟨-, hk⟩
  · have := am_args (τ := τ) vs 0 k v hk
    rw [Nat.zero_add] at this
    exact h3 _ this
  · exact (am_lg_rep hk).elim
