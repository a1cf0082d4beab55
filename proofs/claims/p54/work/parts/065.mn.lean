/-! ===== rows of rows: 'multianewarray' of two dimensions ===== -/
/-- the outer row when i of its places are filled; an inner one -/
def mn_O (cA : ClassId) (N a i : Nat) : Cell := arrV cA N (fun j => if j < i then .ref (a + 1 + j) else .null)
def mn_I (comp : ClassId) (M : Nat) (dv : Value) : Cell := arrV comp M (fun _ => dv)
def mn_S (T : State) (cA comp : ClassId) (N M : Nat) (dv : Value) : Nat → State
  | 0 => T.pushCell (mn_O cA N T.heap.size 0)
  | i + 1 => ((mn_S T cA comp N M dv i).pushCell (mn_I comp M dv)).setCell T.heap.size (mn_O cA N T.heap.size (i + 1))
theorem mn_Os (cA : ClassId) (N a i : Nat) : (mn_O cA N a i).setSlot i (.ref (a + 1 + i)) = mn_O cA N a (i + 1) := by
  unfold mn_O
  rw [arrV_store]
  congr 1
  funext j
  by_cases h : j = i
  · subst h; simp [updV]
  · by_cases h2 : j < i
    · simp [updV, h, h2, show j < i + 1 by omega]
    · simp [updV, h, h2, show ¬ j < i + 1 by omega]
theorem mn_top (T : State) (g : JFrame) (cA comp : ClassId) (N M : Nat) (dv : Value) : ∀ i, mn_S (T.setTop g) cA comp N M dv i = (mn_S T cA comp N M dv i).setTop g
  | 0 => rfl
  | i + 1 => by simp only [mn_S, mn_top T g cA comp N M dv i, State.heap_setTop, State.pushCell_setTop, State.setCell_setTop]
theorem mn_facts (T : State) (cA comp : ClassId) (N M : Nat) (dv : Value) : ∀ i, ((mn_S T cA comp N M dv i).heap.size = T.heap.size + 1 + i ∧ (mn_S T cA comp N M dv i).heap[T.heap.size]? = some (mn_O cA N T.heap.size i)) ∧ (mn_S T cA comp N M dv i).vm = T.vm ∧
    (mn_S T cA comp N M dv i).slotsUsed = T.slotsUsed + N + i * M ∧ (∀ q : Nat, q < T.heap.size → (mn_S T cA comp N M dv i).heap[q]? = T.heap[q]?) ∧ ∀ j, j < i → (mn_S T cA comp N M dv i).heap[T.heap.size + 1 + j]? = some (mn_I comp M dv) := by
  intro i
  induction i with
  | zero =>
    refine ⟨⟨?_, State.heap_pushCell_size _ _⟩, rfl, ?_, fun q hq => State.heap_pushCell_of_lt _ _ hq, fun j hj => absurd hj (Nat.not_lt_zero _)⟩
    · show (T.pushCell _).heap.size = _
      simp
    · show (T.pushCell _).slotsUsed = _
      simp [mn_O, arrV_size]
  | succ i ih =>
    obtain ⟨⟨a1, a2⟩, a3, a4, a5, a6⟩ := ih
    have hlt : T.heap.size < (mn_S T cA comp N M dv i).heap.size := by omega
    have hlt2 : ∀ q : Nat, q < T.heap.size + 1 + i → q < (mn_S T cA comp N M dv i).heap.size := fun q hq => by rw [a1]; exact hq
    have e0 : ((mn_S T cA comp N M dv i).pushCell (mn_I comp M dv)).heap[T.heap.size]? = some (mn_O cA N T.heap.size i) := (State.heap_pushCell_of_lt _ _ hlt).trans a2
    refine ⟨⟨?_, State.heap_setCell_self e0⟩, a3, ?_, fun q hq => ?_, fun j hj => ?_⟩
    · simp [mn_S, State.setCell, a1]
      omega
    · simp [mn_S, a4, mn_I, arrV_size, Nat.succ_mul]
      omega
    · exact (State.heap_setCell_other (Nat.ne_of_gt hq)).trans ((State.heap_pushCell_of_lt _ _ (hlt2 q (Nat.lt_of_lt_of_le hq (by omega)))).trans (a5 q hq))
    · refine (State.heap_setCell_other (show T.heap.size ≠ T.heap.size + 1 + j by omega)).trans ?_
      by_cases hji : j = i
      · subst hji
        rw [← a1]
        exact State.heap_pushCell_size _ _
      · exact (State.heap_pushCell_of_lt _ _ (hlt2 (T.heap.size + 1 + j) (by omega))).trans (a6 j (by omega))
section MNW
variable {E : CtlPost} {e : Env} {d : Bool} {acts : List Action} {s : State}
theorem mn_two {c comp cc : ClassId} {k kc : Class} {t0 type : FieldType} {n m : Int32} (hk : s.vm.classes[c]? = some k) (hkind : k.kind = .array comp t0) (href : t0 = .array type) (hkc : s.vm.classes[comp]? = some kc) (hkindc : kc.kind = .array cc type) (hn : ¬ n < 0) (hm : ¬ m < 0)
    (hl1 : ¬ n.toNatClampNeg > e.platform.arrayLengthLimit) (hh1 : ¬ n.toNatClampNeg * componentBytes t0 > e.platform.maxHeapBytes) (hl2 : ¬ m.toNatClampNeg > e.platform.arrayLengthLimit) (hh2 : ¬ m.toNatClampNeg * componentBytes type > e.platform.maxHeapBytes)
    (hdf : fits type (defaultValue type) = true) (hc : s.heap.size + 1 + n.toNatClampNeg ≤ e.platform.maxCells) (hs : s.slotsUsed + n.toNatClampNeg + n.toNatClampNeg * m.toNatClampNeg ≤ e.platform.maxSlots)
    {Q : Addr → Pre} (hq : ∀ d' acts', Q s.heap.size d' acts' (mn_S s c comp n.toNatClampNeg m.toNatClampNeg (defaultValue type) n.toNatClampNeg)) :
    wp (multianewarray.make c [n, m]) Q E e d acts s := by
  subst href
  have hfind : ([m].find? (· < 0)) = none := by simp [hm]
  rw [multianewarray.make]
  simp only [wp_bind', W.ite, hn, if_false, wp_pure', W.theClass, hk, hkind, Option.some.injEq, exists_eq_left']
  refine W.newArray_of hk hkind hl1 hh1 (by omega) (by omega) rfl (fun acts1 => ?_)
  rw [arrV_new]
  simp only [hfind]
  rw [ite_self, wp_bind', Std.Legacy.Range.forIn_eq_forIn_range']
  have hsz : ([:n.toNatClampNeg] : Std.Legacy.Range).size = n.toNatClampNeg := by simp [Std.Legacy.Range.size]
  rw [hsz]
  show wp (forIn (List.range' 0 n.toNatClampNeg 1) PUnit.unit _) _ E e d acts1 _
  have e0 : s.pushCell (arrV c n.toNatClampNeg (fun _ => .null)) = mn_S s c comp n.toNatClampNeg m.toNatClampNeg (defaultValue type) 0 := rfl
  rw [e0]
  refine wp_forIn_inv (fun rest s' => ∃ i, i ≤ n.toNatClampNeg ∧ rest = List.range' i (n.toNatClampNeg - i) ∧ s' = mn_S s c comp n.toNatClampNeg m.toNatClampNeg (defaultValue type) i) _ _ ⟨0, Nat.zero_le _, rfl, rfl⟩ ?_ ?_
  · rintro x rest s' d' acts' Q' ⟨i, hi, hl, rfl⟩ hnext
    have hlt : i < n.toNatClampNeg := by
      refine Nat.lt_of_le_of_ne hi fun h => ?_
      rw [h, Nat.sub_self] at hl
      cases hl
    have hr : List.range' i (n.toNatClampNeg - i) = i :: List.range' (i + 1) (n.toNatClampNeg - (i + 1)) := by
      rw [show n.toNatClampNeg - i = (n.toNatClampNeg - (i + 1)) + 1 by omega, List.range'_succ]
    rw [hr] at hl
    obtain ⟨rfl, rfl⟩ := List.cons.inj hl
    obtain ⟨⟨f1, f2⟩, f3, f4, f5, f6⟩ := mn_facts s c comp n.toNatClampNeg m.toNatClampNeg (defaultValue type) x
    have hmul : x * m.toNatClampNeg + m.toNatClampNeg ≤ n.toNatClampNeg * m.toNatClampNeg := by
      have := Nat.mul_le_mul_right m.toNatClampNeg (show x + 1 ≤ n.toNatClampNeg from hlt)
      rwa [Nat.succ_mul] at this
    simp only [wp_bind']
    rw [multianewarray.make]
    simp only [wp_bind', W.ite, hm, if_false, wp_pure', W.theClass, f3, hkc, hkindc, Option.some.injEq, exists_eq_left']
    refine W.newArray_of (by rw [f3]; exact hkc) hkindc hl2 hh2 (by rw [f1]; omega) (by rw [f4]; omega) hdf (fun acts2 => ?_)
    rw [arrV_new]
    have hlt0 : s.heap.size < (mn_S s c comp n.toNatClampNeg m.toNatClampNeg (defaultValue type) x).heap.size := by rw [f1]; omega
    simp only [wp_bind', W.writeLoc, wp_pure']
    refine ⟨mn_O c n.toNatClampNeg s.heap.size x, by rw [State.heap_pushCell_of_lt (h := hlt0)]; exact f2, (show VmData.none ≠ VmData.unknown from fun q => by cases q), by show x < (arrV c n.toNatClampNeg _).slots.size; rw [arrV_size]; exact hlt, ?_, hnext _ _ _ ⟨x + 1, hlt, rfl, ?_⟩⟩
    · simp [State.fitsSlot, State.slotType?, f3, hk, hkind, mn_O, arrV, fits]
    · show State.setCell _ _ ((mn_O _ _ _ _).setSlot x (.ref (mn_S s c comp n.toNatClampNeg m.toNatClampNeg (defaultValue type) x).heap.size)) = _
      rw [f1, mn_Os]
      rfl
  · rintro s' d' acts' ⟨i, hi, hl, rfl⟩
    have hiN : i = n.toNatClampNeg := by
      by_cases h : i = n.toNatClampNeg
      · exact h
      · rw [show n.toNatClampNeg - i = (n.toNatClampNeg - (i + 1)) + 1 by omega, List.range'_succ] at hl
        cases hl
    subst hiN
    simp only [wp_pure']
    exact hq _ _
end MNW
section MNX
variable {p : Program} {l : Launch} {e : Env} {R : Room} {s : State} {m : MethodId} {args : Array Value} {below : List Frame} {meth : Method} {c : Code} {T : State} {H : Heap} {locs : List Loc} {cells slots : Nat} {Q : State → Prop}
theorem mn_stand (X : Stand p l e R s m args below meth c T locs cells slots) (cA comp : ClassId) (N M : Nat) (dv : Value) : ∀ i, Stand p l e R s m args below meth c (mn_S T cA comp N M dv i) (locs ++ (List.range i).map fun j => ⟨T.heap.size, j⟩) (cells + 1 + i) (slots + N + i * M) := by
  intro i
  induction i with
  | zero =>
    have h := X.pushed (mn_O cA N T.heap.size 0)
    have e1 : (mn_O cA N T.heap.size 0).slots.size = N := arrV_size _ _ _
    rw [e1] at h
    simpa [mn_S] using h
  | succ i ih =>
    obtain ⟨⟨f1, f2⟩, -, -, -, -⟩ := mn_facts T cA comp N M dv i
    have e1 : (mn_I comp M dv).slots.size = M := arrV_size _ _ _
    have hlt : T.heap.size < (mn_S T cA comp N M dv i).heap.size := by rw [f1]; omega
    have h := (ih.pushed (mn_I comp M dv)).stored ((State.heap_pushCell_of_lt _ _ hlt).trans f2) i (.ref (T.heap.size + 1 + i))
    rw [mn_Os, e1] at h
    have e2 : (List.range (i + 1)).map (fun j => (⟨T.heap.size, j⟩ : Loc)) = (List.range i).map (fun j => (⟨T.heap.size, j⟩ : Loc)) ++ [⟨T.heap.size, i⟩] := by rw [List.range_succ, List.map_append]; rfl
    have e3 : slots + N + (i + 1) * M = slots + N + i * M + M := by rw [Nat.succ_mul]; omega
    rw [e2, ← List.append_assoc, e3]
    exact h
/-- the instruction -/
theorem mn_W {cc : ByteArray} (hexec : p.tables.exec = Jvm.exec) (hb : c.code = cc) {own : String} {index : Nat} {ty : FieldType} (hown : s.vm.findClass own = some m.cls) (hclink : (Cond.classLink own index ("[" ++ (FieldType.array ty).toString)).before args s = true)
    (hover : (Cond.arrayOver (.array ty)).before args s = true) (harr : (Cond.arrayClass ty).before args s = true) {pc : Nat} {ls : Array Slot} {rest : List Value} {n k : Int32} (hdg : decode cc pc = .ok (.multianewarray index 2, 4))
    (hn : ¬ n < 0) (hk : ¬ k < 0) (hb1 : n.toNatClampNeg ≤ 1000) (hb2 : k.toNatClampNeg ≤ 1000) (hdf : fits ty (defaultValue ty) = true) (hcb : componentBytes ty ≤ 8)
    (hcells : cells + (1 + n.toNatClampNeg) ≤ R.cells) (hslots : slots + (n.toNatClampNeg + n.toNatClampNeg * k.toNatClampNeg) ≤ R.slots)
    (kk : ∀ (cA comp : ClassId) (H1 : Heap), s.vm.findClass ("[" ++ (FieldType.array ty).toString) = some cA → s.vm.findClass ("[" ++ ty.toString) = some comp → H1.size = H.size + 1 + n.toNatClampNeg → H1[H.size]? = some (mn_O cA n.toNatClampNeg H.size n.toNatClampNeg) → (∀ q : Nat, q < H.size → H1[q]? = H[q]?) →
      (∀ j, j < n.toNatClampNeg → H1[H.size + 1 + j]? = some (mn_I comp k.toNatClampNeg (defaultValue ty))) →
      W p l e R s m args below meth c H1 (locs ++ (List.range n.toNatClampNeg).map fun j => ⟨H.size, j⟩) (cells + 1 + n.toNatClampNeg) (slots + n.toNatClampNeg + n.toNatClampNeg * k.toNatClampNeg) Q (F0 m (pc + 4) ls (.ref H.size :: rest))) : W p l e R s m args below meth c H locs cells slots Q (F0 m pc ls (.int k :: .int n :: rest)) := by
  intro T hT X
  subst hT
  have hpl : e.platform.magicAccessors = ({} : Platform).magicAccessors := by rw [X.admits.platform]
  obtain ⟨comp, cA, kA, hcomp, -, hkA, hkindA, hnameA⟩ := arrayOverA_spec hover
  obtain ⟨comp', kC, cc', hcomp', hkC, hkindC⟩ := Cond.arrayClass_spec harr
  have hcc : comp' = comp := Option.some.inj (hcomp'.symm.trans hcomp)
  subst hcc
  obtain ⟨c0, hfc0, hcl⟩ := Cond.classLink_spec hown hclink e.platform hpl
  cases hnameA.symm.trans hfc0
  obtain ⟨hg₁, hwarm₁, hready₁⟩ := State.classEntry (e := e) X.warmed hcl
  generalize T.vm.noted m.cls index (.cls cA) = vm₁ at hg₁ hwarm₁ hready₁
  have hal : s.vm.Alike vm₁ := hwarm₁.alike
  obtain ⟨kA₁, hkA₁, heA⟩ := hal.2.2 _ _ hkA
  obtain ⟨kC₁, hkC₁, heC⟩ := hal.2.2 _ _ hkC
  have hkindA₁ : kA₁.kind = .array comp' (.array ty) := by rw [heA]; exact hkindA
  have hkindC₁ : kC₁.kind = .array cc' ty := by rw [heC]; exact hkindC
  have X₁ := X.noted hwarm₁
  obtain ⟨hr1, hr2⟩ := X.roomAbove hcells hslots
  obtain ⟨⟨f1, f2⟩, -, -, f5, f6⟩ := mn_facts (T.setVm vm₁) cA comp' n.toNatClampNeg k.toNatClampNeg (defaultValue ty) n.toNatClampNeg
  have XF := mn_stand X₁ cA comp' n.toNatClampNeg k.toNatClampNeg (defaultValue ty) n.toNatClampNeg
  obtain ⟨t, a1, b1⟩ := kk cA comp' _ hnameA hcomp f1 f2 f5 f6 _ rfl XF
  refine ⟨t, ?_, b1⟩
  have hl1 : ¬ n.toNatClampNeg > e.platform.arrayLengthLimit := by rw [Launch.admits_arrayLengthLimit X.admits]; omega
  have hh1 : ¬ n.toNatClampNeg * componentBytes (.array ty) > e.platform.maxHeapBytes := by
    rw [Launch.admits_maxHeapBytes X.admits]; show ¬ n.toNatClampNeg * 4 > 536870912; omega
  have hl2 : ¬ k.toNatClampNeg > e.platform.arrayLengthLimit := by rw [Launch.admits_arrayLengthLimit X.admits]; omega
  have hh2 : ¬ k.toNatClampNeg * componentBytes ty > e.platform.maxHeapBytes := by
    rw [Launch.admits_maxHeapBytes X.admits]
    have : k.toNatClampNeg * componentBytes ty ≤ 1000 * 8 := Nat.mul_le_mul hb2 hcb
    omega
  have hdg' : decode c.code pc = .ok (.multianewarray index 2, 4) := by rw [hb]; exact hdg
  jvm_step X.here [hexec, hdg']
  simp only [multianewarray.sem, wp_bind', W.resolveClassAt_links (State.method?_setTop (F0 m pc ls (.int k :: .int n :: rest)) X.here.top) hg₁]
  rw [W.popN, if_neg (by decide)]
  refine ⟨F0 m pc ls (.int k :: .int n :: rest), State.topJava?_setTop' (s := T.setVm vm₁) _ X.here.top, [.int n, .int k], rest, rfl, rfl, ?_⟩
  simp only [List.mapM_cons, List.mapM_nil, wp_bind', wp_pure']
  refine mn_two (k := kA₁) (kc := kC₁) (comp := comp') (cc := cc') (t0 := .array ty) (type := ty) hkA₁ hkindA₁ rfl hkC₁ hkindC₁ hn hk hl1 hh1 hl2 hh2 hdf (by show T.heap.size + 1 + _ ≤ _; omega) (by show T.slotsUsed + _ + _ ≤ _; omega) (fun d' acts' => ?_)
  have eS : ((T.setTop (F0 m pc ls (.int k :: .int n :: rest))).setVm vm₁).setTop { F0 m pc ls (.int k :: .int n :: rest) with stack := rest } = (T.setVm vm₁).setTop { F0 m pc ls (.int k :: .int n :: rest) with stack := rest } := by
    show ((T.setVm vm₁).setTop _).setTop _ = _
    rw [State.setTop_setTop]
  rw [eS, mn_top]
  simp only [wp_bind', W.mark, W.pushRef, State.topJava?_setTop' _ XF.here.top, Option.some.injEq, exists_eq_left', State.setTop_setTop, State.heap_setTop]
  intro acts
  simp [jvm, XF.here.top]
  exact a1
end MNX
