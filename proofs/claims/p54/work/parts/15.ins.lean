/-! ===== the run, an instruction at a time ===== -/
noncomputable def ru_n (z : Bool) (j pc : Nat) (ls : am_L) (st : List Value) (h : am_H) : am_R := am_ru (tb_P z) j pc ls st h
noncomputable def ru_ev (z : Bool) (t : Nat) (args : List Value) (h : am_H) : am_R := am_ev (tb_P z) t args h
section RUN
variable {z : Bool} {j pc len : Nat} {x : Nat × Nat × Nat} {ls : am_L} {r : List Value} {h : am_H} {i : Instr}
theorem ru_at {j pc : Nat} {w : am_I} (h1 : ¬ (j = 34 ∧ pc = 2)) (h2 : (tb_fd (tb_Tf j) pc).map (fun e => e.2.1) = some w) : (tb_P z).1 j pc = some w := by
  simp only [tb_P, if_neg h1, h2]
theorem ru_pu {st : List Value} {pc' : Nat} {ls' : am_L} {st' : List Value} (hf : (tb_P z).1 j pc = some (i, len, x)) (hk : am_kd i x = 0) (hp : am_pu pc i x ls st = some (pc', ls', st')) : ru_n z j pc ls st h = ru_n z j pc' ls' st' h := (am_ru_eq _ _ _ _ _ _).trans (am_st_pu hf hk hp)
theorem ru_if {c : Prop} [Decidable c] {p q : Nat} : ru_n z j (if c then p else q) ls r h = if c then ru_n z j p ls r h else ru_n z j q ls r h := by split <;> rfl
theorem ru_br {c : Prop} [Decidable c] {p q : Nat} {st : List Value} {ls' : am_L} (hf : (tb_P z).1 j pc = some (i, len, x)) (hk : am_kd i x = 0) (hp : am_pu pc i x ls st = some (if c then p else q, ls', r)) : ru_n z j pc ls st h = if c then ru_n z j p ls' r h else ru_n z j q ls' r h := (ru_pu hf hk hp).trans ru_if
theorem ru_ch {st : List Value} {f : Option (Nat × am_L × List Value)} (hf : (tb_P z).1 j pc = some (i, len, x)) (hk : am_kd i x = 0) (hp : am_pu pc i x ls st = f) : ru_n z j pc ls st h = match f with | none => none | some (p, l, s) => ru_n z j p l s h := by
  cases f with
  | none => exact (am_ru_eq _ _ _ _ _ _).trans (by simp only [am_st, hf, hk, hp])
  | some q => exact ru_pu hf hk hp
theorem ru_cd {c : Prop} [Decidable c] {st : List Value} {pc' : Nat} {ls' : am_L} {st' : List Value} (hf : (tb_P z).1 j pc = some (i, len, x)) (hk : am_kd i x = 0) (hp : am_pu pc i x ls st = if c then some (pc', ls', st') else none) : ru_n z j pc ls st h = if c then ru_n z j pc' ls' st' h else none := by
  by_cases hc : c
  · rw [if_pos hc] at hp ⊢; exact ru_pu hf hk hp
  · rw [if_neg hc] at hp ⊢; exact ru_ch hf hk hp
theorem ru_ce {c : Prop} [Decidable c] {st : List Value} {pc' : Nat} {ls' : am_L} {st' : List Value} (hf : (tb_P z).1 j pc = some (i, len, x)) (hk : am_kd i x = 0) (hp : am_pu pc i x ls st = if c then none else some (pc', ls', st')) : ru_n z j pc ls st h = if c then none else ru_n z j pc' ls' st' h := by
  by_cases hc : c
  · rw [if_pos hc] at hp ⊢; exact ru_ch hf hk hp
  · rw [if_neg hc] at hp ⊢; exact ru_pu hf hk hp
theorem ru_he {st : List Value} (hf : (tb_P z).1 j pc = some (i, len, x)) (hk : am_kd i x = 1) : ru_n z j pc ls st h = match am_he (tb_P z).2.2.2 pc i x st h with | none => none | some (pc', st', h') => ru_n z j pc' ls st' h' := (am_ru_eq _ _ _ _ _ _).trans (am_st_he hf hk)
theorem ru_re {st : List Value} {v : Option Value} (hf : (tb_P z).1 j pc = some (i, len, x)) (hk : am_kd i x = 3) (hr : am_re i x st = some v) : ru_n z j pc ls st h = some (.inl v, h) := (am_ru_eq _ _ _ _ _ _).trans (am_st_re hf hk hr)
theorem ru_th (hf : (tb_P z).1 j pc = some (i, len, x)) (hk : am_kd i x = 4) : ru_n z j pc ls [] h = some (.inr x.1, (h.1, h.2.1 + 1, h.2.2 + 6)) := (am_ru_eq _ _ _ _ _ _).trans (am_st_th hf hk (Nat.zero_le _))
theorem ru_gfI {k a c s : Nat} (hf : (tb_P z).1 j pc = some (.getfield k, len, (c, s, 0))) : ru_n z j pc ls (.ref a :: r) h = match am_fd h a c s with | some (.int v) => ru_n z j (pc + 3) ls (.int v :: r) h | _ => none := by
  rw [ru_he hf rfl]
  simp only [am_he]
  cases am_fd h a c s with
  | none => rfl
  | some v => cases v <;> rfl
theorem ru_gfJ {k a c s : Nat} (hf : (tb_P z).1 j pc = some (.getfield k, len, (c, s, 1))) : ru_n z j pc ls (.ref a :: r) h = match am_fd h a c s with | some (.long v) => ru_n z j (pc + 3) ls (.long v :: r) h | _ => none := by
  rw [ru_he hf rfl]
  simp only [am_he]
  cases am_fd h a c s with
  | none => rfl
  | some v => cases v <;> rfl
theorem ru_gfR {k a c s : Nat} (hf : (tb_P z).1 j pc = some (.getfield k, len, (c, s, 2))) : ru_n z j pc ls (.ref a :: r) h = match am_fd h a c s with | some (.ref v) => ru_n z j (pc + 3) ls (.ref v :: r) h | _ => none := by
  rw [ru_he hf rfl]
  simp only [am_he]
  cases am_fd h a c s with
  | none => rfl
  | some v => cases v <;> rfl
theorem ru_pfd {k a : Nat} {v : Value} (hf : (tb_P z).1 j pc = some (.putfield k, len, x)) : ru_n z j pc ls (v :: .ref a :: r) h = match am_pf h a x.1 x.2.1 x.2.2 v with | some h' => ru_n z j (pc + 3) ls r h' | none => none := by
  rw [ru_he hf rfl]
  simp only [am_he]
  cases am_pf h a x.1 x.2.1 x.2.2 v <;> rfl
theorem ru_iald {a : Nat} {k : Int32} (hf : (tb_P z).1 j pc = some (.iaload, len, x)) : ru_n z j pc ls (.int k :: .ref a :: r) h = match am_ia h a k with | some v => ru_n z j (pc + 1) ls (.int v :: r) h | none => none := by
  rw [ru_he hf rfl]
  simp only [am_he]
  cases am_ia h a k <;> rfl
theorem ru_bald {a : Nat} {k : Int32} (hf : (tb_P z).1 j pc = some (.baload, len, x)) : ru_n z j pc ls (.int k :: .ref a :: r) h = match am_ba h a k with | some v => ru_n z j (pc + 1) ls (.int v :: r) h | none => none := by
  rw [ru_he hf rfl]
  simp only [am_he]
  cases am_ba h a k <;> rfl
theorem ru_lald {a : Nat} {k : Int32} (hf : (tb_P z).1 j pc = some (.laload, len, x)) : ru_n z j pc ls (.int k :: .ref a :: r) h = match am_la h a k with | some v => ru_n z j (pc + 1) ls (.long v :: r) h | none => none := by
  rw [ru_he hf rfl]
  simp only [am_he]
  cases am_la h a k <;> rfl
theorem ru_dald {a : Nat} {k : Int32} (hf : (tb_P z).1 j pc = some (.daload, len, x)) : ru_n z j pc ls (.int k :: .ref a :: r) h = match am_da h a k with | some v => ru_n z j (pc + 1) ls (.double v :: r) h | none => none := by
  rw [ru_he hf rfl]
  simp only [am_he]
  cases am_da h a k <;> rfl
theorem ru_aald {a : Nat} {k : Int32} (hf : (tb_P z).1 j pc = some (.aaload, len, x)) : ru_n z j pc ls (.int k :: .ref a :: r) h = match am_qa h a k with | some v => ru_n z j (pc + 1) ls (.ref v :: r) h | none => none := by
  rw [ru_he hf rfl]
  simp only [am_he]
  cases am_qa h a k <;> rfl
theorem ru_iast {a : Nat} {k v : Int32} (hf : (tb_P z).1 j pc = some (.iastore, len, x)) : ru_n z j pc ls (.int v :: .int k :: .ref a :: r) h = match am_is h a k v with | some h' => ru_n z j (pc + 1) ls r h' | none => none := by
  rw [ru_he hf rfl]
  simp only [am_he]
  cases am_is h a k v <;> rfl
theorem ru_bast {a : Nat} {k v : Int32} (hf : (tb_P z).1 j pc = some (.bastore, len, x)) : ru_n z j pc ls (.int v :: .int k :: .ref a :: r) h = match am_bs h a k v with | some h' => ru_n z j (pc + 1) ls r h' | none => none := by
  rw [ru_he hf rfl]
  simp only [am_he]
  cases am_bs h a k v <;> rfl
theorem ru_last {a : Nat} {k : Int32} {v : Int64} (hf : (tb_P z).1 j pc = some (.lastore, len, x)) : ru_n z j pc ls (.long v :: .int k :: .ref a :: r) h = match am_js h a k v with | some h' => ru_n z j (pc + 1) ls r h' | none => none := by
  rw [ru_he hf rfl]
  simp only [am_he]
  cases am_js h a k v <;> rfl
theorem ru_dast {a : Nat} {k : Int32} {v : UInt64} (hf : (tb_P z).1 j pc = some (.dastore, len, x)) : ru_n z j pc ls (.double v :: .int k :: .ref a :: r) h = match am_ds h a k v with | some h' => ru_n z j (pc + 1) ls r h' | none => none := by
  rw [ru_he hf rfl]
  simp only [am_he]
  cases am_ds h a k v <;> rfl
theorem ru_aast {a v : Nat} {k : Int32} (hf : (tb_P z).1 j pc = some (.aastore, len, x)) : ru_n z j pc ls (.ref v :: .int k :: .ref a :: r) h = match am_qs h a k v with | some h' => ru_n z j (pc + 1) ls r h' | none => none := by
  rw [ru_he hf rfl]
  simp only [am_he]
  cases am_qs h a k v <;> rfl
theorem ru_alen {a : Nat} (hf : (tb_P z).1 j pc = some (.arraylength, len, x)) : ru_n z j pc ls (.ref a :: r) h = match am_al h a with | some v => ru_n z j (pc + 1) ls (.int v :: r) h | none => none := by
  rw [ru_he hf rfl]
  simp only [am_he]
  cases am_al h a <;> rfl
theorem ru_new {k c n : Nat} (hf : (tb_P z).1 j pc = some (.new k, len, (c, n, 0))) : ru_n z j pc ls r h = ru_n z j (pc + 3) ls (.ref h.2.1 :: r) (am_new h (.inr (c, (tb_P z).2.2.2 c)) n) := by
  rw [ru_he hf rfl]
  rfl
theorem ru_nwa {t : ArrayType} {n : Int32} {k : Nat} (hf : (tb_P z).1 j pc = some (.newarray t, len, (k, 0, 0))) (hk : k ≤ 4) : ru_n z j pc ls (.int n :: r) h = match am_na h k n with | some h' => ru_n z j (pc + 2) ls (.ref h.2.1 :: r) h' | none => none := by
  rw [ru_he hf rfl]
  simp only [am_he, if_pos hk]
  cases am_na h k n <;> rfl
theorem ru_nwq {q k : Nat} {n : Int32} (hf : (tb_P z).1 j pc = some (.anewarray q, len, (k, 0, 0))) (hk : k = 5 ∨ k = 6 ∨ k = 7) : ru_n z j pc ls (.int n :: r) h = match am_na h k n with | some h' => ru_n z j (pc + 3) ls (.ref h.2.1 :: r) h' | none => none := by
  rw [ru_he hf rfl]
  simp only [am_he, if_pos hk]
  cases am_na h k n <;> rfl
theorem ru_obi {k a : Nat} (hf : (tb_P z).1 j pc = some (.invokespecial k, len, (999998, 0, 0))) : ru_n z j pc ls (.ref a :: r) h = if r.length ≤ 4 then ru_n z j (pc + 3) ls r h else none := by
  rw [ru_he hf rfl]
  simp only [am_he]
  split
  · rename_i h0; split at h0
    · cases h0
    · rename_i h1; rw [if_neg h1]
  · rename_i h0; split at h0
    · rename_i h1; cases h0; rw [if_pos h1]
    · cases h0
theorem ru_acp {k a a0 : Nat} {n dp sp : Int32} (hf : (tb_P z).1 j pc = some (.invokestatic k, len, (999999, 0, 0))) : ru_n z j pc ls (.int n :: .int dp :: .ref a :: .int sp :: .ref a0 :: []) h = match am_ac h a0 sp a dp n with | some h' => ru_n z j (pc + 3) ls [] h' | none => none := by
  rw [ru_he hf rfl]
  simp only [am_he]
  rw [if_pos (show ([] : List Value).length ≤ 4 from Nat.zero_le _)]
  cases am_ac h a0 sp a dp n <;> rfl
theorem ru_mnw {q k : Nat} {n m : Int32} (hf : (tb_P z).1 j pc = some (.multianewarray q 2, len, (k, 0, 0))) : ru_n z j pc ls (.int m :: .int n :: r) h = match am_mn h k n m with | some h' => ru_n z j (pc + 4) ls (.ref h.2.1 :: r) h' | none => none := by
  rw [ru_he hf rfl]
  simp only [am_he]
  cases am_mn h k n m <;> rfl
theorem ru_cln {k a : Nat} (hf : (tb_P z).1 j pc = some (.invokevirtual k, len, (999997, 0, 0))) : ru_n z j pc ls (.ref a :: []) h = match am_cn1 h a with | some h' => ru_n z j (pc + 3) ls (.ref h.2.1 :: []) h' | none => none := by
  rw [ru_he hf rfl]
  simp only [am_he]
  rw [if_pos (show ([] : List Value).length ≤ 4 from Nat.zero_le _)]
  cases am_cn1 h a <;> rfl
theorem ru_ccb {k a : Nat} (hf : (tb_P z).1 j pc = some (.checkcast k, len, x)) : ru_n z j pc ls (.ref a :: r) h = if am_isb h a = true then ru_n z j (pc + 3) ls (.ref a :: r) h else none := by
  rw [ru_he hf rfl]
  simp only [am_he]
  by_cases hb : am_isb h a = true
  · rw [if_pos hb, if_pos hb]
  · rw [if_neg hb, if_neg hb]
/-- a call, in a method without handlers -/
theorem ru_call0 {st args : List Value} {t n c : Nat} (hf : (tb_P z).1 j pc = some (i, len, (t, n, c))) (hk : am_kd i (t, n, c) = 2) (hst : st = args.reverse ++ r) (hn : args.length = n) : ru_n z j pc ls st h = if am_cs r ≤ 8 then am_be (tb_P z) (ru_n z j) j pc c ls r (ru_ev z t args h) else none := by
  have h1 : st.drop n = r := by rw [hst]; exact List.drop_left' (by rw [List.length_reverse, hn])
  have h2 : (st.take n).reverse = args := by rw [hst, List.take_left' (by rw [List.length_reverse, hn]), List.reverse_reverse]
  have h3 : n ≤ st.length := by rw [hst, List.length_append, List.length_reverse, hn]; omega
  by_cases hr : am_cs r ≤ 8
  · rw [if_pos hr]
    refine (am_ru_eq _ _ _ _ _ _).trans ?_
    rw [am_st_ca hf hk ⟨h3, by show am_cs (st.drop n) ≤ 8; rw [h1]; exact hr⟩]
    show am_be (tb_P z) (am_ru (tb_P z) j) j pc c ls (st.drop n) (am_ca (tb_P z) _ t (st.take n).reverse h) = _
    rw [h1, h2]
    rfl
  · rw [if_neg hr]
    refine (am_ru_eq _ _ _ _ _ _).trans ?_
    simp only [am_st, hf, hk]
    rw [if_neg]
    intro h9
    apply hr
    rw [← h1]
    exact h9.2
theorem ru_caV {st args : List Value} {t n : Nat} (hf : (tb_P z).1 j pc = some (i, len, (t, n, 0))) (hk : am_kd i (t, n, 0) = 2) (hst : st = args.reverse ++ r) (hn : args.length = n) (hh : tb_ahf j = []) : ru_n z j pc ls st h = if am_cs r ≤ 8 then (match ru_ev z t args h with | some (.inl none, h') => ru_n z j (pc + 3) ls r h' | some (.inr E, h') => some (.inr E, h') | _ => none) else none := by
  rw [ru_call0 hf hk hst hn]
  congr 1
  have hh2 : (tb_P z).2.2.1 j = [] := hh
  cases ru_ev z t args h with
  | none => rfl
  | some q =>
    obtain ⟨o, h'⟩ := q
    obtain (_ | v) | E := o
    · rfl
    · rfl
    · simp only [am_be, hh2, am_hn]
theorem ru_caI {st args : List Value} {t n : Nat} (hf : (tb_P z).1 j pc = some (i, len, (t, n, 1))) (hk : am_kd i (t, n, 1) = 2) (hst : st = args.reverse ++ r) (hn : args.length = n) (hh : tb_ahf j = []) : ru_n z j pc ls st h = if am_cs r ≤ 8 then (match ru_ev z t args h with | some (.inl (some (.int v)), h') => ru_n z j (pc + 3) ls (.int v :: r) h' | some (.inr E, h') => some (.inr E, h') | _ => none) else none := by
  rw [ru_call0 hf hk hst hn]
  congr 1
  have hh2 : (tb_P z).2.2.1 j = [] := hh
  cases ru_ev z t args h with
  | none => rfl
  | some q =>
    obtain ⟨o, h'⟩ := q
    obtain (_ | v) | E := o
    · rfl
    · cases v <;> rfl
    · simp only [am_be, hh2, am_hn]
theorem ru_caJ {st args : List Value} {t n : Nat} (hf : (tb_P z).1 j pc = some (i, len, (t, n, 2))) (hk : am_kd i (t, n, 2) = 2) (hst : st = args.reverse ++ r) (hn : args.length = n) (hh : tb_ahf j = []) : ru_n z j pc ls st h = if am_cs r ≤ 8 then (match ru_ev z t args h with | some (.inl (some (.long v)), h') => ru_n z j (pc + 3) ls (.long v :: r) h' | some (.inr E, h') => some (.inr E, h') | _ => none) else none := by
  rw [ru_call0 hf hk hst hn]
  congr 1
  have hh2 : (tb_P z).2.2.1 j = [] := hh
  cases ru_ev z t args h with
  | none => rfl
  | some q =>
    obtain ⟨o, h'⟩ := q
    obtain (_ | v) | E := o
    · rfl
    · cases v <;> rfl
    · simp only [am_be, hh2, am_hn]
theorem ru_caR {st args : List Value} {t n : Nat} (hf : (tb_P z).1 j pc = some (i, len, (t, n, 3))) (hk : am_kd i (t, n, 3) = 2) (hst : st = args.reverse ++ r) (hn : args.length = n) (hh : tb_ahf j = []) : ru_n z j pc ls st h = if am_cs r ≤ 8 then (match ru_ev z t args h with | some (.inl (some (.ref v)), h') => ru_n z j (pc + 3) ls (.ref v :: r) h' | some (.inr E, h') => some (.inr E, h') | _ => none) else none := by
  rw [ru_call0 hf hk hst hn]
  congr 1
  have hh2 : (tb_P z).2.2.1 j = [] := hh
  cases ru_ev z t args h with
  | none => rfl
  | some q =>
    obtain ⟨o, h'⟩ := q
    obtain (_ | v) | E := o
    · rfl
    · cases v <;> rfl
    · simp only [am_be, hh2, am_hn]
theorem ru_caF {st args : List Value} {t n : Nat} (hf : (tb_P z).1 j pc = some (i, len, (t, n, 4))) (hk : am_kd i (t, n, 4) = 2) (hst : st = args.reverse ++ r) (hn : args.length = n) (hh : tb_ahf j = []) : ru_n z j pc ls st h = if am_cs r ≤ 8 then (match ru_ev z t args h with | some (.inl (some (.float v)), h') => ru_n z j (pc + 3) ls (.float v :: r) h' | some (.inr E, h') => some (.inr E, h') | _ => none) else none := by
  rw [ru_call0 hf hk hst hn]
  congr 1
  have hh2 : (tb_P z).2.2.1 j = [] := hh
  cases ru_ev z t args h with
  | none => rfl
  | some q =>
    obtain ⟨o, h'⟩ := q
    obtain (_ | v) | E := o
    · rfl
    · cases v <;> rfl
    · simp only [am_be, hh2, am_hn]
/-- a static method is entered -/
theorem ru_enS {t n : Nat} {args : List Value} {L : am_L} (hp : tb_rcf t = 0) (hl : (tb_J t).2.2.1 = n) (hL : am_en n args = L) (hn : (args.flatMap am_sl).length ≤ n) : ru_ev z t args h = ru_n z t 0 L [] h := by
  subst hl hL
  unfold ru_ev am_ev am_ca
  rw [if_pos ⟨by show am_rc h (tb_rcf t) args = true; rw [hp]; rfl, hn⟩]
  rfl
/-- an object's method is entered -/
theorem ru_enV {t n c a : Nat} {args : List Value} {L : am_L} (hp : tb_rcf t = c + 1) (hl : (tb_J t).2.2.1 = n) (hL : am_en n (.ref a :: args) = L) (hn : ((Value.ref a :: args).flatMap am_sl).length ≤ n) : ru_ev z t (.ref a :: args) h = match h.1 a with | some (.inr (q, _)) => if q = c then ru_n z t 0 L [] h else none | _ => none := by
  subst hl hL
  unfold ru_ev am_ev am_ca
  have e : ((tb_P z).2.1 t).2 = c + 1 := hp
  rw [e]
  have e2 : ((tb_P z).2.1 t).1 = (tb_J t).2.2.1 := rfl
  rw [e2]
  cases hh : h.1 a with
  | none => rw [if_neg]; intro h9; simp [am_rc, hh] at h9
  | some q =>
    obtain q | ⟨q, fs⟩ := q
    · rw [if_neg]; intro h9; simp [am_rc, hh] at h9
    · dsimp only
      by_cases hq : q = c
      · rw [if_pos ⟨by simp [am_rc, hh, hq], hn⟩, if_pos hq]; rfl
      · rw [if_neg hq, if_neg]; intro h9; simp [am_rc, hh, hq] at h9
end RUN
theorem ru_cs0 : am_cs [] = 0 := rfl
theorem ru_csI {v : Int32} {r : List Value} : am_cs (.int v :: r) = 1 + am_cs r := rfl
theorem ru_csR {v : Nat} {r : List Value} : am_cs (.ref v :: r) = 1 + am_cs r := rfl
theorem ru_csF {v : UInt32} {r : List Value} : am_cs (.float v :: r) = 1 + am_cs r := rfl
theorem ru_csJ {v : Int64} {r : List Value} : am_cs (.long v :: r) = 2 + am_cs r := rfl
theorem ru_klI {v : Int32} : am_kl (some (.int v)) = some (.int v) := rfl
theorem ru_klR {v : Nat} : am_kl (some (.ref v)) = some (.ref v) := rfl
theorem ru_klF {v : UInt32} : am_kl (some (.float v)) = some (.float v) := rfl
theorem ru_klJ {v : Int64} : am_kl (some (.long v)) = none := rfl
theorem ru_kl0 : am_kl none = none := rfl
