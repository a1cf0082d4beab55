/-! ===== the law writes a phrase of one, whichever ===== -/
section ONR
variable {z : Bool} {B : Nat} {A : tLw} {n : Nat} {g : Nat → Int32} {F L : Nat → List Nat} {S : Nat}
theorem shH_at {q : tPh} (hr : phR q) {nm : Int} (h : ¬ shH q nm = -1) : ∃ k : Nat, shH q nm = (k : Int) ∧ k < 12 ∧ shS q k = true := by
  have s := (phR_s hr).2.2.2.2.2.2.2
  have kr := hofF_rng (q.2 3) nm (q.1 7).toNat 0
  unfold shH at h ⊢
  by_cases c : ¬ hofF (q.2 3) nm (q.1 7).toNat 0 = -1 ∧ shw q (hofF (q.2 3) nm (q.1 7).toNat 0).toNat = true
  · rw [if_pos c] at h ⊢
    refine ⟨(hofF (q.2 3) nm (q.1 7).toNat 0).toNat, by omega, by omega, ?_⟩
    rw [shS_of (by omega)]; exact c.2
  · rw [if_neg c] at h; exact absurd rfl h
theorem d420 (hk : txK B n) (hA : ylR A) {X : am_H} {f NN t r cap : Nat} {l : List Nat} (hf : f < 3) (hgap : 0 ≤ A.1 0 ∧ A.1 0 ≤ 99) (hNN : A.1 1 = (NN : Int)) (hNN6 : NN ≤ 6) (hN1 : 1 ≤ NN) (hl : l.length ≤ 440) (hne : ¬ cnB (shS (A.2.1 f)) 12 = 0) (ht : t ≤ 800000) (h : txS X B A n g t F L S r l cap) : ∃ (X' : am_H) (r' cap' t' c km : Nat) (w : List Nat), prOne (A.2.1 f) (A.1 0) NN F L c km w ∧ w.length ≤ 40 ∧ txS X' B (ylU A f (lgv (A.2.1 f) km c)) n g t' F L S r' (l ++ w) cap' ∧ (t ≤ t' ∧ t' ≤ t + 6) ∧ agT B S r cap r' cap' X X' 3040 9400 ∧
    ru_ev z 420 [.ref (B + 1), .ref B, .int (wI f), .ref S] X = some (.inl (some (.int (wI 1))), X') := by
  have hk2 := hk.2.1
  obtain ⟨v1, X1, a1, a2, a3, a4, a5, a6, -⟩ := tx_drw (z := z) hk h (by omega) (lo := 0) (hi := (NN : Int) - 1) (by omega) (by omega) (by omega)
  obtain ⟨v2, X2, b1, b2, b3, b4, b5, b6, -⟩ := tx_drw (z := z) hk a4 (by omega) (lo := 0) (hi := (NN : Int) - 1) (by omega) (by omega) (by omega)
  obtain ⟨v3, X3, c1, c2, c3, c4, c5, c6, -⟩ := tx_drw (z := z) hk b4 (by omega) (lo := 0) (hi := (NN : Int) - 1) (by omega) (by omega) (by omega)
  obtain ⟨c, hc⟩ := Int.eq_ofNat_of_zero_le a1
  obtain ⟨a, ha⟩ := Int.eq_ofNat_of_zero_le b1
  obtain ⟨b, hb⟩ := Int.eq_ofNat_of_zero_le c1
  obtain ⟨sv, X4, d1, d2, d3, d4, d5, d6, -⟩ := tx_drw (z := z) hk c4 (by omega) (lo := 0) (hi := 1) (by omega) (by omega) (by omega)
  have f0 := yl_f2 h.1
  have f1 := yl_f2 a4.1
  have f2 := yl_f2 b4.1
  rw [hNN] at f0 f1 f2
  have w1 := d421 (z := z) c4.1 hA hf (nm := (a : Int)) (by omega)
  have w2 := d421 (z := z) c4.1 hA hf (nm := (b : Int)) (by omega)
  have wr1 := shH_rng (hA f) (a : Int)
  have wr2 := shH_rng (hA f) (b : Int)
  have ag4 := agT_t a5 (agT_t b5 (agT_t c5 d5))
  obtain ⟨lf, hlf⟩ : ∃ lf, lf = 1 - sv := ⟨_, rfl⟩
  have pre : ru_ev z 420 [.ref (B + 1), .ref B, .int (wI f), .ref S] X = ru_n z 420 73 [some (.ref (B + 1)), some (.ref B), some (.int (wI f)), some (.ref S), some (.int (wI c)), some (.int (wI a)), some (.int (wI b)), some (.int (wI (shH (A.2.1 f) a))), some (.int (wI (shH (A.2.1 f) b))), some (.int (wI lf)), none, none, none, none, none] [] X4 := by
    rw [hc] at a3
    rw [ha] at b3
    rw [hb] at c3
    by_cases e : sv = 0
    · rw [hlf, e]
      rw [e] at d3
      simp (disch := omega) only [en420, e420_0, e420_1, e420_2, e420_3, e420_6, e420_7, e420_8, e420_11, e420_13, e420_14, e420_15, e420_16, e420_19, e420_20, e420_21, e420_24, e420_26, e420_27, e420_28, e420_29, e420_32, e420_33, e420_34, e420_37, e420_39, e420_40, e420_41, e420_43, e420_46, e420_48, e420_49, e420_50, e420_52, e420_55, e420_57, e420_58, e420_59, e420_60, e420_63, e420_66, e420_67, e420_70, e420_71, ↓reduceIte, Bool.false_eq_true, not_false_eq_true, not_true_eq_false, Nat.reduceLeDiff, Nat.reduceAdd, Nat.reduceEqDiff, Int.reduceToNat, Int.toNat_natCast, iB0, iB1, ru_klI, ru_klR, ru_klF, ru_klJ, ru_kl0, ru_cs0, ru_csI, ru_csR, ru_csF, ru_csJ, wI_add, wI_sub, wI_mul, wI_lt, wI_le, wI_inj, ru_fdE, ru_fdN, ru_iaN, ru_baN, ru_laN, ru_qaN, ru_pfN, ru_isN, ru_bsN, ru_jsN, ru_qsN, ru_set2, Nat.add_right_cancel_iff, if_true, if_false, ite_self, Int.reduceEq, and_self, Int.add_neg_cancel_right, Int.add_zero, Int.zero_add, yl_o h.1, f0, a3, yl_o a4.1, f1, b3, yl_o b4.1, f2, c3, w1, w2, d3, not_true, Int.sub_zero]
    · have e1 : sv = 1 := by omega
      rw [hlf, e1]
      rw [e1] at d3
      simp (disch := omega) only [en420, e420_0, e420_1, e420_2, e420_3, e420_6, e420_7, e420_8, e420_11, e420_13, e420_14, e420_15, e420_16, e420_19, e420_20, e420_21, e420_24, e420_26, e420_27, e420_28, e420_29, e420_32, e420_33, e420_34, e420_37, e420_39, e420_40, e420_41, e420_43, e420_46, e420_48, e420_49, e420_50, e420_52, e420_55, e420_57, e420_58, e420_59, e420_60, e420_63, e420_66, e420_67, e420_70, e420_71, ↓reduceIte, Bool.false_eq_true, not_false_eq_true, not_true_eq_false, Nat.reduceLeDiff, Nat.reduceAdd, Nat.reduceEqDiff, Int.reduceToNat, Int.toNat_natCast, iB0, iB1, ru_klI, ru_klR, ru_klF, ru_klJ, ru_kl0, ru_cs0, ru_csI, ru_csR, ru_csF, ru_csJ, wI_add, wI_sub, wI_mul, wI_lt, wI_le, wI_inj, ru_fdE, ru_fdN, ru_iaN, ru_baN, ru_laN, ru_qaN, ru_pfN, ru_isN, ru_bsN, ru_jsN, ru_qsN, ru_set2, Nat.add_right_cancel_iff, if_true, if_false, ite_self, Int.reduceEq, and_self, Int.add_neg_cancel_right, Int.add_zero, Int.zero_add, yl_o h.1, f0, a3, yl_o a4.1, f1, b3, yl_o b4.1, f2, c3, w1, w2, d3, not_true, not_false_iff, Int.sub_self]
  rw [pre]
  by_cases cw : shH (A.2.1 f) a = -1
  · obtain ⟨X', r', cap', km, w, p1, p2, p3, p4, p5, p6, p7⟩ := d420c (z := z) hk hA hf hNN hNN6 (show c < NN by omega) hl hne (by omega) d4 (a5 := wI a) (a6 := wI b) (a7 := wI (-1)) (a8 := wI (shH (A.2.1 f) b)) (a9 := wI lf) (l10 := none) (l11 := none) (l12 := none) (l13 := none) (l14 := none)
    refine ⟨X', r', cap', _, c, km, w, ⟨p1, p2, by omega, Or.inr (Or.inr p3)⟩, p4, p5, ⟨by omega, by omega⟩, agT_m (agT_t ag4 p6) (by omega) (by omega), ?_⟩
    rw [cw]
    simp (disch := omega) only [e420_73, e420_75, ↓reduceIte, Bool.false_eq_true, not_false_eq_true, not_true_eq_false, Nat.reduceLeDiff, Nat.reduceAdd, Nat.reduceEqDiff, Int.reduceToNat, Int.toNat_natCast, iB0, iB1, ru_klI, ru_klR, ru_klF, ru_klJ, ru_kl0, ru_cs0, ru_csI, ru_csR, ru_csF, ru_csJ, wI_add, wI_sub, wI_mul, wI_lt, wI_le, wI_inj, ru_fdE, ru_fdN, ru_iaN, ru_baN, ru_laN, ru_qaN, ru_pfN, ru_isN, ru_bsN, ru_jsN, ru_qsN, ru_set2, Nat.add_right_cancel_iff, if_true, if_false, ite_self, Int.reduceEq, and_self, Int.add_neg_cancel_right, Int.add_zero, Int.zero_add, p7, Int.reduceLT]
  · obtain ⟨ka, ka1, ka2, ka3⟩ := shH_at (hA f) cw
    have hX4 := tx_X d4
    obtain ⟨N5, g5, R5, rc, q1, q2, q3⟩ := d405 (z := z) d4.1 hA (by omega) hf hgap
    have ag5 : agX X4 (nw2 X4 R5 N5 g5) 2 24 := agX_nw2 q2
    have h5 := tx_new hk d4 ag5
    have i5 := nw2_a1 (X := X4) (r := R5) (N := N5) (g := g5) (i := (ka : Int)) (by omega) (by omega)
    rw [Int.toNat_natCast] at i5
    obtain ⟨X5, hX5⟩ : ∃ X5, X5 = nw2 X4 R5 N5 g5 := ⟨_, rfl⟩
    rw [← hX5] at q3 ag5 h5 i5
    have rb := rwOK_rng q1 ka2 ka3
    obtain ⟨rr, hrr⟩ := Int.eq_ofNat_of_zero_le rb.1
    have hX5' := tx_X h5
    obtain ⟨X6, N, e, w, R6, rc6, s1, s2, s3, s4, s5, s6, s7⟩ := d416 (z := z) h5.1 hA (by omega) (f := f) (rr := R5 ka) hf hgap (by omega)
    have h6 := tx_new hk h5 s4
    have hN12 := enO_12 s2
    obtain ⟨rc_e, R_e⟩ := rwOK_uni s1 q1 (fun _ _ => rfl) (fun _ _ _ => rfl)
    have hrow : rowAt (A.2.1 f) (A.1 0) rr N e := ⟨R6, rc6, by omega, s1, by rw [← hrr]; exact s2⟩
    obtain ⟨at_, at1, at2⟩ := s2.2.2 ka ka2 (by simp only [ka3, Bool.true_and, decide_eq_true_eq]; exact R_e ka ka2)
    have wb : ∀ i, i < N → 0 ≤ w i ∧ w i < 12 := fun i hi => by have := (s2.1 i hi).1; rw [s3 i hi]; omega
    have hSX : S < X4.2.1 ∧ r < X4.2.1 := by obtain ⟨-, -, -, -, -, ⟨m, fb, hb⟩, -⟩ := d4; exact ⟨hb.2.2.2.2.2.1, hb.2.2.2.2.2.2.1⟩
    have o5 := ag5.2.1
    have hh : B + 30 ≤ X5.2.1 + 3 ∧ X5.2.1 + 3 < X6.2.1 ∧ X5.2.1 + 3 ≠ S ∧ X5.2.1 + 3 ≠ r := by omega
    have la := d420a (z := z) (N := N) (w := w) (who := (ka : Int)) s5 hN12 wb (by omega) (v0 := .ref (B + 1)) (v1 := .ref B) (v3 := .ref S) (v10 := .ref X4.2.1) (a4 := wI c) (a5 := wI a) (a6 := wI b) (a8 := wI (shH (A.2.1 f) b)) (a9 := wI lf) (a13 := wI (-9)) (f := f) ⟨_, rfl⟩ ⟨_, rfl⟩ ⟨_, rfl⟩ ⟨_, rfl⟩ N 0 (Nat.zero_add _)
    have lb := d420b (z := z) (N := N) (w := w) (who := shH (A.2.1 f) b) s5 hN12 wb (by omega) (v0 := .ref (B + 1)) (v1 := .ref B) (v3 := .ref S) (v10 := .ref X4.2.1) (a4 := wI c) (a5 := wI a) (a6 := wI b) (a7 := wI ka) (a9 := wI lf) (a12 := wI at_) (f := f) ⟨_, rfl⟩ ⟨_, rfl⟩ ⟨_, rfl⟩ ⟨_, rfl⟩ N 0 (Nat.zero_add _)
    have einj : ∀ i j, i < N → j < N → e i = e j → i = j := fun i j hi hj he => enO_inj s2 hi hj he
    have ixa : ixF w (ka : Int) 0 N = (at_ : Int) := ixF_at N at1 (by rw [s3 at_ at1, at2]) (fun i hi he => by rw [s3 i hi] at he; exact einj i at_ hi at1 (by omega))
    rw [ixa] at la
    have ixb := ixF_b (w := w) (who := shH (A.2.1 f) b) (d0 := -9) (by omega) N hN12
    obtain ⟨far, hfar⟩ : ∃ far, far = ixF w (shH (A.2.1 f) b) (-9) N := ⟨_, rfl⟩
    rw [← hfar] at ixb lb
    -- where the other stands
    have fsp : far = -9 ∨ ∃ j : Nat, far = (j : Int) ∧ j < N ∧ shH (A.2.1 f) b = (e j : Int) := by
      by_cases ex : ∃ j, j < N ∧ w j = shH (A.2.1 f) b
      · obtain ⟨j, j1, j2⟩ := ex
        refine Or.inr ⟨j, ?_, j1, by rw [← j2, s3 j j1]⟩
        rw [hfar]
        exact ixF_at N j1 j2 (fun i hi he => by rw [s3 i hi, ← j2, s3 j j1] at he; exact einj i j hi j1 (by omega))
      · refine Or.inl ?_
        rw [hfar]
        exact ixF_no N (fun i hi he => ex ⟨i, hi, he⟩)
    have mid : ru_n z 420 73 [some (.ref (B + 1)), some (.ref B), some (.int (wI f)), some (.ref S), some (.int (wI c)), some (.int (wI a)), some (.int (wI b)), some (.int (wI (shH (A.2.1 f) a))), some (.int (wI (shH (A.2.1 f) b))), some (.int (wI lf)), none, none, none, none, none] [] X4 = ru_n z 420 176 [some (.ref (B + 1)), some (.ref B), some (.int (wI f)), some (.ref S), some (.int (wI c)), some (.int (wI a)), some (.int (wI b)), some (.int (wI ka)), some (.int (wI (shH (A.2.1 f) b))), some (.int (wI lf)), some (.ref X4.2.1), some (.ref (X5.2.1 + 3)), some (.int (wI at_)), some (.int (wI far)), some (.int (wI N))] [] X6 := by
      rw [ka1]
      have d0 : ((ka : Int) < 0) = False := eq_false (by omega)
      simp only [show ixF w (ka : Int) 0 0 = 0 from rfl, show ixF w (shH (A.2.1 f) b) (-9) 0 = -9 from rfl, Int.natCast_zero, Int.ofNat_zero] at la lb
      simp (disch := omega) only [e420_73, e420_75, e420_78, e420_79, e420_80, e420_83, e420_85, e420_86, e420_87, e420_89, e420_91, e420_92, e420_95, e420_97, e420_98, e420_100, e420_102, e420_104, e420_105, e420_140, e420_141, ↓reduceIte, Bool.false_eq_true, not_false_eq_true, not_true_eq_false, Nat.reduceLeDiff, Nat.reduceAdd, Nat.reduceEqDiff, Int.reduceToNat, Int.toNat_natCast, iB0, iB1, ru_klI, ru_klR, ru_klF, ru_klJ, ru_kl0, ru_cs0, ru_csI, ru_csR, ru_csF, ru_csJ, wI_add, wI_sub, wI_mul, wI_lt, wI_le, wI_inj, ru_fdE, ru_fdN, ru_iaN, ru_baN, ru_laN, ru_qaN, ru_pfN, ru_isN, ru_bsN, ru_jsN, ru_qsN, ru_set2, Nat.add_right_cancel_iff, if_true, if_false, ite_self, Int.reduceEq, and_self, Int.add_neg_cancel_right, Int.add_zero, Int.zero_add, d0, yl_o d4.1, q3, yl_o h5.1, i5, s7, la, lb]
    rw [mid]
    have ag6 := agT_t ag4 (agT_t (agT_x (S := S) (r := r) (cap := cap) (B := B) ag5) (agT_x (S := S) (r := r) (cap := cap) (B := B) s4))
    by_cases cf : abF (far - (at_ : Int)) = 2
    · have far2 : ∃ j : Nat, far = (j : Int) ∧ j < N ∧ shH (A.2.1 f) b = (e j : Int) := by
        rcases fsp with h9 | h9
        · rw [h9] at cf; unfold abF at cf; split at cf <;> omega
        · exact h9
      obtain ⟨j, j1, j2, j3⟩ := far2
      have ij : at_ + 2 = j ∨ j + 2 = at_ := by rw [j1] at cf; unfold abF at cf; split at cf <;> omega
      have em := s2.1 ((at_ + j) / 2) (by omega)
      simp only [Bool.and_eq_true] at em
      obtain ⟨X', r', cap', p1, p2, p3⟩ := d420d (z := z) hk hA (a := a) (b := b) (c := c) (at_ := at_) (far := j) (km := e ((at_ + j) / 2)) (N := N) (ha := X5.2.1 + 3) (w := w) hf hNN hNN6 (by omega) (by omega) (by omega) hl h6 hN12 at1 j2 ij s5 (s3 _ (by omega)) em.1 hh (a7 := wI ka) (a8 := wI (shH (A.2.1 f) b)) (a9 := wI lf) (l10 := some (.ref X4.2.1)) (l14 := some (.int (wI N)))
      refine ⟨X', r', cap', _, c, e ((at_ + j) / 2), _, ⟨em.1, em.2.1, by omega, Or.inl ⟨a, b, by omega, by omega, rr, N, e, at_, j, hrow, at1, j2, by rw [ka1, at2], j3, ij, rfl, rfl⟩⟩, ?_, p1, ⟨by omega, by omega⟩, agT_m (agT_t ag6 p2) (by omega) (by omega), ?_⟩
      · have n1 := pfT_len (F := F) (L := L) h.2.2.1 (k := a) (by omega)
        have n2 := pfT_len (F := F) (L := L) h.2.2.1 (k := b) (by omega)
        have n3 := pfT_len (F := F) (L := L) h.2.2.1 (k := c) (by omega)
        simp only [List.length_append]
        show 8 + _ + 1 + _ + 1 + _ ≤ 40
        omega
      · rw [j1]; exact p3
    · by_cases cb : ∃ j : Nat, ((lf = 1 ∧ j + 1 = at_) ∨ (lf = 0 ∧ j = at_ + 1)) ∧ j < N
      · obtain ⟨j, ij, j2⟩ := cb
        have em := s2.1 j j2
        simp only [Bool.and_eq_true] at em
        obtain ⟨X', r', cap', p1, p2, p3⟩ := d420e (z := z) hk hA (a := a) (c := c) (at_ := at_) (km := e j) (N := N) (ha := X5.2.1 + 3) (w := w) (j := j) (far := far) (lf := lf) hf hNN hNN6 (by omega) (by omega) hl h6 hN12 at1 ixb cf ij j2 s5 (s3 _ j2) em.1 hh (a6 := wI b) (a7 := wI ka) (a8 := wI (shH (A.2.1 f) b)) (l10 := some (.ref X4.2.1)) (v14 := wI N)
        refine ⟨X', r', cap', _, c, e j, _, ⟨em.1, em.2.1, by omega, Or.inr (Or.inl ⟨a, by omega, rr, N, e, at_, j, lf, hrow, at1, j2, by rw [ka1, at2], ij, rfl, rfl⟩)⟩, ?_, p1, ⟨by omega, by omega⟩, agT_m (agT_t ag6 p2) (by omega) (by omega), p3⟩
        have n1 := pfT_len (F := F) (L := L) h.2.2.1 (k := a) (by omega)
        have n3 := pfT_len (F := F) (L := L) h.2.2.1 (k := c) (by omega)
        have sl : (if lf = 1 then lwT 17 else lwT 18).length ≤ 7 := by split <;> decide
        simp only [List.length_append]
        show 7 + _ + _ + _ ≤ 40
        omega
      · have lf01 : lf = 0 ∨ lf = 1 := by omega
        obtain ⟨v14, h14⟩ : ∃ v14 : Int, v14 = if lf = 1 then (at_ : Int) - 1 else (at_ : Int) + 1 := ⟨_, rfl⟩
        have out : v14 < 0 ∨ (N : Int) ≤ v14 := by
          rcases lf01 with e0 | e0
          · rw [if_neg (by omega)] at h14
            by_cases c0 : (N : Int) ≤ v14
            · exact Or.inr c0
            · exact absurd ⟨at_ + 1, Or.inr ⟨e0, rfl⟩, by omega⟩ cb
          · rw [if_pos e0] at h14
            by_cases c0 : v14 < 0
            · exact Or.inl c0
            · exact absurd ⟨at_ - 1, Or.inl ⟨e0, by omega⟩, by omega⟩ cb
        obtain ⟨X', r', cap', km, ww, p1, p2, p3, p4, p5, p6, p7⟩ := d420c (z := z) hk hA hf hNN hNN6 (show c < NN by omega) hl hne (by omega) h6 (a5 := wI a) (a6 := wI b) (a7 := wI ka) (a8 := wI (shH (A.2.1 f) b)) (a9 := wI lf) (l10 := some (.ref X4.2.1)) (l11 := some (.ref (X5.2.1 + 3))) (l12 := some (.int (wI at_))) (l13 := some (.int (wI far))) (l14 := some (.int (wI v14)))
        refine ⟨X', r', cap', _, c, km, ww, ⟨p1, p2, by omega, Or.inr (Or.inr p3)⟩, p4, p5, ⟨by omega, by omega⟩, agT_m (agT_t ag6 p6) (by omega) (by omega), ?_⟩
        have ab : 0 ≤ abF (far - (at_ : Int)) ∧ abF (far - (at_ : Int)) ≤ 30 := by unfold abF; split <;> omega
        have m1 := m112 (z := z) (h := X6) (a := far - (at_ : Int)) (by omega)
        have al : am_al X6 (X5.2.1 + 3) = some (wI N) := ru_al s5 (by decide)
        rcases lf01 with e0 | e0
        · rw [if_neg (by omega)] at h14
          have dj : ((at_ : Int) + 1 < 0) = False := eq_false (by omega)
          have dN : ((N : Int) ≤ (at_ : Int) + 1) = True := eq_true (by omega)
          rw [e0, h14] at p7
          rw [e0]
          simp (disch := omega) only [e420_176, e420_178, e420_180, e420_181, e420_184, e420_185, e420_188, e420_189, e420_192, e420_195, e420_196, e420_198, e420_201, e420_204, e420_206, e420_209, e420_210, e420_212, e420_215, e420_218, e420_220, e420_223, e420_224, e420_226, e420_229, e420_232, e420_233, e420_234, e420_235, e420_237, e420_239, e420_241, e420_242, e420_243, e420_244, e420_245, e420_247, e420_250, e420_251, e420_252, e420_254, e420_257, e420_259, e420_260, e420_261, e420_264, e420_266, e420_267, e420_268, e420_270, e420_272, e420_275, e420_277, e420_279, e420_280, ↓reduceIte, Bool.false_eq_true, not_false_eq_true, not_true_eq_false, Nat.reduceLeDiff, Nat.reduceAdd, Nat.reduceEqDiff, Int.reduceToNat, Int.toNat_natCast, iB0, iB1, ru_klI, ru_klR, ru_klF, ru_klJ, ru_kl0, ru_cs0, ru_csI, ru_csR, ru_csF, ru_csJ, wI_add, wI_sub, wI_mul, wI_lt, wI_le, wI_inj, ru_fdE, ru_fdN, ru_iaN, ru_baN, ru_laN, ru_qaN, ru_pfN, ru_isN, ru_bsN, ru_jsN, ru_qsN, ru_set2, Nat.add_right_cancel_iff, if_true, if_false, ite_self, Int.reduceEq, and_self, Int.add_neg_cancel_right, Int.add_zero, Int.zero_add, m1, cf, dj, dN, al, p7, not_false_iff]
        · rw [if_pos e0] at h14
          have d10 : ((1 : Int) = 0) = False := eq_false (by decide)
          rw [e0, h14] at p7
          rw [e0]
          have dN : ((at_ : Int) - 1 < 0) = True := eq_true (by omega)
          simp (disch := omega) only [e420_176, e420_178, e420_180, e420_181, e420_184, e420_185, e420_188, e420_189, e420_192, e420_195, e420_196, e420_198, e420_201, e420_204, e420_206, e420_209, e420_210, e420_212, e420_215, e420_218, e420_220, e420_223, e420_224, e420_226, e420_229, e420_232, e420_233, e420_234, e420_235, e420_237, e420_239, e420_241, e420_242, e420_243, e420_244, e420_245, e420_247, e420_250, e420_251, e420_252, e420_254, e420_257, e420_259, e420_260, e420_261, e420_264, e420_266, e420_267, e420_268, e420_270, e420_272, e420_275, e420_277, e420_279, e420_280, ↓reduceIte, Bool.false_eq_true, not_false_eq_true, not_true_eq_false, Nat.reduceLeDiff, Nat.reduceAdd, Nat.reduceEqDiff, Int.reduceToNat, Int.toNat_natCast, iB0, iB1, ru_klI, ru_klR, ru_klF, ru_klJ, ru_kl0, ru_cs0, ru_csI, ru_csR, ru_csF, ru_csJ, wI_add, wI_sub, wI_mul, wI_lt, wI_le, wI_inj, ru_fdE, ru_fdN, ru_iaN, ru_baN, ru_laN, ru_qaN, ru_pfN, ru_isN, ru_bsN, ru_jsN, ru_qsN, ru_set2, Nat.add_right_cancel_iff, if_true, if_false, ite_self, Int.reduceEq, and_self, Int.add_neg_cancel_right, Int.add_zero, Int.zero_add, m1, cf, dN, al, p7, d10, not_false_iff]
end ONR
