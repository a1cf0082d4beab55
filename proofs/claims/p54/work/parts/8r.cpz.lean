/-! ===== copyNames: class against reference ===== -/
theorem lr_rng9 {M : tMd} {f : Nat} {rc : Int} {R L Q : Nat → Int} (hl : lrOK M f rc R L Q) : (∀ x, x < 12 → -1 ≤ R x ∧ R x ≤ 12) ∧ ∀ x, x < 12 → -1 ≤ L x ∧ L x ≤ 12 := by
  obtain ⟨l1, l2, l3⟩ := hl
  refine ⟨fun x hx => ?_, fun x hx => ?_⟩
  · by_cases hs : shS (mph M f) x = true
    · have := rwOK_rng l1 hx hs; omega
    · obtain ⟨n', e', -, -, g4, -⟩ := l1
      have := g4 x hx hs
      omega
  · have a := l2 x hx
    unfold plF at a
    split at a
    · have := cnB_le (fun o => shS (mph M f) o && (decide (R o = R x) && lfB (shX (mph M f)) o x)) 12
      unfold lfN at a
      omega
    · omega
theorem lr_uni2 {M N : tMd} {f : Nat} {rc rc' : Int} {R L Q R' L' Q' : Nat → Int} (hl : lrOK M f rc R L Q) (hl' : lrOK N f rc' R' L' Q') (hG : N.1 24 = M.1 24) (hS : shS (mph N f) = shS (mph M f)) (hx : ∀ o, o < 12 → shS (mph M f) o = true → shX (mph M f) o = shX (mph N f) o) (hy : ∀ o, o < 12 → shS (mph M f) o = true → shY (mph M f) o = shY (mph N f) o) {m : Nat} (hm : m ≤ 12) (r j : Int) : fnF (stP R' L' r j) m 0 = fnF (stP R L r j) m 0 := by
  obtain ⟨l1, l2, l3⟩ := hl
  obtain ⟨m1, m2, m3⟩ := hl'
  rw [hG, hS] at m1
  rw [hS] at m2
  obtain ⟨-, u2⟩ := rwOK_uni l1 m1 (fun k _ => rfl) hy
  refine fnF_congr m 0 (fun i _ hi => ?_)
  have hi12 : i < 12 := by omega
  unfold stP
  rw [← u2 i hi12, l2 i hi12, m2 i hi12]
  unfold plF
  by_cases hs : shS (mph M f) i = true
  · rw [if_pos hs, if_pos hs, lfN_congr hi12 hs u2 hx]
  · rw [if_neg hs, if_neg hs]
/-- a photo and a state's numbers while names are copied -/
def cpI (M : tMd) (n : Nat) (qc q : tPh) (S : Nat → Int) : Prop := phCh M n q S ∧ q.1 = qc.1 ∧ ∀ c, c ≠ 3 → q.2 c = qc.2 c
theorem cpI_0 {M : tMd} {n : Nat} {qc : tPh} (hM : mdR M) (hg : rgI M) (hN : phN (mph M n) (M.1 20)) (he : pheq qc (mph M n)) (hz : ∀ c, 4 ≤ c → qc.2 c = fun _ => 0) (hr : phR qc) : cpI M n qc qc (M.2 0) :=
  ⟨⟨hz, hr, hg.1, srR_of hM, he, hN, fun _ _ _ _ _ _ => rfl⟩, rfl, fun _ _ => rfl⟩
theorem cpI_s {M : tMd} {n : Nat} {qc q : tPh} {S : Nat → Int} (hM : mdR M) (hg : rgI M) (hn : n < 5) (h : cpI M n qc q S) {k : Nat} {nm : Int} (hk : (k : Int) < qc.1 7) (hnm : 0 ≤ nm ∧ nm < M.1 20) {mf : Nat} (hmf : qc.1 7 = (mf : Int)) : cpI M n qc (gvQ q k nm) (gvS S n k (hofF ((msf S (M.2 8) (M.2 9) n).2 3) nm mf 0) nm) := by
  obtain ⟨h1, h2, h3⟩ := h
  obtain ⟨a1, a2, a3, a4, a5, a6, a7⟩ := id h1
  have eM : mph (M.1, upC M.2 0 S) n = msf S (M.2 8) (M.2 9) n := by rw [mph_f]; rfl
  have hg2 : rgI (M.1, upC M.2 0 S) := ⟨fun j => by show 0 ≤ upC M.2 0 S 0 j ∧ upC M.2 0 S 0 j ≤ 999; rw [upC_e]; exact a3 j, hg.2.1, hg.2.2.1, hg.2.2.2⟩
  have hM2 : mdR (M.1, upC M.2 0 S) := mdR_of ⟨hM.1, hM.2.1, hM.2.2.1, hM.2.2.2.1, hM.2.2.2.2.1, hM.2.2.2.2.2.1⟩ hg2 a4
  have e7 := a5.1 7 (by decide)
  have s := nm_ch (n := n) (k := k) (nm := nm) hM2 hg2 (by rw [eM]; exact a6) hn (by rw [h2]; exact hk) a1 a2 (by rw [eM]; exact a5) ⟨by omega, hnm.2⟩
  have eg : gvA ((M.1, upC M.2 0 S).2 0) (mph (M.1, upC M.2 0 S) n) n k nm = gvS S n k (hofF ((msf S (M.2 8) (M.2 9) n).2 3) nm mf 0) nm := by
    unfold gvA
    rw [if_neg (by omega), eM, ← e7, h2, hmf]
    show gvS (upC M.2 0 S 0) n k _ nm = _
    rw [upC_e]; rfl
  rw [eg] at s
  refine ⟨phCh_tr h1 s, h2, fun c hc => ?_⟩
  show upC q.2 3 _ c = _
  rw [upC_n hc]; exact h3 c hc
/-- who is shown, and where, stays -/
theorem cpI_k {M : tMd} {n : Nat} {qc q : tPh} {S : Nat → Int} (h : cpI M n qc q S) (he : pheq qc (mph M n)) : shS (msf S (M.2 8) (M.2 9) n) = shS (mph M n) ∧ (∀ o, shS (mph M n) o = true → shX (mph M n) o = shX (msf S (M.2 8) (M.2 9) n) o) ∧ (∀ o, shS (mph M n) o = true → shY (mph M n) o = shY (msf S (M.2 8) (M.2 9) n) o) := by
  obtain ⟨h1, h2, h3⟩ := h
  have a5 := h1.2.2.2.2.1
  have ex : shX q = shX qc := by funext k; unfold shX; rw [h2, h3 0 (by decide)]
  have ey : shY q = shY qc := by funext k; unfold shY; rw [h2, h3 1 (by decide)]
  have ew : shw q = shw qc := by funext k; unfold shw; rw [h2, h3 0 (by decide), h3 1 (by decide), h3 2 (by decide)]
  have es : shS q = shS qc := by funext k; unfold shS; rw [h2, ew]
  have e1 := shS_eq he
  have e2 := shS_eq a5
  refine ⟨by rw [← e2, ← e1, es], fun o ho => ?_, fun o ho => ?_⟩
  · rw [← e1] at ho
    have hl := shS_lt ho
    rw [← pheq_shX he hl, ← pheq_shX a5 (by rw [h2]; exact hl), ex]
  · rw [← e1] at ho
    have hl := shS_lt ho
    rw [← pheq_shY he hl, ← pheq_shY a5 (by rw [h2]; exact hl), ey]
/-- the other photo stays -/
theorem cpI_o {M : tMd} {n k : Nat} {qc q : tPh} {S : Nat → Int} (h : cpI M n qc q S) (hk : k < 5) (hne : k ≠ n) : phS (msf S (M.2 8) (M.2 9) k) (mph M k) := by
  have a7 := h.1.2.2.2.2.2.2 k hk hne
  rw [mph_f]
  refine ⟨fun j hj => ?_, fun c i hc hi => ?_⟩
  · unfold msf
    dsimp only
    rw [a7 _ (by omega) (by omega)]
  · unfold msf
    dsimp only
    rw [a7 (54 * k + 6 + 4 * i + 3) (by omega) (by omega), a7 (54 * k + 6 + 4 * i + c) (by omega) (by omega)]
theorem phS_k {q p : tPh} (h : phS q p) (h12 : p.1 7 ≤ 12) : shS q = shS p ∧ (∀ o, shS p o = true → shX p o = shX q o) ∧ ∀ o, shS p o = true → shY p o = shY q o := by
  have hp : pheq q p := ⟨h.1, fun c i hc hi => h.2 c i hc (by have := h.1 7 (by decide); omega)⟩
  have e := shS_eq hp
  have e7 := h.1 7 (by decide)
  refine ⟨e, fun o ho => ?_, fun o ho => ?_⟩
  · have := shS_lt ho
    exact (pheq_shX hp (by omega)).symm
  · have := shS_lt ho
    exact (pheq_shY hp (by omega)).symm
