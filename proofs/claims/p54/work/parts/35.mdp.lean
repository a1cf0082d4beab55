/-! ===== a heap with the reference's cells as M says: 'mdPut h M' ===== -/
def mdSz : List Nat := [270, 2430, 2, 1200, 8, 320, 320, 104, 5, 5, 270, 12, 12, 12, 12, 1000]
def up1 (f : Nat → Int) (k : Nat) (v : Int) : Nat → Int := fun j => if j = k then v else f j
def up2 (g : Nat → Nat → Int) (c i : Nat) (v : Int) : Nat → Nat → Int := fun c' i' => if c' = c then (if i' = i then v else g c i') else g c' i'
/-- with another refusal -/
def mdT (M : tMd) (t : Int) : tMd := (up1 M.1 0 t, M.2)
def mdPut (h : am_H) (M : tMd) : am_H := (fun q => if q = 1315 then some (.inr (10, mdL M)) else if 1316 ≤ q ∧ q ≤ 1331 then some (.inl (if q = 1318 then 2 else 0, mdSz.getD (q - 1316) 0, .inl (fun i => wI (M.2 (q - 1316) i)))) else h.1 q, h.2)
theorem mdPut_put (h : am_H) (M N : tMd) : mdPut (mdPut h M) N = mdPut h N := by
  unfold mdPut
  congr 1
  funext q
  dsimp only
  split
  · rfl
  · split <;> rfl
theorem mdPut_o {h : am_H} {M : tMd} {q : Nat} (hq : q < 1315 ∨ 1331 < q) : (mdPut h M).1 q = h.1 q := by
  unfold mdPut
  dsimp only
  rw [if_neg (by omega), if_neg (by omega)]
theorem mdPut_2 (h : am_H) (M : tMd) : (mdPut h M).2 = h.2 := rfl
theorem mdPut_self {h : am_H} {M : tMd} (hp : mdAt h M) : mdPut h M = h := by
  have e : (mdPut h M).1 = h.1 := by
    funext q
    unfold mdPut
    dsimp only
    split
    · rename_i hq; subst hq; exact hp.1.symm
    · split
      · rename_i hq
        have hc : q = 1316 ∨ q = 1317 ∨ q = 1318 ∨ q = 1319 ∨ q = 1320 ∨ q = 1321 ∨ q = 1322 ∨ q = 1323 ∨ q = 1324 ∨ q = 1325 ∨ q = 1326 ∨ q = 1327 ∨ q = 1328 ∨ q = 1329 ∨ q = 1330 ∨ q = 1331 := by omega
        rcases hc with rfl | rfl | rfl | rfl | rfl | rfl | rfl | rfl | rfl | rfl | rfl | rfl | rfl | rfl | rfl | rfl
        · exact (mdC0 hp).symm
        · exact (mdC1 hp).symm
        · exact (mdC2 hp).symm
        · exact (mdC3 hp).symm
        · exact (mdC4 hp).symm
        · exact (mdC5 hp).symm
        · exact (mdC6 hp).symm
        · exact (mdC7 hp).symm
        · exact (mdC8 hp).symm
        · exact (mdC9 hp).symm
        · exact (mdC10 hp).symm
        · exact (mdC11 hp).symm
        · exact (mdC12 hp).symm
        · exact (mdC13 hp).symm
        · exact (mdC14 hp).symm
        · exact (mdC15 hp).symm
      · rfl
  exact Prod.ext e rfl
theorem mdAt_put (h : am_H) (M : tMd) : mdAt (mdPut h M) M := ⟨rfl, rfl, rfl, rfl, rfl, rfl, rfl, rfl, rfl, rfl, rfl, rfl, rfl, rfl, rfl, rfl, rfl⟩
theorem md_e {h : am_H} {M : tMd} : (mdPut h M).1 1315 = some (.inr (10, mdL M)) := rfl
theorem md_so (h : am_H) (M : tMd) (L : List Value) {N : tMd} (hL : L = mdL N) (hN : N.2 = M.2 := by rfl) : am_set (mdPut h M) 1315 (.inr (10, L)) = mdPut h N := by
  subst hL
  unfold am_set mdPut
  congr 1
  funext q
  dsimp only
  by_cases hq : q = 1315
  · rw [if_pos hq, if_pos hq]
  · rw [if_neg hq, if_neg hq, if_neg hq, hN]
theorem md_wo (h : am_H) (M : tMd) (i : Nat) (v : Int) {c a n : Nat} (ha : a = 1316 + c) (hc : c < 16) (hc2 : c ≠ 2) (hn : n = mdSz.getD c 0 := by rfl) : am_set (mdPut h M) a (.inl (0, n, .inl (am_up (fun j => wI (M.2 c j)) i (wI v)))) = mdPut h (M.1, up2 M.2 c i v) := by
  subst ha hn
  unfold am_set mdPut
  congr 1
  funext q
  dsimp only
  by_cases hq : q = 1316 + c
  · subst hq
    rw [if_pos rfl, if_neg (by omega), if_pos (by omega), if_neg (by omega)]
    have e : 1316 + c - 1316 = c := by omega
    rw [e]
    refine congrArg (fun f : Nat → Int32 => (some (.inl (0, mdSz.getD c 0, .inl f)) : Option am_C)) (funext fun j => ?_)
    unfold am_up up2
    rw [if_pos rfl]
    split <;> rfl
  · rw [if_neg hq]
    by_cases hq0 : q = 1315
    · rw [if_pos hq0, if_pos hq0]; rfl
    · rw [if_neg hq0, if_neg hq0]
      by_cases hq1 : 1316 ≤ q ∧ q ≤ 1331
      · rw [if_pos hq1, if_pos hq1]
        refine congrArg (fun f : Nat → Int32 => (some (.inl (if q = 1318 then 2 else 0, mdSz.getD (q - 1316) 0, .inl f)) : Option am_C)) (funext fun j => ?_)
        show wI (M.2 (q - 1316) j) = wI (up2 M.2 _ i v (q - 1316) j)
        unfold up2
        rw [if_neg (by omega)]
      · rw [if_neg hq1, if_neg hq1]
theorem md_wo2 (h : am_H) (M : tMd) (i : Nat) (v : Int) : am_set (mdPut h M) 1318 (.inl (2, 2, .inl (am_up (fun j => wI (M.2 2 j)) i (wI v)))) = mdPut h (M.1, up2 M.2 2 i v) := by
  unfold am_set mdPut
  congr 1
  funext q
  dsimp only
  by_cases hq : q = 1318
  · subst hq
    rw [if_pos rfl, if_neg (by omega), if_pos (by omega), if_pos rfl]
    show some (Sum.inl (2, 2, Sum.inl _)) = some (Sum.inl (2, mdSz.getD 2 0, Sum.inl _))
    refine congrArg (fun f : Nat → Int32 => (some (.inl (2, 2, .inl f)) : Option am_C)) (funext fun j => ?_)
    show am_up (fun j => wI (M.2 2 j)) i (wI v) j = wI (up2 M.2 2 i v 2 j)
    unfold am_up up2
    rw [if_pos rfl]
    split <;> rfl
  · rw [if_neg hq]
    by_cases hq0 : q = 1315
    · rw [if_pos hq0, if_pos hq0]; rfl
    · rw [if_neg hq0, if_neg hq0]
      by_cases hq1 : 1316 ≤ q ∧ q ≤ 1331
      · rw [if_pos hq1, if_pos hq1]
        refine congrArg (fun f : Nat → Int32 => (some (.inl (if q = 1318 then 2 else 0, mdSz.getD (q - 1316) 0, .inl f)) : Option am_C)) (funext fun j => ?_)
        show wI (M.2 (q - 1316) j) = wI (up2 M.2 _ i v (q - 1316) j)
        unfold up2
        rw [if_neg (by omega)]
      · rw [if_neg hq1, if_neg hq1]
theorem md_f0 {h : am_H} {M : tMd} : am_fd (mdPut h M) 1315 10 0 = some (.int (wI (M.1 0))) := ru_fd md_e rfl
theorem md_s0 {h : am_H} {M : tMd} {v : Int} : am_pf (mdPut h M) 1315 10 0 0 (.int (wI v)) = some (mdPut h (mdT M v)) := (ru_pf0 md_e ⟨by decide, (by decide : 0 < 39)⟩).trans (congrArg some (md_so _ _ _ rfl))
theorem md_f1 {h : am_H} {M : tMd} : am_fd (mdPut h M) 1315 10 1 = some (.int (wI (M.1 1))) := ru_fd md_e rfl
theorem md_s1 {h : am_H} {M : tMd} {v : Int} (h1 : 0 ≤ v) (h2 : v ≤ 1) : am_pf (mdPut h M) 1315 10 1 3 (.int (wI v)) = some (mdPut h (up1 M.1 1 v, M.2)) := (ru_pf3 md_e ⟨by decide, (by decide : 1 < 39)⟩ h1 h2).trans (congrArg some (md_so _ _ _ rfl))
theorem md_f2 {h : am_H} {M : tMd} : am_fd (mdPut h M) 1315 10 2 = some (.ref 1316) := ru_fd md_e rfl
theorem md_a0 {h : am_H} {M : tMd} {i : Int} (h1 : 0 ≤ i) (h2 : i < 270) : am_ia (mdPut h M) 1316 (wI i) = some (wI (M.2 0 i.toNat)) := mdA0 (mdAt_put h M) h1 h2
theorem md_w0 {h : am_H} {M : tMd} {i v : Int} (h1 : 0 ≤ i) (h2 : i < 270) : am_is (mdPut h M) 1316 (wI i) (wI v) = some (mdPut h (M.1, up2 M.2 0 i.toNat v)) := (ru_is (mdC0 (mdAt_put h M)) h1 (by omega) (by omega)).trans (congrArg some (md_wo _ _ _ _ rfl (by decide) (by decide)))
theorem md_f3 {h : am_H} {M : tMd} : am_fd (mdPut h M) 1315 10 3 = some (.ref 1317) := ru_fd md_e rfl
theorem md_a1 {h : am_H} {M : tMd} {i : Int} (h1 : 0 ≤ i) (h2 : i < 2430) : am_ia (mdPut h M) 1317 (wI i) = some (wI (M.2 1 i.toNat)) := mdA1 (mdAt_put h M) h1 h2
theorem md_w1 {h : am_H} {M : tMd} {i v : Int} (h1 : 0 ≤ i) (h2 : i < 2430) : am_is (mdPut h M) 1317 (wI i) (wI v) = some (mdPut h (M.1, up2 M.2 1 i.toNat v)) := (ru_is (mdC1 (mdAt_put h M)) h1 (by omega) (by omega)).trans (congrArg some (md_wo _ _ _ _ rfl (by decide) (by decide)))
theorem md_f4 {h : am_H} {M : tMd} : am_fd (mdPut h M) 1315 10 4 = some (.int (wI (M.1 4))) := ru_fd md_e rfl
theorem md_s4 {h : am_H} {M : tMd} {v : Int} : am_pf (mdPut h M) 1315 10 4 0 (.int (wI v)) = some (mdPut h (up1 M.1 4 v, M.2)) := (ru_pf0 md_e ⟨by decide, (by decide : 4 < 39)⟩).trans (congrArg some (md_so _ _ _ rfl))
theorem md_f5 {h : am_H} {M : tMd} : am_fd (mdPut h M) 1315 10 5 = some (.ref 1318) := ru_fd md_e rfl
theorem md_a2 {h : am_H} {M : tMd} {i : Int} (h1 : 0 ≤ i) (h2 : i < 2) : am_ba (mdPut h M) 1318 (wI i) = some (wI (M.2 2 i.toNat)) := mdA2 (mdAt_put h M) h1 h2
theorem md_w2 {h : am_H} {M : tMd} {i v : Int} (h1 : 0 ≤ i) (h2 : i < 2) (h3 : 0 ≤ v) (h4 : v ≤ 1) : am_bs (mdPut h M) 1318 (wI i) (wI v) = some (mdPut h (M.1, up2 M.2 2 i.toNat v)) := by
  rw [ru_zs (mdC2 (mdAt_put h M)) h1 (by omega) (by omega), wI_and1 h3 h4]
  exact congrArg some (md_wo2 _ _ _ _)
theorem md_f6 {h : am_H} {M : tMd} : am_fd (mdPut h M) 1315 10 6 = some (.ref 1319) := ru_fd md_e rfl
theorem md_a3 {h : am_H} {M : tMd} {i : Int} (h1 : 0 ≤ i) (h2 : i < 1200) : am_ia (mdPut h M) 1319 (wI i) = some (wI (M.2 3 i.toNat)) := mdA3 (mdAt_put h M) h1 h2
theorem md_w3 {h : am_H} {M : tMd} {i v : Int} (h1 : 0 ≤ i) (h2 : i < 1200) : am_is (mdPut h M) 1319 (wI i) (wI v) = some (mdPut h (M.1, up2 M.2 3 i.toNat v)) := (ru_is (mdC3 (mdAt_put h M)) h1 (by omega) (by omega)).trans (congrArg some (md_wo _ _ _ _ rfl (by decide) (by decide)))
theorem md_f7 {h : am_H} {M : tMd} : am_fd (mdPut h M) 1315 10 7 = some (.int (wI (M.1 7))) := ru_fd md_e rfl
theorem md_s7 {h : am_H} {M : tMd} {v : Int} : am_pf (mdPut h M) 1315 10 7 0 (.int (wI v)) = some (mdPut h (up1 M.1 7 v, M.2)) := (ru_pf0 md_e ⟨by decide, (by decide : 7 < 39)⟩).trans (congrArg some (md_so _ _ _ rfl))
theorem md_f8 {h : am_H} {M : tMd} : am_fd (mdPut h M) 1315 10 8 = some (.int (wI (M.1 8))) := ru_fd md_e rfl
theorem md_s8 {h : am_H} {M : tMd} {v : Int} : am_pf (mdPut h M) 1315 10 8 0 (.int (wI v)) = some (mdPut h (up1 M.1 8 v, M.2)) := (ru_pf0 md_e ⟨by decide, (by decide : 8 < 39)⟩).trans (congrArg some (md_so _ _ _ rfl))
theorem md_f9 {h : am_H} {M : tMd} : am_fd (mdPut h M) 1315 10 9 = some (.int (wI (M.1 9))) := ru_fd md_e rfl
theorem md_s9 {h : am_H} {M : tMd} {v : Int} : am_pf (mdPut h M) 1315 10 9 0 (.int (wI v)) = some (mdPut h (up1 M.1 9 v, M.2)) := (ru_pf0 md_e ⟨by decide, (by decide : 9 < 39)⟩).trans (congrArg some (md_so _ _ _ rfl))
theorem md_f10 {h : am_H} {M : tMd} : am_fd (mdPut h M) 1315 10 10 = some (.int (wI (M.1 10))) := ru_fd md_e rfl
theorem md_s10 {h : am_H} {M : tMd} {v : Int} : am_pf (mdPut h M) 1315 10 10 0 (.int (wI v)) = some (mdPut h (up1 M.1 10 v, M.2)) := (ru_pf0 md_e ⟨by decide, (by decide : 10 < 39)⟩).trans (congrArg some (md_so _ _ _ rfl))
theorem md_f11 {h : am_H} {M : tMd} : am_fd (mdPut h M) 1315 10 11 = some (.int (wI (M.1 11))) := ru_fd md_e rfl
theorem md_s11 {h : am_H} {M : tMd} {v : Int} : am_pf (mdPut h M) 1315 10 11 0 (.int (wI v)) = some (mdPut h (up1 M.1 11 v, M.2)) := (ru_pf0 md_e ⟨by decide, (by decide : 11 < 39)⟩).trans (congrArg some (md_so _ _ _ rfl))
theorem md_f12 {h : am_H} {M : tMd} : am_fd (mdPut h M) 1315 10 12 = some (.int (wI (M.1 12))) := ru_fd md_e rfl
theorem md_s12 {h : am_H} {M : tMd} {v : Int} : am_pf (mdPut h M) 1315 10 12 0 (.int (wI v)) = some (mdPut h (up1 M.1 12 v, M.2)) := (ru_pf0 md_e ⟨by decide, (by decide : 12 < 39)⟩).trans (congrArg some (md_so _ _ _ rfl))
theorem md_f13 {h : am_H} {M : tMd} : am_fd (mdPut h M) 1315 10 13 = some (.int (wI (M.1 13))) := ru_fd md_e rfl
theorem md_s13 {h : am_H} {M : tMd} {v : Int} : am_pf (mdPut h M) 1315 10 13 0 (.int (wI v)) = some (mdPut h (up1 M.1 13 v, M.2)) := (ru_pf0 md_e ⟨by decide, (by decide : 13 < 39)⟩).trans (congrArg some (md_so _ _ _ rfl))
theorem md_f14 {h : am_H} {M : tMd} : am_fd (mdPut h M) 1315 10 14 = some (.ref 1320) := ru_fd md_e rfl
theorem md_a4 {h : am_H} {M : tMd} {i : Int} (h1 : 0 ≤ i) (h2 : i < 8) : am_ia (mdPut h M) 1320 (wI i) = some (wI (M.2 4 i.toNat)) := mdA4 (mdAt_put h M) h1 h2
theorem md_w4 {h : am_H} {M : tMd} {i v : Int} (h1 : 0 ≤ i) (h2 : i < 8) : am_is (mdPut h M) 1320 (wI i) (wI v) = some (mdPut h (M.1, up2 M.2 4 i.toNat v)) := (ru_is (mdC4 (mdAt_put h M)) h1 (by omega) (by omega)).trans (congrArg some (md_wo _ _ _ _ rfl (by decide) (by decide)))
theorem md_f15 {h : am_H} {M : tMd} : am_fd (mdPut h M) 1315 10 15 = some (.int (wI (M.1 15))) := ru_fd md_e rfl
theorem md_s15 {h : am_H} {M : tMd} {v : Int} : am_pf (mdPut h M) 1315 10 15 0 (.int (wI v)) = some (mdPut h (up1 M.1 15 v, M.2)) := (ru_pf0 md_e ⟨by decide, (by decide : 15 < 39)⟩).trans (congrArg some (md_so _ _ _ rfl))
theorem md_f16 {h : am_H} {M : tMd} : am_fd (mdPut h M) 1315 10 16 = some (.int (wI (M.1 16))) := ru_fd md_e rfl
theorem md_s16 {h : am_H} {M : tMd} {v : Int} : am_pf (mdPut h M) 1315 10 16 0 (.int (wI v)) = some (mdPut h (up1 M.1 16 v, M.2)) := (ru_pf0 md_e ⟨by decide, (by decide : 16 < 39)⟩).trans (congrArg some (md_so _ _ _ rfl))
theorem md_f17 {h : am_H} {M : tMd} : am_fd (mdPut h M) 1315 10 17 = some (.int (wI (M.1 17))) := ru_fd md_e rfl
theorem md_s17 {h : am_H} {M : tMd} {v : Int} : am_pf (mdPut h M) 1315 10 17 0 (.int (wI v)) = some (mdPut h (up1 M.1 17 v, M.2)) := (ru_pf0 md_e ⟨by decide, (by decide : 17 < 39)⟩).trans (congrArg some (md_so _ _ _ rfl))
theorem md_f18 {h : am_H} {M : tMd} : am_fd (mdPut h M) 1315 10 18 = some (.int (wI (M.1 18))) := ru_fd md_e rfl
theorem md_s18 {h : am_H} {M : tMd} {v : Int} : am_pf (mdPut h M) 1315 10 18 0 (.int (wI v)) = some (mdPut h (up1 M.1 18 v, M.2)) := (ru_pf0 md_e ⟨by decide, (by decide : 18 < 39)⟩).trans (congrArg some (md_so _ _ _ rfl))
theorem md_f19 {h : am_H} {M : tMd} : am_fd (mdPut h M) 1315 10 19 = some (.ref 1321) := ru_fd md_e rfl
theorem md_a5 {h : am_H} {M : tMd} {i : Int} (h1 : 0 ≤ i) (h2 : i < 320) : am_ia (mdPut h M) 1321 (wI i) = some (wI (M.2 5 i.toNat)) := mdA5 (mdAt_put h M) h1 h2
theorem md_w5 {h : am_H} {M : tMd} {i v : Int} (h1 : 0 ≤ i) (h2 : i < 320) : am_is (mdPut h M) 1321 (wI i) (wI v) = some (mdPut h (M.1, up2 M.2 5 i.toNat v)) := (ru_is (mdC5 (mdAt_put h M)) h1 (by omega) (by omega)).trans (congrArg some (md_wo _ _ _ _ rfl (by decide) (by decide)))
theorem md_f20 {h : am_H} {M : tMd} : am_fd (mdPut h M) 1315 10 20 = some (.int (wI (M.1 20))) := ru_fd md_e rfl
theorem md_s20 {h : am_H} {M : tMd} {v : Int} : am_pf (mdPut h M) 1315 10 20 0 (.int (wI v)) = some (mdPut h (up1 M.1 20 v, M.2)) := (ru_pf0 md_e ⟨by decide, (by decide : 20 < 39)⟩).trans (congrArg some (md_so _ _ _ rfl))
theorem md_f21 {h : am_H} {M : tMd} : am_fd (mdPut h M) 1315 10 21 = some (.ref 1322) := ru_fd md_e rfl
theorem md_a6 {h : am_H} {M : tMd} {i : Int} (h1 : 0 ≤ i) (h2 : i < 320) : am_ia (mdPut h M) 1322 (wI i) = some (wI (M.2 6 i.toNat)) := mdA6 (mdAt_put h M) h1 h2
theorem md_w6 {h : am_H} {M : tMd} {i v : Int} (h1 : 0 ≤ i) (h2 : i < 320) : am_is (mdPut h M) 1322 (wI i) (wI v) = some (mdPut h (M.1, up2 M.2 6 i.toNat v)) := (ru_is (mdC6 (mdAt_put h M)) h1 (by omega) (by omega)).trans (congrArg some (md_wo _ _ _ _ rfl (by decide) (by decide)))
theorem md_f22 {h : am_H} {M : tMd} : am_fd (mdPut h M) 1315 10 22 = some (.int (wI (M.1 22))) := ru_fd md_e rfl
theorem md_s22 {h : am_H} {M : tMd} {v : Int} : am_pf (mdPut h M) 1315 10 22 0 (.int (wI v)) = some (mdPut h (up1 M.1 22 v, M.2)) := (ru_pf0 md_e ⟨by decide, (by decide : 22 < 39)⟩).trans (congrArg some (md_so _ _ _ rfl))
theorem md_f23 {h : am_H} {M : tMd} : am_fd (mdPut h M) 1315 10 23 = some (.ref 1323) := ru_fd md_e rfl
theorem md_a7 {h : am_H} {M : tMd} {i : Int} (h1 : 0 ≤ i) (h2 : i < 104) : am_ia (mdPut h M) 1323 (wI i) = some (wI (M.2 7 i.toNat)) := mdA7 (mdAt_put h M) h1 h2
theorem md_w7 {h : am_H} {M : tMd} {i v : Int} (h1 : 0 ≤ i) (h2 : i < 104) : am_is (mdPut h M) 1323 (wI i) (wI v) = some (mdPut h (M.1, up2 M.2 7 i.toNat v)) := (ru_is (mdC7 (mdAt_put h M)) h1 (by omega) (by omega)).trans (congrArg some (md_wo _ _ _ _ rfl (by decide) (by decide)))
theorem md_f24 {h : am_H} {M : tMd} : am_fd (mdPut h M) 1315 10 24 = some (.int (wI (M.1 24))) := ru_fd md_e rfl
theorem md_s24 {h : am_H} {M : tMd} {v : Int} : am_pf (mdPut h M) 1315 10 24 0 (.int (wI v)) = some (mdPut h (up1 M.1 24 v, M.2)) := (ru_pf0 md_e ⟨by decide, (by decide : 24 < 39)⟩).trans (congrArg some (md_so _ _ _ rfl))
theorem md_f25 {h : am_H} {M : tMd} : am_fd (mdPut h M) 1315 10 25 = some (.int (wI (M.1 25))) := ru_fd md_e rfl
theorem md_s25 {h : am_H} {M : tMd} {v : Int} : am_pf (mdPut h M) 1315 10 25 0 (.int (wI v)) = some (mdPut h (up1 M.1 25 v, M.2)) := (ru_pf0 md_e ⟨by decide, (by decide : 25 < 39)⟩).trans (congrArg some (md_so _ _ _ rfl))
theorem md_f26 {h : am_H} {M : tMd} : am_fd (mdPut h M) 1315 10 26 = some (.ref 1324) := ru_fd md_e rfl
theorem md_a8 {h : am_H} {M : tMd} {i : Int} (h1 : 0 ≤ i) (h2 : i < 5) : am_ia (mdPut h M) 1324 (wI i) = some (wI (M.2 8 i.toNat)) := mdA8 (mdAt_put h M) h1 h2
theorem md_w8 {h : am_H} {M : tMd} {i v : Int} (h1 : 0 ≤ i) (h2 : i < 5) : am_is (mdPut h M) 1324 (wI i) (wI v) = some (mdPut h (M.1, up2 M.2 8 i.toNat v)) := (ru_is (mdC8 (mdAt_put h M)) h1 (by omega) (by omega)).trans (congrArg some (md_wo _ _ _ _ rfl (by decide) (by decide)))
theorem md_f27 {h : am_H} {M : tMd} : am_fd (mdPut h M) 1315 10 27 = some (.ref 1325) := ru_fd md_e rfl
theorem md_a9 {h : am_H} {M : tMd} {i : Int} (h1 : 0 ≤ i) (h2 : i < 5) : am_ia (mdPut h M) 1325 (wI i) = some (wI (M.2 9 i.toNat)) := mdA9 (mdAt_put h M) h1 h2
theorem md_w9 {h : am_H} {M : tMd} {i v : Int} (h1 : 0 ≤ i) (h2 : i < 5) : am_is (mdPut h M) 1325 (wI i) (wI v) = some (mdPut h (M.1, up2 M.2 9 i.toNat v)) := (ru_is (mdC9 (mdAt_put h M)) h1 (by omega) (by omega)).trans (congrArg some (md_wo _ _ _ _ rfl (by decide) (by decide)))
theorem md_f28 {h : am_H} {M : tMd} : am_fd (mdPut h M) 1315 10 28 = some (.int (wI (M.1 28))) := ru_fd md_e rfl
theorem md_s28 {h : am_H} {M : tMd} {v : Int} : am_pf (mdPut h M) 1315 10 28 0 (.int (wI v)) = some (mdPut h (up1 M.1 28 v, M.2)) := (ru_pf0 md_e ⟨by decide, (by decide : 28 < 39)⟩).trans (congrArg some (md_so _ _ _ rfl))
theorem md_f29 {h : am_H} {M : tMd} : am_fd (mdPut h M) 1315 10 29 = some (.int (wI (M.1 29))) := ru_fd md_e rfl
theorem md_s29 {h : am_H} {M : tMd} {v : Int} : am_pf (mdPut h M) 1315 10 29 0 (.int (wI v)) = some (mdPut h (up1 M.1 29 v, M.2)) := (ru_pf0 md_e ⟨by decide, (by decide : 29 < 39)⟩).trans (congrArg some (md_so _ _ _ rfl))
theorem md_f30 {h : am_H} {M : tMd} : am_fd (mdPut h M) 1315 10 30 = some (.ref 1326) := ru_fd md_e rfl
theorem md_a10 {h : am_H} {M : tMd} {i : Int} (h1 : 0 ≤ i) (h2 : i < 270) : am_ia (mdPut h M) 1326 (wI i) = some (wI (M.2 10 i.toNat)) := mdA10 (mdAt_put h M) h1 h2
theorem md_w10 {h : am_H} {M : tMd} {i v : Int} (h1 : 0 ≤ i) (h2 : i < 270) : am_is (mdPut h M) 1326 (wI i) (wI v) = some (mdPut h (M.1, up2 M.2 10 i.toNat v)) := (ru_is (mdC10 (mdAt_put h M)) h1 (by omega) (by omega)).trans (congrArg some (md_wo _ _ _ _ rfl (by decide) (by decide)))
theorem md_f31 {h : am_H} {M : tMd} : am_fd (mdPut h M) 1315 10 31 = some (.ref 1327) := ru_fd md_e rfl
theorem md_a11 {h : am_H} {M : tMd} {i : Int} (h1 : 0 ≤ i) (h2 : i < 12) : am_ia (mdPut h M) 1327 (wI i) = some (wI (M.2 11 i.toNat)) := mdA11 (mdAt_put h M) h1 h2
theorem md_w11 {h : am_H} {M : tMd} {i v : Int} (h1 : 0 ≤ i) (h2 : i < 12) : am_is (mdPut h M) 1327 (wI i) (wI v) = some (mdPut h (M.1, up2 M.2 11 i.toNat v)) := (ru_is (mdC11 (mdAt_put h M)) h1 (by omega) (by omega)).trans (congrArg some (md_wo _ _ _ _ rfl (by decide) (by decide)))
theorem md_f32 {h : am_H} {M : tMd} : am_fd (mdPut h M) 1315 10 32 = some (.ref 1328) := ru_fd md_e rfl
theorem md_a12 {h : am_H} {M : tMd} {i : Int} (h1 : 0 ≤ i) (h2 : i < 12) : am_ia (mdPut h M) 1328 (wI i) = some (wI (M.2 12 i.toNat)) := mdA12 (mdAt_put h M) h1 h2
theorem md_w12 {h : am_H} {M : tMd} {i v : Int} (h1 : 0 ≤ i) (h2 : i < 12) : am_is (mdPut h M) 1328 (wI i) (wI v) = some (mdPut h (M.1, up2 M.2 12 i.toNat v)) := (ru_is (mdC12 (mdAt_put h M)) h1 (by omega) (by omega)).trans (congrArg some (md_wo _ _ _ _ rfl (by decide) (by decide)))
theorem md_f33 {h : am_H} {M : tMd} : am_fd (mdPut h M) 1315 10 33 = some (.ref 1329) := ru_fd md_e rfl
theorem md_a13 {h : am_H} {M : tMd} {i : Int} (h1 : 0 ≤ i) (h2 : i < 12) : am_ia (mdPut h M) 1329 (wI i) = some (wI (M.2 13 i.toNat)) := mdA13 (mdAt_put h M) h1 h2
theorem md_w13 {h : am_H} {M : tMd} {i v : Int} (h1 : 0 ≤ i) (h2 : i < 12) : am_is (mdPut h M) 1329 (wI i) (wI v) = some (mdPut h (M.1, up2 M.2 13 i.toNat v)) := (ru_is (mdC13 (mdAt_put h M)) h1 (by omega) (by omega)).trans (congrArg some (md_wo _ _ _ _ rfl (by decide) (by decide)))
theorem md_f34 {h : am_H} {M : tMd} : am_fd (mdPut h M) 1315 10 34 = some (.int (wI (M.1 34))) := ru_fd md_e rfl
theorem md_s34 {h : am_H} {M : tMd} {v : Int} : am_pf (mdPut h M) 1315 10 34 0 (.int (wI v)) = some (mdPut h (up1 M.1 34 v, M.2)) := (ru_pf0 md_e ⟨by decide, (by decide : 34 < 39)⟩).trans (congrArg some (md_so _ _ _ rfl))
theorem md_f35 {h : am_H} {M : tMd} : am_fd (mdPut h M) 1315 10 35 = some (.int (wI (M.1 35))) := ru_fd md_e rfl
theorem md_s35 {h : am_H} {M : tMd} {v : Int} : am_pf (mdPut h M) 1315 10 35 0 (.int (wI v)) = some (mdPut h (up1 M.1 35 v, M.2)) := (ru_pf0 md_e ⟨by decide, (by decide : 35 < 39)⟩).trans (congrArg some (md_so _ _ _ rfl))
theorem md_f36 {h : am_H} {M : tMd} : am_fd (mdPut h M) 1315 10 36 = some (.ref 1330) := ru_fd md_e rfl
theorem md_a14 {h : am_H} {M : tMd} {i : Int} (h1 : 0 ≤ i) (h2 : i < 12) : am_ia (mdPut h M) 1330 (wI i) = some (wI (M.2 14 i.toNat)) := mdA14 (mdAt_put h M) h1 h2
theorem md_w14 {h : am_H} {M : tMd} {i v : Int} (h1 : 0 ≤ i) (h2 : i < 12) : am_is (mdPut h M) 1330 (wI i) (wI v) = some (mdPut h (M.1, up2 M.2 14 i.toNat v)) := (ru_is (mdC14 (mdAt_put h M)) h1 (by omega) (by omega)).trans (congrArg some (md_wo _ _ _ _ rfl (by decide) (by decide)))
theorem md_f37 {h : am_H} {M : tMd} : am_fd (mdPut h M) 1315 10 37 = some (.ref 1331) := ru_fd md_e rfl
theorem md_a15 {h : am_H} {M : tMd} {i : Int} (h1 : 0 ≤ i) (h2 : i < 1000) : am_ia (mdPut h M) 1331 (wI i) = some (wI (M.2 15 i.toNat)) := mdA15 (mdAt_put h M) h1 h2
theorem md_w15 {h : am_H} {M : tMd} {i v : Int} (h1 : 0 ≤ i) (h2 : i < 1000) : am_is (mdPut h M) 1331 (wI i) (wI v) = some (mdPut h (M.1, up2 M.2 15 i.toNat v)) := (ru_is (mdC15 (mdAt_put h M)) h1 (by omega) (by omega)).trans (congrArg some (md_wo _ _ _ _ rfl (by decide) (by decide)))
theorem md_f38 {h : am_H} {M : tMd} : am_fd (mdPut h M) 1315 10 38 = some (.int (wI (M.1 38))) := ru_fd md_e rfl
theorem md_s38 {h : am_H} {M : tMd} {v : Int} : am_pf (mdPut h M) 1315 10 38 0 (.int (wI v)) = some (mdPut h (up1 M.1 38 v, M.2)) := (ru_pf0 md_e ⟨by decide, (by decide : 38 < 39)⟩).trans (congrArg some (md_so _ _ _ rfl))
