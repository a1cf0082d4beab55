/-! ===== phrases: class and reference, the whole call ===== -/
section PHB
variable {z : Bool} {g : am_H} {M : tMd} {C : tCl} {cap L : Nat} {xs : Nat → Int32}
/-- the reference's tail, all well -/
theorem ph_m {h : am_H} {M' : tMd} {l1 l2 : Option Value} {gv : Int} (hM : mdR M') (h17 : M'.1 17 = 0) (h0 : M'.1 0 = 0) (h35 : M'.1 35 = gv) : ∃ n' G', ktOK (M'.1 4) n' (M'.2 1) G' ∧ ru_n z 116 99 [some (.ref 1315), l1, l2] [] (mdPut h M') = some (.inl (some (.int (wI gv))), mdPut h (up1 (teM M').1 4 n', upC M'.2 1 G')) := by
  have t4 : (teM M').1 4 = M'.1 4 := teM_o (by decide) (by decide)
  have t0 : (teM M').1 0 = 0 := by rw [teM_o (by decide) (by decide)]; exact h0
  obtain ⟨n', G', k1, k2⟩ := p153 (z := z) (h := h) (M := teM M') (by rw [t4]; exact hM.2.2.1)
  rw [t4] at k1
  refine ⟨n', G', k1, ?_⟩
  have x1 := p74 (z := z) (h := h) (M := M') (by omega)
  have x2 := p54 (z := z) (h := h) (M := teM M') (b := 0) (code := 3) (by omega) (by omega)
  rw [if_pos rfl, mdT_0 t0] at x2
  have f1 : am_fd (mdPut h (teM M')) 1315 10 17 = some (.int (wI 0)) := by rw [md_f17, teM_o (by decide) (by decide), h17]
  have f2 : am_fd (mdPut h (up1 (teM M').1 4 n', upC (teM M').2 1 G')) 1315 10 35 = some (.int (wI gv)) := by
    rw [md_f35]
    show some (Value.int (wI (up1 (teM M').1 4 n' 35))) = _
    rw [up1_n (by decide), teM_o (by decide) (by decide), h35]
  have d0 : ((0 : Int) = 0) = True := eq_true rfl
  simp (disch := omega) only [e116_99, e116_100, e116_103, e116_104, e116_105, e116_108, e116_111, e116_112, e116_115, e116_116, e116_117, e116_120, e116_123, e116_124, e116_125, e116_128, e116_129, e116_130, e116_131, e116_134, e116_135, e116_138, ↓reduceIte, Bool.false_eq_true, not_false_eq_true, not_true_eq_false, Nat.reduceLeDiff, Nat.reduceAdd, Nat.reduceEqDiff, Int.reduceToNat, Int.toNat_natCast, iB0, iB1, ru_klI, ru_klR, ru_klF, ru_klJ, ru_kl0, ru_cs0, ru_csI, ru_csR, ru_csF, ru_csJ, wI_add, wI_sub, wI_mul, wI_lt, wI_le, wI_inj, ru_fdE, ru_fdN, ru_iaN, ru_baN, ru_laN, ru_qaN, ru_pfN, ru_isN, ru_bsN, ru_jsN, ru_qsN, ru_set2, Nat.add_right_cancel_iff, if_true, if_false, ite_self, Int.reduceEq, and_self, Int.add_neg_cancel_right, Int.add_zero, Int.zero_add, md_e, x1, x2, f1, f2, k2, d0, not_true, not_false_iff]
  rfl
/-- the reference's tail, a fault -/
theorem ph_f {h : am_H} {M' : tMd} {l1 l2 : Option Value} (h17 : 1 ≤ M'.1 17 ∧ M'.1 17 ≤ 9) (h0 : M'.1 0 = 0) : ru_n z 116 99 [some (.ref 1315), l1, l2] [] (mdPut h M') = some (.inl (some (.int (wI 0))), mdPut h ((mdT (teM M') 3).1, upC (teM M').2 0 (feF ((teM M').2 0) ((teM M').2 1) 0 270))) := by
  have t0 : (teM M').1 0 = 0 := by rw [teM_o (by decide) (by decide)]; exact h0
  have x1 := p74 (z := z) (h := h) (M := M') (by omega)
  have x2 := p54 (z := z) (h := h) (M := teM M') (b := 1) (code := 3) (by omega) (by omega)
  rw [if_neg (by decide), mdT_0 t0] at x2
  have f1 : am_fd (mdPut h (teM M')) 1315 10 17 = some (.int (wI (M'.1 17))) := by rw [md_f17, teM_o (by decide) (by decide)]
  have x3 := p152 (z := z) (h := h) (M := mdT (teM M') 3) (st := 0) (by decide)
  rw [show ((0 : Nat) : Int) = 0 from rfl] at x3
  have d9 : (M'.1 17 = 0) = False := eq_false (by omega)
  have d1 : ((1 : Int) = 0) = False := eq_false (by decide)
  simp (disch := omega) only [e116_99, e116_100, e116_103, e116_104, e116_105, e116_108, e116_111, e116_112, e116_115, e116_116, e116_117, e116_120, e116_123, e116_124, e116_125, e116_128, e116_129, e116_130, e116_131, e116_134, e116_135, e116_138, ↓reduceIte, Bool.false_eq_true, not_false_eq_true, not_true_eq_false, Nat.reduceLeDiff, Nat.reduceAdd, Nat.reduceEqDiff, Int.reduceToNat, Int.toNat_natCast, iB0, iB1, ru_klI, ru_klR, ru_klF, ru_klJ, ru_kl0, ru_cs0, ru_csI, ru_csR, ru_csF, ru_csJ, wI_add, wI_sub, wI_mul, wI_lt, wI_le, wI_inj, ru_fdE, ru_fdN, ru_iaN, ru_baN, ru_laN, ru_qaN, ru_pfN, ru_isN, ru_bsN, ru_jsN, ru_qsN, ru_set2, Nat.add_right_cancel_iff, if_true, if_false, ite_self, Int.reduceEq, and_self, Int.add_neg_cancel_right, Int.add_zero, Int.zero_add, md_e, x1, x2, f1, x3, d9, d1, not_true, not_false_iff]
  rfl
theorem ph_fin (h : fuI g C M cap) (hg : gI g L xs) {n : Nat} (hn : (n : Int) < M.1 25) (hn5 : n < 5) (m1 : M.1 1 = 1) {C0 C' : tCl} {M0 M' : tMd} {gv : Int} (hc : sfC C C0) (hm : sfM M M0) (hr : prI n C0 M0 C' M' gv) {C1 : tCl} {qn : tPh} (a1 : hsOK C' C1 (alb C' + 4)) (a2 : ∀ c, 4 ≤ c → qn.2 c = fun _ => 0) (a3 : phR qn) (a4 : ∀ k, k < 8 → qn.1 k = (cph C' 1065).1 k) (a5 : ∀ c i, c < 4 → i < 12 → qn.2 c i = (cph C' 1065).2 c i) {n' : Int} {G' : Nat → Int} (hk : ktOK (M'.1 4) n' (M'.2 1) G') {nm : Nat} {S' : tRd} :
    fuI (rdH (g.1, g.2.1 + 3, g.2.2 + 33) g.2.1 nm S') (phP C1 (cAp C n) qn) (up1 (teM M').1 4 n', upC M'.2 1 G') cap ∧ (up1 (teM M').1 4 n', upC M'.2 1 G').1 0 = 0 := by
  obtain ⟨f1, f2, f3, f4, f5⟩ := id h
  have hmid := ph_mid f1 hc hm hr
  obtain ⟨b1, b2, b3, b4, b5, b6, b7, b8, b9, c1, c2, c3, c4⟩ := id hr
  obtain ⟨x1, x2, x3, x4⟩ := px_C hc b1
  obtain ⟨y1, y2, y3, y4, y5⟩ := px_M hm b3
  have hA2 : alb C = 1003 ∨ alb C = 1034 := by unfold alb; rcases f1.1.1 with ⟨e1, e2⟩ | ⟨e1, e2⟩ <;> omega
  have on3 := rdH_on hg (nm := nm) (S := S')
  have hal : alb C' = alb C := by unfold alb; rw [x4 _ _ (by omega)]
  obtain ⟨X, hX⟩ : ∃ X : tMd, X = ((teM M').1, upC (upC (teM M').2 1 (M.2 1)) 0 (M.2 0)) := ⟨_, rfl⟩
  rw [← hX] at hmid
  have X1 : X.1 = (teM M').1 := by rw [hX]
  have X20 : X.2 0 = M.2 0 := by rw [hX]; show upC (upC (teM M').2 1 (M.2 1)) 0 (M.2 0) 0 = _; rw [upC_e]
  have X21 : X.2 1 = M.2 1 := by
    rw [hX]
    show upC (upC (teM M').2 1 (M.2 1)) 0 (M.2 0) 1 = _
    rw [upC_n (by decide), upC_e]
  have X2 : ∀ c, c ≠ 0 → c ≠ 1 → X.2 c = M'.2 c := fun c h0 h1 => by
    rw [hX]
    show upC (upC (teM M').2 1 (M.2 1)) 0 (M.2 0) c = _
    rw [upC_n h0, upC_n h1]; rfl
  have e : ∀ k, k ≠ 8 → k ≠ 9 → (teM M').1 k = M'.1 k := fun k h8 h9 => teM_o h8 h9
  have ek : ∀ k, k ≠ 0 → k ≠ 7 → k ≠ 8 → k ≠ 9 → k ≠ 34 → k ≠ 35 → (k < 10 ∨ 18 < k) → (teM M').1 k = M.1 k := fun k h0 h7 h8 h9 h34 h35 hk => by rw [e k h8 h9, y1 k h0 h7 h34 h35 hk]
  have pd : pheq qn (mph M' n) := by
    refine ⟨fun k hk => by rw [a4 k hk]; exact c1.1 k hk, fun c i hc hi => ?_⟩
    rw [a4 7 (by decide)] at hi
    have h12 := (phR_s b9).2.2.2.2.2.2.2
    rw [a5 c i hc (by omega)]
    exact c1.2 c i hc hi
  obtain ⟨r1, r2, r3⟩ := ch_fin (n' := n') (G' := G') (S' := M'.2 0) (n := n) (q' := qn) hmid (by rw [X1, ek 1 (by decide) (by decide) (by decide) (by decide) (by decide) (by decide) (by omega)]; exact m1) a1 (by rw [X1, X20, X21, e 4 (by decide) (by decide), ← y3]; exact hk) (by rw [X1, ek 25 (by decide) (by decide) (by decide) (by decide) (by decide) (by decide) (by omega)]; exact hn) a2 a3 b7.1 (srR_of b6) (by rw [X2 8 (by decide) (by decide), X2 9 (by decide) (by decide)]; exact pd) (by rw [X1, e 20 (by decide) (by decide), X2 8 (by decide) (by decide), X2 9 (by decide) (by decide)]; exact b8) (fun f hf hfn j j1 j2 => by rw [X20, c4 j (by omega), hm.2.1 0 (by decide) (by decide) (by decide) (by decide) (by decide)])
  have hcA : cAp C' n = cAp C n := by unfold cAp; rw [hal]
  have hst : (up1 (mdT X 0).1 4 n', upC (upC X.2 1 G') 0 (M'.2 0)) = (up1 (teM M').1 4 n', upC M'.2 1 G') := by
    refine Prod.ext ?_ (funext fun c => ?_)
    · show up1 (mdT X 0).1 4 n' = up1 (teM M').1 4 n'
      rw [mdT_0 (by rw [X1, e 0 (by decide) (by decide), y4]), X1]
    · show upC (upC X.2 1 G') 0 (M'.2 0) c = upC M'.2 1 G' c
      by_cases e0 : c = 0
      · subst e0
        rw [upC_e, upC_n (by decide)]
      · rw [upC_n e0]
        by_cases e1 : c = 1
        · subst e1
          rw [upC_e, upC_e]
        · rw [upC_n e1, upC_n e1, X2 c e0 e1]
  rw [hcA, hst] at r1
  rw [hcA] at r2
  obtain ⟨d1, d2, d3, d4, d5, d6, d7, d8⟩ := r2
  have u1 : ∀ k, k ≠ 4 → (up1 (teM M').1 4 n', upC M'.2 1 G').1 k = (teM M').1 k := fun k hk => up1_n hk
  have u2 : ∀ c, c ≠ 1 → (up1 (teM M').1 4 n', upC M'.2 1 G').2 c = M'.2 c := fun c hc => upC_n hc
  have t8 : (teM M').1 8 = 0 := b4
  have t9 : (teM M').1 9 = -1 := by
    show (if M'.1 17 = 0 then -1 else M'.1 18) = _
    rw [if_pos b4]
  have t7 : (teM M').1 7 = 0 := by rw [e 7 (by decide) (by decide), y5]
  refine ⟨⟨r1, ?_, ?_, ?_, gS_on f5 on3 hg.2.2.1⟩, by rw [u1 0 (by decide), e 0 (by decide) (by decide), y4]⟩
  · refine nm_px f2 (by unfold alb; rw [d2]; exact x4 _ _ (by omega)) hA2 (fun q j hq => by rw [d1]; exact x3 q j hq) ?_ ?_ ?_
    · rw [u1 1 (by decide)]; exact ek 1 (by decide) (by decide) (by decide) (by decide) (by decide) (by decide) (by omega)
    · rw [u1 20 (by decide)]; exact ek 20 (by decide) (by decide) (by decide) (by decide) (by decide) (by decide) (by omega)
    · rw [u2 5 (by decide)]; exact y2 5 (by decide) (by decide) (by decide) (by decide) (by decide) (by decide) (by decide)
  · exact ⟨by rw [u1 7 (by decide), t7]; omega, by rw [u1 8 (by decide), t8]; omega, by rw [u1 9 (by decide), t9]; omega, fun i hi => by rw [u1 7 (by decide), t7] at hi; omega⟩
  · exact wrI_of f4 on3 (by rw [u1 38 (by decide)]; exact ek 38 (by decide) (by decide) (by decide) (by decide) (by decide) (by decide) (by omega)) (by rw [u2 15 (by decide)]; exact y2 15 (by decide) (by decide) (by decide) (by decide) (by decide) (by decide) (by decide)) (by rw [d6]; exact x1 _ (by decide) (by decide) (by decide)) (by rw [d4]; exact funext fun j => x4 _ _ (by omega))
theorem ph_e77 {S G : am_H} {R n : Nat} {l1 l2 : Option Value} (k90 : ru_ev z 90 [.ref R] S = some (.inr 2, G)) : ru_n z 77 73 [some (.ref 1000), l1, l2, some (.ref (cAp C n)), some (.ref R), none] [] S = some (.inr 2, G) := by
  simp (disch := omega) only [e77_73, e77_75, ↓reduceIte, Bool.false_eq_true, not_false_eq_true, not_true_eq_false, Nat.reduceLeDiff, Nat.reduceAdd, Nat.reduceEqDiff, Int.reduceToNat, Int.toNat_natCast, iB0, iB1, ru_klI, ru_klR, ru_klF, ru_klJ, ru_kl0, ru_cs0, ru_csI, ru_csR, ru_csF, ru_csJ, wI_add, wI_sub, wI_mul, wI_lt, wI_le, wI_inj, ru_fdE, ru_fdN, ru_iaN, ru_baN, ru_laN, ru_qaN, ru_pfN, ru_isN, ru_bsN, ru_jsN, ru_qsN, ru_set2, Nat.add_right_cancel_iff, if_true, if_false, ite_self, Int.reduceEq, and_self, Int.add_neg_cancel_right, Int.add_zero, Int.zero_add, k90]
theorem ph_all (h : fuI g C M cap) (hg : gI g L xs) {f : Int} (gf : -2147483648 ≤ f ∧ f < 2147483648) (e : rcP C f = 0) {l : Nat} (hl : (l : Int) ≤ M.1 7) {rc : Int} {R Lq Q : Nat → Int} (hlr : lrOK M f.toNat rc R Lq Q) {hr : am_H} (hs : strs hr) :
    (∃ (gx : am_H) (Cf : tCl) (Mf : tMd) (gv : Int), ru_ev z 77 [.ref 1000, .int (wI f), .int (wI ((l : Nat) : Int))] (clPut (mdPut g M) C) = some (.inl (some (.int (wI gv))), clPut (mdPut gx M) Cf) ∧
      ru_n z 116 45 [some (.ref 1315), some (.int (wI f)), some (.int (wI ((l : Nat) : Int)))] [] (mdPut hr (mdQ (laM M) rc R Lq Q)) = some (.inl (some (.int (wI gv))), mdPut hr Mf) ∧ Mf.1 0 = 0 ∧ fuI gx Cf Mf cap ∧ gOn g gx 3 33) ∨
    (∃ (gx : am_H) (Cf : tCl) (Mf : tMd), ru_ev z 77 [.ref 1000, .int (wI f), .int (wI ((l : Nat) : Int))] (clPut (mdPut g M) C) = some (.inr 2, clPut (mdPut gx M) Cf) ∧
      ru_n z 116 45 [some (.ref 1315), some (.int (wI f)), some (.int (wI ((l : Nat) : Int)))] [] (mdPut hr (mdQ (laM M) rc R Lq Q)) = some (.inl (some (.int (wI 0))), mdPut hr Mf) ∧ Mf.1 0 = 3 ∧ fuI gx Cf Mf cap ∧ gOn g gx 4 39) := by
  obtain ⟨f1, f2, f3, f4, f5⟩ := id h
  obtain ⟨hR, hA, hM, hrr, hnn, hG, hHi, hSv, hgg⟩ := id f1
  obtain ⟨r1, r2, r3, r4⟩ := rel_rf hM hrr e
  have m1 : M.1 1 = 1 := rf_has hM r1
  have f25 : f < M.1 25 := by have := rfP_0 r1; omega
  have f0 : 0 ≤ f := (rfP_0 r1).2.1
  obtain ⟨C0, M0, s, s1, s2, s3, s4, s5, s6, s7, s8, s9⟩ := ph_start (z := z) f1 f2 f3 gf e hl (H := mdPut g M) hg.2.2.1 hlr
  obtain ⟨n, rfl⟩ := Int.eq_ofNat_of_zero_le f0
  rw [Int.toNat_natCast] at s1 s4 s5 s6 r2
  have hst : strs (mdPut (g.1, g.2.1 + 3, g.2.2 + 33) M) := strs_mp (g := (g.1, g.2.1 + 3, g.2.2 + 33)) (strs_of f5)
  have hR3 : 1334 ≤ g.2.1 := hg.2.2.1
  rcases ca_j (z := z) (v := wI ((l : Nat) : Int)) (Nat.le_trans (by decide) hR3) hst s5 s6 s7 (S := (0, 0, 0, fun _ => 0, fun _ => 0)) s3 s4 rfl with ⟨C', S', M', gv, k1, k2, k3⟩ | ⟨C', S', M', k1, k2, k3⟩
  · left
    obtain ⟨b1, b2, b3, b4, b5, b6, b7, b8, b9, c1, c2, c3, c4⟩ := id k3
    obtain ⟨x1, x2, x3, x4⟩ := px_C s8 b1
    obtain ⟨y1, y2, y3, y4, y5⟩ := px_M s9 b3
    have hmid := ph_mid f1 s8 s9 k3
    obtain ⟨C1, qn, a1, a2, a3, a4, a5, a6⟩ := ph_c (z := z) hR r2 hmid.2.2.2.2.2.2.1.1 hmid.2.1 (by unfold alb; rw [x4 _ _ (by omega)]) b9 (l1 := some (.int (wI (n : Int)))) (l2 := some (.int (wI ((l : Nat) : Int)))) k1
    obtain ⟨n', G', w1, w2⟩ := ph_m (z := z) (h := hr) (l1 := some (.int (wI (n : Int)))) (l2 := some (.int (wI ((l : Nat) : Int)))) b6 b4 y4 b5
    obtain ⟨v1, v2⟩ := ph_fin h hg f25 r2 m1 s8 s9 k3 a1 a2 a3 a4 a5 w1 (nm := alb C + 1) (S' := S')
    refine ⟨rdH (g.1, g.2.1 + 3, g.2.2 + 33) g.2.1 (alb C + 1) S', _, _, gv, ?_, ?_, v2, v1, rdH_on hg⟩
    · rw [← rdH_md hR3]
      exact s1.trans a6
    · exact (s2 hr).trans ((k2 hr hs).trans w2)
  · right
    obtain ⟨b1, b2, b3, b4, b5, b6, b7, b8, b9⟩ := id k3
    obtain ⟨y1, y2, y3, y4, y5⟩ := px_M s9 b6
    obtain ⟨v1, v2, v3⟩ := ph_err h hg r2 s8 s9 k3 (nm := alb C + 1) (S' := S')
    refine ⟨_, C', _, ?_, ?_, v2, v1, v3⟩
    · rw [rdH_thr, ← rdH_md hR3]
      exact s1.trans (ph_e77 k1)
    · exact (s2 hr).trans ((k2 hr hs).trans (ph_f b9.1 y4))
end PHB
