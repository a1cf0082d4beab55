/-! ===== the class reads a phrase, whichever ===== -/
theorem gvQ_E {q : tPh} {k : Nat} {nm : Int} : psE (gvQ q k nm) q := ⟨fun _ _ => rfl, fun c hc => upC_n (by omega)⟩
theorem gfC_E {e : Nat → Nat} {ns : Nat → Int} {q : tPh} : ∀ k, psE (gfC e ns k q) q
  | 0 => psE_refl _
  | k + 1 => by
    rw [gfC]
    split
    · exact gfC_E k
    · exact psE_tr gvQ_E (gfC_E k)
section PHT
variable {z : Bool} {C0 C : tCl} {n A N R : Nat} {F L : Nat → List Nat} {h : am_H} {q p : tPh}
theorem f91ph {e0 : Nat} (hR : 1315 ≤ R) (hst : strs h) (hs : nmS C0 A N F L) {q0 : tPh} {gap : Int} (hq : fpI C0 C q) (hpi : piOK (piGet C0 1070) q0 gap) (hE : psE q q0) (hp : phR p) (hN : phN p (N : Int)) (hN6 : N ≤ 6) (hpq : pheq q p) {w T : List Nat} {p' : tPh} {ct : Nat} (ho : prPh p gap N F L w p' ct) (hpo : poR C n e0 (w ++ T)) (hT : enS T) (S : tRd) : ∃ (C1 C2 : tCl) (S2 : tRd) (q' : tPh), (∀ h, ru_ev z 20 [.ref 1001] (clPut h C) = some (.inl none, clPut h C1)) ∧ ru_ev z 91 [.ref R] (clPut (rdH h R (A + 1) S) C1) = some (.inl none, clPut (rdH h R (A + 1) S2) C2) ∧ S2.1 = S.1 + (ct : Nat) ∧ tkT C2 n T ∧ fpI C0 C2 q' ∧ pheq q' p' ∧ phN p' (N : Int) ∧ phR p' ∧ psE p' p ∧ psE q' q := by
  obtain ⟨y1, y2, -, -⟩ := prPh_E ho hp hN6
  rcases ho with ⟨hd, M, e, lf, ns, most, h1, rfl, rfl, rfl⟩ | ⟨c, km, h1, rfl, rfl⟩
  · obtain ⟨gv, Tq, cl, Q, fi⟩ := S
    obtain ⟨C1, C2, T2, cl2, Q2, fi2, a1, a2, a3, a4⟩ := f91row (z := z) (h := h) hR hst hs hq hpi hE hpq h1 hpo hT gv Tq cl Q fi
    have hn := h1.2.2.2
    obtain ⟨g1, g2, g3⟩ := gf_q (e := sdE e M lf) (ns := ns) hpq hp hN (by omega) most (fun i hi => (hn i hi).2)
    exact ⟨C1, C2, _, _, a1, a2, rfl, a3, a4, g1, g2, g3, y1, gfC_E most⟩
  · obtain ⟨C1, C2, a1, a2, a3, a4⟩ := f91one (z := z) (h := h) (R := R) hR hst hs hq hpi hE hp hpq h1 hpo (enS_T hT) S
    have hc := h1.2.2.1
    exact ⟨C1, C2, _, _, a1, a2, rfl, a3, a4, lgv_q hpq hp hN (by omega), lgv_N hp hN (by omega), lgv_R hp (by omega), y1, gvQ_E⟩
end PHT
