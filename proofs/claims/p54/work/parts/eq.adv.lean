/-! ===== the class goes on in a known text ===== -/
theorem gd1 {a b : List Nat} {i : Nat} (h : i < a.length) : (a ++ b).getD i 0 = a.getD i 0 := by rw [List.getD, List.getD, List.getElem?_append_left h]
theorem gd2 {a b : List Nat} {i : Nat} : (a ++ b).getD (a.length + i) 0 = b.getD i 0 := by rw [List.getD, List.getD, List.getElem?_append_right (by omega), Nat.add_sub_cancel_left]
def spK (sp : List Nat) : Prop := ∀ q, q < sp.length → sp.getD q 0 = 32
theorem spK_0 : spK [] := fun q hq => absurd hq (by show ¬ q < 0; omega)
theorem spK_1 : spK [32] := fun q hq => by obtain rfl : q = 0 := (by have : q < 1 := hq; omega); rfl
section AV
variable {z : Bool} {C : tCl} {n e : Nat} {sp R : List Nat}
theorem po_at (h : poR C n e (sp ++ R)) : (∀ q, q < sp.length → C.2.1 1002 (e + q) = ((sp.getD q 0 : Nat) : Int)) ∧ (∀ q, q < R.length → C.2.1 1002 (e + sp.length + q) = ((R.getD q 0 : Nat) : Int)) ∧ e + sp.length + R.length = n := by
  obtain ⟨p1, p2, p3, p4, p5, p6⟩ := h
  rw [List.length_append] at p5 p6
  refine ⟨fun q hq => ?_, fun q hq => ?_, by omega⟩
  · rw [p6 q (by omega), gd1 hq]
  · rw [Nat.add_assoc, p6 _ (by omega), gd2]
theorem av_s (h : poR C n e (sp ++ R)) (hsp : spK sp) (hR : R = [] ∨ ¬ R.getD 0 0 = 32) : e + sp.length = eF (rgB C 32 32) (n - e) e ∧ ∀ h, ru_ev z 20 [.ref 1001] (clPut h C) = some (.inl none, clPut h (tkC C (C.1 1001) (C.2.2.1 1001 8) n (e + sp.length))) := by
  obtain ⟨a1, a2, a3⟩ := po_at h
  obtain ⟨p1, p2, p3, p4, p5, p6⟩ := h
  have es : e + sp.length = eF (rgB C 32 32) (n - e) e := by
    refine (eF_eq (by omega) (by omega) (fun i h1 h2 => ?_) ?_).symm
    · obtain ⟨q, rfl⟩ := Nat.exists_eq_add_of_le h1
      unfold rgB
      refine decide_eq_true ?_
      rw [a1 q (by omega), hsp q (by omega)]
      decide
    · rcases hR with rfl | hR
      · left; have : e + sp.length + 0 = n := a3; omega
      · by_cases c : R.length = 0
        · left; omega
        · right
          unfold rgB
          refine decide_eq_false (fun h => hR ?_)
          have := a2 0 (by omega)
          rw [Nat.add_zero] at this
          rw [this] at h
          omega
  refine ⟨es, fun g => ?_⟩
  have k := c20 (z := z) (h := g) (C := C) (p := C.1 1001) (w := C.2.2.1 1001 8) (k := C.2.2.2 1001 7) p1 p2 (by omega) p3 p4 es
  rw [inP_self] at k
  exact k
/-- behind the token -/
theorem av_po {C' : tCl} {T R : List Nat} {s : Nat} (h : poR C n e (sp ++ (T ++ R))) (hs : s = e + sp.length) (k : inS C C') (h6 : C'.1 1001 6 = ((s + T.length : Nat) : Int)) : poR C' n (s + T.length) R := by
  obtain ⟨a1, a2, a3⟩ := po_at h
  obtain ⟨p1, p2, p3, p4, p5, p6⟩ := h
  rw [List.length_append] at a3
  refine ⟨by rw [k.2.1 4 (by decide)]; exact p1, h6, p3, fun i hi => by rw [k.2.2.1]; exact p4 i hi, by omega, fun i hi => ?_⟩
  rw [k.2.2.1, hs, Nat.add_assoc, a2 _ (by rw [List.length_append]; omega), gd2]
theorem av_w {W : List Nat} (h : poR C n e (sp ++ (W ++ R))) (hsp : spK sp) (hW : wdK W) (hR : R = [] ∨ isL (R.getD 0 0) = false) : ∃ C', (∀ h, ru_ev z 20 [.ref 1001] (clPut h C) = some (.inl none, clPut h C')) ∧ tkw C' n W R ∧ inS C C' := by
  obtain ⟨a1, a2, a3⟩ := po_at h
  obtain ⟨w1, w2, w3⟩ := hW
  rw [List.length_append] at a2 a3
  have wl : ∀ q, q < W.length → 97 ≤ W.getD q 0 ∧ W.getD q 0 ≤ 122 := fun q hq => of_decide_eq_true (w3 q hq)
  have aw : ∀ q, q < W.length → C.2.1 1002 (e + sp.length + q) = ((W.getD q 0 : Nat) : Int) := fun q hq => by rw [a2 q (by omega), gd1 hq]
  obtain ⟨es, k⟩ := av_s (z := z) h hsp (Or.inr (by rw [gd1 (by omega)]; have := wl 0 (by omega); omega))
  obtain ⟨s, hs⟩ : ∃ s, s = e + sp.length := ⟨_, rfl⟩
  rw [← hs] at k aw a3
  have eL : eF (rgB C 97 122) (n - s) s = s + W.length := by
    refine eF_eq (by omega) (by omega) (fun i h1 h2 => ?_) ?_
    · obtain ⟨q, rfl⟩ := Nat.exists_eq_add_of_le h1
      unfold rgB
      have := wl q (by omega)
      exact decide_eq_true (by rw [aw q (by omega)]; omega)
    · rcases hR with rfl | hR
      · left; have : s + (W.length + 0) = n := a3; omega
      · by_cases c : R.length = 0
        · left; omega
        · right
          unfold rgB
          refine decide_eq_false (fun h => ?_)
          have hb := a2 (W.length + 0) (by omega)
          rw [gd2, Nat.add_zero, ← hs] at hb
          rw [hb] at h
          unfold isL at hR
          have := of_decide_eq_false hR
          omega
  have eN : lnL C n s = W.length := by unfold lnL; omega
  have iS : inS C (tkC C (C.1 1001) (C.2.2.1 1001 8) n s) := by
    unfold tkC
    rw [if_neg (by omega), if_pos (by omega)]
    exact inS_P (fun i hi => by rw [up1_n (by omega), up1_n (by omega)])
  refine ⟨_, k, ⟨s, ?_, ?_, ⟨w1, w2, w3⟩, ?_, fun q hq => ?_, ?_⟩, iS⟩
  · refine av_po h hs iS ?_
    unfold tkC
    rw [if_neg (by omega), if_pos (by omega), eN]
    show (s : Int) + (W.length : Nat) = _
    omega
  · unfold tkC
    rw [if_neg (by omega), if_pos (by omega)]
    rfl
  · unfold tkC
    rw [if_neg (by omega), if_pos (by omega), eN]
    exact if_pos w2
  · rw [iS.2.2.1]; exact aw q hq
  · unfold tkC
    rw [if_neg (by omega), if_pos (by omega), eN, if_pos w2]
    show wdL (lwF C s W.length) = _
    rw [lsF_lw aw]
end AV
