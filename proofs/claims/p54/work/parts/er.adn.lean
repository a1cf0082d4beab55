/-! ===== the class goes on in a known text: numbers, signs, the end ===== -/
section AVN
variable {z : Bool} {C : tCl} {n e : Nat} {sp R : List Nat}
theorem numT_d {v : Nat} (hv : v ≤ 99) : 1 ≤ (numT v).length ∧ (numT v).length ≤ 2 ∧ ∀ q, q < (numT v).length → 48 ≤ (numT v).getD q 0 ∧ (numT v).getD q 0 ≤ 57 := by
  have key : ∀ v : Fin 100, 1 ≤ (numT v.val).length ∧ (numT v.val).length ≤ 2 ∧ ∀ q : Fin 2, q.val < (numT v.val).length → 48 ≤ (numT v.val).getD q.val 0 ∧ (numT v.val).getD q.val 0 ≤ 57 := by decide +kernel
  obtain ⟨k1, k2, k3⟩ := key ⟨v, by omega⟩
  exact ⟨k1, k2, fun q hq => k3 ⟨q, by simp only at k2; omega⟩ hq⟩
theorem numT_v {s v : Nat} (hv : v ≤ 99) (h : ∀ q, q < (numT v).length → C.2.1 1002 (s + q) = (((numT v).getD q 0 : Nat) : Int)) : nmV C s (numT v).length = (v : Int) := by
  by_cases c : v < 10
  · have e0 : numT v = [48 + v] := if_pos c
    rw [e0] at h ⊢
    have h0 := h 0 (Nat.succ_pos _)
    show 10 * (0 : Int) + C.2.1 1002 (s + 0) - 48 = _
    rw [h0]
    show 10 * (0 : Int) + ((48 + v : Nat) : Int) - 48 = _
    omega
  · have e0 : numT v = [48 + v / 10, 48 + v % 10] := if_neg c
    rw [e0] at h ⊢
    have h0 := h 0 (Nat.succ_pos _)
    have h1 := h 1 (Nat.lt_succ_self 1)
    show 10 * (10 * (0 : Int) + C.2.1 1002 (s + 0) - 48) + C.2.1 1002 (s + 1) - 48 = _
    rw [h0, h1]
    show 10 * (10 * (0 : Int) + ((48 + v / 10 : Nat) : Int) - 48) + ((48 + v % 10 : Nat) : Int) - 48 = _
    omega
theorem eF_0 {P : Nat → Bool} {d p : Nat} (h : P p = false) : eF P d p = p := eF_eq (Nat.le_refl _) (Nat.le_add_right _ _) (fun i h1 h2 => by omega) (Or.inr h)
theorem av_n {v : Nat} (hv : v ≤ 99) (h : poR C n e (sp ++ (numT v ++ R))) (hsp : spK sp) (hR : R = [] ∨ isD (R.getD 0 0) = false) : ∃ C', (∀ h, ru_ev z 20 [.ref 1001] (clPut h C) = some (.inl none, clPut h C')) ∧ tkn C' n v R ∧ inS C C' := by
  obtain ⟨a1, a2, a3⟩ := po_at h
  obtain ⟨w1, w2, w3⟩ := numT_d hv
  rw [List.length_append] at a2 a3
  have aw : ∀ q, q < (numT v).length → C.2.1 1002 (e + sp.length + q) = (((numT v).getD q 0 : Nat) : Int) := fun q hq => by rw [a2 q (by omega), gd1 hq]
  obtain ⟨es, k⟩ := av_s (z := z) h hsp (Or.inr (by rw [gd1 (by omega)]; have := w3 0 (by omega); omega))
  obtain ⟨s, hs⟩ : ∃ s, s = e + sp.length := ⟨_, rfl⟩
  rw [← hs] at k aw a3
  have b0 := aw 0 (by omega)
  have r0 := w3 0 (by omega)
  rw [Nat.add_zero] at b0
  have eL : lnL C n s = 0 := by
    unfold lnL
    rw [eF_0 (by unfold rgB; exact decide_eq_false (by rw [b0]; omega))]
    omega
  have eD : eF (rgB C 48 57) (n - s) s = s + (numT v).length := by
    refine eF_eq (by omega) (by omega) (fun i h1 h2 => ?_) ?_
    · obtain ⟨q, rfl⟩ := Nat.exists_eq_add_of_le h1
      unfold rgB
      have := w3 q (by omega)
      exact decide_eq_true (by rw [aw q (by omega)]; omega)
    · rcases hR with rfl | hR
      · left; have : s + ((numT v).length + 0) = n := a3; omega
      · by_cases c : R.length = 0
        · left; omega
        · right
          unfold rgB
          refine decide_eq_false (fun h => ?_)
          have hb := a2 ((numT v).length + 0) (by omega)
          rw [gd2, Nat.add_zero, ← hs] at hb
          rw [hb] at h
          unfold isD at hR
          have := of_decide_eq_false hR
          omega
  have eN : lnD C n s = (numT v).length := by unfold lnD; omega
  have iS : inS C (tkC C (C.1 1001) (C.2.2.1 1001 8) n s) := by
    unfold tkC
    rw [if_neg (by omega), if_neg (by omega), if_pos (by omega)]
    exact inS_P (fun i hi => by rw [up1_n (by omega), up1_n (by omega), up1_n (by omega)])
  refine ⟨_, k, ⟨s, s + (numT v).length, by omega, ?_, ?_, ?_, ?_, by omega, by omega⟩, iS⟩
  · refine av_po h hs iS ?_
    unfold tkC
    rw [if_neg (by omega), if_neg (by omega), if_pos (by omega), eN]
    show (s : Int) + ((numT v).length : Nat) = _
    omega
  · unfold tkC
    rw [if_neg (by omega), if_neg (by omega), if_pos (by omega)]
    rfl
  · unfold tkC
    rw [if_neg (by omega), if_neg (by omega), if_pos (by omega), eN]
    exact if_pos (by omega)
  · unfold tkC
    rw [if_neg (by omega), if_neg (by omega), if_pos (by omega), eN, if_pos (by omega)]
    show nmV C s (numT v).length = _
    exact numT_v hv aw
theorem av_g {c : Nat} (hc : c = 59 ∨ c = 44) (h : poR C n e (sp ++ ([c] ++ R))) (hsp : spK sp) : ∃ C', (∀ h, ru_ev z 20 [.ref 1001] (clPut h C) = some (.inl none, clPut h C')) ∧ tks C' n (if c = 59 then 202 else 203) R ∧ inS C C' := by
  obtain ⟨a1, a2, a3⟩ := po_at h
  rw [List.length_append] at a2 a3
  have a3' : e + sp.length + (1 + R.length) = n := a3
  have b0 : C.2.1 1002 (e + sp.length) = (c : Int) := by
    have := a2 0 (by show 0 < 1 + R.length; omega)
    rw [gd1 (Nat.lt_succ_self 0), Nat.add_zero] at this
    exact this
  obtain ⟨es, k⟩ := av_s (z := z) h hsp (Or.inr (by rw [gd1 (Nat.lt_succ_self 0)]; show ¬ c = 32; omega))
  obtain ⟨s, hs⟩ : ∃ s, s = e + sp.length := ⟨_, rfl⟩
  rw [← hs] at k b0 a3'
  have eL : lnL C n s = 0 := by
    unfold lnL
    rw [eF_0 (by unfold rgB; exact decide_eq_false (by rw [b0]; omega))]
    omega
  have eD : lnD C n s = 0 := by
    unfold lnD
    rw [eF_0 (by unfold rgB; exact decide_eq_false (by rw [b0]; omega))]
    omega
  have iS : inS C (tkC C (C.1 1001) (C.2.2.1 1001 8) n s) := by
    unfold tkC
    rw [if_neg (by omega), if_neg (by omega), if_neg (by omega)]
    exact inS_P (fun i hi => by rw [up1_n (by omega), up1_n (by omega)])
  refine ⟨_, k, ⟨s, s + 1, by omega, ?_, ?_, ?_, ?_⟩, iS⟩
  · refine av_po (T := [c]) h hs iS ?_
    unfold tkC
    rw [if_neg (by omega), if_neg (by omega), if_neg (by omega)]
    show (s : Int) + 1 = ((s + 1 : Nat) : Int)
    omega
  · unfold tkC
    rw [if_neg (by omega), if_neg (by omega), if_neg (by omega)]
    rfl
  · rcases hc with rfl | rfl
    · left; rfl
    · right; rfl
  · unfold tkC
    rw [if_neg (by omega), if_neg (by omega), if_neg (by omega)]
    show (if C.2.1 1002 s = 59 then 202 else if C.2.1 1002 s = 44 then 203 else 204) = _
    rw [b0]
    rcases hc with rfl | rfl
    · rfl
    · rfl
theorem av_e (h : poR C n e sp) (hsp : spK sp) : ∃ C', (∀ h, ru_ev z 20 [.ref 1001] (clPut h C) = some (.inl none, clPut h C')) ∧ tke C' n ∧ inS C C' := by
  have h' : poR C n e (sp ++ []) := by rw [List.append_nil]; exact h
  obtain ⟨a1, a2, a3⟩ := po_at h'
  have a3' : e + sp.length + 0 = n := a3
  obtain ⟨es, k⟩ := av_s (z := z) h' hsp (Or.inl rfl)
  obtain ⟨s, hs⟩ : ∃ s, s = e + sp.length := ⟨_, rfl⟩
  rw [← hs] at k a3'
  have iS : inS C (tkC C (C.1 1001) (C.2.2.1 1001 8) n s) := by
    unfold tkC
    rw [if_pos (by omega)]
    exact inS_P (fun i hi => by rw [up1_n (by omega)])
  obtain ⟨p1, p2, p3, p4, p5, p6⟩ := h
  refine ⟨_, k, ⟨by rw [iS.2.1 4 (by decide)]; exact p1, p3, fun i hi => by rw [iS.2.2.1]; exact p4 i hi, ⟨s, by omega, ?_⟩, ?_⟩, iS⟩
  · unfold tkC
    rw [if_pos (by omega)]
    rfl
  · unfold tkC
    rw [if_pos (by omega)]
    rfl
end AVN
