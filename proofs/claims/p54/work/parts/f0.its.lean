/-! ===== the class reads the items of a row ===== -/
def itR (F L : Nat → List Nat) (ns : Nat → Int) : Nat → Nat → List Nat
  | 0, _ => []
  | d + 1, k => ((if k = 0 then lwT 12 else lwT 11) ++ itW F L ns k) ++ itR F L ns d (k + 1)
theorem itR_T {F L : Nat → List Nat} {ns : Nat → Int} : ∀ d k, itT F L ns k ++ itR F L ns d k = itT F L ns (k + d)
  | 0, k => List.append_nil _
  | d + 1, k => by
    rw [itR, ← List.append_assoc, show k + (d + 1) = k + 1 + d by omega, ← itR_T d (k + 1), itT]
def gfC (e : Nat → Nat) (ns : Nat → Int) : Nat → tPh → tPh
  | 0, q => q
  | k + 1, q => if ns k < 0 then gfC e ns k q else gvQ (gfC e ns k q) (e k) (ns k)
def itK (C : tCl) (n : Nat) (F L : Nat → List Nat) (ns : Nat → Int) (k : Nat) (T : List Nat) : Prop := (ns k < 0 ∧ tkw C n (sbT 21) T) ∨ ∃ c : Nat, ns k = (c : Int) ∧ tkw C n (F c) ([32] ++ (L c ++ T))
theorem lw13 : lwT 13 = sbT 21 := rfl
section ITS
variable {z : Bool} {C0 C C' : tCl} {n A N R : Nat} {F L : Nat → List Nat} {h : am_H} {q : tPh}
theorem av_K {e : Nat} (hs : nmS C0 A N F L) {ns : Nat → Int} {k : Nat} {T sp : List Nat} (hn : ns k < (N : Int)) (hT : enT T) (hsp : spK sp) (hp : poR C n e (sp ++ (itW F L ns k ++ T))) : ∃ C', (∀ h, ru_ev z 20 [.ref 1001] (clPut h C) = some (.inl none, clPut h C')) ∧ itK C' n F L ns k T ∧ inS C C' := by
  by_cases c : ns k < 0
  · have e0 : itW F L ns k = sbT 21 := by unfold itW; rw [if_pos c, lw13]
    rw [e0] at hp
    obtain ⟨C', a, b, d⟩ := av_w (z := z) hp hsp (W := sbT 21) ⟨by decide, by decide, by decide⟩ (enT_l hT)
    exact ⟨C', a, Or.inl ⟨c, b⟩, d⟩
  · obtain ⟨nv, hnv⟩ := Int.eq_ofNat_of_zero_le (show 0 ≤ ns k by omega)
    have e0 : itW F L ns k = F nv ++ [32] ++ L nv := by unfold itW; rw [if_neg c, hnv, Int.toNat_natCast]
    rw [e0, List.append_assoc, List.append_assoc] at hp
    obtain ⟨C', a, b, d⟩ := av_w (z := z) hp hsp (hs.2.2.2 nv (by omega)).1.1 (Or.inr (by show isL 32 = false; decide))
    exact ⟨C', a, Or.inr ⟨nv, hnv, b⟩, d⟩
theorem f98k (hR : 1315 ≤ R) (hst : strs h) (hs : nmS C0 A N F L) {e : Nat → Nat} {ns : Nat → Int} {k T0 : Nat} {T : List Nat} {gv : Int} {Q : Nat → Int} {fi : Nat → Int64} (hq : fpI C0 C (gfC e ns k q)) (hT0 : T0 ≤ 12) (hk : k < T0) (hQ : Q k = (e k : Int)) (hm : ((e k : Nat) : Int) < (gfC e ns k q).1 7) (hn : ns k < (N : Int)) (ht : itK C n F L ns k T) (hT : enT T) : ∃ (C' : tCl) (fi' : Nat → Int64), ru_ev z 98 [.ref R] (clPut (rdH h R (A + 1) (gv + (gfN ns k : Nat), T0, k, Q, fi)) C) = some (.inl none, clPut (rdH h R (A + 1) (gv + (gfN ns (k + 1) : Nat), T0, (k : Int) + 1, Q, fi')) C') ∧ tkT C' n T ∧ fpI C0 C' (gfC e ns (k + 1) q) := by
  rcases ht with ⟨c, t⟩ | ⟨c, hc, t⟩
  · obtain ⟨C', a1, a2, a3⟩ := f98s (z := z) (h := h) (A := A) hR hst hq (gv := gv + (gfN ns k : Nat)) (Q := Q) (fi := fi) hT0 hk t hT
    have eN : gfN ns (k + 1) = gfN ns k := by rw [gfN, if_pos c]
    have eC : gfC e ns (k + 1) q = gfC e ns k q := by rw [gfC, if_pos c]
    rw [eN, eC]
    exact ⟨C', fi, a1, a2, a3⟩
  · obtain ⟨C', fi', a1, a2, a3⟩ := f98n (z := z) (h := h) hR hst hs hq (gv := gv + (gfN ns k : Nat)) (Q := Q) (fi := fi) (c := c) hT0 hk hQ hm (by omega) t hT
    have eN : gfN ns (k + 1) = gfN ns k + 1 := by rw [gfN, if_neg (by omega)]
    have eC : gfC e ns (k + 1) q = gvQ (gfC e ns k q) (e k) c := by rw [gfC, if_neg (by omega), hc]
    rw [eN, eC, show gv + ((gfN ns k + 1 : Nat) : Int) = gv + (gfN ns k : Nat) + 1 by omega]
    exact ⟨C', fi', a1, a2, a3⟩
theorem itR_en {ns : Nat → Int} {T : List Nat} (hT : enT T) : ∀ d k, 0 < k → enT (itR F L ns d k ++ T)
  | 0, k, _ => hT
  | d + 1, k, hk => by
    refine Or.inr (Or.inr ⟨[32] ++ (itW F L ns k ++ (itR F L ns d (k + 1) ++ T)), ?_⟩)
    rw [itR, if_neg (by omega)]
    show ([44, 32] ++ itW F L ns k) ++ itR F L ns d (k + 1) ++ T = [44] ++ ([32] ++ (itW F L ns k ++ (itR F L ns d (k + 1) ++ T)))
    simp only [List.append_assoc, List.cons_append, List.nil_append]
end ITS
