/-! ===== fields of the class's objects, by rewriting ===== -/
def thr (h : am_H) : am_H := (h.1, h.2.1 + 1, h.2.2 + 6)
theorem cl_thr {h : am_H} {C : tCl} : ((clPut h C).1, (clPut h C).2.1 + 1, (clPut h C).2.2 + 6) = clPut (thr h) C := rfl
theorem cl_f0_0 {h : am_H} {C : tCl} {q : Nat} (hk : clk q = 0) (h2 : 1000 ≤ q) : am_fd (clPut h C) q 0 0 = some (.ref 1001) := ru_fd (clP0 hk h2) rfl
theorem cl_g0_0 {h : am_H} {C : tCl} : am_fd (clPut h C) 1000 0 0 = some (.ref 1001) := cl_f0_0 (q := 1000) (by decide +kernel) (by decide)
theorem cl_f0_1 {h : am_H} {C : tCl} {q : Nat} (hk : clk q = 0) (h2 : 1000 ≤ q) : am_fd (clPut h C) q 0 1 = some (.ref (C.2.2.2 q 1)) := ru_fd (clP0 hk h2) rfl
theorem cl_g0_1 {h : am_H} {C : tCl} : am_fd (clPut h C) 1000 0 1 = some (.ref (C.2.2.2 1000 1)) := cl_f0_1 (q := 1000) (by decide +kernel) (by decide)
theorem cl_q0_1 {h : am_H} {C : tCl} {v : Nat} : am_pf (clPut h C) 1000 0 1 2 (.ref v) = some (clPut h (upR C 1000 1 v)) := by
  have hk : clk 1000 = 0 := by decide +kernel
  rw [ru_pf2 (clP0 hk (by decide)) ⟨by decide, (by decide : 1 < 10)⟩]
  refine congrArg some (cl_setR (by rw [hk]; decide) (by decide) ?_)
  have e := clP0 (h := h) (C := upR C 1000 1 v) hk (by decide)
  rw [clPut_i (clk_in (by rw [hk]; decide) (by decide))] at e
  rw [e]
  simp only [clL0, upR, if_true, if_false, List.set_cons_zero, List.set_cons_succ, Nat.reduceEqDiff]
theorem cl_f0_2 {h : am_H} {C : tCl} {q : Nat} (hk : clk q = 0) (h2 : 1000 ≤ q) : am_fd (clPut h C) q 0 2 = some (.ref (C.2.2.2 q 2)) := ru_fd (clP0 hk h2) rfl
theorem cl_g0_2 {h : am_H} {C : tCl} : am_fd (clPut h C) 1000 0 2 = some (.ref (C.2.2.2 1000 2)) := cl_f0_2 (q := 1000) (by decide +kernel) (by decide)
theorem cl_q0_2 {h : am_H} {C : tCl} {v : Nat} : am_pf (clPut h C) 1000 0 2 2 (.ref v) = some (clPut h (upR C 1000 2 v)) := by
  have hk : clk 1000 = 0 := by decide +kernel
  rw [ru_pf2 (clP0 hk (by decide)) ⟨by decide, (by decide : 2 < 10)⟩]
  refine congrArg some (cl_setR (by rw [hk]; decide) (by decide) ?_)
  have e := clP0 (h := h) (C := upR C 1000 2 v) hk (by decide)
  rw [clPut_i (clk_in (by rw [hk]; decide) (by decide))] at e
  rw [e]
  simp only [clL0, upR, if_true, if_false, List.set_cons_zero, List.set_cons_succ, Nat.reduceEqDiff]
theorem cl_f0_3 {h : am_H} {C : tCl} {q : Nat} (hk : clk q = 0) (h2 : 1000 ≤ q) : am_fd (clPut h C) q 0 3 = some (.ref 1065) := ru_fd (clP0 hk h2) rfl
theorem cl_g0_3 {h : am_H} {C : tCl} : am_fd (clPut h C) 1000 0 3 = some (.ref 1065) := cl_f0_3 (q := 1000) (by decide +kernel) (by decide)
theorem cl_f0_4 {h : am_H} {C : tCl} {q : Nat} (hk : clk q = 0) (h2 : 1000 ≤ q) : am_fd (clPut h C) q 0 4 = some (.ref 1070) := ru_fd (clP0 hk h2) rfl
theorem cl_g0_4 {h : am_H} {C : tCl} : am_fd (clPut h C) 1000 0 4 = some (.ref 1070) := cl_f0_4 (q := 1000) (by decide +kernel) (by decide)
theorem cl_f0_5 {h : am_H} {C : tCl} {q : Nat} (hk : clk q = 0) (h2 : 1000 ≤ q) : am_fd (clPut h C) q 0 5 = some (.ref 1081) := ru_fd (clP0 hk h2) rfl
theorem cl_g0_5 {h : am_H} {C : tCl} : am_fd (clPut h C) 1000 0 5 = some (.ref 1081) := cl_f0_5 (q := 1000) (by decide +kernel) (by decide)
theorem cl_f0_6 {h : am_H} {C : tCl} {q : Nat} (hk : clk q = 0) (h2 : 1000 ≤ q) : am_fd (clPut h C) q 0 6 = some (.ref 1092) := ru_fd (clP0 hk h2) rfl
theorem cl_g0_6 {h : am_H} {C : tCl} : am_fd (clPut h C) 1000 0 6 = some (.ref 1092) := cl_f0_6 (q := 1000) (by decide +kernel) (by decide)
theorem cl_f0_7 {h : am_H} {C : tCl} {q : Nat} (hk : clk q = 0) (h2 : 1000 ≤ q) : am_fd (clPut h C) q 0 7 = some (.ref 1256) := ru_fd (clP0 hk h2) rfl
theorem cl_g0_7 {h : am_H} {C : tCl} : am_fd (clPut h C) 1000 0 7 = some (.ref 1256) := cl_f0_7 (q := 1000) (by decide +kernel) (by decide)
theorem cl_f0_8 {h : am_H} {C : tCl} {q : Nat} (hk : clk q = 0) (h2 : 1000 ≤ q) : am_fd (clPut h C) q 0 8 = some (.ref 1257) := ru_fd (clP0 hk h2) rfl
theorem cl_g0_8 {h : am_H} {C : tCl} : am_fd (clPut h C) 1000 0 8 = some (.ref 1257) := cl_f0_8 (q := 1000) (by decide +kernel) (by decide)
theorem cl_f0_9 {h : am_H} {C : tCl} {q : Nat} (hk : clk q = 0) (h2 : 1000 ≤ q) : am_fd (clPut h C) q 0 9 = some (.ref 1260) := ru_fd (clP0 hk h2) rfl
theorem cl_g0_9 {h : am_H} {C : tCl} : am_fd (clPut h C) 1000 0 9 = some (.ref 1260) := cl_f0_9 (q := 1000) (by decide +kernel) (by decide)
theorem cl_f1_0 {h : am_H} {C : tCl} {q : Nat} (hk : clk q = 1) (h2 : 1000 ≤ q) : am_fd (clPut h C) q 1 0 = some (.ref 1002) := ru_fd (clP1 hk h2) rfl
theorem cl_g1_0 {h : am_H} {C : tCl} : am_fd (clPut h C) 1001 1 0 = some (.ref 1002) := cl_f1_0 (q := 1001) (by decide +kernel) (by decide)
theorem cl_f1_1 {h : am_H} {C : tCl} {q : Nat} (hk : clk q = 1) (h2 : 1000 ≤ q) : am_fd (clPut h C) q 1 1 = some (.int (wI (C.1 q 1))) := ru_fd (clP1 hk h2) rfl
theorem cl_g1_1 {h : am_H} {C : tCl} : am_fd (clPut h C) 1001 1 1 = some (.int (wI (C.1 1001 1))) := cl_f1_1 (q := 1001) (by decide +kernel) (by decide)
theorem cl_p1_1 {h : am_H} {C : tCl} {q : Nat} {v : Int} (hk : clk q = 1) (h2 : 1000 ≤ q) : am_pf (clPut h C) q 1 1 0 (.int (wI v)) = some (clPut h (upI C q 1 v)) := by
  rw [ru_pf0 (clP1 hk h2) ⟨by decide, (by decide : 1 < 10)⟩]
  refine congrArg some (cl_setI (by rw [hk]; decide) h2 ?_)
  have e := clP1 (h := h) (C := upI C q 1 v) hk h2
  rw [clPut_i (clk_in (by rw [hk]; decide) h2)] at e
  rw [e]
  simp only [clL1, upI, if_true, if_false, List.set_cons_zero, List.set_cons_succ, Nat.reduceEqDiff]
theorem cl_q1_1 {h : am_H} {C : tCl} {v : Int} : am_pf (clPut h C) 1001 1 1 0 (.int (wI v)) = some (clPut h (upI C 1001 1 v)) := cl_p1_1 (by decide +kernel) (by decide)
theorem cl_f1_2 {h : am_H} {C : tCl} {q : Nat} (hk : clk q = 1) (h2 : 1000 ≤ q) : am_fd (clPut h C) q 1 2 = some (.int (wI (C.1 q 2))) := ru_fd (clP1 hk h2) rfl
theorem cl_g1_2 {h : am_H} {C : tCl} : am_fd (clPut h C) 1001 1 2 = some (.int (wI (C.1 1001 2))) := cl_f1_2 (q := 1001) (by decide +kernel) (by decide)
theorem cl_p1_2 {h : am_H} {C : tCl} {q : Nat} {v : Int} (hk : clk q = 1) (h2 : 1000 ≤ q) : am_pf (clPut h C) q 1 2 0 (.int (wI v)) = some (clPut h (upI C q 2 v)) := by
  rw [ru_pf0 (clP1 hk h2) ⟨by decide, (by decide : 2 < 10)⟩]
  refine congrArg some (cl_setI (by rw [hk]; decide) h2 ?_)
  have e := clP1 (h := h) (C := upI C q 2 v) hk h2
  rw [clPut_i (clk_in (by rw [hk]; decide) h2)] at e
  rw [e]
  simp only [clL1, upI, if_true, if_false, List.set_cons_zero, List.set_cons_succ, Nat.reduceEqDiff]
theorem cl_q1_2 {h : am_H} {C : tCl} {v : Int} : am_pf (clPut h C) 1001 1 2 0 (.int (wI v)) = some (clPut h (upI C 1001 2 v)) := cl_p1_2 (by decide +kernel) (by decide)
theorem cl_f1_3 {h : am_H} {C : tCl} {q : Nat} (hk : clk q = 1) (h2 : 1000 ≤ q) : am_fd (clPut h C) q 1 3 = some (.int (wI (C.1 q 3))) := ru_fd (clP1 hk h2) rfl
theorem cl_g1_3 {h : am_H} {C : tCl} : am_fd (clPut h C) 1001 1 3 = some (.int (wI (C.1 1001 3))) := cl_f1_3 (q := 1001) (by decide +kernel) (by decide)
theorem cl_p1_3 {h : am_H} {C : tCl} {q : Nat} {v : Int} (hk : clk q = 1) (h2 : 1000 ≤ q) : am_pf (clPut h C) q 1 3 0 (.int (wI v)) = some (clPut h (upI C q 3 v)) := by
  rw [ru_pf0 (clP1 hk h2) ⟨by decide, (by decide : 3 < 10)⟩]
  refine congrArg some (cl_setI (by rw [hk]; decide) h2 ?_)
  have e := clP1 (h := h) (C := upI C q 3 v) hk h2
  rw [clPut_i (clk_in (by rw [hk]; decide) h2)] at e
  rw [e]
  simp only [clL1, upI, if_true, if_false, List.set_cons_zero, List.set_cons_succ, Nat.reduceEqDiff]
theorem cl_q1_3 {h : am_H} {C : tCl} {v : Int} : am_pf (clPut h C) 1001 1 3 0 (.int (wI v)) = some (clPut h (upI C 1001 3 v)) := cl_p1_3 (by decide +kernel) (by decide)
theorem cl_f1_4 {h : am_H} {C : tCl} {q : Nat} (hk : clk q = 1) (h2 : 1000 ≤ q) : am_fd (clPut h C) q 1 4 = some (.int (wI (C.1 q 4))) := ru_fd (clP1 hk h2) rfl
theorem cl_g1_4 {h : am_H} {C : tCl} : am_fd (clPut h C) 1001 1 4 = some (.int (wI (C.1 1001 4))) := cl_f1_4 (q := 1001) (by decide +kernel) (by decide)
theorem cl_p1_4 {h : am_H} {C : tCl} {q : Nat} {v : Int} (hk : clk q = 1) (h2 : 1000 ≤ q) : am_pf (clPut h C) q 1 4 0 (.int (wI v)) = some (clPut h (upI C q 4 v)) := by
  rw [ru_pf0 (clP1 hk h2) ⟨by decide, (by decide : 4 < 10)⟩]
  refine congrArg some (cl_setI (by rw [hk]; decide) h2 ?_)
  have e := clP1 (h := h) (C := upI C q 4 v) hk h2
  rw [clPut_i (clk_in (by rw [hk]; decide) h2)] at e
  rw [e]
  simp only [clL1, upI, if_true, if_false, List.set_cons_zero, List.set_cons_succ, Nat.reduceEqDiff]
theorem cl_q1_4 {h : am_H} {C : tCl} {v : Int} : am_pf (clPut h C) 1001 1 4 0 (.int (wI v)) = some (clPut h (upI C 1001 4 v)) := cl_p1_4 (by decide +kernel) (by decide)
theorem cl_f1_5 {h : am_H} {C : tCl} {q : Nat} (hk : clk q = 1) (h2 : 1000 ≤ q) : am_fd (clPut h C) q 1 5 = some (.int (wI (C.1 q 5))) := ru_fd (clP1 hk h2) rfl
theorem cl_g1_5 {h : am_H} {C : tCl} : am_fd (clPut h C) 1001 1 5 = some (.int (wI (C.1 1001 5))) := cl_f1_5 (q := 1001) (by decide +kernel) (by decide)
theorem cl_p1_5 {h : am_H} {C : tCl} {q : Nat} {v : Int} (hk : clk q = 1) (h2 : 1000 ≤ q) : am_pf (clPut h C) q 1 5 0 (.int (wI v)) = some (clPut h (upI C q 5 v)) := by
  rw [ru_pf0 (clP1 hk h2) ⟨by decide, (by decide : 5 < 10)⟩]
  refine congrArg some (cl_setI (by rw [hk]; decide) h2 ?_)
  have e := clP1 (h := h) (C := upI C q 5 v) hk h2
  rw [clPut_i (clk_in (by rw [hk]; decide) h2)] at e
  rw [e]
  simp only [clL1, upI, if_true, if_false, List.set_cons_zero, List.set_cons_succ, Nat.reduceEqDiff]
theorem cl_q1_5 {h : am_H} {C : tCl} {v : Int} : am_pf (clPut h C) 1001 1 5 0 (.int (wI v)) = some (clPut h (upI C 1001 5 v)) := cl_p1_5 (by decide +kernel) (by decide)
theorem cl_f1_6 {h : am_H} {C : tCl} {q : Nat} (hk : clk q = 1) (h2 : 1000 ≤ q) : am_fd (clPut h C) q 1 6 = some (.int (wI (C.1 q 6))) := ru_fd (clP1 hk h2) rfl
theorem cl_g1_6 {h : am_H} {C : tCl} : am_fd (clPut h C) 1001 1 6 = some (.int (wI (C.1 1001 6))) := cl_f1_6 (q := 1001) (by decide +kernel) (by decide)
theorem cl_p1_6 {h : am_H} {C : tCl} {q : Nat} {v : Int} (hk : clk q = 1) (h2 : 1000 ≤ q) : am_pf (clPut h C) q 1 6 0 (.int (wI v)) = some (clPut h (upI C q 6 v)) := by
  rw [ru_pf0 (clP1 hk h2) ⟨by decide, (by decide : 6 < 10)⟩]
  refine congrArg some (cl_setI (by rw [hk]; decide) h2 ?_)
  have e := clP1 (h := h) (C := upI C q 6 v) hk h2
  rw [clPut_i (clk_in (by rw [hk]; decide) h2)] at e
  rw [e]
  simp only [clL1, upI, if_true, if_false, List.set_cons_zero, List.set_cons_succ, Nat.reduceEqDiff]
theorem cl_q1_6 {h : am_H} {C : tCl} {v : Int} : am_pf (clPut h C) 1001 1 6 0 (.int (wI v)) = some (clPut h (upI C 1001 6 v)) := cl_p1_6 (by decide +kernel) (by decide)
theorem cl_f1_7 {h : am_H} {C : tCl} {q : Nat} (hk : clk q = 1) (h2 : 1000 ≤ q) : am_fd (clPut h C) q 1 7 = some (.ref (C.2.2.2 q 7)) := ru_fd (clP1 hk h2) rfl
theorem cl_g1_7 {h : am_H} {C : tCl} : am_fd (clPut h C) 1001 1 7 = some (.ref (C.2.2.2 1001 7)) := cl_f1_7 (q := 1001) (by decide +kernel) (by decide)
theorem cl_q1_7 {h : am_H} {C : tCl} {v : Nat} : am_pf (clPut h C) 1001 1 7 2 (.ref v) = some (clPut h (upR C 1001 7 v)) := by
  have hk : clk 1001 = 1 := by decide +kernel
  rw [ru_pf2 (clP1 hk (by decide)) ⟨by decide, (by decide : 7 < 10)⟩]
  refine congrArg some (cl_setR (by rw [hk]; decide) (by decide) ?_)
  have e := clP1 (h := h) (C := upR C 1001 7 v) hk (by decide)
  rw [clPut_i (clk_in (by rw [hk]; decide) (by decide))] at e
  rw [e]
  simp only [clL1, upR, if_true, if_false, List.set_cons_zero, List.set_cons_succ, Nat.reduceEqDiff]
theorem cl_f1_8 {h : am_H} {C : tCl} {q : Nat} (hk : clk q = 1) (h2 : 1000 ≤ q) : am_fd (clPut h C) q 1 8 = some (.long (C.2.2.1 q 8)) := ru_fd (clP1 hk h2) rfl
theorem cl_g1_8 {h : am_H} {C : tCl} : am_fd (clPut h C) 1001 1 8 = some (.long (C.2.2.1 1001 8)) := cl_f1_8 (q := 1001) (by decide +kernel) (by decide)
theorem cl_q1_8 {h : am_H} {C : tCl} {v : Int64} : am_pf (clPut h C) 1001 1 8 1 (.long v) = some (clPut h (upJ C 1001 8 v)) := by
  have hk : clk 1001 = 1 := by decide +kernel
  rw [ru_pf1 (clP1 hk (by decide)) ⟨by decide, (by decide : 8 < 10)⟩]
  refine congrArg some (cl_setJ (by rw [hk]; decide) (by decide) ?_)
  have e := clP1 (h := h) (C := upJ C 1001 8 v) hk (by decide)
  rw [clPut_i (clk_in (by rw [hk]; decide) (by decide))] at e
  rw [e]
  simp only [clL1, upJ, if_true, if_false, List.set_cons_zero, List.set_cons_succ, Nat.reduceEqDiff]
theorem cl_f1_9 {h : am_H} {C : tCl} {q : Nat} (hk : clk q = 1) (h2 : 1000 ≤ q) : am_fd (clPut h C) q 1 9 = some (.int (wI (C.1 q 9))) := ru_fd (clP1 hk h2) rfl
theorem cl_g1_9 {h : am_H} {C : tCl} : am_fd (clPut h C) 1001 1 9 = some (.int (wI (C.1 1001 9))) := cl_f1_9 (q := 1001) (by decide +kernel) (by decide)
theorem cl_p1_9 {h : am_H} {C : tCl} {q : Nat} {v : Int} (hk : clk q = 1) (h2 : 1000 ≤ q) : am_pf (clPut h C) q 1 9 0 (.int (wI v)) = some (clPut h (upI C q 9 v)) := by
  rw [ru_pf0 (clP1 hk h2) ⟨by decide, (by decide : 9 < 10)⟩]
  refine congrArg some (cl_setI (by rw [hk]; decide) h2 ?_)
  have e := clP1 (h := h) (C := upI C q 9 v) hk h2
  rw [clPut_i (clk_in (by rw [hk]; decide) h2)] at e
  rw [e]
  simp only [clL1, upI, if_true, if_false, List.set_cons_zero, List.set_cons_succ, Nat.reduceEqDiff]
theorem cl_q1_9 {h : am_H} {C : tCl} {v : Int} : am_pf (clPut h C) 1001 1 9 0 (.int (wI v)) = some (clPut h (upI C 1001 9 v)) := cl_p1_9 (by decide +kernel) (by decide)
theorem cl_f2_0 {h : am_H} {C : tCl} {q : Nat} (hk : clk q = 2) (h2 : 1000 ≤ q) : am_fd (clPut h C) q 2 0 = some (.int (wI (C.1 q 0))) := ru_fd (clP2 hk h2) rfl
theorem cl_p2_0 {h : am_H} {C : tCl} {q : Nat} {v : Int} (hk : clk q = 2) (h2 : 1000 ≤ q) : am_pf (clPut h C) q 2 0 0 (.int (wI v)) = some (clPut h (upI C q 0 v)) := by
  rw [ru_pf0 (clP2 hk h2) ⟨by decide, (by decide : 0 < 3)⟩]
  refine congrArg some (cl_setI (by rw [hk]; decide) h2 ?_)
  have e := clP2 (h := h) (C := upI C q 0 v) hk h2
  rw [clPut_i (clk_in (by rw [hk]; decide) h2)] at e
  rw [e]
  simp only [clL2, upI, if_true, if_false, List.set_cons_zero, List.set_cons_succ, Nat.reduceEqDiff]
theorem cl_f2_1 {h : am_H} {C : tCl} {q : Nat} (hk : clk q = 2) (h2 : 1000 ≤ q) : am_fd (clPut h C) q 2 1 = some (.ref (q + 1)) := ru_fd (clP2 hk h2) rfl
theorem cl_f2_2 {h : am_H} {C : tCl} {q : Nat} (hk : clk q = 2) (h2 : 1000 ≤ q) : am_fd (clPut h C) q 2 2 = some (.ref (q + 4)) := ru_fd (clP2 hk h2) rfl
theorem cl_f3_0 {h : am_H} {C : tCl} {q : Nat} (hk : clk q = 3) (h2 : 1000 ≤ q) : am_fd (clPut h C) q 3 0 = some (.int (wI (C.1 q 0))) := ru_fd (clP3 hk h2) rfl
theorem cl_p3_0 {h : am_H} {C : tCl} {q : Nat} {v : Int} (hk : clk q = 3) (h2 : 1000 ≤ q) : am_pf (clPut h C) q 3 0 0 (.int (wI v)) = some (clPut h (upI C q 0 v)) := by
  rw [ru_pf0 (clP3 hk h2) ⟨by decide, (by decide : 0 < 3)⟩]
  refine congrArg some (cl_setI (by rw [hk]; decide) h2 ?_)
  have e := clP3 (h := h) (C := upI C q 0 v) hk h2
  rw [clPut_i (clk_in (by rw [hk]; decide) h2)] at e
  rw [e]
  simp only [clL3, upI, if_true, if_false, List.set_cons_zero, List.set_cons_succ, Nat.reduceEqDiff]
theorem cl_f3_1 {h : am_H} {C : tCl} {q : Nat} (hk : clk q = 3) (h2 : 1000 ≤ q) : am_fd (clPut h C) q 3 1 = some (.ref (q + 1)) := ru_fd (clP3 hk h2) rfl
theorem cl_f3_2 {h : am_H} {C : tCl} {q : Nat} (hk : clk q = 3) (h2 : 1000 ≤ q) : am_fd (clPut h C) q 3 2 = some (.ref (q + 2)) := ru_fd (clP3 hk h2) rfl
theorem cl_f4_0 {h : am_H} {C : tCl} {q : Nat} (hk : clk q = 4) (h2 : 1000 ≤ q) : am_fd (clPut h C) q 4 0 = some (.int (wI (C.1 q 0))) := ru_fd (clP4 hk h2) rfl
theorem cl_p4_0 {h : am_H} {C : tCl} {q : Nat} {v : Int} (hk : clk q = 4) (h2 : 1000 ≤ q) : am_pf (clPut h C) q 4 0 0 (.int (wI v)) = some (clPut h (upI C q 0 v)) := by
  rw [ru_pf0 (clP4 hk h2) ⟨by decide, (by decide : 0 < 12)⟩]
  refine congrArg some (cl_setI (by rw [hk]; decide) h2 ?_)
  have e := clP4 (h := h) (C := upI C q 0 v) hk h2
  rw [clPut_i (clk_in (by rw [hk]; decide) h2)] at e
  rw [e]
  simp only [clL4, upI, if_true, if_false, List.set_cons_zero, List.set_cons_succ, Nat.reduceEqDiff]
theorem cl_f4_1 {h : am_H} {C : tCl} {q : Nat} (hk : clk q = 4) (h2 : 1000 ≤ q) : am_fd (clPut h C) q 4 1 = some (.int (wI (C.1 q 1))) := ru_fd (clP4 hk h2) rfl
theorem cl_p4_1 {h : am_H} {C : tCl} {q : Nat} {v : Int} (hk : clk q = 4) (h2 : 1000 ≤ q) : am_pf (clPut h C) q 4 1 0 (.int (wI v)) = some (clPut h (upI C q 1 v)) := by
  rw [ru_pf0 (clP4 hk h2) ⟨by decide, (by decide : 1 < 12)⟩]
  refine congrArg some (cl_setI (by rw [hk]; decide) h2 ?_)
  have e := clP4 (h := h) (C := upI C q 1 v) hk h2
  rw [clPut_i (clk_in (by rw [hk]; decide) h2)] at e
  rw [e]
  simp only [clL4, upI, if_true, if_false, List.set_cons_zero, List.set_cons_succ, Nat.reduceEqDiff]
theorem cl_f4_2 {h : am_H} {C : tCl} {q : Nat} (hk : clk q = 4) (h2 : 1000 ≤ q) : am_fd (clPut h C) q 4 2 = some (.ref (q + 1)) := ru_fd (clP4 hk h2) rfl
theorem cl_f4_3 {h : am_H} {C : tCl} {q : Nat} (hk : clk q = 4) (h2 : 1000 ≤ q) : am_fd (clPut h C) q 4 3 = some (.ref (q + 2)) := ru_fd (clP4 hk h2) rfl
theorem cl_f4_4 {h : am_H} {C : tCl} {q : Nat} (hk : clk q = 4) (h2 : 1000 ≤ q) : am_fd (clPut h C) q 4 4 = some (.ref (q + 3)) := ru_fd (clP4 hk h2) rfl
theorem cl_f4_5 {h : am_H} {C : tCl} {q : Nat} (hk : clk q = 4) (h2 : 1000 ≤ q) : am_fd (clPut h C) q 4 5 = some (.ref (q + 4)) := ru_fd (clP4 hk h2) rfl
theorem cl_f4_6 {h : am_H} {C : tCl} {q : Nat} (hk : clk q = 4) (h2 : 1000 ≤ q) : am_fd (clPut h C) q 4 6 = some (.ref (q + 5)) := ru_fd (clP4 hk h2) rfl
theorem cl_f4_7 {h : am_H} {C : tCl} {q : Nat} (hk : clk q = 4) (h2 : 1000 ≤ q) : am_fd (clPut h C) q 4 7 = some (.ref (q + 6)) := ru_fd (clP4 hk h2) rfl
theorem cl_f4_8 {h : am_H} {C : tCl} {q : Nat} (hk : clk q = 4) (h2 : 1000 ≤ q) : am_fd (clPut h C) q 4 8 = some (.ref (q + 7)) := ru_fd (clP4 hk h2) rfl
theorem cl_f4_9 {h : am_H} {C : tCl} {q : Nat} (hk : clk q = 4) (h2 : 1000 ≤ q) : am_fd (clPut h C) q 4 9 = some (.ref (q + 8)) := ru_fd (clP4 hk h2) rfl
theorem cl_f4_10 {h : am_H} {C : tCl} {q : Nat} (hk : clk q = 4) (h2 : 1000 ≤ q) : am_fd (clPut h C) q 4 10 = some (.ref (q + 9)) := ru_fd (clP4 hk h2) rfl
theorem cl_f4_11 {h : am_H} {C : tCl} {q : Nat} (hk : clk q = 4) (h2 : 1000 ≤ q) : am_fd (clPut h C) q 4 11 = some (.ref (q + 10)) := ru_fd (clP4 hk h2) rfl
theorem cl_f5_0 {h : am_H} {C : tCl} {q : Nat} (hk : clk q = 5) (h2 : 1000 ≤ q) : am_fd (clPut h C) q 5 0 = some (.int (wI (C.1 q 0))) := ru_fd (clP5 hk h2) rfl
theorem cl_g5_0 {h : am_H} {C : tCl} : am_fd (clPut h C) 1092 5 0 = some (.int (wI (C.1 1092 0))) := cl_f5_0 (q := 1092) (by decide +kernel) (by decide)
theorem cl_p5_0 {h : am_H} {C : tCl} {q : Nat} {v : Int} (hk : clk q = 5) (h2 : 1000 ≤ q) : am_pf (clPut h C) q 5 0 0 (.int (wI v)) = some (clPut h (upI C q 0 v)) := by
  rw [ru_pf0 (clP5 hk h2) ⟨by decide, (by decide : 0 < 2)⟩]
  refine congrArg some (cl_setI (by rw [hk]; decide) h2 ?_)
  have e := clP5 (h := h) (C := upI C q 0 v) hk h2
  rw [clPut_i (clk_in (by rw [hk]; decide) h2)] at e
  rw [e]
  simp only [clL5, upI, if_true, if_false, List.set_cons_zero, List.set_cons_succ, Nat.reduceEqDiff]
theorem cl_q5_0 {h : am_H} {C : tCl} {v : Int} : am_pf (clPut h C) 1092 5 0 0 (.int (wI v)) = some (clPut h (upI C 1092 0 v)) := cl_p5_0 (by decide +kernel) (by decide)
theorem cl_f5_1 {h : am_H} {C : tCl} {q : Nat} (hk : clk q = 5) (h2 : 1000 ≤ q) : am_fd (clPut h C) q 5 1 = some (.ref (q + 1)) := ru_fd (clP5 hk h2) rfl
theorem cl_g5_1 {h : am_H} {C : tCl} : am_fd (clPut h C) 1092 5 1 = some (.ref (1093)) := cl_f5_1 (q := 1092) (by decide +kernel) (by decide)
theorem cl_f6_0 {h : am_H} {C : tCl} {q : Nat} (hk : clk q = 6) (h2 : 1000 ≤ q) : am_fd (clPut h C) q 6 0 = some (.int (wI (C.1 q 0))) := ru_fd (clP6 hk h2) rfl
theorem cl_p6_0 {h : am_H} {C : tCl} {q : Nat} {v : Int} (hk : clk q = 6) (h2 : 1000 ≤ q) : am_pf (clPut h C) q 6 0 0 (.int (wI v)) = some (clPut h (upI C q 0 v)) := by
  rw [ru_pf0 (clP6 hk h2) ⟨by decide, (by decide : 0 < 12)⟩]
  refine congrArg some (cl_setI (by rw [hk]; decide) h2 ?_)
  have e := clP6 (h := h) (C := upI C q 0 v) hk h2
  rw [clPut_i (clk_in (by rw [hk]; decide) h2)] at e
  rw [e]
  simp only [clL6, upI, if_true, if_false, List.set_cons_zero, List.set_cons_succ, Nat.reduceEqDiff]
theorem cl_f6_1 {h : am_H} {C : tCl} {q : Nat} (hk : clk q = 6) (h2 : 1000 ≤ q) : am_fd (clPut h C) q 6 1 = some (.int (wI (C.1 q 1))) := ru_fd (clP6 hk h2) rfl
theorem cl_p6_1 {h : am_H} {C : tCl} {q : Nat} {v : Int} (hk : clk q = 6) (h2 : 1000 ≤ q) : am_pf (clPut h C) q 6 1 0 (.int (wI v)) = some (clPut h (upI C q 1 v)) := by
  rw [ru_pf0 (clP6 hk h2) ⟨by decide, (by decide : 1 < 12)⟩]
  refine congrArg some (cl_setI (by rw [hk]; decide) h2 ?_)
  have e := clP6 (h := h) (C := upI C q 1 v) hk h2
  rw [clPut_i (clk_in (by rw [hk]; decide) h2)] at e
  rw [e]
  simp only [clL6, upI, if_true, if_false, List.set_cons_zero, List.set_cons_succ, Nat.reduceEqDiff]
theorem cl_f6_2 {h : am_H} {C : tCl} {q : Nat} (hk : clk q = 6) (h2 : 1000 ≤ q) : am_fd (clPut h C) q 6 2 = some (.int (wI (C.1 q 2))) := ru_fd (clP6 hk h2) rfl
theorem cl_p6_2 {h : am_H} {C : tCl} {q : Nat} {v : Int} (hk : clk q = 6) (h2 : 1000 ≤ q) : am_pf (clPut h C) q 6 2 0 (.int (wI v)) = some (clPut h (upI C q 2 v)) := by
  rw [ru_pf0 (clP6 hk h2) ⟨by decide, (by decide : 2 < 12)⟩]
  refine congrArg some (cl_setI (by rw [hk]; decide) h2 ?_)
  have e := clP6 (h := h) (C := upI C q 2 v) hk h2
  rw [clPut_i (clk_in (by rw [hk]; decide) h2)] at e
  rw [e]
  simp only [clL6, upI, if_true, if_false, List.set_cons_zero, List.set_cons_succ, Nat.reduceEqDiff]
theorem cl_f6_3 {h : am_H} {C : tCl} {q : Nat} (hk : clk q = 6) (h2 : 1000 ≤ q) : am_fd (clPut h C) q 6 3 = some (.int (wI (C.1 q 3))) := ru_fd (clP6 hk h2) rfl
theorem cl_p6_3 {h : am_H} {C : tCl} {q : Nat} {v : Int} (hk : clk q = 6) (h2 : 1000 ≤ q) : am_pf (clPut h C) q 6 3 0 (.int (wI v)) = some (clPut h (upI C q 3 v)) := by
  rw [ru_pf0 (clP6 hk h2) ⟨by decide, (by decide : 3 < 12)⟩]
  refine congrArg some (cl_setI (by rw [hk]; decide) h2 ?_)
  have e := clP6 (h := h) (C := upI C q 3 v) hk h2
  rw [clPut_i (clk_in (by rw [hk]; decide) h2)] at e
  rw [e]
  simp only [clL6, upI, if_true, if_false, List.set_cons_zero, List.set_cons_succ, Nat.reduceEqDiff]
theorem cl_f6_4 {h : am_H} {C : tCl} {q : Nat} (hk : clk q = 6) (h2 : 1000 ≤ q) : am_fd (clPut h C) q 6 4 = some (.int (wI (C.1 q 4))) := ru_fd (clP6 hk h2) rfl
theorem cl_p6_4 {h : am_H} {C : tCl} {q : Nat} {v : Int} (hk : clk q = 6) (h2 : 1000 ≤ q) : am_pf (clPut h C) q 6 4 0 (.int (wI v)) = some (clPut h (upI C q 4 v)) := by
  rw [ru_pf0 (clP6 hk h2) ⟨by decide, (by decide : 4 < 12)⟩]
  refine congrArg some (cl_setI (by rw [hk]; decide) h2 ?_)
  have e := clP6 (h := h) (C := upI C q 4 v) hk h2
  rw [clPut_i (clk_in (by rw [hk]; decide) h2)] at e
  rw [e]
  simp only [clL6, upI, if_true, if_false, List.set_cons_zero, List.set_cons_succ, Nat.reduceEqDiff]
theorem cl_f6_5 {h : am_H} {C : tCl} {q : Nat} (hk : clk q = 6) (h2 : 1000 ≤ q) : am_fd (clPut h C) q 6 5 = some (.int (wI (C.1 q 5))) := ru_fd (clP6 hk h2) rfl
theorem cl_p6_5 {h : am_H} {C : tCl} {q : Nat} {v : Int} (hk : clk q = 6) (h2 : 1000 ≤ q) : am_pf (clPut h C) q 6 5 0 (.int (wI v)) = some (clPut h (upI C q 5 v)) := by
  rw [ru_pf0 (clP6 hk h2) ⟨by decide, (by decide : 5 < 12)⟩]
  refine congrArg some (cl_setI (by rw [hk]; decide) h2 ?_)
  have e := clP6 (h := h) (C := upI C q 5 v) hk h2
  rw [clPut_i (clk_in (by rw [hk]; decide) h2)] at e
  rw [e]
  simp only [clL6, upI, if_true, if_false, List.set_cons_zero, List.set_cons_succ, Nat.reduceEqDiff]
theorem cl_f6_6 {h : am_H} {C : tCl} {q : Nat} (hk : clk q = 6) (h2 : 1000 ≤ q) : am_fd (clPut h C) q 6 6 = some (.int (wI (C.1 q 6))) := ru_fd (clP6 hk h2) rfl
theorem cl_p6_6 {h : am_H} {C : tCl} {q : Nat} {v : Int} (hk : clk q = 6) (h2 : 1000 ≤ q) (h3 : 0 ≤ v) (h4 : v ≤ 1) : am_pf (clPut h C) q 6 6 3 (.int (wI v)) = some (clPut h (upI C q 6 v)) := by
  rw [ru_pf3 (clP6 hk h2) ⟨by decide, (by decide : 6 < 12)⟩ h3 h4]
  refine congrArg some (cl_setI (by rw [hk]; decide) h2 ?_)
  have e := clP6 (h := h) (C := upI C q 6 v) hk h2
  rw [clPut_i (clk_in (by rw [hk]; decide) h2)] at e
  rw [e]
  simp only [clL6, upI, if_true, if_false, List.set_cons_zero, List.set_cons_succ, Nat.reduceEqDiff]
theorem cl_f6_7 {h : am_H} {C : tCl} {q : Nat} (hk : clk q = 6) (h2 : 1000 ≤ q) : am_fd (clPut h C) q 6 7 = some (.int (wI (C.1 q 7))) := ru_fd (clP6 hk h2) rfl
theorem cl_p6_7 {h : am_H} {C : tCl} {q : Nat} {v : Int} (hk : clk q = 6) (h2 : 1000 ≤ q) : am_pf (clPut h C) q 6 7 0 (.int (wI v)) = some (clPut h (upI C q 7 v)) := by
  rw [ru_pf0 (clP6 hk h2) ⟨by decide, (by decide : 7 < 12)⟩]
  refine congrArg some (cl_setI (by rw [hk]; decide) h2 ?_)
  have e := clP6 (h := h) (C := upI C q 7 v) hk h2
  rw [clPut_i (clk_in (by rw [hk]; decide) h2)] at e
  rw [e]
  simp only [clL6, upI, if_true, if_false, List.set_cons_zero, List.set_cons_succ, Nat.reduceEqDiff]
theorem cl_f6_8 {h : am_H} {C : tCl} {q : Nat} (hk : clk q = 6) (h2 : 1000 ≤ q) : am_fd (clPut h C) q 6 8 = some (.ref (q + 1)) := ru_fd (clP6 hk h2) rfl
theorem cl_f6_9 {h : am_H} {C : tCl} {q : Nat} (hk : clk q = 6) (h2 : 1000 ≤ q) : am_fd (clPut h C) q 6 9 = some (.ref (q + 2)) := ru_fd (clP6 hk h2) rfl
theorem cl_f6_10 {h : am_H} {C : tCl} {q : Nat} (hk : clk q = 6) (h2 : 1000 ≤ q) : am_fd (clPut h C) q 6 10 = some (.ref (q + 3)) := ru_fd (clP6 hk h2) rfl
theorem cl_f6_11 {h : am_H} {C : tCl} {q : Nat} (hk : clk q = 6) (h2 : 1000 ≤ q) : am_fd (clPut h C) q 6 11 = some (.ref (q + 4)) := ru_fd (clP6 hk h2) rfl
theorem cl_f7_0 {h : am_H} {C : tCl} {q : Nat} (hk : clk q = 7) (h2 : 1000 ≤ q) : am_fd (clPut h C) q 7 0 = some (.ref (q + 1)) := ru_fd (clP7 hk h2) rfl
theorem cl_g7_0 {h : am_H} {C : tCl} : am_fd (clPut h C) 1257 7 0 = some (.ref (1258)) := cl_f7_0 (q := 1257) (by decide +kernel) (by decide)
theorem cl_f9_0 {h : am_H} {C : tCl} {q : Nat} (hk : clk q = 9) (h2 : 1000 ≤ q) : am_fd (clPut h C) q 9 0 = some (.int (wI (C.1 q 0))) := ru_fd (clP9 hk h2) rfl
theorem cl_p9_0 {h : am_H} {C : tCl} {q : Nat} {v : Int} (hk : clk q = 9) (h2 : 1000 ≤ q) : am_pf (clPut h C) q 9 0 0 (.int (wI v)) = some (clPut h (upI C q 0 v)) := by
  rw [ru_pf0 (clP9 hk h2) ⟨by decide, (by decide : 0 < 2)⟩]
  refine congrArg some (cl_setI (by rw [hk]; decide) h2 ?_)
  have e := clP9 (h := h) (C := upI C q 0 v) hk h2
  rw [clPut_i (clk_in (by rw [hk]; decide) h2)] at e
  rw [e]
  simp only [clL9, upI, if_true, if_false, List.set_cons_zero, List.set_cons_succ, Nat.reduceEqDiff]
theorem cl_f9_1 {h : am_H} {C : tCl} {q : Nat} (hk : clk q = 9) (h2 : 1000 ≤ q) : am_fd (clPut h C) q 9 1 = some (.ref (q + 1)) := ru_fd (clP9 hk h2) rfl
theorem cl_f11_0 {h : am_H} {C : tCl} {q : Nat} (hk : clk q = 11) (h2 : 1000 ≤ q) : am_fd (clPut h C) q 11 0 = some (.ref (C.2.2.2 q 0)) := ru_fd (clP11 hk h2) rfl
theorem cl_g11_0 {h : am_H} {C : tCl} : am_fd (clPut h C) 1258 11 0 = some (.ref (C.2.2.2 1258 0)) := cl_f11_0 (q := 1258) (by decide +kernel) (by decide)
theorem cl_q11_0 {h : am_H} {C : tCl} {v : Nat} : am_pf (clPut h C) 1258 11 0 2 (.ref v) = some (clPut h (upR C 1258 0 v)) := by
  have hk : clk 1258 = 11 := by decide +kernel
  rw [ru_pf2 (clP11 hk (by decide)) ⟨by decide, (by decide : 0 < 4)⟩]
  refine congrArg some (cl_setR (by rw [hk]; decide) (by decide) ?_)
  have e := clP11 (h := h) (C := upR C 1258 0 v) hk (by decide)
  rw [clPut_i (clk_in (by rw [hk]; decide) (by decide))] at e
  rw [e]
  simp only [clL11, upR, if_true, if_false, List.set_cons_zero, List.set_cons_succ, Nat.reduceEqDiff]
theorem cl_f11_1 {h : am_H} {C : tCl} {q : Nat} (hk : clk q = 11) (h2 : 1000 ≤ q) : am_fd (clPut h C) q 11 1 = some (.int (wI (C.1 q 1))) := ru_fd (clP11 hk h2) rfl
theorem cl_g11_1 {h : am_H} {C : tCl} : am_fd (clPut h C) 1258 11 1 = some (.int (wI (C.1 1258 1))) := cl_f11_1 (q := 1258) (by decide +kernel) (by decide)
theorem cl_p11_1 {h : am_H} {C : tCl} {q : Nat} {v : Int} (hk : clk q = 11) (h2 : 1000 ≤ q) (h3 : am_nb (wI v) = wI v) : am_pf (clPut h C) q 11 1 4 (.int (wI v)) = some (clPut h (upI C q 1 v)) := by
  rw [ru_pf4 (clP11 hk h2) ⟨by decide, (by decide : 1 < 4)⟩ h3]
  refine congrArg some (cl_setI (by rw [hk]; decide) h2 ?_)
  have e := clP11 (h := h) (C := upI C q 1 v) hk h2
  rw [clPut_i (clk_in (by rw [hk]; decide) h2)] at e
  rw [e]
  simp only [clL11, upI, if_true, if_false, List.set_cons_zero, List.set_cons_succ, Nat.reduceEqDiff]
theorem cl_q11_1 {h : am_H} {C : tCl} {v : Int} (h3 : am_nb (wI v) = wI v) : am_pf (clPut h C) 1258 11 1 4 (.int (wI v)) = some (clPut h (upI C 1258 1 v)) := cl_p11_1 (by decide +kernel) (by decide) h3
theorem cl_f11_2 {h : am_H} {C : tCl} {q : Nat} (hk : clk q = 11) (h2 : 1000 ≤ q) : am_fd (clPut h C) q 11 2 = some (.int (wI (C.1 q 2))) := ru_fd (clP11 hk h2) rfl
theorem cl_g11_2 {h : am_H} {C : tCl} : am_fd (clPut h C) 1258 11 2 = some (.int (wI (C.1 1258 2))) := cl_f11_2 (q := 1258) (by decide +kernel) (by decide)
theorem cl_p11_2 {h : am_H} {C : tCl} {q : Nat} {v : Int} (hk : clk q = 11) (h2 : 1000 ≤ q) (h3 : 0 ≤ v) (h4 : v ≤ 1) : am_pf (clPut h C) q 11 2 3 (.int (wI v)) = some (clPut h (upI C q 2 v)) := by
  rw [ru_pf3 (clP11 hk h2) ⟨by decide, (by decide : 2 < 4)⟩ h3 h4]
  refine congrArg some (cl_setI (by rw [hk]; decide) h2 ?_)
  have e := clP11 (h := h) (C := upI C q 2 v) hk h2
  rw [clPut_i (clk_in (by rw [hk]; decide) h2)] at e
  rw [e]
  simp only [clL11, upI, if_true, if_false, List.set_cons_zero, List.set_cons_succ, Nat.reduceEqDiff]
theorem cl_q11_2 {h : am_H} {C : tCl} {v : Int} (h3 : 0 ≤ v) (h4 : v ≤ 1) : am_pf (clPut h C) 1258 11 2 3 (.int (wI v)) = some (clPut h (upI C 1258 2 v)) := cl_p11_2 (by decide +kernel) (by decide) h3 h4
theorem cl_f11_3 {h : am_H} {C : tCl} {q : Nat} (hk : clk q = 11) (h2 : 1000 ≤ q) : am_fd (clPut h C) q 11 3 = some (.int (wI (C.1 q 3))) := ru_fd (clP11 hk h2) rfl
theorem cl_g11_3 {h : am_H} {C : tCl} : am_fd (clPut h C) 1258 11 3 = some (.int (wI (C.1 1258 3))) := cl_f11_3 (q := 1258) (by decide +kernel) (by decide)
theorem cl_p11_3 {h : am_H} {C : tCl} {q : Nat} {v : Int} (hk : clk q = 11) (h2 : 1000 ≤ q) : am_pf (clPut h C) q 11 3 0 (.int (wI v)) = some (clPut h (upI C q 3 v)) := by
  rw [ru_pf0 (clP11 hk h2) ⟨by decide, (by decide : 3 < 4)⟩]
  refine congrArg some (cl_setI (by rw [hk]; decide) h2 ?_)
  have e := clP11 (h := h) (C := upI C q 3 v) hk h2
  rw [clPut_i (clk_in (by rw [hk]; decide) h2)] at e
  rw [e]
  simp only [clL11, upI, if_true, if_false, List.set_cons_zero, List.set_cons_succ, Nat.reduceEqDiff]
theorem cl_q11_3 {h : am_H} {C : tCl} {v : Int} : am_pf (clPut h C) 1258 11 3 0 (.int (wI v)) = some (clPut h (upI C 1258 3 v)) := cl_p11_3 (by decide +kernel) (by decide)
theorem cl_e0 {h : am_H} {C : tCl} : (clPut h C).1 1000 = some (.inr (0, clL0 C 1000)) := clP0 (by decide +kernel) (by decide)
theorem cl_e1 {h : am_H} {C : tCl} : (clPut h C).1 1001 = some (.inr (1, clL1 C 1001)) := clP1 (by decide +kernel) (by decide)
theorem cl_e5 {h : am_H} {C : tCl} : (clPut h C).1 1092 = some (.inr (5, clL5 C 1092)) := clP5 (by decide +kernel) (by decide)
theorem cl_e7 {h : am_H} {C : tCl} : (clPut h C).1 1257 = some (.inr (7, clL7 C 1257)) := clP7 (by decide +kernel) (by decide)
theorem cl_e11 {h : am_H} {C : tCl} : (clPut h C).1 1258 = some (.inr (11, clL11 C 1258)) := clP11 (by decide +kernel) (by decide)
theorem cl_a {h : am_H} {C : tCl} {q : Nat} (hk : clk q = 100) (h2 : 1000 ≤ q) {i : Int} (h3 : 0 ≤ i) (h4 : i < cln q) (h5 : i < 2147483648) : am_ia (clPut h C) q (wI i) = some (wI (C.2.1 q i.toNat)) := ru_ia (clP100 hk h2) h3 h4 h5
theorem cl_w {h : am_H} {C : tCl} {q : Nat} (hk : clk q = 100) (h2 : 1000 ≤ q) {i v : Int} (h3 : 0 ≤ i) (h4 : i < cln q) (h5 : i < 2147483648) : am_is (clPut h C) q (wI i) (wI v) = some (clPut h (upA C q (fun j => if j = i.toNat then v else C.2.1 q j))) := by
  rw [ru_is (clP100 hk h2) h3 h4 h5]
  refine congrArg some ?_
  rw [← cl_setA hk h2 rfl]
  refine congrArg (fun f : Nat → Int32 => am_set (clPut h C) q (.inl (0, cln q, .inl f))) (funext fun j => ?_)
  unfold am_up
  split <;> rfl
theorem cl_q5 {h : am_H} {C : tCl} {q : Nat} (hk : clk q = 105) (h2 : 1000 ≤ q) {i : Int} (h3 : 0 ≤ i) (h4 : i < 5) : am_qa (clPut h C) q (wI i) = some (q + 1 + 5 * i.toNat) := by
  rw [ru_qa (clP105 hk h2) (Or.inl rfl) h3 (by omega) (by omega)]
  exact if_pos (by omega)
theorem cl_q6 {h : am_H} {C : tCl} {q : Nat} (hk : clk q = 106) (h2 : 1000 ≤ q) {i : Int} (h3 : 0 ≤ i) (h4 : i < cln q) (h5 : i < 2147483648) : am_qa (clPut h C) q (wI i) = some (C.2.2.2 q i.toNat) := by
  rw [ru_qa (clP106 hk h2) (Or.inr rfl) h3 h4 h5]
  exact if_pos (by omega)
