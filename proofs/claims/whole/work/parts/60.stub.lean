theorem tb_th_ok : ∀ r ∈ tb_th, (Bundle.fit (am_xn r.2.2) = true ∧ ∀ w ∈ vx_atS r.1 r.2.1 (am_xn r.2.2) tb_nm, w ∈ tb_Tg ∨ ∃ r ∈ tb_ca, w = am_cw r) := sorry
theorem tb_jk_ok : ∀ j, 0 ≤ j → j < 385 → (tb_jk j && tb_ckj j) = true := sorry
theorem tb_c_ok : ∀ j, j < 385 → ((tb_Tf j).all (tb_ck j)) = true := sorry
