/-! ===== the two calls that read ===== -/
theorem stp_1 {z : Bool} : stpP z 337 := fun _ _ _ _ _ _ _ h hg hi hL => st_1 h hg hi hL
theorem stp_2 {z : Bool} : stpP z 393 := fun _ _ _ _ _ _ _ h hg hi hL => st_2 h hg hi hL
