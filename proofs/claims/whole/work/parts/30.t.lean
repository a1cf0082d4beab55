theorem t_one : 1 = 1 := rfl
