theorem bi_T : bi True = 1 := rfl
theorem bi_F : bi False = 0 := rfl
