theorem pm_test : p_add 1 2 = 3 := by decide +kernel
