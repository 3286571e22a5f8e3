theorem pm_test : p_add 1 2 = 3 := by decide +kernel
theorem pm_test2 : pm_code mX12_lays 0 = some (.bipush 24, 2) := by decide +kernel
