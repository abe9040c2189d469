theorem er_0_0 : er_ok (er_run 0 (-2147483648, 2147483647) (-2147483648, 2147483647)) = true := by decide +kernel
theorem er_1_0 : er_ok (er_run 1 (-2147483648, -1) (-2147483648, 2147483647)) = true := by decide +kernel
theorem er_1_1 : er_ok (er_run 1 (0, 0) (-2147483648, 2147483647)) = true := by decide +kernel
theorem er_1_2 : er_ok (er_run 1 (1, 2147483647) (-2147483648, 2147483647)) = true := by decide +kernel
theorem er_2_0 : er_ok (er_run 2 (-2147483648, 2147483647) (-2147483648, 2147483647)) = true := by decide +kernel
theorem er_3_0 : er_ok (er_run 3 (-2147483648, -1) (-2147483648, 2147483647)) = true := by decide +kernel
theorem er_3_1 : er_ok (er_run 3 (0, 6) (-2147483648, 2147483647)) = true := by decide +kernel
