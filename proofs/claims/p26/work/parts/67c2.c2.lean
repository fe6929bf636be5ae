theorem v_law_400 : q_mc q_T0 q_zs q_ylaw k_law_law 400 ((k_law_law.drop 400).take 50) = true := by decide +kernel
theorem v_law_450 : q_mc q_T0 q_zs q_ylaw k_law_law 450 ((k_law_law.drop 450).take 50) = true := by decide +kernel
theorem v_law_500 : q_mc q_T0 q_zs q_ylaw k_law_law 500 ((k_law_law.drop 500).take 50) = true := by decide +kernel
theorem v_law_550 : q_mc q_T0 q_zs q_ylaw k_law_law 550 ((k_law_law.drop 550).take 50) = true := by decide +kernel
