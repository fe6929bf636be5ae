theorem v_law_0 : q_mc q_T0 q_zs q_ylaw k_law_law 0 ((k_law_law.drop 0).take 50) = true := by decide +kernel
theorem v_law_50 : q_mc q_T0 q_zs q_ylaw k_law_law 50 ((k_law_law.drop 50).take 50) = true := by decide +kernel
theorem v_law_100 : q_mc q_T0 q_zs q_ylaw k_law_law 100 ((k_law_law.drop 100).take 50) = true := by decide +kernel
theorem v_law_150 : q_mc q_T0 q_zs q_ylaw k_law_law 150 ((k_law_law.drop 150).take 50) = true := by decide +kernel
