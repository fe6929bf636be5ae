theorem v_law_600 : q_mc q_T0 q_zs q_ylaw k_law_law 600 ((k_law_law.drop 600).take 50) = true := by decide +kernel
theorem v_law_650 : q_mc q_T0 q_zs q_ylaw k_law_law 650 ((k_law_law.drop 650).take 50) = true := by decide +kernel
theorem v_law_700 : q_mc q_T0 q_zs q_ylaw k_law_law 700 ((k_law_law.drop 700).take 50) = true := by decide +kernel
theorem v_law_750 : q_mc q_T0 q_zs q_ylaw k_law_law 750 ((k_law_law.drop 750).take 50) = true := by decide +kernel
