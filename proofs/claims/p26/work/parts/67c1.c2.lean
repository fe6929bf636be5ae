theorem v_law_200 : q_mc q_T0 q_zs q_ylaw k_law_law 200 ((k_law_law.drop 200).take 50) = true := by decide +kernel
theorem v_law_250 : q_mc q_T0 q_zs q_ylaw k_law_law 250 ((k_law_law.drop 250).take 50) = true := by decide +kernel
theorem v_law_300 : q_mc q_T0 q_zs q_ylaw k_law_law 300 ((k_law_law.drop 300).take 50) = true := by decide +kernel
theorem v_law_350 : q_mc q_T0 q_zs q_ylaw k_law_law 350 ((k_law_law.drop 350).take 50) = true := by decide +kernel
