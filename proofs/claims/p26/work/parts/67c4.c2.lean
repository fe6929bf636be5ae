theorem v_law_800 : q_mc q_T0 q_zs q_ylaw k_law_law 800 ((k_law_law.drop 800).take 50) = true := by decide +kernel
