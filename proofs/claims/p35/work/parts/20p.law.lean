/-! THE ENGINE, 19: the law's own code -/
theorem en_kl0 : ((en_c_L_law.drop 0).take 40).all (en_chkE en_t_L_law) = true := by decide +kernel
theorem en_kl1 : ((en_c_L_law.drop 40).take 40).all (en_chkE en_t_L_law) = true := by decide +kernel
theorem en_kl2 : ((en_c_L_law.drop 80).take 40).all (en_chkE en_t_L_law) = true := by decide +kernel
theorem en_kl3 : ((en_c_L_law.drop 120).take 40).all (en_chkE en_t_L_law) = true := by decide +kernel
theorem en_kl4 : ((en_c_L_law.drop 160).take 40).all (en_chkE en_t_L_law) = true := by decide +kernel
theorem en_kl5 : ((en_c_L_law.drop 200).take 40).all (en_chkE en_t_L_law) = true := by decide +kernel
theorem en_kl6 : ((en_c_L_law.drop 240).take 40).all (en_chkE en_t_L_law) = true := by decide +kernel
theorem en_kl7 : ((en_c_L_law.drop 280).take 40).all (en_chkE en_t_L_law) = true := by decide +kernel
