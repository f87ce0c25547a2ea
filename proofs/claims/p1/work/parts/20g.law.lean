/-! THE ENGINE, 19g: the law's own code -/
theorem en_kl6 : ((en_c_L_law.drop 240).take 40).all (en_chkE en_t_L_law) = true := by decide +kernel
theorem en_kl7 : ((en_c_L_law.drop 280).take 40).all (en_chkE en_t_L_law) = true := by decide +kernel
theorem en_kl8 : ((en_c_L_law.drop 320).take 40).all (en_chkE en_t_L_law) = true := by decide +kernel
theorem en_kl9 : ((en_c_L_law.drop 360).take 40).all (en_chkE en_t_L_law) = true := by decide +kernel
theorem en_kl10 : ((en_c_L_law.drop 400).take 40).all (en_chkE en_t_L_law) = true := by decide +kernel
theorem en_kl11 : ((en_c_L_law.drop 440).take 40).all (en_chkE en_t_L_law) = true := by decide +kernel
