/-! THE CLAIM, 6a -/
theorem en_rF4 : en_end (en_run en_M 20000 20 (some 6) (en_lw en_c_L_law) 306 en_SE4) = true := by decide +kernel
