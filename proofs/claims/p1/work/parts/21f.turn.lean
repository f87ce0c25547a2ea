/-! THE CLAIM, 6b -/
theorem en_rF33 : en_end (en_run en_M 20000 20 (some 6) (en_lw en_c_L_law) 1195 en_SE33) = true := by decide +kernel
