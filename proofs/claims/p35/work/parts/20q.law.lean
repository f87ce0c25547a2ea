/-! THE ENGINE, 19: the law's own code -/
theorem en_kl8 : ((en_c_L_law.drop 320).take 40).all (en_chkE en_t_L_law) = true := by decide +kernel
theorem en_kl9 : ((en_c_L_law.drop 360).take 40).all (en_chkE en_t_L_law) = true := by decide +kernel
theorem en_kl10 : ((en_c_L_law.drop 400).take 40).all (en_chkE en_t_L_law) = true := by decide +kernel
theorem en_kl11 : ((en_c_L_law.drop 440).take 40).all (en_chkE en_t_L_law) = true := by decide +kernel
theorem en_kl12 : ((en_c_L_law.drop 480).take 40).all (en_chkE en_t_L_law) = true := by decide +kernel
theorem en_kl13 : ((en_c_L_law.drop 520).take 40).all (en_chkE en_t_L_law) = true := by decide +kernel
theorem en_kl14 : ((en_c_L_law.drop 560).take 40).all (en_chkE en_t_L_law) = true := by decide +kernel
theorem en_kl15 : ((en_c_L_law.drop 600).take 40).all (en_chkE en_t_L_law) = true := by decide +kernel
theorem en_kl16 : ((en_c_L_law.drop 640).take 40).all (en_chkE en_t_L_law) = true := by decide +kernel
theorem en_cut {α : Type} {l : List α} {f : α → Bool} {a : Nat} (h1 : ((l.drop a).take 40).all f = true) (h2 : (l.drop (a + 40)).all f = true) : (l.drop a).all f = true := by
  rw [← List.take_append_drop 40 (l.drop a), List.all_append, h1, List.drop_drop, h2]
  rfl
theorem en_kl17 : (en_c_L_law.drop 680).all (en_chkE en_t_L_law) = true := by decide +kernel
theorem en_k_L_law : (en_c_L_law).all (en_chkE en_t_L_law) = true := en_cut (a := 0) en_kl0 (en_cut (a := 40) en_kl1 (en_cut (a := 80) en_kl2 (en_cut (a := 120) en_kl3 (en_cut (a := 160) en_kl4 (en_cut (a := 200) en_kl5 (en_cut (a := 240) en_kl6 (en_cut (a := 280) en_kl7 (en_cut (a := 320) en_kl8 (en_cut (a := 360) en_kl9 (en_cut (a := 400) en_kl10 (en_cut (a := 440) en_kl11 (en_cut (a := 480) en_kl12 (en_cut (a := 520) en_kl13 (en_cut (a := 560) en_kl14 (en_cut (a := 600) en_kl15 (en_cut (a := 640) en_kl16 (en_kl17)))))))))))))))))
