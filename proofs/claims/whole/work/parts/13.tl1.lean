theorem cw_280 : ((k_226.drop 280).take 40).all (chkE q_226) = true := by decide +kernel
theorem cw_320 : ((k_226.drop 320).take 40).all (chkE q_226) = true := by decide +kernel
theorem cw_360 : ((k_226.drop 360).take 40).all (chkE q_226) = true := by decide +kernel
theorem cw_400 : ((k_226.drop 400).take 40).all (chkE q_226) = true := by decide +kernel
theorem cw_440 : ((k_226.drop 440).take 40).all (chkE q_226) = true := by decide +kernel
theorem cw_480 : ((k_226.drop 480).take 40).all (chkE q_226) = true := by decide +kernel
theorem cw_520 : ((k_226.drop 520).take 40).all (chkE q_226) = true := by decide +kernel
