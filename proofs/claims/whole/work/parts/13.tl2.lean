theorem cw_560 : ((k_226.drop 560).take 40).all (chkE q_226) = true := by decide +kernel
theorem cw_600 : ((k_226.drop 600).take 40).all (chkE q_226) = true := by decide +kernel
theorem cw_640 : ((k_226.drop 640).take 40).all (chkE q_226) = true := by decide +kernel
theorem cw_680 : ((k_226.drop 680).take 40).all (chkE q_226) = true := by decide +kernel
theorem cw_720 : ((k_226.drop 720).take 40).all (chkE q_226) = true := by decide +kernel
theorem cw_760 : ((k_226.drop 760).take 40).all (chkE q_226) = true := by decide +kernel
theorem cw_800 : ((k_226.drop 800).take 40).all (chkE q_226) = true := by decide +kernel
