theorem cw_0 : ((k_226.drop 0).take 40).all (chkE q_226) = true := by decide +kernel
theorem cw_40 : ((k_226.drop 40).take 40).all (chkE q_226) = true := by decide +kernel
theorem cw_80 : ((k_226.drop 80).take 40).all (chkE q_226) = true := by decide +kernel
theorem cw_120 : ((k_226.drop 120).take 40).all (chkE q_226) = true := by decide +kernel
theorem cw_160 : ((k_226.drop 160).take 40).all (chkE q_226) = true := by decide +kernel
theorem cw_200 : ((k_226.drop 200).take 40).all (chkE q_226) = true := by decide +kernel
theorem cw_240 : ((k_226.drop 240).take 40).all (chkE q_226) = true := by decide +kernel
