theorem cw_840 : ((k_226.drop 840).take 40).all (chkE q_226) = true := by decide +kernel
theorem cw_880 : ((k_226.drop 880).take 40).all (chkE q_226) = true := by decide +kernel
theorem cw_920 : ((k_226.drop 920).take 40).all (chkE q_226) = true := by decide +kernel
theorem cw_960 : ((k_226.drop 960).take 29).all (chkE q_226) = true := by decide +kernel
