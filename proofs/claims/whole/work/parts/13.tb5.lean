theorem ck_212 : k_212.all (chkE q_212) = true := by decide +kernel
theorem ck_213 : k_213.all (chkE q_213) = true := by decide +kernel
theorem ck_214 : k_214.all (chkE q_214) = true := by decide +kernel
theorem ck_215 : k_215.all (chkE q_215) = true := by decide +kernel
theorem ck_216 : k_216.all (chkE q_216) = true := by decide +kernel
theorem ck_217 : k_217.all (chkE q_217) = true := by decide +kernel
theorem ck_218 : k_218.all (chkE q_218) = true := by decide +kernel
theorem ck_219 : k_219.all (chkE q_219) = true := by decide +kernel
theorem ck_220 : k_220.all (chkE q_220) = true := by decide +kernel
theorem ck_221 : k_221.all (chkE q_221) = true := by decide +kernel
theorem ck_222 : k_222.all (chkE q_222) = true := by decide +kernel
theorem ck_223 : k_223.all (chkE q_223) = true := by decide +kernel
theorem ck_224 : k_224.all (chkE q_224) = true := by decide +kernel
theorem ck_225 : k_225.all (chkE q_225) = true := by decide +kernel
theorem mx_212 : MX q_212 := ⟨inL_in (i := mpc.getD 212 0) (by decide +kernel), inL_in (i := mpn.getD 212 0) (by decide +kernel), ⟨by decide +kernel, by decide +kernel⟩, by decide +kernel, by decide +kernel, by decide +kernel⟩
theorem mx_213 : MX q_213 := ⟨inL_in (i := mpc.getD 213 0) (by decide +kernel), inL_in (i := mpn.getD 213 0) (by decide +kernel), ⟨by decide +kernel, by decide +kernel⟩, by decide +kernel, by decide +kernel, by decide +kernel⟩
theorem mx_214 : MX q_214 := ⟨inL_in (i := mpc.getD 214 0) (by decide +kernel), inL_in (i := mpn.getD 214 0) (by decide +kernel), ⟨by decide +kernel, by decide +kernel⟩, by decide +kernel, by decide +kernel, by decide +kernel⟩
theorem mx_215 : MX q_215 := ⟨inL_in (i := mpc.getD 215 0) (by decide +kernel), inL_in (i := mpn.getD 215 0) (by decide +kernel), ⟨by decide +kernel, by decide +kernel⟩, by decide +kernel, by decide +kernel, by decide +kernel⟩
theorem mx_216 : MX q_216 := ⟨inL_in (i := mpc.getD 216 0) (by decide +kernel), inL_in (i := mpn.getD 216 0) (by decide +kernel), ⟨by decide +kernel, by decide +kernel⟩, by decide +kernel, by decide +kernel, by decide +kernel⟩
theorem mx_217 : MX q_217 := ⟨inL_in (i := mpc.getD 217 0) (by decide +kernel), inL_in (i := mpn.getD 217 0) (by decide +kernel), ⟨by decide +kernel, by decide +kernel⟩, by decide +kernel, by decide +kernel, by decide +kernel⟩
theorem mx_218 : MX q_218 := ⟨inL_in (i := mpc.getD 218 0) (by decide +kernel), inL_in (i := mpn.getD 218 0) (by decide +kernel), ⟨by decide +kernel, by decide +kernel⟩, by decide +kernel, by decide +kernel, by decide +kernel⟩
theorem mx_219 : MX q_219 := ⟨inL_in (i := mpc.getD 219 0) (by decide +kernel), inL_in (i := mpn.getD 219 0) (by decide +kernel), ⟨by decide +kernel, by decide +kernel⟩, by decide +kernel, by decide +kernel, by decide +kernel⟩
theorem mx_220 : MX q_220 := ⟨inL_in (i := mpc.getD 220 0) (by decide +kernel), inL_in (i := mpn.getD 220 0) (by decide +kernel), ⟨by decide +kernel, by decide +kernel⟩, by decide +kernel, by decide +kernel, by decide +kernel⟩
theorem mx_221 : MX q_221 := ⟨inL_in (i := mpc.getD 221 0) (by decide +kernel), inL_in (i := mpn.getD 221 0) (by decide +kernel), ⟨by decide +kernel, by decide +kernel⟩, by decide +kernel, by decide +kernel, by decide +kernel⟩
theorem mx_222 : MX q_222 := ⟨inL_in (i := mpc.getD 222 0) (by decide +kernel), inL_in (i := mpn.getD 222 0) (by decide +kernel), ⟨by decide +kernel, by decide +kernel⟩, by decide +kernel, by decide +kernel, by decide +kernel⟩
theorem mx_223 : MX q_223 := ⟨inL_in (i := mpc.getD 223 0) (by decide +kernel), inL_in (i := mpn.getD 223 0) (by decide +kernel), ⟨by decide +kernel, by decide +kernel⟩, by decide +kernel, by decide +kernel, by decide +kernel⟩
theorem mx_224 : MX q_224 := ⟨inL_in (i := mpc.getD 224 0) (by decide +kernel), inL_in (i := mpn.getD 224 0) (by decide +kernel), ⟨by decide +kernel, by decide +kernel⟩, by decide +kernel, by decide +kernel, by decide +kernel⟩
theorem mx_225 : MX q_225 := ⟨inL_in (i := mpc.getD 225 0) (by decide +kernel), inL_in (i := mpn.getD 225 0) (by decide +kernel), ⟨by decide +kernel, by decide +kernel⟩, by decide +kernel, by decide +kernel, by decide +kernel⟩
