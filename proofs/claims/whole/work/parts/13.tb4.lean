theorem ck_186 : k_186.all (chkE q_186) = true := by decide +kernel
theorem ck_187 : k_187.all (chkE q_187) = true := by decide +kernel
theorem ck_188 : k_188.all (chkE q_188) = true := by decide +kernel
theorem ck_189 : k_189.all (chkE q_189) = true := by decide +kernel
theorem ck_190 : k_190.all (chkE q_190) = true := by decide +kernel
theorem ck_191 : k_191.all (chkE q_191) = true := by decide +kernel
theorem ck_192 : k_192.all (chkE q_192) = true := by decide +kernel
theorem ck_193 : k_193.all (chkE q_193) = true := by decide +kernel
theorem ck_194 : k_194.all (chkE q_194) = true := by decide +kernel
theorem ck_195 : k_195.all (chkE q_195) = true := by decide +kernel
theorem ck_196 : k_196.all (chkE q_196) = true := by decide +kernel
theorem ck_197 : k_197.all (chkE q_197) = true := by decide +kernel
theorem ck_198 : k_198.all (chkE q_198) = true := by decide +kernel
theorem ck_199 : k_199.all (chkE q_199) = true := by decide +kernel
theorem ck_200 : k_200.all (chkE q_200) = true := by decide +kernel
theorem ck_201 : k_201.all (chkE q_201) = true := by decide +kernel
theorem ck_202 : k_202.all (chkE q_202) = true := by decide +kernel
theorem ck_203 : k_203.all (chkE q_203) = true := by decide +kernel
theorem ck_204 : k_204.all (chkE q_204) = true := by decide +kernel
theorem ck_205 : k_205.all (chkE q_205) = true := by decide +kernel
theorem ck_206 : k_206.all (chkE q_206) = true := by decide +kernel
theorem ck_207 : k_207.all (chkE q_207) = true := by decide +kernel
theorem ck_208 : k_208.all (chkE q_208) = true := by decide +kernel
theorem ck_209 : k_209.all (chkE q_209) = true := by decide +kernel
theorem ck_210 : k_210.all (chkE q_210) = true := by decide +kernel
theorem ck_211 : k_211.all (chkE q_211) = true := by decide +kernel
theorem mx_186 : MX q_186 := ⟨inL_in (i := mpc.getD 186 0) (by decide +kernel), inL_in (i := mpn.getD 186 0) (by decide +kernel), ⟨by decide +kernel, by decide +kernel⟩, by decide +kernel, by decide +kernel, by decide +kernel⟩
theorem mx_187 : MX q_187 := ⟨inL_in (i := mpc.getD 187 0) (by decide +kernel), inL_in (i := mpn.getD 187 0) (by decide +kernel), ⟨by decide +kernel, by decide +kernel⟩, by decide +kernel, by decide +kernel, by decide +kernel⟩
theorem mx_188 : MX q_188 := ⟨inL_in (i := mpc.getD 188 0) (by decide +kernel), inL_in (i := mpn.getD 188 0) (by decide +kernel), ⟨by decide +kernel, by decide +kernel⟩, by decide +kernel, by decide +kernel, by decide +kernel⟩
theorem mx_189 : MX q_189 := ⟨inL_in (i := mpc.getD 189 0) (by decide +kernel), inL_in (i := mpn.getD 189 0) (by decide +kernel), ⟨by decide +kernel, by decide +kernel⟩, by decide +kernel, by decide +kernel, by decide +kernel⟩
theorem mx_190 : MX q_190 := ⟨inL_in (i := mpc.getD 190 0) (by decide +kernel), inL_in (i := mpn.getD 190 0) (by decide +kernel), ⟨by decide +kernel, by decide +kernel⟩, by decide +kernel, by decide +kernel, by decide +kernel⟩
theorem mx_191 : MX q_191 := ⟨inL_in (i := mpc.getD 191 0) (by decide +kernel), inL_in (i := mpn.getD 191 0) (by decide +kernel), ⟨by decide +kernel, by decide +kernel⟩, by decide +kernel, by decide +kernel, by decide +kernel⟩
theorem mx_192 : MX q_192 := ⟨inL_in (i := mpc.getD 192 0) (by decide +kernel), inL_in (i := mpn.getD 192 0) (by decide +kernel), ⟨by decide +kernel, by decide +kernel⟩, by decide +kernel, by decide +kernel, by decide +kernel⟩
theorem mx_193 : MX q_193 := ⟨inL_in (i := mpc.getD 193 0) (by decide +kernel), inL_in (i := mpn.getD 193 0) (by decide +kernel), ⟨by decide +kernel, by decide +kernel⟩, by decide +kernel, by decide +kernel, by decide +kernel⟩
theorem mx_194 : MX q_194 := ⟨inL_in (i := mpc.getD 194 0) (by decide +kernel), inL_in (i := mpn.getD 194 0) (by decide +kernel), ⟨by decide +kernel, by decide +kernel⟩, by decide +kernel, by decide +kernel, by decide +kernel⟩
theorem mx_195 : MX q_195 := ⟨inL_in (i := mpc.getD 195 0) (by decide +kernel), inL_in (i := mpn.getD 195 0) (by decide +kernel), ⟨by decide +kernel, by decide +kernel⟩, by decide +kernel, by decide +kernel, by decide +kernel⟩
theorem mx_196 : MX q_196 := ⟨inL_in (i := mpc.getD 196 0) (by decide +kernel), inL_in (i := mpn.getD 196 0) (by decide +kernel), ⟨by decide +kernel, by decide +kernel⟩, by decide +kernel, by decide +kernel, by decide +kernel⟩
theorem mx_197 : MX q_197 := ⟨inL_in (i := mpc.getD 197 0) (by decide +kernel), inL_in (i := mpn.getD 197 0) (by decide +kernel), ⟨by decide +kernel, by decide +kernel⟩, by decide +kernel, by decide +kernel, by decide +kernel⟩
theorem mx_198 : MX q_198 := ⟨inL_in (i := mpc.getD 198 0) (by decide +kernel), inL_in (i := mpn.getD 198 0) (by decide +kernel), ⟨by decide +kernel, by decide +kernel⟩, by decide +kernel, by decide +kernel, by decide +kernel⟩
theorem mx_199 : MX q_199 := ⟨inL_in (i := mpc.getD 199 0) (by decide +kernel), inL_in (i := mpn.getD 199 0) (by decide +kernel), ⟨by decide +kernel, by decide +kernel⟩, by decide +kernel, by decide +kernel, by decide +kernel⟩
theorem mx_200 : MX q_200 := ⟨inL_in (i := mpc.getD 200 0) (by decide +kernel), inL_in (i := mpn.getD 200 0) (by decide +kernel), ⟨by decide +kernel, by decide +kernel⟩, by decide +kernel, by decide +kernel, by decide +kernel⟩
theorem mx_201 : MX q_201 := ⟨inL_in (i := mpc.getD 201 0) (by decide +kernel), inL_in (i := mpn.getD 201 0) (by decide +kernel), ⟨by decide +kernel, by decide +kernel⟩, by decide +kernel, by decide +kernel, by decide +kernel⟩
theorem mx_202 : MX q_202 := ⟨inL_in (i := mpc.getD 202 0) (by decide +kernel), inL_in (i := mpn.getD 202 0) (by decide +kernel), ⟨by decide +kernel, by decide +kernel⟩, by decide +kernel, by decide +kernel, by decide +kernel⟩
theorem mx_203 : MX q_203 := ⟨inL_in (i := mpc.getD 203 0) (by decide +kernel), inL_in (i := mpn.getD 203 0) (by decide +kernel), ⟨by decide +kernel, by decide +kernel⟩, by decide +kernel, by decide +kernel, by decide +kernel⟩
theorem mx_204 : MX q_204 := ⟨inL_in (i := mpc.getD 204 0) (by decide +kernel), inL_in (i := mpn.getD 204 0) (by decide +kernel), ⟨by decide +kernel, by decide +kernel⟩, by decide +kernel, by decide +kernel, by decide +kernel⟩
theorem mx_205 : MX q_205 := ⟨inL_in (i := mpc.getD 205 0) (by decide +kernel), inL_in (i := mpn.getD 205 0) (by decide +kernel), ⟨by decide +kernel, by decide +kernel⟩, by decide +kernel, by decide +kernel, by decide +kernel⟩
theorem mx_206 : MX q_206 := ⟨inL_in (i := mpc.getD 206 0) (by decide +kernel), inL_in (i := mpn.getD 206 0) (by decide +kernel), ⟨by decide +kernel, by decide +kernel⟩, by decide +kernel, by decide +kernel, by decide +kernel⟩
theorem mx_207 : MX q_207 := ⟨inL_in (i := mpc.getD 207 0) (by decide +kernel), inL_in (i := mpn.getD 207 0) (by decide +kernel), ⟨by decide +kernel, by decide +kernel⟩, by decide +kernel, by decide +kernel, by decide +kernel⟩
theorem mx_208 : MX q_208 := ⟨inL_in (i := mpc.getD 208 0) (by decide +kernel), inL_in (i := mpn.getD 208 0) (by decide +kernel), ⟨by decide +kernel, by decide +kernel⟩, by decide +kernel, by decide +kernel, by decide +kernel⟩
theorem mx_209 : MX q_209 := ⟨inL_in (i := mpc.getD 209 0) (by decide +kernel), inL_in (i := mpn.getD 209 0) (by decide +kernel), ⟨by decide +kernel, by decide +kernel⟩, by decide +kernel, by decide +kernel, by decide +kernel⟩
theorem mx_210 : MX q_210 := ⟨inL_in (i := mpc.getD 210 0) (by decide +kernel), inL_in (i := mpn.getD 210 0) (by decide +kernel), ⟨by decide +kernel, by decide +kernel⟩, by decide +kernel, by decide +kernel, by decide +kernel⟩
theorem mx_211 : MX q_211 := ⟨inL_in (i := mpc.getD 211 0) (by decide +kernel), inL_in (i := mpn.getD 211 0) (by decide +kernel), ⟨by decide +kernel, by decide +kernel⟩, by decide +kernel, by decide +kernel, by decide +kernel⟩
