theorem ck_153 : k_153.all (chkE q_153) = true := by decide +kernel
theorem ck_154 : k_154.all (chkE q_154) = true := by decide +kernel
theorem ck_155 : k_155.all (chkE q_155) = true := by decide +kernel
theorem ck_156 : k_156.all (chkE q_156) = true := by decide +kernel
theorem ck_157 : k_157.all (chkE q_157) = true := by decide +kernel
theorem ck_158 : k_158.all (chkE q_158) = true := by decide +kernel
theorem ck_159 : k_159.all (chkE q_159) = true := by decide +kernel
theorem ck_160 : k_160.all (chkE q_160) = true := by decide +kernel
theorem ck_161 : k_161.all (chkE q_161) = true := by decide +kernel
theorem ck_162 : k_162.all (chkE q_162) = true := by decide +kernel
theorem ck_163 : k_163.all (chkE q_163) = true := by decide +kernel
theorem ck_164 : k_164.all (chkE q_164) = true := by decide +kernel
theorem ck_165 : k_165.all (chkE q_165) = true := by decide +kernel
theorem ck_166 : k_166.all (chkE q_166) = true := by decide +kernel
theorem ck_167 : k_167.all (chkE q_167) = true := by decide +kernel
theorem ck_168 : k_168.all (chkE q_168) = true := by decide +kernel
theorem ck_169 : k_169.all (chkE q_169) = true := by decide +kernel
theorem ck_170 : k_170.all (chkE q_170) = true := by decide +kernel
theorem ck_171 : k_171.all (chkE q_171) = true := by decide +kernel
theorem ck_172 : k_172.all (chkE q_172) = true := by decide +kernel
theorem ck_173 : k_173.all (chkE q_173) = true := by decide +kernel
theorem ck_174 : k_174.all (chkE q_174) = true := by decide +kernel
theorem ck_175 : k_175.all (chkE q_175) = true := by decide +kernel
theorem ck_176 : k_176.all (chkE q_176) = true := by decide +kernel
theorem ck_177 : k_177.all (chkE q_177) = true := by decide +kernel
theorem ck_178 : k_178.all (chkE q_178) = true := by decide +kernel
theorem ck_179 : k_179.all (chkE q_179) = true := by decide +kernel
theorem ck_180 : k_180.all (chkE q_180) = true := by decide +kernel
theorem ck_181 : k_181.all (chkE q_181) = true := by decide +kernel
theorem ck_182 : k_182.all (chkE q_182) = true := by decide +kernel
theorem ck_183 : k_183.all (chkE q_183) = true := by decide +kernel
theorem ck_184 : k_184.all (chkE q_184) = true := by decide +kernel
theorem ck_185 : k_185.all (chkE q_185) = true := by decide +kernel
theorem mx_153 : MX q_153 := ⟨inL_in (i := mpc.getD 153 0) (by decide +kernel), inL_in (i := mpn.getD 153 0) (by decide +kernel), ⟨by decide +kernel, by decide +kernel⟩, by decide +kernel, by decide +kernel, by decide +kernel⟩
theorem mx_154 : MX q_154 := ⟨inL_in (i := mpc.getD 154 0) (by decide +kernel), inL_in (i := mpn.getD 154 0) (by decide +kernel), ⟨by decide +kernel, by decide +kernel⟩, by decide +kernel, by decide +kernel, by decide +kernel⟩
theorem mx_155 : MX q_155 := ⟨inL_in (i := mpc.getD 155 0) (by decide +kernel), inL_in (i := mpn.getD 155 0) (by decide +kernel), ⟨by decide +kernel, by decide +kernel⟩, by decide +kernel, by decide +kernel, by decide +kernel⟩
theorem mx_156 : MX q_156 := ⟨inL_in (i := mpc.getD 156 0) (by decide +kernel), inL_in (i := mpn.getD 156 0) (by decide +kernel), ⟨by decide +kernel, by decide +kernel⟩, by decide +kernel, by decide +kernel, by decide +kernel⟩
theorem mx_157 : MX q_157 := ⟨inL_in (i := mpc.getD 157 0) (by decide +kernel), inL_in (i := mpn.getD 157 0) (by decide +kernel), ⟨by decide +kernel, by decide +kernel⟩, by decide +kernel, by decide +kernel, by decide +kernel⟩
theorem mx_158 : MX q_158 := ⟨inL_in (i := mpc.getD 158 0) (by decide +kernel), inL_in (i := mpn.getD 158 0) (by decide +kernel), ⟨by decide +kernel, by decide +kernel⟩, by decide +kernel, by decide +kernel, by decide +kernel⟩
theorem mx_159 : MX q_159 := ⟨inL_in (i := mpc.getD 159 0) (by decide +kernel), inL_in (i := mpn.getD 159 0) (by decide +kernel), ⟨by decide +kernel, by decide +kernel⟩, by decide +kernel, by decide +kernel, by decide +kernel⟩
theorem mx_160 : MX q_160 := ⟨inL_in (i := mpc.getD 160 0) (by decide +kernel), inL_in (i := mpn.getD 160 0) (by decide +kernel), ⟨by decide +kernel, by decide +kernel⟩, by decide +kernel, by decide +kernel, by decide +kernel⟩
theorem mx_161 : MX q_161 := ⟨inL_in (i := mpc.getD 161 0) (by decide +kernel), inL_in (i := mpn.getD 161 0) (by decide +kernel), ⟨by decide +kernel, by decide +kernel⟩, by decide +kernel, by decide +kernel, by decide +kernel⟩
theorem mx_162 : MX q_162 := ⟨inL_in (i := mpc.getD 162 0) (by decide +kernel), inL_in (i := mpn.getD 162 0) (by decide +kernel), ⟨by decide +kernel, by decide +kernel⟩, by decide +kernel, by decide +kernel, by decide +kernel⟩
theorem mx_163 : MX q_163 := ⟨inL_in (i := mpc.getD 163 0) (by decide +kernel), inL_in (i := mpn.getD 163 0) (by decide +kernel), ⟨by decide +kernel, by decide +kernel⟩, by decide +kernel, by decide +kernel, by decide +kernel⟩
theorem mx_164 : MX q_164 := ⟨inL_in (i := mpc.getD 164 0) (by decide +kernel), inL_in (i := mpn.getD 164 0) (by decide +kernel), ⟨by decide +kernel, by decide +kernel⟩, by decide +kernel, by decide +kernel, by decide +kernel⟩
theorem mx_165 : MX q_165 := ⟨inL_in (i := mpc.getD 165 0) (by decide +kernel), inL_in (i := mpn.getD 165 0) (by decide +kernel), ⟨by decide +kernel, by decide +kernel⟩, by decide +kernel, by decide +kernel, by decide +kernel⟩
theorem mx_166 : MX q_166 := ⟨inL_in (i := mpc.getD 166 0) (by decide +kernel), inL_in (i := mpn.getD 166 0) (by decide +kernel), ⟨by decide +kernel, by decide +kernel⟩, by decide +kernel, by decide +kernel, by decide +kernel⟩
theorem mx_167 : MX q_167 := ⟨inL_in (i := mpc.getD 167 0) (by decide +kernel), inL_in (i := mpn.getD 167 0) (by decide +kernel), ⟨by decide +kernel, by decide +kernel⟩, by decide +kernel, by decide +kernel, by decide +kernel⟩
theorem mx_168 : MX q_168 := ⟨inL_in (i := mpc.getD 168 0) (by decide +kernel), inL_in (i := mpn.getD 168 0) (by decide +kernel), ⟨by decide +kernel, by decide +kernel⟩, by decide +kernel, by decide +kernel, by decide +kernel⟩
theorem mx_169 : MX q_169 := ⟨inL_in (i := mpc.getD 169 0) (by decide +kernel), inL_in (i := mpn.getD 169 0) (by decide +kernel), ⟨by decide +kernel, by decide +kernel⟩, by decide +kernel, by decide +kernel, by decide +kernel⟩
theorem mx_170 : MX q_170 := ⟨inL_in (i := mpc.getD 170 0) (by decide +kernel), inL_in (i := mpn.getD 170 0) (by decide +kernel), ⟨by decide +kernel, by decide +kernel⟩, by decide +kernel, by decide +kernel, by decide +kernel⟩
theorem mx_171 : MX q_171 := ⟨inL_in (i := mpc.getD 171 0) (by decide +kernel), inL_in (i := mpn.getD 171 0) (by decide +kernel), ⟨by decide +kernel, by decide +kernel⟩, by decide +kernel, by decide +kernel, by decide +kernel⟩
theorem mx_172 : MX q_172 := ⟨inL_in (i := mpc.getD 172 0) (by decide +kernel), inL_in (i := mpn.getD 172 0) (by decide +kernel), ⟨by decide +kernel, by decide +kernel⟩, by decide +kernel, by decide +kernel, by decide +kernel⟩
theorem mx_173 : MX q_173 := ⟨inL_in (i := mpc.getD 173 0) (by decide +kernel), inL_in (i := mpn.getD 173 0) (by decide +kernel), ⟨by decide +kernel, by decide +kernel⟩, by decide +kernel, by decide +kernel, by decide +kernel⟩
theorem mx_174 : MX q_174 := ⟨inL_in (i := mpc.getD 174 0) (by decide +kernel), inL_in (i := mpn.getD 174 0) (by decide +kernel), ⟨by decide +kernel, by decide +kernel⟩, by decide +kernel, by decide +kernel, by decide +kernel⟩
theorem mx_175 : MX q_175 := ⟨inL_in (i := mpc.getD 175 0) (by decide +kernel), inL_in (i := mpn.getD 175 0) (by decide +kernel), ⟨by decide +kernel, by decide +kernel⟩, by decide +kernel, by decide +kernel, by decide +kernel⟩
theorem mx_176 : MX q_176 := ⟨inL_in (i := mpc.getD 176 0) (by decide +kernel), inL_in (i := mpn.getD 176 0) (by decide +kernel), ⟨by decide +kernel, by decide +kernel⟩, by decide +kernel, by decide +kernel, by decide +kernel⟩
theorem mx_177 : MX q_177 := ⟨inL_in (i := mpc.getD 177 0) (by decide +kernel), inL_in (i := mpn.getD 177 0) (by decide +kernel), ⟨by decide +kernel, by decide +kernel⟩, by decide +kernel, by decide +kernel, by decide +kernel⟩
theorem mx_178 : MX q_178 := ⟨inL_in (i := mpc.getD 178 0) (by decide +kernel), inL_in (i := mpn.getD 178 0) (by decide +kernel), ⟨by decide +kernel, by decide +kernel⟩, by decide +kernel, by decide +kernel, by decide +kernel⟩
theorem mx_179 : MX q_179 := ⟨inL_in (i := mpc.getD 179 0) (by decide +kernel), inL_in (i := mpn.getD 179 0) (by decide +kernel), ⟨by decide +kernel, by decide +kernel⟩, by decide +kernel, by decide +kernel, by decide +kernel⟩
theorem mx_180 : MX q_180 := ⟨inL_in (i := mpc.getD 180 0) (by decide +kernel), inL_in (i := mpn.getD 180 0) (by decide +kernel), ⟨by decide +kernel, by decide +kernel⟩, by decide +kernel, by decide +kernel, by decide +kernel⟩
theorem mx_181 : MX q_181 := ⟨inL_in (i := mpc.getD 181 0) (by decide +kernel), inL_in (i := mpn.getD 181 0) (by decide +kernel), ⟨by decide +kernel, by decide +kernel⟩, by decide +kernel, by decide +kernel, by decide +kernel⟩
theorem mx_182 : MX q_182 := ⟨inL_in (i := mpc.getD 182 0) (by decide +kernel), inL_in (i := mpn.getD 182 0) (by decide +kernel), ⟨by decide +kernel, by decide +kernel⟩, by decide +kernel, by decide +kernel, by decide +kernel⟩
theorem mx_183 : MX q_183 := ⟨inL_in (i := mpc.getD 183 0) (by decide +kernel), inL_in (i := mpn.getD 183 0) (by decide +kernel), ⟨by decide +kernel, by decide +kernel⟩, by decide +kernel, by decide +kernel, by decide +kernel⟩
theorem mx_184 : MX q_184 := ⟨inL_in (i := mpc.getD 184 0) (by decide +kernel), inL_in (i := mpn.getD 184 0) (by decide +kernel), ⟨by decide +kernel, by decide +kernel⟩, by decide +kernel, by decide +kernel, by decide +kernel⟩
theorem mx_185 : MX q_185 := ⟨inL_in (i := mpc.getD 185 0) (by decide +kernel), inL_in (i := mpn.getD 185 0) (by decide +kernel), ⟨by decide +kernel, by decide +kernel⟩, by decide +kernel, by decide +kernel, by decide +kernel⟩
