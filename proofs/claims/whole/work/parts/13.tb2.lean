theorem ck_99 : k_99.all (chkE q_99) = true := by decide +kernel
theorem ck_100 : k_100.all (chkE q_100) = true := by decide +kernel
theorem ck_101 : k_101.all (chkE q_101) = true := by decide +kernel
theorem ck_102 : k_102.all (chkE q_102) = true := by decide +kernel
theorem ck_103 : k_103.all (chkE q_103) = true := by decide +kernel
theorem ck_104 : k_104.all (chkE q_104) = true := by decide +kernel
theorem ck_105 : k_105.all (chkE q_105) = true := by decide +kernel
theorem ck_106 : k_106.all (chkE q_106) = true := by decide +kernel
theorem ck_107 : k_107.all (chkE q_107) = true := by decide +kernel
theorem ck_108 : k_108.all (chkE q_108) = true := by decide +kernel
theorem ck_109 : k_109.all (chkE q_109) = true := by decide +kernel
theorem ck_110 : k_110.all (chkE q_110) = true := by decide +kernel
theorem ck_111 : k_111.all (chkE q_111) = true := by decide +kernel
theorem ck_112 : k_112.all (chkE q_112) = true := by decide +kernel
theorem ck_113 : k_113.all (chkE q_113) = true := by decide +kernel
theorem ck_114 : k_114.all (chkE q_114) = true := by decide +kernel
theorem ck_115 : k_115.all (chkE q_115) = true := by decide +kernel
theorem ck_116 : k_116.all (chkE q_116) = true := by decide +kernel
theorem ck_117 : k_117.all (chkE q_117) = true := by decide +kernel
theorem ck_118 : k_118.all (chkE q_118) = true := by decide +kernel
theorem ck_119 : k_119.all (chkE q_119) = true := by decide +kernel
theorem ck_120 : k_120.all (chkE q_120) = true := by decide +kernel
theorem ck_121 : k_121.all (chkE q_121) = true := by decide +kernel
theorem ck_122 : k_122.all (chkE q_122) = true := by decide +kernel
theorem ck_123 : k_123.all (chkE q_123) = true := by decide +kernel
theorem ck_124 : k_124.all (chkE q_124) = true := by decide +kernel
theorem ck_125 : k_125.all (chkE q_125) = true := by decide +kernel
theorem ck_126 : k_126.all (chkE q_126) = true := by decide +kernel
theorem ck_127 : k_127.all (chkE q_127) = true := by decide +kernel
theorem ck_128 : k_128.all (chkE q_128) = true := by decide +kernel
theorem ck_129 : k_129.all (chkE q_129) = true := by decide +kernel
theorem ck_130 : k_130.all (chkE q_130) = true := by decide +kernel
theorem ck_131 : k_131.all (chkE q_131) = true := by decide +kernel
theorem ck_132 : k_132.all (chkE q_132) = true := by decide +kernel
theorem ck_133 : k_133.all (chkE q_133) = true := by decide +kernel
theorem ck_134 : k_134.all (chkE q_134) = true := by decide +kernel
theorem ck_135 : k_135.all (chkE q_135) = true := by decide +kernel
theorem ck_136 : k_136.all (chkE q_136) = true := by decide +kernel
theorem ck_137 : k_137.all (chkE q_137) = true := by decide +kernel
theorem ck_138 : k_138.all (chkE q_138) = true := by decide +kernel
theorem ck_139 : k_139.all (chkE q_139) = true := by decide +kernel
theorem ck_140 : k_140.all (chkE q_140) = true := by decide +kernel
theorem ck_141 : k_141.all (chkE q_141) = true := by decide +kernel
theorem ck_142 : k_142.all (chkE q_142) = true := by decide +kernel
theorem ck_143 : k_143.all (chkE q_143) = true := by decide +kernel
theorem ck_144 : k_144.all (chkE q_144) = true := by decide +kernel
theorem ck_145 : k_145.all (chkE q_145) = true := by decide +kernel
theorem ck_146 : k_146.all (chkE q_146) = true := by decide +kernel
theorem ck_147 : k_147.all (chkE q_147) = true := by decide +kernel
theorem ck_148 : k_148.all (chkE q_148) = true := by decide +kernel
theorem ck_149 : k_149.all (chkE q_149) = true := by decide +kernel
theorem ck_150 : k_150.all (chkE q_150) = true := by decide +kernel
theorem ck_151 : k_151.all (chkE q_151) = true := by decide +kernel
theorem ck_152 : k_152.all (chkE q_152) = true := by decide +kernel
theorem mx_99 : MX q_99 := ⟨inL_in (i := mpc.getD 99 0) (by decide +kernel), inL_in (i := mpn.getD 99 0) (by decide +kernel), ⟨by decide +kernel, by decide +kernel⟩, by decide +kernel, by decide +kernel, by decide +kernel⟩
theorem mx_100 : MX q_100 := ⟨inL_in (i := mpc.getD 100 0) (by decide +kernel), inL_in (i := mpn.getD 100 0) (by decide +kernel), ⟨by decide +kernel, by decide +kernel⟩, by decide +kernel, by decide +kernel, by decide +kernel⟩
theorem mx_101 : MX q_101 := ⟨inL_in (i := mpc.getD 101 0) (by decide +kernel), inL_in (i := mpn.getD 101 0) (by decide +kernel), ⟨by decide +kernel, by decide +kernel⟩, by decide +kernel, by decide +kernel, by decide +kernel⟩
theorem mx_102 : MX q_102 := ⟨inL_in (i := mpc.getD 102 0) (by decide +kernel), inL_in (i := mpn.getD 102 0) (by decide +kernel), ⟨by decide +kernel, by decide +kernel⟩, by decide +kernel, by decide +kernel, by decide +kernel⟩
theorem mx_103 : MX q_103 := ⟨inL_in (i := mpc.getD 103 0) (by decide +kernel), inL_in (i := mpn.getD 103 0) (by decide +kernel), ⟨by decide +kernel, by decide +kernel⟩, by decide +kernel, by decide +kernel, by decide +kernel⟩
theorem mx_104 : MX q_104 := ⟨inL_in (i := mpc.getD 104 0) (by decide +kernel), inL_in (i := mpn.getD 104 0) (by decide +kernel), ⟨by decide +kernel, by decide +kernel⟩, by decide +kernel, by decide +kernel, by decide +kernel⟩
theorem mx_105 : MX q_105 := ⟨inL_in (i := mpc.getD 105 0) (by decide +kernel), inL_in (i := mpn.getD 105 0) (by decide +kernel), ⟨by decide +kernel, by decide +kernel⟩, by decide +kernel, by decide +kernel, by decide +kernel⟩
theorem mx_106 : MX q_106 := ⟨inL_in (i := mpc.getD 106 0) (by decide +kernel), inL_in (i := mpn.getD 106 0) (by decide +kernel), ⟨by decide +kernel, by decide +kernel⟩, by decide +kernel, by decide +kernel, by decide +kernel⟩
theorem mx_107 : MX q_107 := ⟨inL_in (i := mpc.getD 107 0) (by decide +kernel), inL_in (i := mpn.getD 107 0) (by decide +kernel), ⟨by decide +kernel, by decide +kernel⟩, by decide +kernel, by decide +kernel, by decide +kernel⟩
theorem mx_108 : MX q_108 := ⟨inL_in (i := mpc.getD 108 0) (by decide +kernel), inL_in (i := mpn.getD 108 0) (by decide +kernel), ⟨by decide +kernel, by decide +kernel⟩, by decide +kernel, by decide +kernel, by decide +kernel⟩
theorem mx_109 : MX q_109 := ⟨inL_in (i := mpc.getD 109 0) (by decide +kernel), inL_in (i := mpn.getD 109 0) (by decide +kernel), ⟨by decide +kernel, by decide +kernel⟩, by decide +kernel, by decide +kernel, by decide +kernel⟩
theorem mx_110 : MX q_110 := ⟨inL_in (i := mpc.getD 110 0) (by decide +kernel), inL_in (i := mpn.getD 110 0) (by decide +kernel), ⟨by decide +kernel, by decide +kernel⟩, by decide +kernel, by decide +kernel, by decide +kernel⟩
theorem mx_111 : MX q_111 := ⟨inL_in (i := mpc.getD 111 0) (by decide +kernel), inL_in (i := mpn.getD 111 0) (by decide +kernel), ⟨by decide +kernel, by decide +kernel⟩, by decide +kernel, by decide +kernel, by decide +kernel⟩
theorem mx_112 : MX q_112 := ⟨inL_in (i := mpc.getD 112 0) (by decide +kernel), inL_in (i := mpn.getD 112 0) (by decide +kernel), ⟨by decide +kernel, by decide +kernel⟩, by decide +kernel, by decide +kernel, by decide +kernel⟩
theorem mx_113 : MX q_113 := ⟨inL_in (i := mpc.getD 113 0) (by decide +kernel), inL_in (i := mpn.getD 113 0) (by decide +kernel), ⟨by decide +kernel, by decide +kernel⟩, by decide +kernel, by decide +kernel, by decide +kernel⟩
theorem mx_114 : MX q_114 := ⟨inL_in (i := mpc.getD 114 0) (by decide +kernel), inL_in (i := mpn.getD 114 0) (by decide +kernel), ⟨by decide +kernel, by decide +kernel⟩, by decide +kernel, by decide +kernel, by decide +kernel⟩
theorem mx_115 : MX q_115 := ⟨inL_in (i := mpc.getD 115 0) (by decide +kernel), inL_in (i := mpn.getD 115 0) (by decide +kernel), ⟨by decide +kernel, by decide +kernel⟩, by decide +kernel, by decide +kernel, by decide +kernel⟩
theorem mx_116 : MX q_116 := ⟨inL_in (i := mpc.getD 116 0) (by decide +kernel), inL_in (i := mpn.getD 116 0) (by decide +kernel), ⟨by decide +kernel, by decide +kernel⟩, by decide +kernel, by decide +kernel, by decide +kernel⟩
theorem mx_117 : MX q_117 := ⟨inL_in (i := mpc.getD 117 0) (by decide +kernel), inL_in (i := mpn.getD 117 0) (by decide +kernel), ⟨by decide +kernel, by decide +kernel⟩, by decide +kernel, by decide +kernel, by decide +kernel⟩
theorem mx_118 : MX q_118 := ⟨inL_in (i := mpc.getD 118 0) (by decide +kernel), inL_in (i := mpn.getD 118 0) (by decide +kernel), ⟨by decide +kernel, by decide +kernel⟩, by decide +kernel, by decide +kernel, by decide +kernel⟩
theorem mx_119 : MX q_119 := ⟨inL_in (i := mpc.getD 119 0) (by decide +kernel), inL_in (i := mpn.getD 119 0) (by decide +kernel), ⟨by decide +kernel, by decide +kernel⟩, by decide +kernel, by decide +kernel, by decide +kernel⟩
theorem mx_120 : MX q_120 := ⟨inL_in (i := mpc.getD 120 0) (by decide +kernel), inL_in (i := mpn.getD 120 0) (by decide +kernel), ⟨by decide +kernel, by decide +kernel⟩, by decide +kernel, by decide +kernel, by decide +kernel⟩
theorem mx_121 : MX q_121 := ⟨inL_in (i := mpc.getD 121 0) (by decide +kernel), inL_in (i := mpn.getD 121 0) (by decide +kernel), ⟨by decide +kernel, by decide +kernel⟩, by decide +kernel, by decide +kernel, by decide +kernel⟩
theorem mx_122 : MX q_122 := ⟨inL_in (i := mpc.getD 122 0) (by decide +kernel), inL_in (i := mpn.getD 122 0) (by decide +kernel), ⟨by decide +kernel, by decide +kernel⟩, by decide +kernel, by decide +kernel, by decide +kernel⟩
theorem mx_123 : MX q_123 := ⟨inL_in (i := mpc.getD 123 0) (by decide +kernel), inL_in (i := mpn.getD 123 0) (by decide +kernel), ⟨by decide +kernel, by decide +kernel⟩, by decide +kernel, by decide +kernel, by decide +kernel⟩
theorem mx_124 : MX q_124 := ⟨inL_in (i := mpc.getD 124 0) (by decide +kernel), inL_in (i := mpn.getD 124 0) (by decide +kernel), ⟨by decide +kernel, by decide +kernel⟩, by decide +kernel, by decide +kernel, by decide +kernel⟩
theorem mx_125 : MX q_125 := ⟨inL_in (i := mpc.getD 125 0) (by decide +kernel), inL_in (i := mpn.getD 125 0) (by decide +kernel), ⟨by decide +kernel, by decide +kernel⟩, by decide +kernel, by decide +kernel, by decide +kernel⟩
theorem mx_126 : MX q_126 := ⟨inL_in (i := mpc.getD 126 0) (by decide +kernel), inL_in (i := mpn.getD 126 0) (by decide +kernel), ⟨by decide +kernel, by decide +kernel⟩, by decide +kernel, by decide +kernel, by decide +kernel⟩
theorem mx_127 : MX q_127 := ⟨inL_in (i := mpc.getD 127 0) (by decide +kernel), inL_in (i := mpn.getD 127 0) (by decide +kernel), ⟨by decide +kernel, by decide +kernel⟩, by decide +kernel, by decide +kernel, by decide +kernel⟩
theorem mx_128 : MX q_128 := ⟨inL_in (i := mpc.getD 128 0) (by decide +kernel), inL_in (i := mpn.getD 128 0) (by decide +kernel), ⟨by decide +kernel, by decide +kernel⟩, by decide +kernel, by decide +kernel, by decide +kernel⟩
theorem mx_129 : MX q_129 := ⟨inL_in (i := mpc.getD 129 0) (by decide +kernel), inL_in (i := mpn.getD 129 0) (by decide +kernel), ⟨by decide +kernel, by decide +kernel⟩, by decide +kernel, by decide +kernel, by decide +kernel⟩
theorem mx_130 : MX q_130 := ⟨inL_in (i := mpc.getD 130 0) (by decide +kernel), inL_in (i := mpn.getD 130 0) (by decide +kernel), ⟨by decide +kernel, by decide +kernel⟩, by decide +kernel, by decide +kernel, by decide +kernel⟩
theorem mx_131 : MX q_131 := ⟨inL_in (i := mpc.getD 131 0) (by decide +kernel), inL_in (i := mpn.getD 131 0) (by decide +kernel), ⟨by decide +kernel, by decide +kernel⟩, by decide +kernel, by decide +kernel, by decide +kernel⟩
theorem mx_132 : MX q_132 := ⟨inL_in (i := mpc.getD 132 0) (by decide +kernel), inL_in (i := mpn.getD 132 0) (by decide +kernel), ⟨by decide +kernel, by decide +kernel⟩, by decide +kernel, by decide +kernel, by decide +kernel⟩
theorem mx_133 : MX q_133 := ⟨inL_in (i := mpc.getD 133 0) (by decide +kernel), inL_in (i := mpn.getD 133 0) (by decide +kernel), ⟨by decide +kernel, by decide +kernel⟩, by decide +kernel, by decide +kernel, by decide +kernel⟩
theorem mx_134 : MX q_134 := ⟨inL_in (i := mpc.getD 134 0) (by decide +kernel), inL_in (i := mpn.getD 134 0) (by decide +kernel), ⟨by decide +kernel, by decide +kernel⟩, by decide +kernel, by decide +kernel, by decide +kernel⟩
theorem mx_135 : MX q_135 := ⟨inL_in (i := mpc.getD 135 0) (by decide +kernel), inL_in (i := mpn.getD 135 0) (by decide +kernel), ⟨by decide +kernel, by decide +kernel⟩, by decide +kernel, by decide +kernel, by decide +kernel⟩
theorem mx_136 : MX q_136 := ⟨inL_in (i := mpc.getD 136 0) (by decide +kernel), inL_in (i := mpn.getD 136 0) (by decide +kernel), ⟨by decide +kernel, by decide +kernel⟩, by decide +kernel, by decide +kernel, by decide +kernel⟩
theorem mx_137 : MX q_137 := ⟨inL_in (i := mpc.getD 137 0) (by decide +kernel), inL_in (i := mpn.getD 137 0) (by decide +kernel), ⟨by decide +kernel, by decide +kernel⟩, by decide +kernel, by decide +kernel, by decide +kernel⟩
theorem mx_138 : MX q_138 := ⟨inL_in (i := mpc.getD 138 0) (by decide +kernel), inL_in (i := mpn.getD 138 0) (by decide +kernel), ⟨by decide +kernel, by decide +kernel⟩, by decide +kernel, by decide +kernel, by decide +kernel⟩
theorem mx_139 : MX q_139 := ⟨inL_in (i := mpc.getD 139 0) (by decide +kernel), inL_in (i := mpn.getD 139 0) (by decide +kernel), ⟨by decide +kernel, by decide +kernel⟩, by decide +kernel, by decide +kernel, by decide +kernel⟩
theorem mx_140 : MX q_140 := ⟨inL_in (i := mpc.getD 140 0) (by decide +kernel), inL_in (i := mpn.getD 140 0) (by decide +kernel), ⟨by decide +kernel, by decide +kernel⟩, by decide +kernel, by decide +kernel, by decide +kernel⟩
theorem mx_141 : MX q_141 := ⟨inL_in (i := mpc.getD 141 0) (by decide +kernel), inL_in (i := mpn.getD 141 0) (by decide +kernel), ⟨by decide +kernel, by decide +kernel⟩, by decide +kernel, by decide +kernel, by decide +kernel⟩
theorem mx_142 : MX q_142 := ⟨inL_in (i := mpc.getD 142 0) (by decide +kernel), inL_in (i := mpn.getD 142 0) (by decide +kernel), ⟨by decide +kernel, by decide +kernel⟩, by decide +kernel, by decide +kernel, by decide +kernel⟩
theorem mx_143 : MX q_143 := ⟨inL_in (i := mpc.getD 143 0) (by decide +kernel), inL_in (i := mpn.getD 143 0) (by decide +kernel), ⟨by decide +kernel, by decide +kernel⟩, by decide +kernel, by decide +kernel, by decide +kernel⟩
theorem mx_144 : MX q_144 := ⟨inL_in (i := mpc.getD 144 0) (by decide +kernel), inL_in (i := mpn.getD 144 0) (by decide +kernel), ⟨by decide +kernel, by decide +kernel⟩, by decide +kernel, by decide +kernel, by decide +kernel⟩
theorem mx_145 : MX q_145 := ⟨inL_in (i := mpc.getD 145 0) (by decide +kernel), inL_in (i := mpn.getD 145 0) (by decide +kernel), ⟨by decide +kernel, by decide +kernel⟩, by decide +kernel, by decide +kernel, by decide +kernel⟩
theorem mx_146 : MX q_146 := ⟨inL_in (i := mpc.getD 146 0) (by decide +kernel), inL_in (i := mpn.getD 146 0) (by decide +kernel), ⟨by decide +kernel, by decide +kernel⟩, by decide +kernel, by decide +kernel, by decide +kernel⟩
theorem mx_147 : MX q_147 := ⟨inL_in (i := mpc.getD 147 0) (by decide +kernel), inL_in (i := mpn.getD 147 0) (by decide +kernel), ⟨by decide +kernel, by decide +kernel⟩, by decide +kernel, by decide +kernel, by decide +kernel⟩
theorem mx_148 : MX q_148 := ⟨inL_in (i := mpc.getD 148 0) (by decide +kernel), inL_in (i := mpn.getD 148 0) (by decide +kernel), ⟨by decide +kernel, by decide +kernel⟩, by decide +kernel, by decide +kernel, by decide +kernel⟩
theorem mx_149 : MX q_149 := ⟨inL_in (i := mpc.getD 149 0) (by decide +kernel), inL_in (i := mpn.getD 149 0) (by decide +kernel), ⟨by decide +kernel, by decide +kernel⟩, by decide +kernel, by decide +kernel, by decide +kernel⟩
theorem mx_150 : MX q_150 := ⟨inL_in (i := mpc.getD 150 0) (by decide +kernel), inL_in (i := mpn.getD 150 0) (by decide +kernel), ⟨by decide +kernel, by decide +kernel⟩, by decide +kernel, by decide +kernel, by decide +kernel⟩
theorem mx_151 : MX q_151 := ⟨inL_in (i := mpc.getD 151 0) (by decide +kernel), inL_in (i := mpn.getD 151 0) (by decide +kernel), ⟨by decide +kernel, by decide +kernel⟩, by decide +kernel, by decide +kernel, by decide +kernel⟩
theorem mx_152 : MX q_152 := ⟨inL_in (i := mpc.getD 152 0) (by decide +kernel), inL_in (i := mpn.getD 152 0) (by decide +kernel), ⟨by decide +kernel, by decide +kernel⟩, by decide +kernel, by decide +kernel, by decide +kernel⟩
