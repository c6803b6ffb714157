set_option maxRecDepth 100000 in
theorem ck_138 : (ct_138.zipIdx.all (mc_ck 8 138 cX8_gauge)) = true := by decide +kernel
set_option maxRecDepth 100000 in
theorem ck_139 : (ct_139.zipIdx.all (mc_ck 8 139 cX8_want)) = true := by decide +kernel
set_option maxRecDepth 100000 in
theorem ck_140 : (ct_140.zipIdx.all (mc_ck 8 140 cX8_arrange)) = true := by decide +kernel
set_option maxRecDepth 100000 in
theorem ck_141 : (ct_141.zipIdx.all (mc_ck 8 141 cX8_one)) = true := by decide +kernel
set_option maxRecDepth 100000 in
theorem ck_142 : (ct_142.zipIdx.all (mc_ck 8 142 cX8_undo)) = true := by decide +kernel
set_option maxRecDepth 100000 in
theorem ck_143 : (ct_143.zipIdx.all (mc_ck 8 143 cX8_point)) = true := by decide +kernel
set_option maxRecDepth 100000 in
theorem ck_144 : (ct_144.zipIdx.all (mc_ck 8 144 cX8_worth)) = true := by decide +kernel
set_option maxRecDepth 100000 in
theorem ck_145 : (ct_145.zipIdx.all (mc_ck 8 145 cX8_needle)) = true := by decide +kernel
set_option maxRecDepth 100000 in
theorem ck_146 : (ct_146.zipIdx.all (mc_ck 8 146 cX8_joint)) = true := by decide +kernel
set_option maxRecDepth 100000 in
theorem ck_147 : (ct_147.zipIdx.all (mc_ck 8 147 cX8_strain)) = true := by decide +kernel
set_option maxRecDepth 100000 in
theorem ck_148 : (ct_148.zipIdx.all (mc_ck 8 148 cX8_isTroubled)) = true := by decide +kernel
set_option maxRecDepth 100000 in
theorem ck_149 : (ct_149.zipIdx.all (mc_ck 8 149 cX8_troubled)) = true := by decide +kernel
set_option maxRecDepth 100000 in
theorem ck_150 : (ct_150.zipIdx.all (mc_ck 8 150 cX8_spreads)) = true := by decide +kernel
set_option maxRecDepth 100000 in
theorem ck_151 : (ct_151.zipIdx.all (mc_ck 8 151 cX8_apart)) = true := by decide +kernel
set_option maxRecDepth 100000 in
theorem ck_152 : (ct_152.zipIdx.all (mc_ck 8 152 cX8_paired)) = true := by decide +kernel
set_option maxRecDepth 100000 in
theorem ck_153 : (ct_153.zipIdx.all (mc_ck 8 153 cX8_of)) = true := by decide +kernel
set_option maxRecDepth 100000 in
theorem ck_154 : (ct_154.zipIdx.all (mc_ck 8 154 cX8_leastOf)) = true := by decide +kernel
set_option maxRecDepth 100000 in
theorem ck_155 : (ct_155.zipIdx.all (mc_ck 8 155 cX8_least)) = true := by decide +kernel
set_option maxRecDepth 100000 in
theorem ck_156 : (ct_156.zipIdx.all (mc_ck 8 156 cX8_find)) = true := by decide +kernel
set_option maxRecDepth 100000 in
theorem ck_157 : (ct_157.zipIdx.all (mc_ck 8 157 cX8_many)) = true := by decide +kernel
set_option maxRecDepth 100000 in
theorem ck_158 : (ct_158.zipIdx.all (mc_ck 8 158 cX8_best)) = true := by decide +kernel
set_option maxRecDepth 100000 in
theorem ck_159 : (ct_159.zipIdx.all (mc_ck 8 159 cX8_sure)) = true := by decide +kernel
set_option maxRecDepth 100000 in
theorem ck_160 : (ct_160.zipIdx.all (mc_ck 8 160 cX8_counts)) = true := by decide +kernel
set_option maxRecDepth 100000 in
theorem ck_161 : (ct_161.zipIdx.all (mc_ck 8 161 cX8_draw)) = true := by decide +kernel
set_option maxRecDepth 100000 in
theorem ck_162 : (ct_162.zipIdx.all (mc_ck 8 162 cX8_above)) = true := by decide +kernel
set_option maxRecDepth 100000 in
theorem ck_163 : (ct_163.zipIdx.all (mc_ck 8 163 cX8_no)) = true := by decide +kernel
set_option maxRecDepth 100000 in
theorem ck_164 : (ct_164.zipIdx.all (mc_ck 8 164 cX8_strip)) = true := by decide +kernel
set_option maxRecDepth 100000 in
theorem ck_165 : (ct_165.zipIdx.all (mc_ck 8 165 cX8_row)) = true := by decide +kernel
set_option maxRecDepth 100000 in
theorem ck_166 : (ct_166.zipIdx.all (mc_ck 8 166 cX8_wrong)) = true := by decide +kernel
set_option maxRecDepth 100000 in
theorem ck_167 : (ct_167.zipIdx.all (mc_ck 8 167 cX8_put)) = true := by decide +kernel
set_option maxRecDepth 100000 in
theorem ck_168 : (ct_168.zipIdx.all (mc_ck 8 168 cX8_item)) = true := by decide +kernel
set_option maxRecDepth 100000 in
theorem ck_169 : (ct_169.zipIdx.all (mc_ck 8 169 cX8_areThere)) = true := by decide +kernel
set_option maxRecDepth 100000 in
theorem ck_170 : (ct_170.zipIdx.all (mc_ck 8 170 cX8_copy)) = true := by decide +kernel
set_option maxRecDepth 100000 in
theorem ck_171 : (ct_171.zipIdx.all (mc_ck 8 171 cX8_read)) = true := by decide +kernel
set_option maxRecDepth 100000 in
theorem ck_172 : (ct_172.zipIdx.all (mc_ck 8 172 cX8_about)) = true := by decide +kernel
set_option maxRecDepth 100000 in
theorem ck_173 : (ct_173.zipIdx.all (mc_ck 8 173 cX8_trace)) = true := by decide +kernel
set_option maxRecDepth 100000 in
theorem ck_174 : (ct_174.zipIdx.all (mc_ck 8 174 cX8_status)) = true := by decide +kernel
set_option maxRecDepth 100000 in
theorem ck_175 : (ct_175.zipIdx.all (mc_ck 9 175 cJ6_bitCount_0f7a4)) = true := by decide +kernel
set_option maxRecDepth 100000 in
theorem ck_176 : (ct_176.zipIdx.all (mc_ck 10 176 cJ9_abs_0f7a4)) = true := by decide +kernel
set_option maxRecDepth 100000 in
theorem ck_177 : (ct_177.zipIdx.all (mc_ck 10 177 cJ9_max_7cf53)) = true := by decide +kernel
set_option maxRecDepth 100000 in
theorem ck_178 : (ct_178.zipIdx.all (mc_ck 10 178 cJ9_min_7cf53)) = true := by decide +kernel
set_option maxRecDepth 100000 in
theorem ck_179 : (ct_179.zipIdx.all (mc_ck 11 179 cJ7_fill_53178)) = true := by decide +kernel
