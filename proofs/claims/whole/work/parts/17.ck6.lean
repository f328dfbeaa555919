set_option maxRecDepth 100000 in
theorem ck_147 : (am_code 147).all (am_ck 147) = true := by decide +kernel
theorem mk_147 : am_mck 147 = true := by decide +kernel
set_option maxRecDepth 100000 in
theorem ck_148 : (am_code 148).all (am_ck 148) = true := by decide +kernel
theorem mk_148 : am_mck 148 = true := by decide +kernel
set_option maxRecDepth 100000 in
theorem ck_149 : (am_code 149).all (am_ck 149) = true := by decide +kernel
theorem mk_149 : am_mck 149 = true := by decide +kernel
set_option maxRecDepth 100000 in
theorem ck_150 : (am_code 150).all (am_ck 150) = true := by decide +kernel
theorem mk_150 : am_mck 150 = true := by decide +kernel
set_option maxRecDepth 100000 in
theorem ck_151 : (am_code 151).all (am_ck 151) = true := by decide +kernel
theorem mk_151 : am_mck 151 = true := by decide +kernel
set_option maxRecDepth 100000 in
theorem ck_152 : (am_code 152).all (am_ck 152) = true := by decide +kernel
theorem mk_152 : am_mck 152 = true := by decide +kernel
set_option maxRecDepth 100000 in
theorem ck_153 : (am_code 153).all (am_ck 153) = true := by decide +kernel
theorem mk_153 : am_mck 153 = true := by decide +kernel
set_option maxRecDepth 100000 in
theorem ck_154 : (am_code 154).all (am_ck 154) = true := by decide +kernel
theorem mk_154 : am_mck 154 = true := by decide +kernel
set_option maxRecDepth 100000 in
theorem ck_155 : (am_code 155).all (am_ck 155) = true := by decide +kernel
theorem mk_155 : am_mck 155 = true := by decide +kernel
set_option maxRecDepth 100000 in
theorem ck_156 : (am_code 156).all (am_ck 156) = true := by decide +kernel
theorem mk_156 : am_mck 156 = true := by decide +kernel
set_option maxRecDepth 100000 in
theorem ck_157 : (am_code 157).all (am_ck 157) = true := by decide +kernel
theorem mk_157 : am_mck 157 = true := by decide +kernel
set_option maxRecDepth 100000 in
theorem ck_158 : (am_code 158).all (am_ck 158) = true := by decide +kernel
theorem mk_158 : am_mck 158 = true := by decide +kernel
set_option maxRecDepth 100000 in
theorem ck_159 : (am_code 159).all (am_ck 159) = true := by decide +kernel
theorem mk_159 : am_mck 159 = true := by decide +kernel
set_option maxRecDepth 100000 in
theorem ck_160 : (am_code 160).all (am_ck 160) = true := by decide +kernel
theorem mk_160 : am_mck 160 = true := by decide +kernel
set_option maxRecDepth 100000 in
theorem ck_161 : (am_code 161).all (am_ck 161) = true := by decide +kernel
theorem mk_161 : am_mck 161 = true := by decide +kernel
set_option maxRecDepth 100000 in
theorem ck_162 : (am_code 162).all (am_ck 162) = true := by decide +kernel
theorem mk_162 : am_mck 162 = true := by decide +kernel
set_option maxRecDepth 100000 in
theorem ck_163 : (am_code 163).all (am_ck 163) = true := by decide +kernel
theorem mk_163 : am_mck 163 = true := by decide +kernel
set_option maxRecDepth 100000 in
theorem ck_164 : (am_code 164).all (am_ck 164) = true := by decide +kernel
theorem mk_164 : am_mck 164 = true := by decide +kernel
