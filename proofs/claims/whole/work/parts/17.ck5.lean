set_option maxRecDepth 100000 in
theorem ck_116 : (am_code 116).all (am_ck 116) = true := by decide +kernel
theorem mk_116 : am_mck 116 = true := by decide +kernel
set_option maxRecDepth 100000 in
theorem ck_117 : (am_code 117).all (am_ck 117) = true := by decide +kernel
theorem mk_117 : am_mck 117 = true := by decide +kernel
set_option maxRecDepth 100000 in
theorem ck_118 : (am_code 118).all (am_ck 118) = true := by decide +kernel
theorem mk_118 : am_mck 118 = true := by decide +kernel
set_option maxRecDepth 100000 in
theorem ck_119 : (am_code 119).all (am_ck 119) = true := by decide +kernel
theorem mk_119 : am_mck 119 = true := by decide +kernel
set_option maxRecDepth 100000 in
theorem ck_120 : (am_code 120).all (am_ck 120) = true := by decide +kernel
theorem mk_120 : am_mck 120 = true := by decide +kernel
set_option maxRecDepth 100000 in
theorem ck_121 : (am_code 121).all (am_ck 121) = true := by decide +kernel
theorem mk_121 : am_mck 121 = true := by decide +kernel
set_option maxRecDepth 100000 in
theorem ck_122 : (am_code 122).all (am_ck 122) = true := by decide +kernel
theorem mk_122 : am_mck 122 = true := by decide +kernel
set_option maxRecDepth 100000 in
theorem ck_123 : (am_code 123).all (am_ck 123) = true := by decide +kernel
theorem mk_123 : am_mck 123 = true := by decide +kernel
set_option maxRecDepth 100000 in
theorem ck_124 : (am_code 124).all (am_ck 124) = true := by decide +kernel
theorem mk_124 : am_mck 124 = true := by decide +kernel
set_option maxRecDepth 100000 in
theorem ck_125 : (am_code 125).all (am_ck 125) = true := by decide +kernel
theorem mk_125 : am_mck 125 = true := by decide +kernel
set_option maxRecDepth 100000 in
theorem ck_126 : (am_code 126).all (am_ck 126) = true := by decide +kernel
theorem mk_126 : am_mck 126 = true := by decide +kernel
set_option maxRecDepth 100000 in
theorem ck_127 : (am_code 127).all (am_ck 127) = true := by decide +kernel
theorem mk_127 : am_mck 127 = true := by decide +kernel
set_option maxRecDepth 100000 in
theorem ck_128 : (am_code 128).all (am_ck 128) = true := by decide +kernel
theorem mk_128 : am_mck 128 = true := by decide +kernel
set_option maxRecDepth 100000 in
theorem ck_129 : (am_code 129).all (am_ck 129) = true := by decide +kernel
theorem mk_129 : am_mck 129 = true := by decide +kernel
set_option maxRecDepth 100000 in
theorem ck_130 : (am_code 130).all (am_ck 130) = true := by decide +kernel
theorem mk_130 : am_mck 130 = true := by decide +kernel
set_option maxRecDepth 100000 in
theorem ck_131 : (am_code 131).all (am_ck 131) = true := by decide +kernel
theorem mk_131 : am_mck 131 = true := by decide +kernel
set_option maxRecDepth 100000 in
theorem ck_132 : (am_code 132).all (am_ck 132) = true := by decide +kernel
theorem mk_132 : am_mck 132 = true := by decide +kernel
set_option maxRecDepth 100000 in
theorem ck_133 : (am_code 133).all (am_ck 133) = true := by decide +kernel
theorem mk_133 : am_mck 133 = true := by decide +kernel
set_option maxRecDepth 100000 in
theorem ck_134 : (am_code 134).all (am_ck 134) = true := by decide +kernel
theorem mk_134 : am_mck 134 = true := by decide +kernel
set_option maxRecDepth 100000 in
theorem ck_135 : (am_code 135).all (am_ck 135) = true := by decide +kernel
theorem mk_135 : am_mck 135 = true := by decide +kernel
set_option maxRecDepth 100000 in
theorem ck_136 : (am_code 136).all (am_ck 136) = true := by decide +kernel
theorem mk_136 : am_mck 136 = true := by decide +kernel
set_option maxRecDepth 100000 in
theorem ck_137 : (am_code 137).all (am_ck 137) = true := by decide +kernel
theorem mk_137 : am_mck 137 = true := by decide +kernel
set_option maxRecDepth 100000 in
theorem ck_138 : (am_code 138).all (am_ck 138) = true := by decide +kernel
theorem mk_138 : am_mck 138 = true := by decide +kernel
set_option maxRecDepth 100000 in
theorem ck_139 : (am_code 139).all (am_ck 139) = true := by decide +kernel
theorem mk_139 : am_mck 139 = true := by decide +kernel
set_option maxRecDepth 100000 in
theorem ck_140 : (am_code 140).all (am_ck 140) = true := by decide +kernel
theorem mk_140 : am_mck 140 = true := by decide +kernel
set_option maxRecDepth 100000 in
theorem ck_141 : (am_code 141).all (am_ck 141) = true := by decide +kernel
theorem mk_141 : am_mck 141 = true := by decide +kernel
set_option maxRecDepth 100000 in
theorem ck_142 : (am_code 142).all (am_ck 142) = true := by decide +kernel
theorem mk_142 : am_mck 142 = true := by decide +kernel
set_option maxRecDepth 100000 in
theorem ck_143 : (am_code 143).all (am_ck 143) = true := by decide +kernel
theorem mk_143 : am_mck 143 = true := by decide +kernel
set_option maxRecDepth 100000 in
theorem ck_144 : (am_code 144).all (am_ck 144) = true := by decide +kernel
theorem mk_144 : am_mck 144 = true := by decide +kernel
set_option maxRecDepth 100000 in
theorem ck_145 : (am_code 145).all (am_ck 145) = true := by decide +kernel
theorem mk_145 : am_mck 145 = true := by decide +kernel
set_option maxRecDepth 100000 in
theorem ck_146 : (am_code 146).all (am_ck 146) = true := by decide +kernel
theorem mk_146 : am_mck 146 = true := by decide +kernel
