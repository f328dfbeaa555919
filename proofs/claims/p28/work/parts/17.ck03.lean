set_option maxRecDepth 100000 in
theorem ck_85 : (am_code 85).all (am_ck 85) = true := by decide +kernel
theorem mk_85 : am_mck 85 = true := by decide +kernel
set_option maxRecDepth 100000 in
theorem ck_86 : (am_code 86).all (am_ck 86) = true := by decide +kernel
theorem mk_86 : am_mck 86 = true := by decide +kernel
set_option maxRecDepth 100000 in
theorem ck_87 : (am_code 87).all (am_ck 87) = true := by decide +kernel
theorem mk_87 : am_mck 87 = true := by decide +kernel
set_option maxRecDepth 100000 in
theorem ck_88 : (am_code 88).all (am_ck 88) = true := by decide +kernel
theorem mk_88 : am_mck 88 = true := by decide +kernel
set_option maxRecDepth 100000 in
theorem ck_89 : (am_code 89).all (am_ck 89) = true := by decide +kernel
theorem mk_89 : am_mck 89 = true := by decide +kernel
set_option maxRecDepth 100000 in
theorem ck_90 : (am_code 90).all (am_ck 90) = true := by decide +kernel
theorem mk_90 : am_mck 90 = true := by decide +kernel
set_option maxRecDepth 100000 in
theorem ck_91 : (am_code 91).all (am_ck 91) = true := by decide +kernel
theorem mk_91 : am_mck 91 = true := by decide +kernel
set_option maxRecDepth 100000 in
theorem ck_92 : (am_code 92).all (am_ck 92) = true := by decide +kernel
theorem mk_92 : am_mck 92 = true := by decide +kernel
set_option maxRecDepth 100000 in
theorem ck_93 : (am_code 93).all (am_ck 93) = true := by decide +kernel
theorem mk_93 : am_mck 93 = true := by decide +kernel
set_option maxRecDepth 100000 in
theorem ck_94 : (am_code 94).all (am_ck 94) = true := by decide +kernel
theorem mk_94 : am_mck 94 = true := by decide +kernel
set_option maxRecDepth 100000 in
theorem ck_95 : (am_code 95).all (am_ck 95) = true := by decide +kernel
theorem mk_95 : am_mck 95 = true := by decide +kernel
set_option maxRecDepth 100000 in
theorem ck_96 : (am_code 96).all (am_ck 96) = true := by decide +kernel
theorem mk_96 : am_mck 96 = true := by decide +kernel
set_option maxRecDepth 100000 in
theorem ck_97 : (am_code 97).all (am_ck 97) = true := by decide +kernel
theorem mk_97 : am_mck 97 = true := by decide +kernel
set_option maxRecDepth 100000 in
theorem ck_98 : (am_code 98).all (am_ck 98) = true := by decide +kernel
theorem mk_98 : am_mck 98 = true := by decide +kernel
set_option maxRecDepth 100000 in
theorem ck_99 : (am_code 99).all (am_ck 99) = true := by decide +kernel
theorem mk_99 : am_mck 99 = true := by decide +kernel
set_option maxRecDepth 100000 in
theorem ck_100 : (am_code 100).all (am_ck 100) = true := by decide +kernel
theorem mk_100 : am_mck 100 = true := by decide +kernel
set_option maxRecDepth 100000 in
theorem ck_101 : (am_code 101).all (am_ck 101) = true := by decide +kernel
theorem mk_101 : am_mck 101 = true := by decide +kernel
set_option maxRecDepth 100000 in
theorem ck_102 : (am_code 102).all (am_ck 102) = true := by decide +kernel
theorem mk_102 : am_mck 102 = true := by decide +kernel
set_option maxRecDepth 100000 in
theorem ck_109 : (am_code 109).all (am_ck 109) = true := by decide +kernel
theorem mk_109 : am_mck 109 = true := by decide +kernel
