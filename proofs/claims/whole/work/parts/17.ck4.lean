set_option maxRecDepth 100000 in
theorem ck_90 : (am_code 90).all (am_ck 90) = true := by decide +kernel
theorem mk_90 : am_mck 90 = true := by decide +kernel
set_option maxRecDepth 100000 in
theorem ck_91 : (am_code 91).all (am_ck 91) = true := by decide +kernel
theorem mk_91 : am_mck 91 = true := by decide +kernel
set_option maxRecDepth 100000 in
theorem ck_92 : (am_code 92).all (am_ck 92) = true := by decide +kernel
theorem mk_92 : am_mck 92 = true := by decide +kernel
set_option maxRecDepth 100000 in
theorem ck_93 : (am_code 93).all (am_ck 93) = true := by decide +kernel
theorem mk_93 : am_mck 93 = true := by decide +kernel
set_option maxRecDepth 100000 in
theorem ck_94 : (am_code 94).all (am_ck 94) = true := by decide +kernel
theorem mk_94 : am_mck 94 = true := by decide +kernel
set_option maxRecDepth 100000 in
theorem ck_95 : (am_code 95).all (am_ck 95) = true := by decide +kernel
theorem mk_95 : am_mck 95 = true := by decide +kernel
set_option maxRecDepth 100000 in
theorem ck_96 : (am_code 96).all (am_ck 96) = true := by decide +kernel
theorem mk_96 : am_mck 96 = true := by decide +kernel
set_option maxRecDepth 100000 in
theorem ck_97 : (am_code 97).all (am_ck 97) = true := by decide +kernel
theorem mk_97 : am_mck 97 = true := by decide +kernel
set_option maxRecDepth 100000 in
theorem ck_98 : (am_code 98).all (am_ck 98) = true := by decide +kernel
theorem mk_98 : am_mck 98 = true := by decide +kernel
set_option maxRecDepth 100000 in
theorem ck_99 : (am_code 99).all (am_ck 99) = true := by decide +kernel
theorem mk_99 : am_mck 99 = true := by decide +kernel
set_option maxRecDepth 100000 in
theorem ck_100 : (am_code 100).all (am_ck 100) = true := by decide +kernel
theorem mk_100 : am_mck 100 = true := by decide +kernel
set_option maxRecDepth 100000 in
theorem ck_101 : (am_code 101).all (am_ck 101) = true := by decide +kernel
theorem mk_101 : am_mck 101 = true := by decide +kernel
set_option maxRecDepth 100000 in
theorem ck_102 : (am_code 102).all (am_ck 102) = true := by decide +kernel
theorem mk_102 : am_mck 102 = true := by decide +kernel
set_option maxRecDepth 100000 in
theorem ck_103 : (am_code 103).all (am_ck 103) = true := by decide +kernel
theorem mk_103 : am_mck 103 = true := by decide +kernel
set_option maxRecDepth 100000 in
theorem ck_104 : (am_code 104).all (am_ck 104) = true := by decide +kernel
theorem mk_104 : am_mck 104 = true := by decide +kernel
set_option maxRecDepth 100000 in
theorem ck_105 : (am_code 105).all (am_ck 105) = true := by decide +kernel
theorem mk_105 : am_mck 105 = true := by decide +kernel
set_option maxRecDepth 100000 in
theorem ck_106 : (am_code 106).all (am_ck 106) = true := by decide +kernel
theorem mk_106 : am_mck 106 = true := by decide +kernel
set_option maxRecDepth 100000 in
theorem ck_107 : (am_code 107).all (am_ck 107) = true := by decide +kernel
theorem mk_107 : am_mck 107 = true := by decide +kernel
set_option maxRecDepth 100000 in
theorem ck_108 : (am_code 108).all (am_ck 108) = true := by decide +kernel
theorem mk_108 : am_mck 108 = true := by decide +kernel
set_option maxRecDepth 100000 in
theorem ck_109 : (am_code 109).all (am_ck 109) = true := by decide +kernel
theorem mk_109 : am_mck 109 = true := by decide +kernel
set_option maxRecDepth 100000 in
theorem ck_110 : (am_code 110).all (am_ck 110) = true := by decide +kernel
theorem mk_110 : am_mck 110 = true := by decide +kernel
set_option maxRecDepth 100000 in
theorem ck_111 : (am_code 111).all (am_ck 111) = true := by decide +kernel
theorem mk_111 : am_mck 111 = true := by decide +kernel
set_option maxRecDepth 100000 in
theorem ck_112 : (am_code 112).all (am_ck 112) = true := by decide +kernel
theorem mk_112 : am_mck 112 = true := by decide +kernel
set_option maxRecDepth 100000 in
theorem ck_113 : (am_code 113).all (am_ck 113) = true := by decide +kernel
theorem mk_113 : am_mck 113 = true := by decide +kernel
set_option maxRecDepth 100000 in
theorem ck_114 : (am_code 114).all (am_ck 114) = true := by decide +kernel
theorem mk_114 : am_mck 114 = true := by decide +kernel
set_option maxRecDepth 100000 in
theorem ck_115 : (am_code 115).all (am_ck 115) = true := by decide +kernel
theorem mk_115 : am_mck 115 = true := by decide +kernel
