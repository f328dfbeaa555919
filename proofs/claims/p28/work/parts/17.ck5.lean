set_option maxRecDepth 100000 in
theorem ck_108 : (am_code 108).all (am_ck 108) = true := by decide +kernel
theorem mk_108 : am_mck 108 = true := by decide +kernel
set_option maxRecDepth 100000 in
theorem ck_109 : (am_code 109).all (am_ck 109) = true := by decide +kernel
theorem mk_109 : am_mck 109 = true := by decide +kernel
set_option maxRecDepth 100000 in
theorem ck_110 : (am_code 110).all (am_ck 110) = true := by decide +kernel
theorem mk_110 : am_mck 110 = true := by decide +kernel
