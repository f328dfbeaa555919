set_option maxRecDepth 100000 in
theorem ck_105 : (am_code 105).all (am_ck 105) = true := by decide +kernel
theorem mk_105 : am_mck 105 = true := by decide +kernel
set_option maxRecDepth 100000 in
theorem ck_106 : (am_code 106).all (am_ck 106) = true := by decide +kernel
theorem mk_106 : am_mck 106 = true := by decide +kernel
set_option maxRecDepth 100000 in
theorem ck_107 : (am_code 107).all (am_ck 107) = true := by decide +kernel
theorem mk_107 : am_mck 107 = true := by decide +kernel
