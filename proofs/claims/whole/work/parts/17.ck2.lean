set_option maxRecDepth 100000 in
theorem ck_50 : (am_code 50).all (am_ck 50) = true := by decide +kernel
theorem mk_50 : am_mck 50 = true := by decide +kernel
set_option maxRecDepth 100000 in
theorem ck_51 : (am_code 51).all (am_ck 51) = true := by decide +kernel
theorem mk_51 : am_mck 51 = true := by decide +kernel
set_option maxRecDepth 100000 in
theorem ck_52 : (am_code 52).all (am_ck 52) = true := by decide +kernel
theorem mk_52 : am_mck 52 = true := by decide +kernel
set_option maxRecDepth 100000 in
theorem ck_53 : (am_code 53).all (am_ck 53) = true := by decide +kernel
theorem mk_53 : am_mck 53 = true := by decide +kernel
set_option maxRecDepth 100000 in
theorem ck_54 : (am_code 54).all (am_ck 54) = true := by decide +kernel
theorem mk_54 : am_mck 54 = true := by decide +kernel
set_option maxRecDepth 100000 in
theorem ck_55 : (am_code 55).all (am_ck 55) = true := by decide +kernel
theorem mk_55 : am_mck 55 = true := by decide +kernel
set_option maxRecDepth 100000 in
theorem ck_56 : (am_code 56).all (am_ck 56) = true := by decide +kernel
theorem mk_56 : am_mck 56 = true := by decide +kernel
set_option maxRecDepth 100000 in
theorem ck_57 : (am_code 57).all (am_ck 57) = true := by decide +kernel
theorem mk_57 : am_mck 57 = true := by decide +kernel
set_option maxRecDepth 100000 in
theorem ck_58 : (am_code 58).all (am_ck 58) = true := by decide +kernel
theorem mk_58 : am_mck 58 = true := by decide +kernel
set_option maxRecDepth 100000 in
theorem ck_59 : (am_code 59).all (am_ck 59) = true := by decide +kernel
theorem mk_59 : am_mck 59 = true := by decide +kernel
set_option maxRecDepth 100000 in
theorem ck_60 : (am_code 60).all (am_ck 60) = true := by decide +kernel
theorem mk_60 : am_mck 60 = true := by decide +kernel
set_option maxRecDepth 100000 in
theorem ck_61 : (am_code 61).all (am_ck 61) = true := by decide +kernel
theorem mk_61 : am_mck 61 = true := by decide +kernel
set_option maxRecDepth 100000 in
theorem ck_62 : (am_code 62).all (am_ck 62) = true := by decide +kernel
theorem mk_62 : am_mck 62 = true := by decide +kernel
set_option maxRecDepth 100000 in
theorem ck_63 : (am_code 63).all (am_ck 63) = true := by decide +kernel
theorem mk_63 : am_mck 63 = true := by decide +kernel
