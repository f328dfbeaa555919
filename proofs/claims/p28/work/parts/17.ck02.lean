set_option maxRecDepth 100000 in
theorem ck_54 : (am_code 54).all (am_ck 54) = true := by decide +kernel
theorem mk_54 : am_mck 54 = true := by decide +kernel
set_option maxRecDepth 100000 in
theorem ck_55 : (am_code 55).all (am_ck 55) = true := by decide +kernel
theorem mk_55 : am_mck 55 = true := by decide +kernel
set_option maxRecDepth 100000 in
theorem ck_56 : (am_code 56).all (am_ck 56) = true := by decide +kernel
theorem mk_56 : am_mck 56 = true := by decide +kernel
set_option maxRecDepth 100000 in
theorem ck_57 : (am_code 57).all (am_ck 57) = true := by decide +kernel
theorem mk_57 : am_mck 57 = true := by decide +kernel
set_option maxRecDepth 100000 in
theorem ck_58 : (am_code 58).all (am_ck 58) = true := by decide +kernel
theorem mk_58 : am_mck 58 = true := by decide +kernel
set_option maxRecDepth 100000 in
theorem ck_59 : (am_code 59).all (am_ck 59) = true := by decide +kernel
theorem mk_59 : am_mck 59 = true := by decide +kernel
set_option maxRecDepth 100000 in
theorem ck_60 : (am_code 60).all (am_ck 60) = true := by decide +kernel
theorem mk_60 : am_mck 60 = true := by decide +kernel
set_option maxRecDepth 100000 in
theorem ck_61 : (am_code 61).all (am_ck 61) = true := by decide +kernel
theorem mk_61 : am_mck 61 = true := by decide +kernel
set_option maxRecDepth 100000 in
theorem ck_62 : (am_code 62).all (am_ck 62) = true := by decide +kernel
theorem mk_62 : am_mck 62 = true := by decide +kernel
set_option maxRecDepth 100000 in
theorem ck_63 : (am_code 63).all (am_ck 63) = true := by decide +kernel
theorem mk_63 : am_mck 63 = true := by decide +kernel
set_option maxRecDepth 100000 in
theorem ck_64 : (am_code 64).all (am_ck 64) = true := by decide +kernel
theorem mk_64 : am_mck 64 = true := by decide +kernel
set_option maxRecDepth 100000 in
theorem ck_65 : (am_code 65).all (am_ck 65) = true := by decide +kernel
theorem mk_65 : am_mck 65 = true := by decide +kernel
set_option maxRecDepth 100000 in
theorem ck_66 : (am_code 66).all (am_ck 66) = true := by decide +kernel
theorem mk_66 : am_mck 66 = true := by decide +kernel
set_option maxRecDepth 100000 in
theorem ck_67 : (am_code 67).all (am_ck 67) = true := by decide +kernel
theorem mk_67 : am_mck 67 = true := by decide +kernel
set_option maxRecDepth 100000 in
theorem ck_68 : (am_code 68).all (am_ck 68) = true := by decide +kernel
theorem mk_68 : am_mck 68 = true := by decide +kernel
set_option maxRecDepth 100000 in
theorem ck_69 : (am_code 69).all (am_ck 69) = true := by decide +kernel
theorem mk_69 : am_mck 69 = true := by decide +kernel
set_option maxRecDepth 100000 in
theorem ck_70 : (am_code 70).all (am_ck 70) = true := by decide +kernel
theorem mk_70 : am_mck 70 = true := by decide +kernel
set_option maxRecDepth 100000 in
theorem ck_71 : (am_code 71).all (am_ck 71) = true := by decide +kernel
theorem mk_71 : am_mck 71 = true := by decide +kernel
set_option maxRecDepth 100000 in
theorem ck_72 : (am_code 72).all (am_ck 72) = true := by decide +kernel
theorem mk_72 : am_mck 72 = true := by decide +kernel
set_option maxRecDepth 100000 in
theorem ck_73 : (am_code 73).all (am_ck 73) = true := by decide +kernel
theorem mk_73 : am_mck 73 = true := by decide +kernel
set_option maxRecDepth 100000 in
theorem ck_74 : (am_code 74).all (am_ck 74) = true := by decide +kernel
theorem mk_74 : am_mck 74 = true := by decide +kernel
set_option maxRecDepth 100000 in
theorem ck_75 : (am_code 75).all (am_ck 75) = true := by decide +kernel
theorem mk_75 : am_mck 75 = true := by decide +kernel
set_option maxRecDepth 100000 in
theorem ck_76 : (am_code 76).all (am_ck 76) = true := by decide +kernel
theorem mk_76 : am_mck 76 = true := by decide +kernel
set_option maxRecDepth 100000 in
theorem ck_77 : (am_code 77).all (am_ck 77) = true := by decide +kernel
theorem mk_77 : am_mck 77 = true := by decide +kernel
set_option maxRecDepth 100000 in
theorem ck_78 : (am_code 78).all (am_ck 78) = true := by decide +kernel
theorem mk_78 : am_mck 78 = true := by decide +kernel
set_option maxRecDepth 100000 in
theorem ck_79 : (am_code 79).all (am_ck 79) = true := by decide +kernel
theorem mk_79 : am_mck 79 = true := by decide +kernel
set_option maxRecDepth 100000 in
theorem ck_80 : (am_code 80).all (am_ck 80) = true := by decide +kernel
theorem mk_80 : am_mck 80 = true := by decide +kernel
set_option maxRecDepth 100000 in
theorem ck_81 : (am_code 81).all (am_ck 81) = true := by decide +kernel
theorem mk_81 : am_mck 81 = true := by decide +kernel
set_option maxRecDepth 100000 in
theorem ck_82 : (am_code 82).all (am_ck 82) = true := by decide +kernel
theorem mk_82 : am_mck 82 = true := by decide +kernel
set_option maxRecDepth 100000 in
theorem ck_83 : (am_code 83).all (am_ck 83) = true := by decide +kernel
theorem mk_83 : am_mck 83 = true := by decide +kernel
set_option maxRecDepth 100000 in
theorem ck_84 : (am_code 84).all (am_ck 84) = true := by decide +kernel
theorem mk_84 : am_mck 84 = true := by decide +kernel
