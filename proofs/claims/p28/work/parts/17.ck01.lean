set_option maxRecDepth 100000 in
theorem ck_31 : (am_code 31).all (am_ck 31) = true := by decide +kernel
theorem mk_31 : am_mck 31 = true := by decide +kernel
set_option maxRecDepth 100000 in
theorem ck_32 : (am_code 32).all (am_ck 32) = true := by decide +kernel
theorem mk_32 : am_mck 32 = true := by decide +kernel
set_option maxRecDepth 100000 in
theorem ck_33 : (am_code 33).all (am_ck 33) = true := by decide +kernel
theorem mk_33 : am_mck 33 = true := by decide +kernel
set_option maxRecDepth 100000 in
theorem ck_34 : (am_code 34).all (am_ck 34) = true := by decide +kernel
theorem mk_34 : am_mck 34 = true := by decide +kernel
set_option maxRecDepth 100000 in
theorem ck_35 : (am_code 35).all (am_ck 35) = true := by decide +kernel
theorem mk_35 : am_mck 35 = true := by decide +kernel
set_option maxRecDepth 100000 in
theorem ck_36 : (am_code 36).all (am_ck 36) = true := by decide +kernel
theorem mk_36 : am_mck 36 = true := by decide +kernel
set_option maxRecDepth 100000 in
theorem ck_37 : (am_code 37).all (am_ck 37) = true := by decide +kernel
theorem mk_37 : am_mck 37 = true := by decide +kernel
set_option maxRecDepth 100000 in
theorem ck_38 : (am_code 38).all (am_ck 38) = true := by decide +kernel
theorem mk_38 : am_mck 38 = true := by decide +kernel
set_option maxRecDepth 100000 in
theorem ck_39 : (am_code 39).all (am_ck 39) = true := by decide +kernel
theorem mk_39 : am_mck 39 = true := by decide +kernel
set_option maxRecDepth 100000 in
theorem ck_40 : (am_code 40).all (am_ck 40) = true := by decide +kernel
theorem mk_40 : am_mck 40 = true := by decide +kernel
set_option maxRecDepth 100000 in
theorem ck_41 : (am_code 41).all (am_ck 41) = true := by decide +kernel
theorem mk_41 : am_mck 41 = true := by decide +kernel
set_option maxRecDepth 100000 in
theorem ck_42 : (am_code 42).all (am_ck 42) = true := by decide +kernel
theorem mk_42 : am_mck 42 = true := by decide +kernel
set_option maxRecDepth 100000 in
theorem ck_43 : (am_code 43).all (am_ck 43) = true := by decide +kernel
theorem mk_43 : am_mck 43 = true := by decide +kernel
set_option maxRecDepth 100000 in
theorem ck_44 : (am_code 44).all (am_ck 44) = true := by decide +kernel
theorem mk_44 : am_mck 44 = true := by decide +kernel
set_option maxRecDepth 100000 in
theorem ck_45 : (am_code 45).all (am_ck 45) = true := by decide +kernel
theorem mk_45 : am_mck 45 = true := by decide +kernel
set_option maxRecDepth 100000 in
theorem ck_46 : (am_code 46).all (am_ck 46) = true := by decide +kernel
theorem mk_46 : am_mck 46 = true := by decide +kernel
set_option maxRecDepth 100000 in
theorem ck_47 : (am_code 47).all (am_ck 47) = true := by decide +kernel
theorem mk_47 : am_mck 47 = true := by decide +kernel
set_option maxRecDepth 100000 in
theorem ck_48 : (am_code 48).all (am_ck 48) = true := by decide +kernel
theorem mk_48 : am_mck 48 = true := by decide +kernel
set_option maxRecDepth 100000 in
theorem ck_49 : (am_code 49).all (am_ck 49) = true := by decide +kernel
theorem mk_49 : am_mck 49 = true := by decide +kernel
set_option maxRecDepth 100000 in
theorem ck_50 : (am_code 50).all (am_ck 50) = true := by decide +kernel
theorem mk_50 : am_mck 50 = true := by decide +kernel
set_option maxRecDepth 100000 in
theorem ck_51 : (am_code 51).all (am_ck 51) = true := by decide +kernel
theorem mk_51 : am_mck 51 = true := by decide +kernel
set_option maxRecDepth 100000 in
theorem ck_52 : (am_code 52).all (am_ck 52) = true := by decide +kernel
theorem mk_52 : am_mck 52 = true := by decide +kernel
set_option maxRecDepth 100000 in
theorem ck_53 : (am_code 53).all (am_ck 53) = true := by decide +kernel
theorem mk_53 : am_mck 53 = true := by decide +kernel
