set_option maxRecDepth 100000 in
theorem ck_0 : (am_code 0).all (am_ck 0) = true := by decide +kernel
theorem mk_0 : am_mck 0 = true := by decide +kernel
set_option maxRecDepth 100000 in
theorem ck_1 : (am_code 1).all (am_ck 1) = true := by decide +kernel
theorem mk_1 : am_mck 1 = true := by decide +kernel
set_option maxRecDepth 100000 in
theorem ck_2 : (am_code 2).all (am_ck 2) = true := by decide +kernel
theorem mk_2 : am_mck 2 = true := by decide +kernel
set_option maxRecDepth 100000 in
theorem ck_3 : (am_code 3).all (am_ck 3) = true := by decide +kernel
theorem mk_3 : am_mck 3 = true := by decide +kernel
set_option maxRecDepth 100000 in
theorem ck_4 : (am_code 4).all (am_ck 4) = true := by decide +kernel
theorem mk_4 : am_mck 4 = true := by decide +kernel
set_option maxRecDepth 100000 in
theorem ck_5 : (am_code 5).all (am_ck 5) = true := by decide +kernel
theorem mk_5 : am_mck 5 = true := by decide +kernel
set_option maxRecDepth 100000 in
theorem ck_6 : (am_code 6).all (am_ck 6) = true := by decide +kernel
theorem mk_6 : am_mck 6 = true := by decide +kernel
set_option maxRecDepth 100000 in
theorem ck_7 : (am_code 7).all (am_ck 7) = true := by decide +kernel
theorem mk_7 : am_mck 7 = true := by decide +kernel
set_option maxRecDepth 100000 in
theorem ck_8 : (am_code 8).all (am_ck 8) = true := by decide +kernel
theorem mk_8 : am_mck 8 = true := by decide +kernel
set_option maxRecDepth 100000 in
theorem ck_9 : (am_code 9).all (am_ck 9) = true := by decide +kernel
theorem mk_9 : am_mck 9 = true := by decide +kernel
set_option maxRecDepth 100000 in
theorem ck_10 : (am_code 10).all (am_ck 10) = true := by decide +kernel
theorem mk_10 : am_mck 10 = true := by decide +kernel
set_option maxRecDepth 100000 in
theorem ck_11 : (am_code 11).all (am_ck 11) = true := by decide +kernel
theorem mk_11 : am_mck 11 = true := by decide +kernel
set_option maxRecDepth 100000 in
theorem ck_12 : (am_code 12).all (am_ck 12) = true := by decide +kernel
theorem mk_12 : am_mck 12 = true := by decide +kernel
set_option maxRecDepth 100000 in
theorem ck_13 : (am_code 13).all (am_ck 13) = true := by decide +kernel
theorem mk_13 : am_mck 13 = true := by decide +kernel
set_option maxRecDepth 100000 in
theorem ck_14 : (am_code 14).all (am_ck 14) = true := by decide +kernel
theorem mk_14 : am_mck 14 = true := by decide +kernel
set_option maxRecDepth 100000 in
theorem ck_15 : (am_code 15).all (am_ck 15) = true := by decide +kernel
theorem mk_15 : am_mck 15 = true := by decide +kernel
set_option maxRecDepth 100000 in
theorem ck_16 : (am_code 16).all (am_ck 16) = true := by decide +kernel
theorem mk_16 : am_mck 16 = true := by decide +kernel
set_option maxRecDepth 100000 in
theorem ck_17 : (am_code 17).all (am_ck 17) = true := by decide +kernel
theorem mk_17 : am_mck 17 = true := by decide +kernel
set_option maxRecDepth 100000 in
theorem ck_18 : (am_code 18).all (am_ck 18) = true := by decide +kernel
theorem mk_18 : am_mck 18 = true := by decide +kernel
set_option maxRecDepth 100000 in
theorem ck_19 : (am_code 19).all (am_ck 19) = true := by decide +kernel
theorem mk_19 : am_mck 19 = true := by decide +kernel
set_option maxRecDepth 100000 in
theorem ck_20 : (am_code 20).all (am_ck 20) = true := by decide +kernel
theorem mk_20 : am_mck 20 = true := by decide +kernel
set_option maxRecDepth 100000 in
theorem ck_21 : (am_code 21).all (am_ck 21) = true := by decide +kernel
theorem mk_21 : am_mck 21 = true := by decide +kernel
set_option maxRecDepth 100000 in
theorem ck_22 : (am_code 22).all (am_ck 22) = true := by decide +kernel
theorem mk_22 : am_mck 22 = true := by decide +kernel
set_option maxRecDepth 100000 in
theorem ck_23 : (am_code 23).all (am_ck 23) = true := by decide +kernel
theorem mk_23 : am_mck 23 = true := by decide +kernel
set_option maxRecDepth 100000 in
theorem ck_24 : (am_code 24).all (am_ck 24) = true := by decide +kernel
theorem mk_24 : am_mck 24 = true := by decide +kernel
set_option maxRecDepth 100000 in
theorem ck_25 : (am_code 25).all (am_ck 25) = true := by decide +kernel
theorem mk_25 : am_mck 25 = true := by decide +kernel
set_option maxRecDepth 100000 in
theorem ck_26 : (am_code 26).all (am_ck 26) = true := by decide +kernel
theorem mk_26 : am_mck 26 = true := by decide +kernel
set_option maxRecDepth 100000 in
theorem ck_27 : (am_code 27).all (am_ck 27) = true := by decide +kernel
theorem mk_27 : am_mck 27 = true := by decide +kernel
set_option maxRecDepth 100000 in
theorem ck_28 : (am_code 28).all (am_ck 28) = true := by decide +kernel
theorem mk_28 : am_mck 28 = true := by decide +kernel
set_option maxRecDepth 100000 in
theorem ck_29 : (am_code 29).all (am_ck 29) = true := by decide +kernel
theorem mk_29 : am_mck 29 = true := by decide +kernel
set_option maxRecDepth 100000 in
theorem ck_30 : (am_code 30).all (am_ck 30) = true := by decide +kernel
theorem mk_30 : am_mck 30 = true := by decide +kernel
