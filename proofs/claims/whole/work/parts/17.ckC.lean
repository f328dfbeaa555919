set_option maxRecDepth 100000 in
theorem ckl_360 : (((am_code 165).drop 360).take 30).all (am_ck 165) = true := by decide +kernel
set_option maxRecDepth 100000 in
theorem ckl_390 : (((am_code 165).drop 390).take 30).all (am_ck 165) = true := by decide +kernel
set_option maxRecDepth 100000 in
theorem ckl_420 : (((am_code 165).drop 420).take 30).all (am_ck 165) = true := by decide +kernel
set_option maxRecDepth 100000 in
theorem ckl_450 : (((am_code 165).drop 450).take 30).all (am_ck 165) = true := by decide +kernel
set_option maxRecDepth 100000 in
theorem ckl_480 : (((am_code 165).drop 480).take 30).all (am_ck 165) = true := by decide +kernel
set_option maxRecDepth 100000 in
theorem ckl_510 : (((am_code 165).drop 510).take 30).all (am_ck 165) = true := by decide +kernel
