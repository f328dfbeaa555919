set_option maxRecDepth 100000 in
theorem ckl_540 : (((am_code 165).drop 540).take 30).all (am_ck 165) = true := by decide +kernel
set_option maxRecDepth 100000 in
theorem ckl_570 : (((am_code 165).drop 570).take 30).all (am_ck 165) = true := by decide +kernel
set_option maxRecDepth 100000 in
theorem ckl_600 : (((am_code 165).drop 600).take 30).all (am_ck 165) = true := by decide +kernel
set_option maxRecDepth 100000 in
theorem ckl_630 : (((am_code 165).drop 630).take 30).all (am_ck 165) = true := by decide +kernel
