set_option maxRecDepth 100000 in
theorem ckl_360 : (((am_code 111).drop 360).take 30).all (am_ck 111) = true := by decide +kernel
set_option maxRecDepth 100000 in
theorem ckl_390 : (((am_code 111).drop 390).take 30).all (am_ck 111) = true := by decide +kernel
set_option maxRecDepth 100000 in
theorem ckl_420 : (((am_code 111).drop 420).take 30).all (am_ck 111) = true := by decide +kernel
set_option maxRecDepth 100000 in
theorem ckl_450 : (((am_code 111).drop 450).take 30).all (am_ck 111) = true := by decide +kernel
