set_option maxRecDepth 100000 in
theorem ckl_0 : (((am_code 111).drop 0).take 30).all (am_ck 111) = true := by decide +kernel
set_option maxRecDepth 100000 in
theorem ckl_30 : (((am_code 111).drop 30).take 30).all (am_ck 111) = true := by decide +kernel
set_option maxRecDepth 100000 in
theorem ckl_60 : (((am_code 111).drop 60).take 30).all (am_ck 111) = true := by decide +kernel
set_option maxRecDepth 100000 in
theorem ckl_90 : (((am_code 111).drop 90).take 30).all (am_ck 111) = true := by decide +kernel
set_option maxRecDepth 100000 in
theorem ckl_120 : (((am_code 111).drop 120).take 30).all (am_ck 111) = true := by decide +kernel
set_option maxRecDepth 100000 in
theorem ckl_150 : (((am_code 111).drop 150).take 30).all (am_ck 111) = true := by decide +kernel
