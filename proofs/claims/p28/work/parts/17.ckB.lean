set_option maxRecDepth 100000 in
theorem ckl_180 : (((am_code 111).drop 180).take 30).all (am_ck 111) = true := by decide +kernel
set_option maxRecDepth 100000 in
theorem ckl_210 : (((am_code 111).drop 210).take 30).all (am_ck 111) = true := by decide +kernel
set_option maxRecDepth 100000 in
theorem ckl_240 : (((am_code 111).drop 240).take 30).all (am_ck 111) = true := by decide +kernel
set_option maxRecDepth 100000 in
theorem ckl_270 : (((am_code 111).drop 270).take 30).all (am_ck 111) = true := by decide +kernel
set_option maxRecDepth 100000 in
theorem ckl_300 : (((am_code 111).drop 300).take 30).all (am_ck 111) = true := by decide +kernel
set_option maxRecDepth 100000 in
theorem ckl_330 : (((am_code 111).drop 330).take 30).all (am_ck 111) = true := by decide +kernel
