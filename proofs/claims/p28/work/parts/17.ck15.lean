set_option maxRecDepth 100000 in
theorem ckl111_270 : (((am_code 111).drop 270).take 30).all (am_ck 111) = true := by decide +kernel
set_option maxRecDepth 100000 in
theorem ckl111_300 : (((am_code 111).drop 300).take 30).all (am_ck 111) = true := by decide +kernel
set_option maxRecDepth 100000 in
theorem ckl111_330 : (((am_code 111).drop 330).take 30).all (am_ck 111) = true := by decide +kernel
set_option maxRecDepth 100000 in
theorem ckl111_360 : (((am_code 111).drop 360).take 30).all (am_ck 111) = true := by decide +kernel
set_option maxRecDepth 100000 in
theorem ckl111_390 : (((am_code 111).drop 390).take 30).all (am_ck 111) = true := by decide +kernel
set_option maxRecDepth 100000 in
theorem ckl111_420 : (((am_code 111).drop 420).take 30).all (am_ck 111) = true := by decide +kernel
