set_option maxRecDepth 100000 in
theorem ckl111_90 : (((am_code 111).drop 90).take 30).all (am_ck 111) = true := by decide +kernel
set_option maxRecDepth 100000 in
theorem ckl111_120 : (((am_code 111).drop 120).take 30).all (am_ck 111) = true := by decide +kernel
set_option maxRecDepth 100000 in
theorem ckl111_150 : (((am_code 111).drop 150).take 30).all (am_ck 111) = true := by decide +kernel
set_option maxRecDepth 100000 in
theorem ckl111_180 : (((am_code 111).drop 180).take 30).all (am_ck 111) = true := by decide +kernel
set_option maxRecDepth 100000 in
theorem ckl111_210 : (((am_code 111).drop 210).take 30).all (am_ck 111) = true := by decide +kernel
set_option maxRecDepth 100000 in
theorem ckl111_240 : (((am_code 111).drop 240).take 30).all (am_ck 111) = true := by decide +kernel
