set_option maxRecDepth 100000 in
theorem ckl106_150 : (((am_code 106).drop 150).take 30).all (am_ck 106) = true := by decide +kernel
set_option maxRecDepth 100000 in
theorem ckl106_180 : (((am_code 106).drop 180).take 30).all (am_ck 106) = true := by decide +kernel
set_option maxRecDepth 100000 in
theorem ckl106_210 : (((am_code 106).drop 210).take 30).all (am_ck 106) = true := by decide +kernel
set_option maxRecDepth 100000 in
theorem ckl106_240 : (((am_code 106).drop 240).take 30).all (am_ck 106) = true := by decide +kernel
set_option maxRecDepth 100000 in
theorem ckl106_270 : (((am_code 106).drop 270).take 30).all (am_ck 106) = true := by decide +kernel
set_option maxRecDepth 100000 in
theorem ckl106_300 : (((am_code 106).drop 300).take 30).all (am_ck 106) = true := by decide +kernel
