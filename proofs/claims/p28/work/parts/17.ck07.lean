set_option maxRecDepth 100000 in
theorem ckl105_150 : (((am_code 105).drop 150).take 30).all (am_ck 105) = true := by decide +kernel
set_option maxRecDepth 100000 in
theorem ckl105_180 : (((am_code 105).drop 180).take 30).all (am_ck 105) = true := by decide +kernel
set_option maxRecDepth 100000 in
theorem ckl105_210 : (((am_code 105).drop 210).take 30).all (am_ck 105) = true := by decide +kernel
set_option maxRecDepth 100000 in
theorem ckl105_240 : (((am_code 105).drop 240).take 30).all (am_ck 105) = true := by decide +kernel
set_option maxRecDepth 100000 in
theorem ckl105_270 : (((am_code 105).drop 270).take 30).all (am_ck 105) = true := by decide +kernel
set_option maxRecDepth 100000 in
theorem ckl105_300 : (((am_code 105).drop 300).take 30).all (am_ck 105) = true := by decide +kernel
