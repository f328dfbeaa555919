set_option maxRecDepth 100000 in
theorem ckl104_60 : (((am_code 104).drop 60).take 30).all (am_ck 104) = true := by decide +kernel
set_option maxRecDepth 100000 in
theorem ckl104_90 : (((am_code 104).drop 90).take 30).all (am_ck 104) = true := by decide +kernel
set_option maxRecDepth 100000 in
theorem ckl104_120 : (((am_code 104).drop 120).take 30).all (am_ck 104) = true := by decide +kernel
set_option maxRecDepth 100000 in
theorem ckl104_150 : (((am_code 104).drop 150).take 30).all (am_ck 104) = true := by decide +kernel
set_option maxRecDepth 100000 in
theorem ckl104_180 : (((am_code 104).drop 180).take 30).all (am_ck 104) = true := by decide +kernel
set_option maxRecDepth 100000 in
theorem ckl104_210 : (((am_code 104).drop 210).take 30).all (am_ck 104) = true := by decide +kernel
