set_option maxRecDepth 100000 in
theorem ckl108_30 : (((am_code 108).drop 30).take 30).all (am_ck 108) = true := by decide +kernel
set_option maxRecDepth 100000 in
theorem ckl108_60 : (((am_code 108).drop 60).take 30).all (am_ck 108) = true := by decide +kernel
set_option maxRecDepth 100000 in
theorem ckl108_90 : (((am_code 108).drop 90).take 30).all (am_ck 108) = true := by decide +kernel
set_option maxRecDepth 100000 in
theorem ckl108_120 : (((am_code 108).drop 120).take 30).all (am_ck 108) = true := by decide +kernel
set_option maxRecDepth 100000 in
theorem ckl108_150 : (((am_code 108).drop 150).take 30).all (am_ck 108) = true := by decide +kernel
set_option maxRecDepth 100000 in
theorem ckl108_180 : (((am_code 108).drop 180).take 30).all (am_ck 108) = true := by decide +kernel
