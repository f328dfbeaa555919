set_option maxRecDepth 100000 in
theorem ckl111_450 : (((am_code 111).drop 450).take 30).all (am_ck 111) = true := by decide +kernel
theorem ckl111_end : ((am_code 111).drop 480).all (am_ck 111) = true := by decide +kernel
theorem ckd111_450 : ((am_code 111).drop 450).all (am_ck 111) = true := am_cut 30 ckl111_450 (by rw [List.drop_drop]; exact ckl111_end)
theorem ckd111_420 : ((am_code 111).drop 420).all (am_ck 111) = true := am_cut 30 ckl111_420 (by rw [List.drop_drop]; exact ckd111_450)
theorem ckd111_390 : ((am_code 111).drop 390).all (am_ck 111) = true := am_cut 30 ckl111_390 (by rw [List.drop_drop]; exact ckd111_420)
theorem ckd111_360 : ((am_code 111).drop 360).all (am_ck 111) = true := am_cut 30 ckl111_360 (by rw [List.drop_drop]; exact ckd111_390)
theorem ckd111_330 : ((am_code 111).drop 330).all (am_ck 111) = true := am_cut 30 ckl111_330 (by rw [List.drop_drop]; exact ckd111_360)
theorem ckd111_300 : ((am_code 111).drop 300).all (am_ck 111) = true := am_cut 30 ckl111_300 (by rw [List.drop_drop]; exact ckd111_330)
theorem ckd111_270 : ((am_code 111).drop 270).all (am_ck 111) = true := am_cut 30 ckl111_270 (by rw [List.drop_drop]; exact ckd111_300)
theorem ckd111_240 : ((am_code 111).drop 240).all (am_ck 111) = true := am_cut 30 ckl111_240 (by rw [List.drop_drop]; exact ckd111_270)
theorem ckd111_210 : ((am_code 111).drop 210).all (am_ck 111) = true := am_cut 30 ckl111_210 (by rw [List.drop_drop]; exact ckd111_240)
theorem ckd111_180 : ((am_code 111).drop 180).all (am_ck 111) = true := am_cut 30 ckl111_180 (by rw [List.drop_drop]; exact ckd111_210)
theorem ckd111_150 : ((am_code 111).drop 150).all (am_ck 111) = true := am_cut 30 ckl111_150 (by rw [List.drop_drop]; exact ckd111_180)
theorem ckd111_120 : ((am_code 111).drop 120).all (am_ck 111) = true := am_cut 30 ckl111_120 (by rw [List.drop_drop]; exact ckd111_150)
theorem ckd111_90 : ((am_code 111).drop 90).all (am_ck 111) = true := am_cut 30 ckl111_90 (by rw [List.drop_drop]; exact ckd111_120)
theorem ckd111_60 : ((am_code 111).drop 60).all (am_ck 111) = true := am_cut 30 ckl111_60 (by rw [List.drop_drop]; exact ckd111_90)
theorem ckd111_30 : ((am_code 111).drop 30).all (am_ck 111) = true := am_cut 30 ckl111_30 (by rw [List.drop_drop]; exact ckd111_60)
theorem ckd111_0 : ((am_code 111).drop 0).all (am_ck 111) = true := am_cut 30 ckl111_0 (by rw [List.drop_drop]; exact ckd111_30)
theorem ck_111 : (am_code 111).all (am_ck 111) = true := by have := ckd111_0; rwa [List.drop_zero] at this
