set_option maxRecDepth 100000 in
theorem ckl105_330 : (((am_code 105).drop 330).take 30).all (am_ck 105) = true := by decide +kernel
theorem ckl105_end : ((am_code 105).drop 360).all (am_ck 105) = true := by decide +kernel
theorem ckd105_330 : ((am_code 105).drop 330).all (am_ck 105) = true := am_cut 30 ckl105_330 (by rw [List.drop_drop]; exact ckl105_end)
theorem ckd105_300 : ((am_code 105).drop 300).all (am_ck 105) = true := am_cut 30 ckl105_300 (by rw [List.drop_drop]; exact ckd105_330)
theorem ckd105_270 : ((am_code 105).drop 270).all (am_ck 105) = true := am_cut 30 ckl105_270 (by rw [List.drop_drop]; exact ckd105_300)
theorem ckd105_240 : ((am_code 105).drop 240).all (am_ck 105) = true := am_cut 30 ckl105_240 (by rw [List.drop_drop]; exact ckd105_270)
theorem ckd105_210 : ((am_code 105).drop 210).all (am_ck 105) = true := am_cut 30 ckl105_210 (by rw [List.drop_drop]; exact ckd105_240)
theorem ckd105_180 : ((am_code 105).drop 180).all (am_ck 105) = true := am_cut 30 ckl105_180 (by rw [List.drop_drop]; exact ckd105_210)
theorem ckd105_150 : ((am_code 105).drop 150).all (am_ck 105) = true := am_cut 30 ckl105_150 (by rw [List.drop_drop]; exact ckd105_180)
theorem ckd105_120 : ((am_code 105).drop 120).all (am_ck 105) = true := am_cut 30 ckl105_120 (by rw [List.drop_drop]; exact ckd105_150)
theorem ckd105_90 : ((am_code 105).drop 90).all (am_ck 105) = true := am_cut 30 ckl105_90 (by rw [List.drop_drop]; exact ckd105_120)
theorem ckd105_60 : ((am_code 105).drop 60).all (am_ck 105) = true := am_cut 30 ckl105_60 (by rw [List.drop_drop]; exact ckd105_90)
theorem ckd105_30 : ((am_code 105).drop 30).all (am_ck 105) = true := am_cut 30 ckl105_30 (by rw [List.drop_drop]; exact ckd105_60)
theorem ckd105_0 : ((am_code 105).drop 0).all (am_ck 105) = true := am_cut 30 ckl105_0 (by rw [List.drop_drop]; exact ckd105_30)
theorem ck_105 : (am_code 105).all (am_ck 105) = true := by have := ckd105_0; rwa [List.drop_zero] at this
set_option maxRecDepth 100000 in
theorem mkc_105 : am_has (am_mp 105).1 (.code (am_nm 105) (am_by 105) (am_ml 105) (am_rt 105)) = true := Bool.and_eq_true_iff.mpr ⟨decide_eq_true rfl, rfl⟩
theorem mk_105 : am_mck 105 = true := by unfold am_mck; rw [mkc_105]; decide +kernel
set_option maxRecDepth 100000 in
theorem ckl106_0 : (((am_code 106).drop 0).take 30).all (am_ck 106) = true := by decide +kernel
set_option maxRecDepth 100000 in
theorem ckl106_30 : (((am_code 106).drop 30).take 30).all (am_ck 106) = true := by decide +kernel
set_option maxRecDepth 100000 in
theorem ckl106_60 : (((am_code 106).drop 60).take 30).all (am_ck 106) = true := by decide +kernel
set_option maxRecDepth 100000 in
theorem ckl106_90 : (((am_code 106).drop 90).take 30).all (am_ck 106) = true := by decide +kernel
set_option maxRecDepth 100000 in
theorem ckl106_120 : (((am_code 106).drop 120).take 30).all (am_ck 106) = true := by decide +kernel
