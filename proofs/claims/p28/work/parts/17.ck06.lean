set_option maxRecDepth 100000 in
theorem ckl104_240 : (((am_code 104).drop 240).take 30).all (am_ck 104) = true := by decide +kernel
theorem ckl104_end : ((am_code 104).drop 270).all (am_ck 104) = true := by decide +kernel
theorem ckd104_240 : ((am_code 104).drop 240).all (am_ck 104) = true := am_cut 30 ckl104_240 (by rw [List.drop_drop]; exact ckl104_end)
theorem ckd104_210 : ((am_code 104).drop 210).all (am_ck 104) = true := am_cut 30 ckl104_210 (by rw [List.drop_drop]; exact ckd104_240)
theorem ckd104_180 : ((am_code 104).drop 180).all (am_ck 104) = true := am_cut 30 ckl104_180 (by rw [List.drop_drop]; exact ckd104_210)
theorem ckd104_150 : ((am_code 104).drop 150).all (am_ck 104) = true := am_cut 30 ckl104_150 (by rw [List.drop_drop]; exact ckd104_180)
theorem ckd104_120 : ((am_code 104).drop 120).all (am_ck 104) = true := am_cut 30 ckl104_120 (by rw [List.drop_drop]; exact ckd104_150)
theorem ckd104_90 : ((am_code 104).drop 90).all (am_ck 104) = true := am_cut 30 ckl104_90 (by rw [List.drop_drop]; exact ckd104_120)
theorem ckd104_60 : ((am_code 104).drop 60).all (am_ck 104) = true := am_cut 30 ckl104_60 (by rw [List.drop_drop]; exact ckd104_90)
theorem ckd104_30 : ((am_code 104).drop 30).all (am_ck 104) = true := am_cut 30 ckl104_30 (by rw [List.drop_drop]; exact ckd104_60)
theorem ckd104_0 : ((am_code 104).drop 0).all (am_ck 104) = true := am_cut 30 ckl104_0 (by rw [List.drop_drop]; exact ckd104_30)
theorem ck_104 : (am_code 104).all (am_ck 104) = true := by have := ckd104_0; rwa [List.drop_zero] at this
set_option maxRecDepth 100000 in
theorem mkc_104 : am_has (am_mp 104).1 (.code (am_nm 104) (am_by 104) (am_ml 104) (am_rt 104)) = true := Bool.and_eq_true_iff.mpr ⟨decide_eq_true rfl, rfl⟩
theorem mk_104 : am_mck 104 = true := by unfold am_mck; rw [mkc_104]; decide +kernel
set_option maxRecDepth 100000 in
theorem ckl105_0 : (((am_code 105).drop 0).take 30).all (am_ck 105) = true := by decide +kernel
set_option maxRecDepth 100000 in
theorem ckl105_30 : (((am_code 105).drop 30).take 30).all (am_ck 105) = true := by decide +kernel
set_option maxRecDepth 100000 in
theorem ckl105_60 : (((am_code 105).drop 60).take 30).all (am_ck 105) = true := by decide +kernel
set_option maxRecDepth 100000 in
theorem ckl105_90 : (((am_code 105).drop 90).take 30).all (am_ck 105) = true := by decide +kernel
set_option maxRecDepth 100000 in
theorem ckl105_120 : (((am_code 105).drop 120).take 30).all (am_ck 105) = true := by decide +kernel
