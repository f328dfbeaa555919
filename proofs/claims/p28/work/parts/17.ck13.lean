set_option maxRecDepth 100000 in
theorem ckl110_150 : (((am_code 110).drop 150).take 30).all (am_ck 110) = true := by decide +kernel
set_option maxRecDepth 100000 in
theorem ckl110_180 : (((am_code 110).drop 180).take 30).all (am_ck 110) = true := by decide +kernel
set_option maxRecDepth 100000 in
theorem ckl110_210 : (((am_code 110).drop 210).take 30).all (am_ck 110) = true := by decide +kernel
theorem ckl110_end : ((am_code 110).drop 240).all (am_ck 110) = true := by decide +kernel
theorem ckd110_210 : ((am_code 110).drop 210).all (am_ck 110) = true := am_cut 30 ckl110_210 (by rw [List.drop_drop]; exact ckl110_end)
theorem ckd110_180 : ((am_code 110).drop 180).all (am_ck 110) = true := am_cut 30 ckl110_180 (by rw [List.drop_drop]; exact ckd110_210)
theorem ckd110_150 : ((am_code 110).drop 150).all (am_ck 110) = true := am_cut 30 ckl110_150 (by rw [List.drop_drop]; exact ckd110_180)
theorem ckd110_120 : ((am_code 110).drop 120).all (am_ck 110) = true := am_cut 30 ckl110_120 (by rw [List.drop_drop]; exact ckd110_150)
theorem ckd110_90 : ((am_code 110).drop 90).all (am_ck 110) = true := am_cut 30 ckl110_90 (by rw [List.drop_drop]; exact ckd110_120)
theorem ckd110_60 : ((am_code 110).drop 60).all (am_ck 110) = true := am_cut 30 ckl110_60 (by rw [List.drop_drop]; exact ckd110_90)
theorem ckd110_30 : ((am_code 110).drop 30).all (am_ck 110) = true := am_cut 30 ckl110_30 (by rw [List.drop_drop]; exact ckd110_60)
theorem ckd110_0 : ((am_code 110).drop 0).all (am_ck 110) = true := am_cut 30 ckl110_0 (by rw [List.drop_drop]; exact ckd110_30)
theorem ck_110 : (am_code 110).all (am_ck 110) = true := by have := ckd110_0; rwa [List.drop_zero] at this
set_option maxRecDepth 100000 in
theorem mkc_110 : am_has (am_mp 110).1 (.code (am_nm 110) (am_by 110) (am_ml 110) (am_rt 110)) = true := Bool.and_eq_true_iff.mpr ⟨decide_eq_true rfl, rfl⟩
theorem mk_110 : am_mck 110 = true := by unfold am_mck; rw [mkc_110]; decide +kernel
set_option maxRecDepth 100000 in
theorem ckl111_0 : (((am_code 111).drop 0).take 30).all (am_ck 111) = true := by decide +kernel
set_option maxRecDepth 100000 in
theorem ckl111_30 : (((am_code 111).drop 30).take 30).all (am_ck 111) = true := by decide +kernel
set_option maxRecDepth 100000 in
theorem ckl111_60 : (((am_code 111).drop 60).take 30).all (am_ck 111) = true := by decide +kernel
