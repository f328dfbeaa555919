set_option maxRecDepth 100000 in
theorem ckl108_210 : (((am_code 108).drop 210).take 30).all (am_ck 108) = true := by decide +kernel
theorem ckl108_end : ((am_code 108).drop 240).all (am_ck 108) = true := by decide +kernel
theorem ckd108_210 : ((am_code 108).drop 210).all (am_ck 108) = true := am_cut 30 ckl108_210 (by rw [List.drop_drop]; exact ckl108_end)
theorem ckd108_180 : ((am_code 108).drop 180).all (am_ck 108) = true := am_cut 30 ckl108_180 (by rw [List.drop_drop]; exact ckd108_210)
theorem ckd108_150 : ((am_code 108).drop 150).all (am_ck 108) = true := am_cut 30 ckl108_150 (by rw [List.drop_drop]; exact ckd108_180)
theorem ckd108_120 : ((am_code 108).drop 120).all (am_ck 108) = true := am_cut 30 ckl108_120 (by rw [List.drop_drop]; exact ckd108_150)
theorem ckd108_90 : ((am_code 108).drop 90).all (am_ck 108) = true := am_cut 30 ckl108_90 (by rw [List.drop_drop]; exact ckd108_120)
theorem ckd108_60 : ((am_code 108).drop 60).all (am_ck 108) = true := am_cut 30 ckl108_60 (by rw [List.drop_drop]; exact ckd108_90)
theorem ckd108_30 : ((am_code 108).drop 30).all (am_ck 108) = true := am_cut 30 ckl108_30 (by rw [List.drop_drop]; exact ckd108_60)
theorem ckd108_0 : ((am_code 108).drop 0).all (am_ck 108) = true := am_cut 30 ckl108_0 (by rw [List.drop_drop]; exact ckd108_30)
theorem ck_108 : (am_code 108).all (am_ck 108) = true := by have := ckd108_0; rwa [List.drop_zero] at this
set_option maxRecDepth 100000 in
theorem mkc_108 : am_has (am_mp 108).1 (.code (am_nm 108) (am_by 108) (am_ml 108) (am_rt 108)) = true := Bool.and_eq_true_iff.mpr ⟨decide_eq_true rfl, rfl⟩
theorem mk_108 : am_mck 108 = true := by unfold am_mck; rw [mkc_108]; decide +kernel
set_option maxRecDepth 100000 in
theorem ckl110_0 : (((am_code 110).drop 0).take 30).all (am_ck 110) = true := by decide +kernel
set_option maxRecDepth 100000 in
theorem ckl110_30 : (((am_code 110).drop 30).take 30).all (am_ck 110) = true := by decide +kernel
set_option maxRecDepth 100000 in
theorem ckl110_60 : (((am_code 110).drop 60).take 30).all (am_ck 110) = true := by decide +kernel
set_option maxRecDepth 100000 in
theorem ckl110_90 : (((am_code 110).drop 90).take 30).all (am_ck 110) = true := by decide +kernel
set_option maxRecDepth 100000 in
theorem ckl110_120 : (((am_code 110).drop 120).take 30).all (am_ck 110) = true := by decide +kernel
