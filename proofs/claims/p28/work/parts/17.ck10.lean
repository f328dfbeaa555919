theorem ckl106_end : ((am_code 106).drop 330).all (am_ck 106) = true := by decide +kernel
theorem ckd106_300 : ((am_code 106).drop 300).all (am_ck 106) = true := am_cut 30 ckl106_300 (by rw [List.drop_drop]; exact ckl106_end)
theorem ckd106_270 : ((am_code 106).drop 270).all (am_ck 106) = true := am_cut 30 ckl106_270 (by rw [List.drop_drop]; exact ckd106_300)
theorem ckd106_240 : ((am_code 106).drop 240).all (am_ck 106) = true := am_cut 30 ckl106_240 (by rw [List.drop_drop]; exact ckd106_270)
theorem ckd106_210 : ((am_code 106).drop 210).all (am_ck 106) = true := am_cut 30 ckl106_210 (by rw [List.drop_drop]; exact ckd106_240)
theorem ckd106_180 : ((am_code 106).drop 180).all (am_ck 106) = true := am_cut 30 ckl106_180 (by rw [List.drop_drop]; exact ckd106_210)
theorem ckd106_150 : ((am_code 106).drop 150).all (am_ck 106) = true := am_cut 30 ckl106_150 (by rw [List.drop_drop]; exact ckd106_180)
theorem ckd106_120 : ((am_code 106).drop 120).all (am_ck 106) = true := am_cut 30 ckl106_120 (by rw [List.drop_drop]; exact ckd106_150)
theorem ckd106_90 : ((am_code 106).drop 90).all (am_ck 106) = true := am_cut 30 ckl106_90 (by rw [List.drop_drop]; exact ckd106_120)
theorem ckd106_60 : ((am_code 106).drop 60).all (am_ck 106) = true := am_cut 30 ckl106_60 (by rw [List.drop_drop]; exact ckd106_90)
theorem ckd106_30 : ((am_code 106).drop 30).all (am_ck 106) = true := am_cut 30 ckl106_30 (by rw [List.drop_drop]; exact ckd106_60)
theorem ckd106_0 : ((am_code 106).drop 0).all (am_ck 106) = true := am_cut 30 ckl106_0 (by rw [List.drop_drop]; exact ckd106_30)
theorem ck_106 : (am_code 106).all (am_ck 106) = true := by have := ckd106_0; rwa [List.drop_zero] at this
set_option maxRecDepth 100000 in
theorem mkc_106 : am_has (am_mp 106).1 (.code (am_nm 106) (am_by 106) (am_ml 106) (am_rt 106)) = true := Bool.and_eq_true_iff.mpr ⟨decide_eq_true rfl, rfl⟩
theorem mk_106 : am_mck 106 = true := by unfold am_mck; rw [mkc_106]; decide +kernel
set_option maxRecDepth 100000 in
theorem ckl107_0 : (((am_code 107).drop 0).take 30).all (am_ck 107) = true := by decide +kernel
set_option maxRecDepth 100000 in
theorem ckl107_30 : (((am_code 107).drop 30).take 30).all (am_ck 107) = true := by decide +kernel
set_option maxRecDepth 100000 in
theorem ckl107_60 : (((am_code 107).drop 60).take 30).all (am_ck 107) = true := by decide +kernel
set_option maxRecDepth 100000 in
theorem ckl107_90 : (((am_code 107).drop 90).take 30).all (am_ck 107) = true := by decide +kernel
set_option maxRecDepth 100000 in
theorem ckl107_120 : (((am_code 107).drop 120).take 30).all (am_ck 107) = true := by decide +kernel
theorem ckl107_end : ((am_code 107).drop 150).all (am_ck 107) = true := by decide +kernel
theorem ckd107_120 : ((am_code 107).drop 120).all (am_ck 107) = true := am_cut 30 ckl107_120 (by rw [List.drop_drop]; exact ckl107_end)
theorem ckd107_90 : ((am_code 107).drop 90).all (am_ck 107) = true := am_cut 30 ckl107_90 (by rw [List.drop_drop]; exact ckd107_120)
theorem ckd107_60 : ((am_code 107).drop 60).all (am_ck 107) = true := am_cut 30 ckl107_60 (by rw [List.drop_drop]; exact ckd107_90)
theorem ckd107_30 : ((am_code 107).drop 30).all (am_ck 107) = true := am_cut 30 ckl107_30 (by rw [List.drop_drop]; exact ckd107_60)
theorem ckd107_0 : ((am_code 107).drop 0).all (am_ck 107) = true := am_cut 30 ckl107_0 (by rw [List.drop_drop]; exact ckd107_30)
theorem ck_107 : (am_code 107).all (am_ck 107) = true := by have := ckd107_0; rwa [List.drop_zero] at this
set_option maxRecDepth 100000 in
theorem mkc_107 : am_has (am_mp 107).1 (.code (am_nm 107) (am_by 107) (am_ml 107) (am_rt 107)) = true := Bool.and_eq_true_iff.mpr ⟨decide_eq_true rfl, rfl⟩
theorem mk_107 : am_mck 107 = true := by unfold am_mck; rw [mkc_107]; decide +kernel
set_option maxRecDepth 100000 in
theorem ckl108_0 : (((am_code 108).drop 0).take 30).all (am_ck 108) = true := by decide +kernel
