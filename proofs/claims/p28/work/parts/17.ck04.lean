theorem am_cut {l : List am_E} {P : am_E → Bool} (k : Nat) (h1 : (l.take k).all P = true) (h2 : (l.drop k).all P = true) : l.all P = true := by rw [← List.take_append_drop k l, List.all_append, h1, h2]; rfl
set_option maxRecDepth 100000 in
theorem ckl103_0 : (((am_code 103).drop 0).take 30).all (am_ck 103) = true := by decide +kernel
set_option maxRecDepth 100000 in
theorem ckl103_30 : (((am_code 103).drop 30).take 30).all (am_ck 103) = true := by decide +kernel
set_option maxRecDepth 100000 in
theorem ckl103_60 : (((am_code 103).drop 60).take 30).all (am_ck 103) = true := by decide +kernel
set_option maxRecDepth 100000 in
theorem ckl103_90 : (((am_code 103).drop 90).take 30).all (am_ck 103) = true := by decide +kernel
theorem ckl103_end : ((am_code 103).drop 120).all (am_ck 103) = true := by decide +kernel
theorem ckd103_90 : ((am_code 103).drop 90).all (am_ck 103) = true := am_cut 30 ckl103_90 (by rw [List.drop_drop]; exact ckl103_end)
theorem ckd103_60 : ((am_code 103).drop 60).all (am_ck 103) = true := am_cut 30 ckl103_60 (by rw [List.drop_drop]; exact ckd103_90)
theorem ckd103_30 : ((am_code 103).drop 30).all (am_ck 103) = true := am_cut 30 ckl103_30 (by rw [List.drop_drop]; exact ckd103_60)
theorem ckd103_0 : ((am_code 103).drop 0).all (am_ck 103) = true := am_cut 30 ckl103_0 (by rw [List.drop_drop]; exact ckd103_30)
theorem ck_103 : (am_code 103).all (am_ck 103) = true := by have := ckd103_0; rwa [List.drop_zero] at this
set_option maxRecDepth 100000 in
theorem mkc_103 : am_has (am_mp 103).1 (.code (am_nm 103) (am_by 103) (am_ml 103) (am_rt 103)) = true := Bool.and_eq_true_iff.mpr ⟨decide_eq_true rfl, rfl⟩
theorem mk_103 : am_mck 103 = true := by unfold am_mck; rw [mkc_103]; decide +kernel
set_option maxRecDepth 100000 in
theorem ckl104_0 : (((am_code 104).drop 0).take 30).all (am_ck 104) = true := by decide +kernel
set_option maxRecDepth 100000 in
theorem ckl104_30 : (((am_code 104).drop 30).take 30).all (am_ck 104) = true := by decide +kernel
