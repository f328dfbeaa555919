/-! WHAT IS TOLD -/
section Q
variable {A A' : Nat → List Int32} {F F' : Nat → Int32} {P : Nat → Nat} {r : List Int32} {nB nl nb nx q t : Nat} {L B Fi Se Mn Bu Pr : List Int32}
/-- the sale is held at the first question of it: from A F to A' F' (the same where it was held already) -/
def HQ (A : Nat → List Int32) (F : Nat → Int32) (P : Nat → Nat) (A' : Nat → List Int32) (F' : Nat → Int32) (r : List Int32) (nB nl nb nx : Nat) (L B Fi Se Mn Bu Pr : List Int32) : Prop := LenW A' ∧ ClS A' r nB nl nx L B Fi Se Mn Bu Pr nl ∧ Cx A' F' r nB nl nb nx ∧ Cx A F r nB nl nb nx ∧ SaI r nB nl nb nx L B Fi Se Mn Bu Pr nl ∧ am_cl m_Sale_hold [.ref 164] (heap A F P) = some (none, heap A' F' P)
theorem HQ_held (hI : InvN A F P nB nl nb nx q t) (hh : F 16410 = nI 1) (hS : SaI (A 193) nB nl nb nx L B Fi Se Mn Bu Pr nl) : HQ A F P A F (A 193) nB nl nb nx L B Fi Se Mn Bu Pr := by
  have hC := Cx_of hI
  have hW := LenW_of hI.2.1.2.2
  rcases hI.2.2.2.2 with z | ⟨z, L', B', Fi', Se', Mn', Bu', Pr', h1, h2, h3⟩
  · rw [z] at hh; exact absurd hh (by decide)
  · refine ⟨hW, ClS_u hC.1 h2 hS h3, hC, hC, hS, ?_⟩
    have n10 : ¬ nI 1 = nI 0 := by decide
    rw [e_Sale_hold 164 _ rfl]
    simp (maxSteps := 2000000) (disch := (first | omega | (simp (disch := omega) only [up_eq, up_ne, cpA_o, cpF_o, List.length_set] <;> omega) | fail)) only [ob_s, am_bi_s, am_bv_s, am_bl_s, ↓bif_d, lits, nI_addS, nI_mulS, nI_subS, nI_lt', nI_le', nI_eq', ↓rd_nI, ↓wrH, up_eq, up_ne, up_up, up_sw, List.set_set, g_seq, g_sne, Nat.reduceEqDiff, ↓reduceIte, List.length_set, Nat.add_sub_cancel_left, Nat.add_sub_cancel, ite_true, ite_false, if_true, if_false, not_true_eq_false, not_false_eq_true, Bool.and_true, Bool.true_and, true_or, or_true, false_or, or_false, and_true, true_and, and_false, false_and, Nat.not_lt_zero, hpRX, hpIX, hpFX, hpLX, hpSX, ↓rgX, ↓rpX, Nat.reduceLeDiff, Nat.reduceLT, Nat.reduceAdd, Nat.reduceMul, Nat.reduceSub, hh, n10]
theorem HQ_of (hI : InvN A F P nB nl nb nx q t) (hS : SaI (A 193) nB nl nb nx L B Fi Se Mn Bu Pr nl) : ∃ A' : Nat → List Int32, (∀ j, (j < 166 ∨ 182 < j) → A' j = A j) ∧ InvN A' (up F 16410 (nI 1)) P nB nl nb nx q t ∧ HQ A F P A' (up F 16410 (nI 1)) (A 193) nB nl nb nx L B Fi Se Mn Bu Pr := by
  have hC := Cx_of hI
  obtain ⟨A', L', B', Fi', Se', Mn', Bu', Pr', h1, h2, h3, h4, h5, h6⟩ := cls_hold hI
  have hI1 := InvN_w hI h1 h2 h3 h4 h5
  have e193 : A' 193 = A 193 := h1 193 (by omega)
  refine ⟨A', h1, hI1, h2, ClS_u hC.1 h4 hS h5, ?_, hC, hS, h6⟩
  rw [← e193]
  exact Cx_of hI1
theorem k_sale0 (hI : HQ A F P A' F' r nB nl nb nx L B Fi Se Mn Bu Pr) {k : Nat} (hk : k < nl) : am_cl m_Pa_sale (.ref 1 :: [.int (nI k), .int (nI 0)]) (heap A F P) = some (some (.int (g Bu k)), heap A' F' P) := by
  classical
  obtain ⟨hW, hK, hC', hC0, hS, hcl⟩ := id hI
  obtain ⟨-, -, ⟨n1, n2, n3, n4⟩, l0, hAL, hAM, hAX, hAS, -⟩ := id hC0
  obtain ⟨c5, c7, c10, c12, c14, c16, c18, c21, c23, c25, c27, c29, c31, c33⟩ := LenS2 l0
  obtain ⟨hM, hB, ⟨m1, m2, m3, m4⟩, l1, hCL, hCM, hCX, hCS, hS0, hS1, hS2, hS3⟩ := id hC'
  obtain ⟨d5, d7, d10, d12, d14, d16, d18, d21, d23, d25, d27, d29, d31, d33⟩ := LenS2 l1
  obtain ⟨w166, w168, w170, w172, w174, w176, w178, w180, w182⟩ := id hW
  have hnl : nl ≤ 20 := hM.1.2.2.2.2.2.2.2.1
  have hnb : nb ≤ 8 := hM.1.2.2.2.2.2.2.2.2.1
  have hnx : nx ≤ 60 := hM.1.2.2.2.2.2.2.2.2.2
  have iL := fun x => s_isLot (A := A) (F := F) (P := P) n2 (by omega) x
  have iB := fun x => s_isBidder (A := A) (F := F) (P := P) n3 (by omega) x
  have iX := fun x => s_isBid (A := A) (F := F) (P := P) n4 (by omega) x
  have g0 : ix (nI k) nl := ⟨k, hk, rfl⟩
  obtain ⟨d1, d2, d3, d4, d5', d6⟩ := hK.1 k hk
  have hb0 := cl_bid (P := P) hC' hW hS hK hk (p := 0) (by omega)
  have hb1 := cl_bid (P := P) hC' hW hS hK hk (p := 1) (by omega)
  rw [← hS.2.2.2.1 k hk] at hb0
  rw [← hS.2.2.2.2.1 k hk] at hb1
  rw [e_Pa_sale 1 _ _ _ rfl]
  simp (maxSteps := 2000000) (disch := (first | omega | (simp (disch := omega) only [up_eq, up_ne, cpA_o, cpF_o, List.length_set] <;> omega) | fail)) only [ob_s, am_bi_s, am_bv_s, am_bl_s, ↓bif_d, lits, nI_addS, nI_mulS, nI_subS, nI_lt', nI_le', nI_eq', ↓rd_nI, ↓wrH, up_eq, up_ne, up_up, up_sw, List.set_set, g_seq, g_sne, Nat.reduceEqDiff, ↓reduceIte, List.length_set, Nat.add_sub_cancel_left, Nat.add_sub_cancel, ite_true, ite_false, if_true, if_false, not_true_eq_false, not_false_eq_true, Bool.and_true, Bool.true_and, true_or, or_true, false_or, or_false, and_true, true_and, and_false, false_and, Nat.not_lt_zero, hpRX, hpIX, hpFX, hpLX, hpSX, ↓rgX, ↓rpX, Nat.reduceLeDiff, Nat.reduceLT, Nat.reduceAdd, Nat.reduceMul, Nat.reduceSub, iL, b01_0, g0, hcl, d1]
theorem k_sale1 (hI : HQ A F P A' F' r nB nl nb nx L B Fi Se Mn Bu Pr) {k : Nat} (hk : k < nl) : am_cl m_Pa_sale (.ref 1 :: [.int (nI k), .int (nI 1)]) (heap A F P) = some (some (.int (g Pr k)), heap A' F' P) := by
  classical
  obtain ⟨hW, hK, hC', hC0, hS, hcl⟩ := id hI
  obtain ⟨-, -, ⟨n1, n2, n3, n4⟩, l0, hAL, hAM, hAX, hAS, -⟩ := id hC0
  obtain ⟨c5, c7, c10, c12, c14, c16, c18, c21, c23, c25, c27, c29, c31, c33⟩ := LenS2 l0
  obtain ⟨hM, hB, ⟨m1, m2, m3, m4⟩, l1, hCL, hCM, hCX, hCS, hS0, hS1, hS2, hS3⟩ := id hC'
  obtain ⟨d5, d7, d10, d12, d14, d16, d18, d21, d23, d25, d27, d29, d31, d33⟩ := LenS2 l1
  obtain ⟨w166, w168, w170, w172, w174, w176, w178, w180, w182⟩ := id hW
  have hnl : nl ≤ 20 := hM.1.2.2.2.2.2.2.2.1
  have hnb : nb ≤ 8 := hM.1.2.2.2.2.2.2.2.2.1
  have hnx : nx ≤ 60 := hM.1.2.2.2.2.2.2.2.2.2
  have iL := fun x => s_isLot (A := A) (F := F) (P := P) n2 (by omega) x
  have iB := fun x => s_isBidder (A := A) (F := F) (P := P) n3 (by omega) x
  have iX := fun x => s_isBid (A := A) (F := F) (P := P) n4 (by omega) x
  have g0 : ix (nI k) nl := ⟨k, hk, rfl⟩
  obtain ⟨d1, d2, d3, d4, d5', d6⟩ := hK.1 k hk
  have hb0 := cl_bid (P := P) hC' hW hS hK hk (p := 0) (by omega)
  have hb1 := cl_bid (P := P) hC' hW hS hK hk (p := 1) (by omega)
  rw [← hS.2.2.2.1 k hk] at hb0
  rw [← hS.2.2.2.2.1 k hk] at hb1
  rw [e_Pa_sale 1 _ _ _ rfl]
  simp (maxSteps := 2000000) (disch := (first | omega | (simp (disch := omega) only [up_eq, up_ne, cpA_o, cpF_o, List.length_set] <;> omega) | fail)) only [ob_s, am_bi_s, am_bv_s, am_bl_s, ↓bif_d, lits, nI_addS, nI_mulS, nI_subS, nI_lt', nI_le', nI_eq', ↓rd_nI, ↓wrH, up_eq, up_ne, up_up, up_sw, List.set_set, g_seq, g_sne, Nat.reduceEqDiff, ↓reduceIte, List.length_set, Nat.add_sub_cancel_left, Nat.add_sub_cancel, ite_true, ite_false, if_true, if_false, not_true_eq_false, not_false_eq_true, Bool.and_true, Bool.true_and, true_or, or_true, false_or, or_false, and_true, true_and, and_false, false_and, Nat.not_lt_zero, hpRX, hpIX, hpFX, hpLX, hpSX, ↓rgX, ↓rpX, Nat.reduceLeDiff, Nat.reduceLT, Nat.reduceAdd, Nat.reduceMul, Nat.reduceSub, iL, b01_0, g0, hcl, d2]
theorem k_sale2 (hI : HQ A F P A' F' r nB nl nb nx L B Fi Se Mn Bu Pr) {k : Nat} (hk : k < nl) : am_cl m_Pa_sale (.ref 1 :: [.int (nI k), .int (nI 2)]) (heap A F P) = some (some (.int (mSt r Mn Bu k)), heap A' F' P) := by
  classical
  obtain ⟨hW, hK, hC', hC0, hS, hcl⟩ := id hI
  obtain ⟨-, -, ⟨n1, n2, n3, n4⟩, l0, hAL, hAM, hAX, hAS, -⟩ := id hC0
  obtain ⟨c5, c7, c10, c12, c14, c16, c18, c21, c23, c25, c27, c29, c31, c33⟩ := LenS2 l0
  obtain ⟨hM, hB, ⟨m1, m2, m3, m4⟩, l1, hCL, hCM, hCX, hCS, hS0, hS1, hS2, hS3⟩ := id hC'
  obtain ⟨d5, d7, d10, d12, d14, d16, d18, d21, d23, d25, d27, d29, d31, d33⟩ := LenS2 l1
  obtain ⟨w166, w168, w170, w172, w174, w176, w178, w180, w182⟩ := id hW
  have hnl : nl ≤ 20 := hM.1.2.2.2.2.2.2.2.1
  have hnb : nb ≤ 8 := hM.1.2.2.2.2.2.2.2.2.1
  have hnx : nx ≤ 60 := hM.1.2.2.2.2.2.2.2.2.2
  have iL := fun x => s_isLot (A := A) (F := F) (P := P) n2 (by omega) x
  have iB := fun x => s_isBidder (A := A) (F := F) (P := P) n3 (by omega) x
  have iX := fun x => s_isBid (A := A) (F := F) (P := P) n4 (by omega) x
  have g0 : ix (nI k) nl := ⟨k, hk, rfl⟩
  obtain ⟨d1, d2, d3, d4, d5', d6⟩ := hK.1 k hk
  have hb0 := cl_bid (P := P) hC' hW hS hK hk (p := 0) (by omega)
  have hb1 := cl_bid (P := P) hC' hW hS hK hk (p := 1) (by omega)
  rw [← hS.2.2.2.1 k hk] at hb0
  rw [← hS.2.2.2.2.1 k hk] at hb1
  rw [e_Pa_sale 1 _ _ _ rfl]
  simp (maxSteps := 2000000) (disch := (first | omega | (simp (disch := omega) only [up_eq, up_ne, cpA_o, cpF_o, List.length_set] <;> omega) | fail)) only [ob_s, am_bi_s, am_bv_s, am_bl_s, ↓bif_d, lits, nI_addS, nI_mulS, nI_subS, nI_lt', nI_le', nI_eq', ↓rd_nI, ↓wrH, up_eq, up_ne, up_up, up_sw, List.set_set, g_seq, g_sne, Nat.reduceEqDiff, ↓reduceIte, List.length_set, Nat.add_sub_cancel_left, Nat.add_sub_cancel, ite_true, ite_false, if_true, if_false, not_true_eq_false, not_false_eq_true, Bool.and_true, Bool.true_and, true_or, or_true, false_or, or_false, and_true, true_and, and_false, false_and, Nat.not_lt_zero, hpRX, hpIX, hpFX, hpLX, hpSX, ↓rgX, ↓rpX, Nat.reduceLeDiff, Nat.reduceLT, Nat.reduceAdd, Nat.reduceMul, Nat.reduceSub, iL, b01_0, g0, hcl, d3]
theorem k_sale3 (hI : HQ A F P A' F' r nB nl nb nx L B Fi Se Mn Bu Pr) {k : Nat} (hk : k < nl) : am_cl m_Pa_sale (.ref 1 :: [.int (nI k), .int (nI 3)]) (heap A F P) = some (some (.int (g Mn k)), heap A' F' P) := by
  classical
  obtain ⟨hW, hK, hC', hC0, hS, hcl⟩ := id hI
  obtain ⟨-, -, ⟨n1, n2, n3, n4⟩, l0, hAL, hAM, hAX, hAS, -⟩ := id hC0
  obtain ⟨c5, c7, c10, c12, c14, c16, c18, c21, c23, c25, c27, c29, c31, c33⟩ := LenS2 l0
  obtain ⟨hM, hB, ⟨m1, m2, m3, m4⟩, l1, hCL, hCM, hCX, hCS, hS0, hS1, hS2, hS3⟩ := id hC'
  obtain ⟨d5, d7, d10, d12, d14, d16, d18, d21, d23, d25, d27, d29, d31, d33⟩ := LenS2 l1
  obtain ⟨w166, w168, w170, w172, w174, w176, w178, w180, w182⟩ := id hW
  have hnl : nl ≤ 20 := hM.1.2.2.2.2.2.2.2.1
  have hnb : nb ≤ 8 := hM.1.2.2.2.2.2.2.2.2.1
  have hnx : nx ≤ 60 := hM.1.2.2.2.2.2.2.2.2.2
  have iL := fun x => s_isLot (A := A) (F := F) (P := P) n2 (by omega) x
  have iB := fun x => s_isBidder (A := A) (F := F) (P := P) n3 (by omega) x
  have iX := fun x => s_isBid (A := A) (F := F) (P := P) n4 (by omega) x
  have g0 : ix (nI k) nl := ⟨k, hk, rfl⟩
  obtain ⟨d1, d2, d3, d4, d5', d6⟩ := hK.1 k hk
  have hb0 := cl_bid (P := P) hC' hW hS hK hk (p := 0) (by omega)
  have hb1 := cl_bid (P := P) hC' hW hS hK hk (p := 1) (by omega)
  rw [← hS.2.2.2.1 k hk] at hb0
  rw [← hS.2.2.2.2.1 k hk] at hb1
  rw [e_Pa_sale 1 _ _ _ rfl]
  simp (maxSteps := 2000000) (disch := (first | omega | (simp (disch := omega) only [up_eq, up_ne, cpA_o, cpF_o, List.length_set] <;> omega) | fail)) only [ob_s, am_bi_s, am_bv_s, am_bl_s, ↓bif_d, lits, nI_addS, nI_mulS, nI_subS, nI_lt', nI_le', nI_eq', ↓rd_nI, ↓wrH, up_eq, up_ne, up_up, up_sw, List.set_set, g_seq, g_sne, Nat.reduceEqDiff, ↓reduceIte, List.length_set, Nat.add_sub_cancel_left, Nat.add_sub_cancel, ite_true, ite_false, if_true, if_false, not_true_eq_false, not_false_eq_true, Bool.and_true, Bool.true_and, true_or, or_true, false_or, or_false, and_true, true_and, and_false, false_and, Nat.not_lt_zero, hpRX, hpIX, hpFX, hpLX, hpSX, ↓rgX, ↓rpX, Nat.reduceLeDiff, Nat.reduceLT, Nat.reduceAdd, Nat.reduceMul, Nat.reduceSub, iL, b01_0, g0, hcl, d4]
theorem k_sale4 (hI : HQ A F P A' F' r nB nl nb nx L B Fi Se Mn Bu Pr) {k : Nat} (hk : k < nl) : am_cl m_Pa_sale (.ref 1 :: [.int (nI k), .int (nI 4)]) (heap A F P) = some (some (.int (g Fi k)), heap A' F' P) := by
  classical
  obtain ⟨hW, hK, hC', hC0, hS, hcl⟩ := id hI
  obtain ⟨-, -, ⟨n1, n2, n3, n4⟩, l0, hAL, hAM, hAX, hAS, -⟩ := id hC0
  obtain ⟨c5, c7, c10, c12, c14, c16, c18, c21, c23, c25, c27, c29, c31, c33⟩ := LenS2 l0
  obtain ⟨hM, hB, ⟨m1, m2, m3, m4⟩, l1, hCL, hCM, hCX, hCS, hS0, hS1, hS2, hS3⟩ := id hC'
  obtain ⟨d5, d7, d10, d12, d14, d16, d18, d21, d23, d25, d27, d29, d31, d33⟩ := LenS2 l1
  obtain ⟨w166, w168, w170, w172, w174, w176, w178, w180, w182⟩ := id hW
  have hnl : nl ≤ 20 := hM.1.2.2.2.2.2.2.2.1
  have hnb : nb ≤ 8 := hM.1.2.2.2.2.2.2.2.2.1
  have hnx : nx ≤ 60 := hM.1.2.2.2.2.2.2.2.2.2
  have iL := fun x => s_isLot (A := A) (F := F) (P := P) n2 (by omega) x
  have iB := fun x => s_isBidder (A := A) (F := F) (P := P) n3 (by omega) x
  have iX := fun x => s_isBid (A := A) (F := F) (P := P) n4 (by omega) x
  have g0 : ix (nI k) nl := ⟨k, hk, rfl⟩
  obtain ⟨d1, d2, d3, d4, d5', d6⟩ := hK.1 k hk
  have hb0 := cl_bid (P := P) hC' hW hS hK hk (p := 0) (by omega)
  have hb1 := cl_bid (P := P) hC' hW hS hK hk (p := 1) (by omega)
  rw [← hS.2.2.2.1 k hk] at hb0
  rw [← hS.2.2.2.2.1 k hk] at hb1
  rw [e_Pa_sale 1 _ _ _ rfl]
  simp (maxSteps := 2000000) (disch := (first | omega | (simp (disch := omega) only [up_eq, up_ne, cpA_o, cpF_o, List.length_set] <;> omega) | fail)) only [ob_s, am_bi_s, am_bv_s, am_bl_s, ↓bif_d, lits, nI_addS, nI_mulS, nI_subS, nI_lt', nI_le', nI_eq', ↓rd_nI, ↓wrH, up_eq, up_ne, up_up, up_sw, List.set_set, g_seq, g_sne, Nat.reduceEqDiff, ↓reduceIte, List.length_set, Nat.add_sub_cancel_left, Nat.add_sub_cancel, ite_true, ite_false, if_true, if_false, not_true_eq_false, not_false_eq_true, Bool.and_true, Bool.true_and, true_or, or_true, false_or, or_false, and_true, true_and, and_false, false_and, Nat.not_lt_zero, hpRX, hpIX, hpFX, hpLX, hpSX, ↓rgX, ↓rpX, Nat.reduceLeDiff, Nat.reduceLT, Nat.reduceAdd, Nat.reduceMul, Nat.reduceSub, iL, b01_0, g0, hcl, hb0]
theorem k_sale5 (hI : HQ A F P A' F' r nB nl nb nx L B Fi Se Mn Bu Pr) {k : Nat} (hk : k < nl) : am_cl m_Pa_sale (.ref 1 :: [.int (nI k), .int (nI 5)]) (heap A F P) = some (some (.int (g Se k)), heap A' F' P) := by
  classical
  obtain ⟨hW, hK, hC', hC0, hS, hcl⟩ := id hI
  obtain ⟨-, -, ⟨n1, n2, n3, n4⟩, l0, hAL, hAM, hAX, hAS, -⟩ := id hC0
  obtain ⟨c5, c7, c10, c12, c14, c16, c18, c21, c23, c25, c27, c29, c31, c33⟩ := LenS2 l0
  obtain ⟨hM, hB, ⟨m1, m2, m3, m4⟩, l1, hCL, hCM, hCX, hCS, hS0, hS1, hS2, hS3⟩ := id hC'
  obtain ⟨d5, d7, d10, d12, d14, d16, d18, d21, d23, d25, d27, d29, d31, d33⟩ := LenS2 l1
  obtain ⟨w166, w168, w170, w172, w174, w176, w178, w180, w182⟩ := id hW
  have hnl : nl ≤ 20 := hM.1.2.2.2.2.2.2.2.1
  have hnb : nb ≤ 8 := hM.1.2.2.2.2.2.2.2.2.1
  have hnx : nx ≤ 60 := hM.1.2.2.2.2.2.2.2.2.2
  have iL := fun x => s_isLot (A := A) (F := F) (P := P) n2 (by omega) x
  have iB := fun x => s_isBidder (A := A) (F := F) (P := P) n3 (by omega) x
  have iX := fun x => s_isBid (A := A) (F := F) (P := P) n4 (by omega) x
  have g0 : ix (nI k) nl := ⟨k, hk, rfl⟩
  obtain ⟨d1, d2, d3, d4, d5', d6⟩ := hK.1 k hk
  have hb0 := cl_bid (P := P) hC' hW hS hK hk (p := 0) (by omega)
  have hb1 := cl_bid (P := P) hC' hW hS hK hk (p := 1) (by omega)
  rw [← hS.2.2.2.1 k hk] at hb0
  rw [← hS.2.2.2.2.1 k hk] at hb1
  rw [e_Pa_sale 1 _ _ _ rfl]
  simp (maxSteps := 2000000) (disch := (first | omega | (simp (disch := omega) only [up_eq, up_ne, cpA_o, cpF_o, List.length_set] <;> omega) | fail)) only [ob_s, am_bi_s, am_bv_s, am_bl_s, ↓bif_d, lits, nI_addS, nI_mulS, nI_subS, nI_lt', nI_le', nI_eq', ↓rd_nI, ↓wrH, up_eq, up_ne, up_up, up_sw, List.set_set, g_seq, g_sne, Nat.reduceEqDiff, ↓reduceIte, List.length_set, Nat.add_sub_cancel_left, Nat.add_sub_cancel, ite_true, ite_false, if_true, if_false, not_true_eq_false, not_false_eq_true, Bool.and_true, Bool.true_and, true_or, or_true, false_or, or_false, and_true, true_and, and_false, false_and, Nat.not_lt_zero, hpRX, hpIX, hpFX, hpLX, hpSX, ↓rgX, ↓rpX, Nat.reduceLeDiff, Nat.reduceLT, Nat.reduceAdd, Nat.reduceMul, Nat.reduceSub, iL, b01_0, g0, hcl, hb1]
theorem k_sale6 (hI : HQ A F P A' F' r nB nl nb nx L B Fi Se Mn Bu Pr) {k : Nat} (hk : k < nl) : am_cl m_Pa_sale (.ref 1 :: [.int (nI k), .int (nI 6)]) (heap A F P) = some (some (.int (-nI 2)), heap A' F' P) := by
  classical
  obtain ⟨hW, hK, hC', hC0, hS, hcl⟩ := id hI
  obtain ⟨-, -, ⟨n1, n2, n3, n4⟩, l0, hAL, hAM, hAX, hAS, -⟩ := id hC0
  obtain ⟨c5, c7, c10, c12, c14, c16, c18, c21, c23, c25, c27, c29, c31, c33⟩ := LenS2 l0
  obtain ⟨hM, hB, ⟨m1, m2, m3, m4⟩, l1, hCL, hCM, hCX, hCS, hS0, hS1, hS2, hS3⟩ := id hC'
  obtain ⟨d5, d7, d10, d12, d14, d16, d18, d21, d23, d25, d27, d29, d31, d33⟩ := LenS2 l1
  obtain ⟨w166, w168, w170, w172, w174, w176, w178, w180, w182⟩ := id hW
  have hnl : nl ≤ 20 := hM.1.2.2.2.2.2.2.2.1
  have hnb : nb ≤ 8 := hM.1.2.2.2.2.2.2.2.2.1
  have hnx : nx ≤ 60 := hM.1.2.2.2.2.2.2.2.2.2
  have iL := fun x => s_isLot (A := A) (F := F) (P := P) n2 (by omega) x
  have iB := fun x => s_isBidder (A := A) (F := F) (P := P) n3 (by omega) x
  have iX := fun x => s_isBid (A := A) (F := F) (P := P) n4 (by omega) x
  have g0 : ix (nI k) nl := ⟨k, hk, rfl⟩
  obtain ⟨d1, d2, d3, d4, d5', d6⟩ := hK.1 k hk
  have hb0 := cl_bid (P := P) hC' hW hS hK hk (p := 0) (by omega)
  have hb1 := cl_bid (P := P) hC' hW hS hK hk (p := 1) (by omega)
  rw [← hS.2.2.2.1 k hk] at hb0
  rw [← hS.2.2.2.2.1 k hk] at hb1
  rw [e_Pa_sale 1 _ _ _ rfl]
  simp (maxSteps := 2000000) (disch := (first | omega | (simp (disch := omega) only [up_eq, up_ne, cpA_o, cpF_o, List.length_set] <;> omega) | fail)) only [ob_s, am_bi_s, am_bv_s, am_bl_s, ↓bif_d, lits, nI_addS, nI_mulS, nI_subS, nI_lt', nI_le', nI_eq', ↓rd_nI, ↓wrH, up_eq, up_ne, up_up, up_sw, List.set_set, g_seq, g_sne, Nat.reduceEqDiff, ↓reduceIte, List.length_set, Nat.add_sub_cancel_left, Nat.add_sub_cancel, ite_true, ite_false, if_true, if_false, not_true_eq_false, not_false_eq_true, Bool.and_true, Bool.true_and, true_or, or_true, false_or, or_false, and_true, true_and, and_false, false_and, Nat.not_lt_zero, hpRX, hpIX, hpFX, hpLX, hpSX, ↓rgX, ↓rpX, Nat.reduceLeDiff, Nat.reduceLT, Nat.reduceAdd, Nat.reduceMul, Nat.reduceSub, iL, b01_0, g0, hcl]
theorem k_sale_e (hC : Cx A F r nB nl nb nx) (x v : Int32) (g0 : ¬ ix x nl) : am_cl m_Pa_sale (.ref 1 :: [.int x, .int v]) (heap A F P) = some (some (.int (-nI 1)), heap A F P) := by
  classical
  obtain ⟨hM, hB, ⟨n1, n2, n3, n4⟩, l1, hCL, hCM, hCX, hCS, hS0, hS1, hS2, hS3⟩ := id hC
  obtain ⟨c5, c7, c10, c12, c14, c16, c18, c21, c23, c25, c27, c29, c31, c33⟩ := LenS2 l1
  have hnl : nl ≤ 20 := hM.1.2.2.2.2.2.2.2.1
  have hnb : nb ≤ 8 := hM.1.2.2.2.2.2.2.2.2.1
  have hnx : nx ≤ 60 := hM.1.2.2.2.2.2.2.2.2.2
  have hnB : nB ≤ 8 := hM.1.2.2.2.2.2.2.1
  have iL := fun x => s_isLot (A := A) (F := F) (P := P) n2 (by omega) x
  have iB := fun x => s_isBidder (A := A) (F := F) (P := P) n3 (by omega) x
  have iX := fun x => s_isBid (A := A) (F := F) (P := P) n4 (by omega) x
  rw [e_Pa_sale 1 _ _ _ rfl]
  simp (maxSteps := 2000000) (disch := (first | omega | (simp (disch := omega) only [up_eq, up_ne, cpA_o, cpF_o, List.length_set] <;> omega) | fail)) only [ob_s, am_bi_s, am_bv_s, am_bl_s, ↓bif_d, lits, nI_addS, nI_mulS, nI_subS, nI_lt', nI_le', nI_eq', ↓rd_nI, ↓wrH, up_eq, up_ne, up_up, up_sw, List.set_set, g_seq, g_sne, Nat.reduceEqDiff, ↓reduceIte, List.length_set, Nat.add_sub_cancel_left, Nat.add_sub_cancel, ite_true, ite_false, if_true, if_false, not_true_eq_false, not_false_eq_true, Bool.and_true, Bool.true_and, true_or, or_true, false_or, or_false, and_true, true_and, and_false, false_and, Nat.not_lt_zero, hpRX, hpIX, hpFX, hpLX, hpSX, ↓rgX, ↓rpX, Nat.reduceLeDiff, Nat.reduceLT, Nat.reduceAdd, Nat.reduceMul, Nat.reduceSub, iL, b01_0, g0]
theorem k_bidOf0 (hI : HQ A F P A' F' r nB nl nb nx L B Fi Se Mn Bu Pr) {k : Nat} (hk : k < nx) : am_cl m_Pa_bidOf (.ref 1 :: [.int (nI k), .int (nI 0)]) (heap A F P) = some (some (.int (nI (lotN r k))), heap A' F' P) := by
  classical
  obtain ⟨hW, hK, hC', hC0, hS, hcl⟩ := id hI
  obtain ⟨-, -, ⟨n1, n2, n3, n4⟩, l0, hAL, hAM, hAX, hAS, -⟩ := id hC0
  obtain ⟨c5, c7, c10, c12, c14, c16, c18, c21, c23, c25, c27, c29, c31, c33⟩ := LenS2 l0
  obtain ⟨hM, hB, ⟨m1, m2, m3, m4⟩, l1, hCL, hCM, hCX, hCS, hS0, hS1, hS2, hS3⟩ := id hC'
  obtain ⟨d5, d7, d10, d12, d14, d16, d18, d21, d23, d25, d27, d29, d31, d33⟩ := LenS2 l1
  obtain ⟨w166, w168, w170, w172, w174, w176, w178, w180, w182⟩ := id hW
  have hnl : nl ≤ 20 := hM.1.2.2.2.2.2.2.2.1
  have hnb : nb ≤ 8 := hM.1.2.2.2.2.2.2.2.2.1
  have hnx : nx ≤ 60 := hM.1.2.2.2.2.2.2.2.2.2
  have iL := fun x => s_isLot (A := A) (F := F) (P := P) n2 (by omega) x
  have iB := fun x => s_isBidder (A := A) (F := F) (P := P) n3 (by omega) x
  have iX := fun x => s_isBid (A := A) (F := F) (P := P) n4 (by omega) x
  have g0 : ix (nI k) nx := ⟨k, hk, rfl⟩
  obtain ⟨p0, p1, p2, p3, p4, p5, -⟩ := hCX k hk
  have e178 := (hK.2 k hk (hM.2.2 k hk).1.1).1
  rw [e_Pa_bidOf 1 _ _ _ rfl]
  simp (maxSteps := 2000000) (disch := (first | omega | (simp (disch := omega) only [up_eq, up_ne, cpA_o, cpF_o, List.length_set] <;> omega) | fail)) only [ob_s, am_bi_s, am_bv_s, am_bl_s, ↓bif_d, lits, nI_addS, nI_mulS, nI_subS, nI_lt', nI_le', nI_eq', ↓rd_nI, ↓wrH, up_eq, up_ne, up_up, up_sw, List.set_set, g_seq, g_sne, Nat.reduceEqDiff, ↓reduceIte, List.length_set, Nat.add_sub_cancel_left, Nat.add_sub_cancel, ite_true, ite_false, if_true, if_false, not_true_eq_false, not_false_eq_true, Bool.and_true, Bool.true_and, true_or, or_true, false_or, or_false, and_true, true_and, and_false, false_and, Nat.not_lt_zero, hpRX, hpIX, hpFX, hpLX, hpSX, ↓rgX, ↓rpX, Nat.reduceLeDiff, Nat.reduceLT, Nat.reduceAdd, Nat.reduceMul, Nat.reduceSub, iX, b01_0, g0, hcl, p1]
theorem k_bidOf1 (hI : HQ A F P A' F' r nB nl nb nx L B Fi Se Mn Bu Pr) {k : Nat} (hk : k < nx) : am_cl m_Pa_bidOf (.ref 1 :: [.int (nI k), .int (nI 1)]) (heap A F P) = some (some (.int (nI (byN r k))), heap A' F' P) := by
  classical
  obtain ⟨hW, hK, hC', hC0, hS, hcl⟩ := id hI
  obtain ⟨-, -, ⟨n1, n2, n3, n4⟩, l0, hAL, hAM, hAX, hAS, -⟩ := id hC0
  obtain ⟨c5, c7, c10, c12, c14, c16, c18, c21, c23, c25, c27, c29, c31, c33⟩ := LenS2 l0
  obtain ⟨hM, hB, ⟨m1, m2, m3, m4⟩, l1, hCL, hCM, hCX, hCS, hS0, hS1, hS2, hS3⟩ := id hC'
  obtain ⟨d5, d7, d10, d12, d14, d16, d18, d21, d23, d25, d27, d29, d31, d33⟩ := LenS2 l1
  obtain ⟨w166, w168, w170, w172, w174, w176, w178, w180, w182⟩ := id hW
  have hnl : nl ≤ 20 := hM.1.2.2.2.2.2.2.2.1
  have hnb : nb ≤ 8 := hM.1.2.2.2.2.2.2.2.2.1
  have hnx : nx ≤ 60 := hM.1.2.2.2.2.2.2.2.2.2
  have iL := fun x => s_isLot (A := A) (F := F) (P := P) n2 (by omega) x
  have iB := fun x => s_isBidder (A := A) (F := F) (P := P) n3 (by omega) x
  have iX := fun x => s_isBid (A := A) (F := F) (P := P) n4 (by omega) x
  have g0 : ix (nI k) nx := ⟨k, hk, rfl⟩
  obtain ⟨p0, p1, p2, p3, p4, p5, -⟩ := hCX k hk
  have e178 := (hK.2 k hk (hM.2.2 k hk).1.1).1
  rw [e_Pa_bidOf 1 _ _ _ rfl]
  simp (maxSteps := 2000000) (disch := (first | omega | (simp (disch := omega) only [up_eq, up_ne, cpA_o, cpF_o, List.length_set] <;> omega) | fail)) only [ob_s, am_bi_s, am_bv_s, am_bl_s, ↓bif_d, lits, nI_addS, nI_mulS, nI_subS, nI_lt', nI_le', nI_eq', ↓rd_nI, ↓wrH, up_eq, up_ne, up_up, up_sw, List.set_set, g_seq, g_sne, Nat.reduceEqDiff, ↓reduceIte, List.length_set, Nat.add_sub_cancel_left, Nat.add_sub_cancel, ite_true, ite_false, if_true, if_false, not_true_eq_false, not_false_eq_true, Bool.and_true, Bool.true_and, true_or, or_true, false_or, or_false, and_true, true_and, and_false, false_and, Nat.not_lt_zero, hpRX, hpIX, hpFX, hpLX, hpSX, ↓rgX, ↓rpX, Nat.reduceLeDiff, Nat.reduceLT, Nat.reduceAdd, Nat.reduceMul, Nat.reduceSub, iX, b01_0, g0, hcl, p0]
theorem k_bidOf2 (hI : HQ A F P A' F' r nB nl nb nx L B Fi Se Mn Bu Pr) {k : Nat} (hk : k < nx) : am_cl m_Pa_bidOf (.ref 1 :: [.int (nI k), .int (nI 2)]) (heap A F P) = some (some (.int (g r (228 + k))), heap A' F' P) := by
  classical
  obtain ⟨hW, hK, hC', hC0, hS, hcl⟩ := id hI
  obtain ⟨-, -, ⟨n1, n2, n3, n4⟩, l0, hAL, hAM, hAX, hAS, -⟩ := id hC0
  obtain ⟨c5, c7, c10, c12, c14, c16, c18, c21, c23, c25, c27, c29, c31, c33⟩ := LenS2 l0
  obtain ⟨hM, hB, ⟨m1, m2, m3, m4⟩, l1, hCL, hCM, hCX, hCS, hS0, hS1, hS2, hS3⟩ := id hC'
  obtain ⟨d5, d7, d10, d12, d14, d16, d18, d21, d23, d25, d27, d29, d31, d33⟩ := LenS2 l1
  obtain ⟨w166, w168, w170, w172, w174, w176, w178, w180, w182⟩ := id hW
  have hnl : nl ≤ 20 := hM.1.2.2.2.2.2.2.2.1
  have hnb : nb ≤ 8 := hM.1.2.2.2.2.2.2.2.2.1
  have hnx : nx ≤ 60 := hM.1.2.2.2.2.2.2.2.2.2
  have iL := fun x => s_isLot (A := A) (F := F) (P := P) n2 (by omega) x
  have iB := fun x => s_isBidder (A := A) (F := F) (P := P) n3 (by omega) x
  have iX := fun x => s_isBid (A := A) (F := F) (P := P) n4 (by omega) x
  have g0 : ix (nI k) nx := ⟨k, hk, rfl⟩
  obtain ⟨p0, p1, p2, p3, p4, p5, -⟩ := hCX k hk
  have e178 := (hK.2 k hk (hM.2.2 k hk).1.1).1
  rw [e_Pa_bidOf 1 _ _ _ rfl]
  simp (maxSteps := 2000000) (disch := (first | omega | (simp (disch := omega) only [up_eq, up_ne, cpA_o, cpF_o, List.length_set] <;> omega) | fail)) only [ob_s, am_bi_s, am_bv_s, am_bl_s, ↓bif_d, lits, nI_addS, nI_mulS, nI_subS, nI_lt', nI_le', nI_eq', ↓rd_nI, ↓wrH, up_eq, up_ne, up_up, up_sw, List.set_set, g_seq, g_sne, Nat.reduceEqDiff, ↓reduceIte, List.length_set, Nat.add_sub_cancel_left, Nat.add_sub_cancel, ite_true, ite_false, if_true, if_false, not_true_eq_false, not_false_eq_true, Bool.and_true, Bool.true_and, true_or, or_true, false_or, or_false, and_true, true_and, and_false, false_and, Nat.not_lt_zero, hpRX, hpIX, hpFX, hpLX, hpSX, ↓rgX, ↓rpX, Nat.reduceLeDiff, Nat.reduceLT, Nat.reduceAdd, Nat.reduceMul, Nat.reduceSub, iX, b01_0, g0, hcl, p2]
theorem k_bidOf3 (hI : HQ A F P A' F' r nB nl nb nx L B Fi Se Mn Bu Pr) {k : Nat} (hk : k < nx) : am_cl m_Pa_bidOf (.ref 1 :: [.int (nI k), .int (nI 3)]) (heap A F P) = some (some (.int (g r (288 + k))), heap A' F' P) := by
  classical
  obtain ⟨hW, hK, hC', hC0, hS, hcl⟩ := id hI
  obtain ⟨-, -, ⟨n1, n2, n3, n4⟩, l0, hAL, hAM, hAX, hAS, -⟩ := id hC0
  obtain ⟨c5, c7, c10, c12, c14, c16, c18, c21, c23, c25, c27, c29, c31, c33⟩ := LenS2 l0
  obtain ⟨hM, hB, ⟨m1, m2, m3, m4⟩, l1, hCL, hCM, hCX, hCS, hS0, hS1, hS2, hS3⟩ := id hC'
  obtain ⟨d5, d7, d10, d12, d14, d16, d18, d21, d23, d25, d27, d29, d31, d33⟩ := LenS2 l1
  obtain ⟨w166, w168, w170, w172, w174, w176, w178, w180, w182⟩ := id hW
  have hnl : nl ≤ 20 := hM.1.2.2.2.2.2.2.2.1
  have hnb : nb ≤ 8 := hM.1.2.2.2.2.2.2.2.2.1
  have hnx : nx ≤ 60 := hM.1.2.2.2.2.2.2.2.2.2
  have iL := fun x => s_isLot (A := A) (F := F) (P := P) n2 (by omega) x
  have iB := fun x => s_isBidder (A := A) (F := F) (P := P) n3 (by omega) x
  have iX := fun x => s_isBid (A := A) (F := F) (P := P) n4 (by omega) x
  have g0 : ix (nI k) nx := ⟨k, hk, rfl⟩
  obtain ⟨p0, p1, p2, p3, p4, p5, -⟩ := hCX k hk
  have e178 := (hK.2 k hk (hM.2.2 k hk).1.1).1
  rw [e_Pa_bidOf 1 _ _ _ rfl]
  simp (maxSteps := 2000000) (disch := (first | omega | (simp (disch := omega) only [up_eq, up_ne, cpA_o, cpF_o, List.length_set] <;> omega) | fail)) only [ob_s, am_bi_s, am_bv_s, am_bl_s, ↓bif_d, lits, nI_addS, nI_mulS, nI_subS, nI_lt', nI_le', nI_eq', ↓rd_nI, ↓wrH, up_eq, up_ne, up_up, up_sw, List.set_set, g_seq, g_sne, Nat.reduceEqDiff, ↓reduceIte, List.length_set, Nat.add_sub_cancel_left, Nat.add_sub_cancel, ite_true, ite_false, if_true, if_false, not_true_eq_false, not_false_eq_true, Bool.and_true, Bool.true_and, true_or, or_true, false_or, or_false, and_true, true_and, and_false, false_and, Nat.not_lt_zero, hpRX, hpIX, hpFX, hpLX, hpSX, ↓rgX, ↓rpX, Nat.reduceLeDiff, Nat.reduceLT, Nat.reduceAdd, Nat.reduceMul, Nat.reduceSub, iX, b01_0, g0, hcl, p3]
theorem k_bidOf4 (hI : HQ A F P A' F' r nB nl nb nx L B Fi Se Mn Bu Pr) {k : Nat} (hk : k < nx) : am_cl m_Pa_bidOf (.ref 1 :: [.int (nI k), .int (nI 4)]) (heap A F P) = some (some (.int (g r (348 + k))), heap A' F' P) := by
  classical
  obtain ⟨hW, hK, hC', hC0, hS, hcl⟩ := id hI
  obtain ⟨-, -, ⟨n1, n2, n3, n4⟩, l0, hAL, hAM, hAX, hAS, -⟩ := id hC0
  obtain ⟨c5, c7, c10, c12, c14, c16, c18, c21, c23, c25, c27, c29, c31, c33⟩ := LenS2 l0
  obtain ⟨hM, hB, ⟨m1, m2, m3, m4⟩, l1, hCL, hCM, hCX, hCS, hS0, hS1, hS2, hS3⟩ := id hC'
  obtain ⟨d5, d7, d10, d12, d14, d16, d18, d21, d23, d25, d27, d29, d31, d33⟩ := LenS2 l1
  obtain ⟨w166, w168, w170, w172, w174, w176, w178, w180, w182⟩ := id hW
  have hnl : nl ≤ 20 := hM.1.2.2.2.2.2.2.2.1
  have hnb : nb ≤ 8 := hM.1.2.2.2.2.2.2.2.2.1
  have hnx : nx ≤ 60 := hM.1.2.2.2.2.2.2.2.2.2
  have iL := fun x => s_isLot (A := A) (F := F) (P := P) n2 (by omega) x
  have iB := fun x => s_isBidder (A := A) (F := F) (P := P) n3 (by omega) x
  have iX := fun x => s_isBid (A := A) (F := F) (P := P) n4 (by omega) x
  have g0 : ix (nI k) nx := ⟨k, hk, rfl⟩
  obtain ⟨p0, p1, p2, p3, p4, p5, -⟩ := hCX k hk
  have e178 := (hK.2 k hk (hM.2.2 k hk).1.1).1
  rw [e_Pa_bidOf 1 _ _ _ rfl]
  simp (maxSteps := 2000000) (disch := (first | omega | (simp (disch := omega) only [up_eq, up_ne, cpA_o, cpF_o, List.length_set] <;> omega) | fail)) only [ob_s, am_bi_s, am_bv_s, am_bl_s, ↓bif_d, lits, nI_addS, nI_mulS, nI_subS, nI_lt', nI_le', nI_eq', ↓rd_nI, ↓wrH, up_eq, up_ne, up_up, up_sw, List.set_set, g_seq, g_sne, Nat.reduceEqDiff, ↓reduceIte, List.length_set, Nat.add_sub_cancel_left, Nat.add_sub_cancel, ite_true, ite_false, if_true, if_false, not_true_eq_false, not_false_eq_true, Bool.and_true, Bool.true_and, true_or, or_true, false_or, or_false, and_true, true_and, and_false, false_and, Nat.not_lt_zero, hpRX, hpIX, hpFX, hpLX, hpSX, ↓rgX, ↓rpX, Nat.reduceLeDiff, Nat.reduceLT, Nat.reduceAdd, Nat.reduceMul, Nat.reduceSub, iX, b01_0, g0, hcl, p4]
theorem k_bidOf5 (hI : HQ A F P A' F' r nB nl nb nx L B Fi Se Mn Bu Pr) {k : Nat} (hk : k < nx) : am_cl m_Pa_bidOf (.ref 1 :: [.int (nI k), .int (nI 5)]) (heap A F P) = some (some (.int (g r (408 + k))), heap A' F' P) := by
  classical
  obtain ⟨hW, hK, hC', hC0, hS, hcl⟩ := id hI
  obtain ⟨-, -, ⟨n1, n2, n3, n4⟩, l0, hAL, hAM, hAX, hAS, -⟩ := id hC0
  obtain ⟨c5, c7, c10, c12, c14, c16, c18, c21, c23, c25, c27, c29, c31, c33⟩ := LenS2 l0
  obtain ⟨hM, hB, ⟨m1, m2, m3, m4⟩, l1, hCL, hCM, hCX, hCS, hS0, hS1, hS2, hS3⟩ := id hC'
  obtain ⟨d5, d7, d10, d12, d14, d16, d18, d21, d23, d25, d27, d29, d31, d33⟩ := LenS2 l1
  obtain ⟨w166, w168, w170, w172, w174, w176, w178, w180, w182⟩ := id hW
  have hnl : nl ≤ 20 := hM.1.2.2.2.2.2.2.2.1
  have hnb : nb ≤ 8 := hM.1.2.2.2.2.2.2.2.2.1
  have hnx : nx ≤ 60 := hM.1.2.2.2.2.2.2.2.2.2
  have iL := fun x => s_isLot (A := A) (F := F) (P := P) n2 (by omega) x
  have iB := fun x => s_isBidder (A := A) (F := F) (P := P) n3 (by omega) x
  have iX := fun x => s_isBid (A := A) (F := F) (P := P) n4 (by omega) x
  have g0 : ix (nI k) nx := ⟨k, hk, rfl⟩
  obtain ⟨p0, p1, p2, p3, p4, p5, -⟩ := hCX k hk
  have e178 := (hK.2 k hk (hM.2.2 k hk).1.1).1
  rw [e_Pa_bidOf 1 _ _ _ rfl]
  simp (maxSteps := 2000000) (disch := (first | omega | (simp (disch := omega) only [up_eq, up_ne, cpA_o, cpF_o, List.length_set] <;> omega) | fail)) only [ob_s, am_bi_s, am_bv_s, am_bl_s, ↓bif_d, lits, nI_addS, nI_mulS, nI_subS, nI_lt', nI_le', nI_eq', ↓rd_nI, ↓wrH, up_eq, up_ne, up_up, up_sw, List.set_set, g_seq, g_sne, Nat.reduceEqDiff, ↓reduceIte, List.length_set, Nat.add_sub_cancel_left, Nat.add_sub_cancel, ite_true, ite_false, if_true, if_false, not_true_eq_false, not_false_eq_true, Bool.and_true, Bool.true_and, true_or, or_true, false_or, or_false, and_true, true_and, and_false, false_and, Nat.not_lt_zero, hpRX, hpIX, hpFX, hpLX, hpSX, ↓rgX, ↓rpX, Nat.reduceLeDiff, Nat.reduceLT, Nat.reduceAdd, Nat.reduceMul, Nat.reduceSub, iX, b01_0, g0, hcl, p5]
theorem k_bidOf6 (hI : HQ A F P A' F' r nB nl nb nx L B Fi Se Mn Bu Pr) {k : Nat} (hk : k < nx) : am_cl m_Pa_bidOf (.ref 1 :: [.int (nI k), .int (nI 6)]) (heap A F P) = some (some (.int (mWo r nB L k)), heap A' F' P) := by
  classical
  obtain ⟨hW, hK, hC', hC0, hS, hcl⟩ := id hI
  obtain ⟨-, -, ⟨n1, n2, n3, n4⟩, l0, hAL, hAM, hAX, hAS, -⟩ := id hC0
  obtain ⟨c5, c7, c10, c12, c14, c16, c18, c21, c23, c25, c27, c29, c31, c33⟩ := LenS2 l0
  obtain ⟨hM, hB, ⟨m1, m2, m3, m4⟩, l1, hCL, hCM, hCX, hCS, hS0, hS1, hS2, hS3⟩ := id hC'
  obtain ⟨d5, d7, d10, d12, d14, d16, d18, d21, d23, d25, d27, d29, d31, d33⟩ := LenS2 l1
  obtain ⟨w166, w168, w170, w172, w174, w176, w178, w180, w182⟩ := id hW
  have hnl : nl ≤ 20 := hM.1.2.2.2.2.2.2.2.1
  have hnb : nb ≤ 8 := hM.1.2.2.2.2.2.2.2.2.1
  have hnx : nx ≤ 60 := hM.1.2.2.2.2.2.2.2.2.2
  have iL := fun x => s_isLot (A := A) (F := F) (P := P) n2 (by omega) x
  have iB := fun x => s_isBidder (A := A) (F := F) (P := P) n3 (by omega) x
  have iX := fun x => s_isBid (A := A) (F := F) (P := P) n4 (by omega) x
  have g0 : ix (nI k) nx := ⟨k, hk, rfl⟩
  obtain ⟨p0, p1, p2, p3, p4, p5, -⟩ := hCX k hk
  have e178 := (hK.2 k hk (hM.2.2 k hk).1.1).1
  rw [e_Pa_bidOf 1 _ _ _ rfl]
  simp (maxSteps := 2000000) (disch := (first | omega | (simp (disch := omega) only [up_eq, up_ne, cpA_o, cpF_o, List.length_set] <;> omega) | fail)) only [ob_s, am_bi_s, am_bv_s, am_bl_s, ↓bif_d, lits, nI_addS, nI_mulS, nI_subS, nI_lt', nI_le', nI_eq', ↓rd_nI, ↓wrH, up_eq, up_ne, up_up, up_sw, List.set_set, g_seq, g_sne, Nat.reduceEqDiff, ↓reduceIte, List.length_set, Nat.add_sub_cancel_left, Nat.add_sub_cancel, ite_true, ite_false, if_true, if_false, not_true_eq_false, not_false_eq_true, Bool.and_true, Bool.true_and, true_or, or_true, false_or, or_false, and_true, true_and, and_false, false_and, Nat.not_lt_zero, hpRX, hpIX, hpFX, hpLX, hpSX, ↓rgX, ↓rpX, Nat.reduceLeDiff, Nat.reduceLT, Nat.reduceAdd, Nat.reduceMul, Nat.reduceSub, iX, b01_0, g0, hcl, e178]
theorem k_bidOf_e (hC : Cx A F r nB nl nb nx) (x v : Int32) (g0 : ¬ ix x nx) : am_cl m_Pa_bidOf (.ref 1 :: [.int x, .int v]) (heap A F P) = some (some (.int (-nI 1)), heap A F P) := by
  classical
  obtain ⟨hM, hB, ⟨n1, n2, n3, n4⟩, l1, hCL, hCM, hCX, hCS, hS0, hS1, hS2, hS3⟩ := id hC
  obtain ⟨c5, c7, c10, c12, c14, c16, c18, c21, c23, c25, c27, c29, c31, c33⟩ := LenS2 l1
  have hnl : nl ≤ 20 := hM.1.2.2.2.2.2.2.2.1
  have hnb : nb ≤ 8 := hM.1.2.2.2.2.2.2.2.2.1
  have hnx : nx ≤ 60 := hM.1.2.2.2.2.2.2.2.2.2
  have hnB : nB ≤ 8 := hM.1.2.2.2.2.2.2.1
  have iL := fun x => s_isLot (A := A) (F := F) (P := P) n2 (by omega) x
  have iB := fun x => s_isBidder (A := A) (F := F) (P := P) n3 (by omega) x
  have iX := fun x => s_isBid (A := A) (F := F) (P := P) n4 (by omega) x
  rw [e_Pa_bidOf 1 _ _ _ rfl]
  simp (maxSteps := 2000000) (disch := (first | omega | (simp (disch := omega) only [up_eq, up_ne, cpA_o, cpF_o, List.length_set] <;> omega) | fail)) only [ob_s, am_bi_s, am_bv_s, am_bl_s, ↓bif_d, lits, nI_addS, nI_mulS, nI_subS, nI_lt', nI_le', nI_eq', ↓rd_nI, ↓wrH, up_eq, up_ne, up_up, up_sw, List.set_set, g_seq, g_sne, Nat.reduceEqDiff, ↓reduceIte, List.length_set, Nat.add_sub_cancel_left, Nat.add_sub_cancel, ite_true, ite_false, if_true, if_false, not_true_eq_false, not_false_eq_true, Bool.and_true, Bool.true_and, true_or, or_true, false_or, or_false, and_true, true_and, and_false, false_and, Nat.not_lt_zero, hpRX, hpIX, hpFX, hpLX, hpSX, ↓rgX, ↓rpX, Nat.reduceLeDiff, Nat.reduceLT, Nat.reduceAdd, Nat.reduceMul, Nat.reduceSub, iX, b01_0, g0]
theorem k_fate (hI : HQ A F P A' F' r nB nl nb nx L B Fi Se Mn Bu Pr) {k : Nat} (hk : k < nx) : am_cl m_Pa_fate (.ref 1 :: [.int (nI k)]) (heap A F P) = some (some (.int (mFa r nB L B Fi Bu k)), heap A' F' P) := by
  classical
  obtain ⟨hW, hK, hC', hC0, hS, hcl⟩ := id hI
  obtain ⟨-, -, ⟨n1, n2, n3, n4⟩, l0, hAL, hAM, hAX, hAS, -⟩ := id hC0
  obtain ⟨c5, c7, c10, c12, c14, c16, c18, c21, c23, c25, c27, c29, c31, c33⟩ := LenS2 l0
  obtain ⟨hM, hB, ⟨m1, m2, m3, m4⟩, l1, hCL, hCM, hCX, hCS, hS0, hS1, hS2, hS3⟩ := id hC'
  obtain ⟨d5, d7, d10, d12, d14, d16, d18, d21, d23, d25, d27, d29, d31, d33⟩ := LenS2 l1
  obtain ⟨w166, w168, w170, w172, w174, w176, w178, w180, w182⟩ := id hW
  have hnl : nl ≤ 20 := hM.1.2.2.2.2.2.2.2.1
  have hnb : nb ≤ 8 := hM.1.2.2.2.2.2.2.2.2.1
  have hnx : nx ≤ 60 := hM.1.2.2.2.2.2.2.2.2.2
  have iL := fun x => s_isLot (A := A) (F := F) (P := P) n2 (by omega) x
  have iB := fun x => s_isBidder (A := A) (F := F) (P := P) n3 (by omega) x
  have iX := fun x => s_isBid (A := A) (F := F) (P := P) n4 (by omega) x
  have g0 : ix (nI k) nx := ⟨k, hk, rfl⟩
  have e180 := (hK.2 k hk (hM.2.2 k hk).1.1).2
  rw [e_Pa_fate 1 _ _ rfl]
  simp (maxSteps := 2000000) (disch := (first | omega | (simp (disch := omega) only [up_eq, up_ne, cpA_o, cpF_o, List.length_set] <;> omega) | fail)) only [ob_s, am_bi_s, am_bv_s, am_bl_s, ↓bif_d, lits, nI_addS, nI_mulS, nI_subS, nI_lt', nI_le', nI_eq', ↓rd_nI, ↓wrH, up_eq, up_ne, up_up, up_sw, List.set_set, g_seq, g_sne, Nat.reduceEqDiff, ↓reduceIte, List.length_set, Nat.add_sub_cancel_left, Nat.add_sub_cancel, ite_true, ite_false, if_true, if_false, not_true_eq_false, not_false_eq_true, Bool.and_true, Bool.true_and, true_or, or_true, false_or, or_false, and_true, true_and, and_false, false_and, Nat.not_lt_zero, hpRX, hpIX, hpFX, hpLX, hpSX, ↓rgX, ↓rpX, Nat.reduceLeDiff, Nat.reduceLT, Nat.reduceAdd, Nat.reduceMul, Nat.reduceSub, iX, b01_0, g0, hcl, e180]
theorem k_fate_e (hC : Cx A F r nB nl nb nx) (x : Int32) (g0 : ¬ ix x nx) : am_cl m_Pa_fate (.ref 1 :: [.int x]) (heap A F P) = some (some (.int (-nI 1)), heap A F P) := by
  classical
  obtain ⟨hM, hB, ⟨n1, n2, n3, n4⟩, l1, hCL, hCM, hCX, hCS, hS0, hS1, hS2, hS3⟩ := id hC
  obtain ⟨c5, c7, c10, c12, c14, c16, c18, c21, c23, c25, c27, c29, c31, c33⟩ := LenS2 l1
  have hnl : nl ≤ 20 := hM.1.2.2.2.2.2.2.2.1
  have hnb : nb ≤ 8 := hM.1.2.2.2.2.2.2.2.2.1
  have hnx : nx ≤ 60 := hM.1.2.2.2.2.2.2.2.2.2
  have hnB : nB ≤ 8 := hM.1.2.2.2.2.2.2.1
  have iL := fun x => s_isLot (A := A) (F := F) (P := P) n2 (by omega) x
  have iB := fun x => s_isBidder (A := A) (F := F) (P := P) n3 (by omega) x
  have iX := fun x => s_isBid (A := A) (F := F) (P := P) n4 (by omega) x
  rw [e_Pa_fate 1 _ _ rfl]
  simp (maxSteps := 2000000) (disch := (first | omega | (simp (disch := omega) only [up_eq, up_ne, cpA_o, cpF_o, List.length_set] <;> omega) | fail)) only [ob_s, am_bi_s, am_bv_s, am_bl_s, ↓bif_d, lits, nI_addS, nI_mulS, nI_subS, nI_lt', nI_le', nI_eq', ↓rd_nI, ↓wrH, up_eq, up_ne, up_up, up_sw, List.set_set, g_seq, g_sne, Nat.reduceEqDiff, ↓reduceIte, List.length_set, Nat.add_sub_cancel_left, Nat.add_sub_cancel, ite_true, ite_false, if_true, if_false, not_true_eq_false, not_false_eq_true, Bool.and_true, Bool.true_and, true_or, or_true, false_or, or_false, and_true, true_and, and_false, false_and, Nat.not_lt_zero, hpRX, hpIX, hpFX, hpLX, hpSX, ↓rgX, ↓rpX, Nat.reduceLeDiff, Nat.reduceLT, Nat.reduceAdd, Nat.reduceMul, Nat.reduceSub, iX, b01_0, g0]
theorem k_ranked (hI : HQ A F P A' F' r nB nl nb nx L B Fi Se Mn Bu Pr) {k : Nat} (hk : k < nl) {p : Nat} (hp : p < 2 ^ 31) : am_cl m_Pa_ranked (.ref 1 :: [.int (nI k), .int (nI p)]) (heap A F P) = some (some (.int (mRk r nB L B k (nI p) 8 0)), heap A' F' P) := by
  classical
  obtain ⟨hW, hK, hC', hC0, hS, hcl⟩ := id hI
  obtain ⟨-, -, ⟨n1, n2, n3, n4⟩, l0, hAL, hAM, hAX, hAS, -⟩ := id hC0
  obtain ⟨c5, c7, c10, c12, c14, c16, c18, c21, c23, c25, c27, c29, c31, c33⟩ := LenS2 l0
  obtain ⟨hM, hB, ⟨m1, m2, m3, m4⟩, l1, hCL, hCM, hCX, hCS, hS0, hS1, hS2, hS3⟩ := id hC'
  obtain ⟨d5, d7, d10, d12, d14, d16, d18, d21, d23, d25, d27, d29, d31, d33⟩ := LenS2 l1
  obtain ⟨w166, w168, w170, w172, w174, w176, w178, w180, w182⟩ := id hW
  have hnl : nl ≤ 20 := hM.1.2.2.2.2.2.2.2.1
  have hnb : nb ≤ 8 := hM.1.2.2.2.2.2.2.2.2.1
  have hnx : nx ≤ 60 := hM.1.2.2.2.2.2.2.2.2.2
  have iL := fun x => s_isLot (A := A) (F := F) (P := P) n2 (by omega) x
  have iB := fun x => s_isBidder (A := A) (F := F) (P := P) n3 (by omega) x
  have iX := fun x => s_isBid (A := A) (F := F) (P := P) n4 (by omega) x
  have g0 : ix (nI k) nl := ⟨k, hk, rfl⟩
  have e0 : nI 0 ≤ nI p := nI_le (Nat.zero_le _) hp
  have hb := cl_bid (P := P) hC' hW hS hK hk hp
  rw [e_Pa_ranked 1 _ _ _ rfl]
  simp (maxSteps := 2000000) (disch := (first | omega | (simp (disch := omega) only [up_eq, up_ne, cpA_o, cpF_o, List.length_set] <;> omega) | fail)) only [ob_s, am_bi_s, am_bv_s, am_bl_s, ↓bif_d, lits, nI_addS, nI_mulS, nI_subS, nI_lt', nI_le', nI_eq', ↓rd_nI, ↓wrH, up_eq, up_ne, up_up, up_sw, List.set_set, g_seq, g_sne, Nat.reduceEqDiff, ↓reduceIte, List.length_set, Nat.add_sub_cancel_left, Nat.add_sub_cancel, ite_true, ite_false, if_true, if_false, not_true_eq_false, not_false_eq_true, Bool.and_true, Bool.true_and, true_or, or_true, false_or, or_false, and_true, true_and, and_false, false_and, Nat.not_lt_zero, hpRX, hpIX, hpFX, hpLX, hpSX, ↓rgX, ↓rpX, Nat.reduceLeDiff, Nat.reduceLT, Nat.reduceAdd, Nat.reduceMul, Nat.reduceSub, iL, b01_0, g0, hcl, e0, Nat.zero_le, hb]
theorem k_ranked_e0 (hC : Cx A F r nB nl nb nx) (x v : Int32) (g0 : ¬ ix x nl) : am_cl m_Pa_ranked (.ref 1 :: [.int x, .int v]) (heap A F P) = some (some (.int (-nI 1)), heap A F P) := by
  classical
  obtain ⟨hM, hB, ⟨n1, n2, n3, n4⟩, l1, hCL, hCM, hCX, hCS, hS0, hS1, hS2, hS3⟩ := id hC
  obtain ⟨c5, c7, c10, c12, c14, c16, c18, c21, c23, c25, c27, c29, c31, c33⟩ := LenS2 l1
  have hnl : nl ≤ 20 := hM.1.2.2.2.2.2.2.2.1
  have hnb : nb ≤ 8 := hM.1.2.2.2.2.2.2.2.2.1
  have hnx : nx ≤ 60 := hM.1.2.2.2.2.2.2.2.2.2
  have hnB : nB ≤ 8 := hM.1.2.2.2.2.2.2.1
  have iL := fun x => s_isLot (A := A) (F := F) (P := P) n2 (by omega) x
  have iB := fun x => s_isBidder (A := A) (F := F) (P := P) n3 (by omega) x
  have iX := fun x => s_isBid (A := A) (F := F) (P := P) n4 (by omega) x
  rw [e_Pa_ranked 1 _ _ _ rfl]
  simp (maxSteps := 2000000) (disch := (first | omega | (simp (disch := omega) only [up_eq, up_ne, cpA_o, cpF_o, List.length_set] <;> omega) | fail)) only [ob_s, am_bi_s, am_bv_s, am_bl_s, ↓bif_d, lits, nI_addS, nI_mulS, nI_subS, nI_lt', nI_le', nI_eq', ↓rd_nI, ↓wrH, up_eq, up_ne, up_up, up_sw, List.set_set, g_seq, g_sne, Nat.reduceEqDiff, ↓reduceIte, List.length_set, Nat.add_sub_cancel_left, Nat.add_sub_cancel, ite_true, ite_false, if_true, if_false, not_true_eq_false, not_false_eq_true, Bool.and_true, Bool.true_and, true_or, or_true, false_or, or_false, and_true, true_and, and_false, false_and, Nat.not_lt_zero, hpRX, hpIX, hpFX, hpLX, hpSX, ↓rgX, ↓rpX, Nat.reduceLeDiff, Nat.reduceLT, Nat.reduceAdd, Nat.reduceMul, Nat.reduceSub, iL, b01_0, g0]
theorem k_ranked_e1 (hC : Cx A F r nB nl nb nx) (x v : Int32) (g0 : ix x nl) (e0 : ¬ nI 0 ≤ v) : am_cl m_Pa_ranked (.ref 1 :: [.int x, .int v]) (heap A F P) = some (some (.int (-nI 2)), heap A F P) := by
  classical
  obtain ⟨hM, hB, ⟨n1, n2, n3, n4⟩, l1, hCL, hCM, hCX, hCS, hS0, hS1, hS2, hS3⟩ := id hC
  obtain ⟨c5, c7, c10, c12, c14, c16, c18, c21, c23, c25, c27, c29, c31, c33⟩ := LenS2 l1
  have hnl : nl ≤ 20 := hM.1.2.2.2.2.2.2.2.1
  have hnb : nb ≤ 8 := hM.1.2.2.2.2.2.2.2.2.1
  have hnx : nx ≤ 60 := hM.1.2.2.2.2.2.2.2.2.2
  have hnB : nB ≤ 8 := hM.1.2.2.2.2.2.2.1
  have iL := fun x => s_isLot (A := A) (F := F) (P := P) n2 (by omega) x
  have iB := fun x => s_isBidder (A := A) (F := F) (P := P) n3 (by omega) x
  have iX := fun x => s_isBid (A := A) (F := F) (P := P) n4 (by omega) x
  rw [e_Pa_ranked 1 _ _ _ rfl]
  simp (maxSteps := 2000000) (disch := (first | omega | (simp (disch := omega) only [up_eq, up_ne, cpA_o, cpF_o, List.length_set] <;> omega) | fail)) only [ob_s, am_bi_s, am_bv_s, am_bl_s, ↓bif_d, lits, nI_addS, nI_mulS, nI_subS, nI_lt', nI_le', nI_eq', ↓rd_nI, ↓wrH, up_eq, up_ne, up_up, up_sw, List.set_set, g_seq, g_sne, Nat.reduceEqDiff, ↓reduceIte, List.length_set, Nat.add_sub_cancel_left, Nat.add_sub_cancel, ite_true, ite_false, if_true, if_false, not_true_eq_false, not_false_eq_true, Bool.and_true, Bool.true_and, true_or, or_true, false_or, or_false, and_true, true_and, and_false, false_and, Nat.not_lt_zero, hpRX, hpIX, hpFX, hpLX, hpSX, ↓rgX, ↓rpX, Nat.reduceLeDiff, Nat.reduceLT, Nat.reduceAdd, Nat.reduceMul, Nat.reduceSub, iL, b01_0, g0, e0]
theorem k_lot0 (hC : Cx A F r nB nl nb nx) {k : Nat} (hk : k < nl) : am_cl m_Pa_lot (.ref 1 :: [.int (nI k), .int (nI 0)]) (heap A F P) = some (some (.int (g r (18 + k))), heap A F P) := by
  classical
  obtain ⟨hM, hB, ⟨n1, n2, n3, n4⟩, l1, hCL, hCM, hCX, hCS, hS0, hS1, hS2, hS3⟩ := id hC
  obtain ⟨c5, c7, c10, c12, c14, c16, c18, c21, c23, c25, c27, c29, c31, c33⟩ := LenS2 l1
  have hnl : nl ≤ 20 := hM.1.2.2.2.2.2.2.2.1
  have hnb : nb ≤ 8 := hM.1.2.2.2.2.2.2.2.2.1
  have hnx : nx ≤ 60 := hM.1.2.2.2.2.2.2.2.2.2
  have hnB : nB ≤ 8 := hM.1.2.2.2.2.2.2.1
  have iL := fun x => s_isLot (A := A) (F := F) (P := P) n2 (by omega) x
  have iB := fun x => s_isBidder (A := A) (F := F) (P := P) n3 (by omega) x
  have iX := fun x => s_isBid (A := A) (F := F) (P := P) n4 (by omega) x
  have g0 : ix (nI k) nl := ⟨k, hk, rfl⟩
  obtain ⟨p1, p2, p3, p4, -⟩ := hCL k hk
  have hak := cs_ask (P := P) hC hk
  have hcn := s_cnt23 (A := A) (F := F) (P := P) (N := nx) (by omega) (by omega) (nI k)
  have ecn : cN (fun j => g (A 23) j = nI k) nx 0 = cN (fun j => g r (108 + j) = nI k) nx 0 := cN_c nx 0 (fun j _ hj => by
    rw [(hCX j (by omega)).2.1, (hM.2.2 j (by omega)).1.2])
  rw [ecn] at hcn
  rw [e_Pa_lot 1 _ _ _ rfl]
  simp (maxSteps := 2000000) (disch := (first | omega | (simp (disch := omega) only [up_eq, up_ne, cpA_o, cpF_o, List.length_set] <;> omega) | fail)) only [ob_s, am_bi_s, am_bv_s, am_bl_s, ↓bif_d, lits, nI_addS, nI_mulS, nI_subS, nI_lt', nI_le', nI_eq', ↓rd_nI, ↓wrH, up_eq, up_ne, up_up, up_sw, List.set_set, g_seq, g_sne, Nat.reduceEqDiff, ↓reduceIte, List.length_set, Nat.add_sub_cancel_left, Nat.add_sub_cancel, ite_true, ite_false, if_true, if_false, not_true_eq_false, not_false_eq_true, Bool.and_true, Bool.true_and, true_or, or_true, false_or, or_false, and_true, true_and, and_false, false_and, Nat.not_lt_zero, hpRX, hpIX, hpFX, hpLX, hpSX, ↓rgX, ↓rpX, Nat.reduceLeDiff, Nat.reduceLT, Nat.reduceAdd, Nat.reduceMul, Nat.reduceSub, iL, b01_0, g0, p1]
theorem k_lot1 (hC : Cx A F r nB nl nb nx) {k : Nat} (hk : k < nl) : am_cl m_Pa_lot (.ref 1 :: [.int (nI k), .int (nI 1)]) (heap A F P) = some (some (.int (g r (38 + k))), heap A F P) := by
  classical
  obtain ⟨hM, hB, ⟨n1, n2, n3, n4⟩, l1, hCL, hCM, hCX, hCS, hS0, hS1, hS2, hS3⟩ := id hC
  obtain ⟨c5, c7, c10, c12, c14, c16, c18, c21, c23, c25, c27, c29, c31, c33⟩ := LenS2 l1
  have hnl : nl ≤ 20 := hM.1.2.2.2.2.2.2.2.1
  have hnb : nb ≤ 8 := hM.1.2.2.2.2.2.2.2.2.1
  have hnx : nx ≤ 60 := hM.1.2.2.2.2.2.2.2.2.2
  have hnB : nB ≤ 8 := hM.1.2.2.2.2.2.2.1
  have iL := fun x => s_isLot (A := A) (F := F) (P := P) n2 (by omega) x
  have iB := fun x => s_isBidder (A := A) (F := F) (P := P) n3 (by omega) x
  have iX := fun x => s_isBid (A := A) (F := F) (P := P) n4 (by omega) x
  have g0 : ix (nI k) nl := ⟨k, hk, rfl⟩
  obtain ⟨p1, p2, p3, p4, -⟩ := hCL k hk
  have hak := cs_ask (P := P) hC hk
  have hcn := s_cnt23 (A := A) (F := F) (P := P) (N := nx) (by omega) (by omega) (nI k)
  have ecn : cN (fun j => g (A 23) j = nI k) nx 0 = cN (fun j => g r (108 + j) = nI k) nx 0 := cN_c nx 0 (fun j _ hj => by
    rw [(hCX j (by omega)).2.1, (hM.2.2 j (by omega)).1.2])
  rw [ecn] at hcn
  rw [e_Pa_lot 1 _ _ _ rfl]
  simp (maxSteps := 2000000) (disch := (first | omega | (simp (disch := omega) only [up_eq, up_ne, cpA_o, cpF_o, List.length_set] <;> omega) | fail)) only [ob_s, am_bi_s, am_bv_s, am_bl_s, ↓bif_d, lits, nI_addS, nI_mulS, nI_subS, nI_lt', nI_le', nI_eq', ↓rd_nI, ↓wrH, up_eq, up_ne, up_up, up_sw, List.set_set, g_seq, g_sne, Nat.reduceEqDiff, ↓reduceIte, List.length_set, Nat.add_sub_cancel_left, Nat.add_sub_cancel, ite_true, ite_false, if_true, if_false, not_true_eq_false, not_false_eq_true, Bool.and_true, Bool.true_and, true_or, or_true, false_or, or_false, and_true, true_and, and_false, false_and, Nat.not_lt_zero, hpRX, hpIX, hpFX, hpLX, hpSX, ↓rgX, ↓rpX, Nat.reduceLeDiff, Nat.reduceLT, Nat.reduceAdd, Nat.reduceMul, Nat.reduceSub, iL, b01_0, g0, p2]
theorem k_lot2 (hC : Cx A F r nB nl nb nx) {k : Nat} (hk : k < nl) : am_cl m_Pa_lot (.ref 1 :: [.int (nI k), .int (nI 2)]) (heap A F P) = some (some (.int (g r (58 + k))), heap A F P) := by
  classical
  obtain ⟨hM, hB, ⟨n1, n2, n3, n4⟩, l1, hCL, hCM, hCX, hCS, hS0, hS1, hS2, hS3⟩ := id hC
  obtain ⟨c5, c7, c10, c12, c14, c16, c18, c21, c23, c25, c27, c29, c31, c33⟩ := LenS2 l1
  have hnl : nl ≤ 20 := hM.1.2.2.2.2.2.2.2.1
  have hnb : nb ≤ 8 := hM.1.2.2.2.2.2.2.2.2.1
  have hnx : nx ≤ 60 := hM.1.2.2.2.2.2.2.2.2.2
  have hnB : nB ≤ 8 := hM.1.2.2.2.2.2.2.1
  have iL := fun x => s_isLot (A := A) (F := F) (P := P) n2 (by omega) x
  have iB := fun x => s_isBidder (A := A) (F := F) (P := P) n3 (by omega) x
  have iX := fun x => s_isBid (A := A) (F := F) (P := P) n4 (by omega) x
  have g0 : ix (nI k) nl := ⟨k, hk, rfl⟩
  obtain ⟨p1, p2, p3, p4, -⟩ := hCL k hk
  have hak := cs_ask (P := P) hC hk
  have hcn := s_cnt23 (A := A) (F := F) (P := P) (N := nx) (by omega) (by omega) (nI k)
  have ecn : cN (fun j => g (A 23) j = nI k) nx 0 = cN (fun j => g r (108 + j) = nI k) nx 0 := cN_c nx 0 (fun j _ hj => by
    rw [(hCX j (by omega)).2.1, (hM.2.2 j (by omega)).1.2])
  rw [ecn] at hcn
  rw [e_Pa_lot 1 _ _ _ rfl]
  simp (maxSteps := 2000000) (disch := (first | omega | (simp (disch := omega) only [up_eq, up_ne, cpA_o, cpF_o, List.length_set] <;> omega) | fail)) only [ob_s, am_bi_s, am_bv_s, am_bl_s, ↓bif_d, lits, nI_addS, nI_mulS, nI_subS, nI_lt', nI_le', nI_eq', ↓rd_nI, ↓wrH, up_eq, up_ne, up_up, up_sw, List.set_set, g_seq, g_sne, Nat.reduceEqDiff, ↓reduceIte, List.length_set, Nat.add_sub_cancel_left, Nat.add_sub_cancel, ite_true, ite_false, if_true, if_false, not_true_eq_false, not_false_eq_true, Bool.and_true, Bool.true_and, true_or, or_true, false_or, or_false, and_true, true_and, and_false, false_and, Nat.not_lt_zero, hpRX, hpIX, hpFX, hpLX, hpSX, ↓rgX, ↓rpX, Nat.reduceLeDiff, Nat.reduceLT, Nat.reduceAdd, Nat.reduceMul, Nat.reduceSub, iL, b01_0, g0, p3]
theorem k_lot3 (hC : Cx A F r nB nl nb nx) {k : Nat} (hk : k < nl) : am_cl m_Pa_lot (.ref 1 :: [.int (nI k), .int (nI 3)]) (heap A F P) = some (some (.int (g r (78 + k))), heap A F P) := by
  classical
  obtain ⟨hM, hB, ⟨n1, n2, n3, n4⟩, l1, hCL, hCM, hCX, hCS, hS0, hS1, hS2, hS3⟩ := id hC
  obtain ⟨c5, c7, c10, c12, c14, c16, c18, c21, c23, c25, c27, c29, c31, c33⟩ := LenS2 l1
  have hnl : nl ≤ 20 := hM.1.2.2.2.2.2.2.2.1
  have hnb : nb ≤ 8 := hM.1.2.2.2.2.2.2.2.2.1
  have hnx : nx ≤ 60 := hM.1.2.2.2.2.2.2.2.2.2
  have hnB : nB ≤ 8 := hM.1.2.2.2.2.2.2.1
  have iL := fun x => s_isLot (A := A) (F := F) (P := P) n2 (by omega) x
  have iB := fun x => s_isBidder (A := A) (F := F) (P := P) n3 (by omega) x
  have iX := fun x => s_isBid (A := A) (F := F) (P := P) n4 (by omega) x
  have g0 : ix (nI k) nl := ⟨k, hk, rfl⟩
  obtain ⟨p1, p2, p3, p4, -⟩ := hCL k hk
  have hak := cs_ask (P := P) hC hk
  have hcn := s_cnt23 (A := A) (F := F) (P := P) (N := nx) (by omega) (by omega) (nI k)
  have ecn : cN (fun j => g (A 23) j = nI k) nx 0 = cN (fun j => g r (108 + j) = nI k) nx 0 := cN_c nx 0 (fun j _ hj => by
    rw [(hCX j (by omega)).2.1, (hM.2.2 j (by omega)).1.2])
  rw [ecn] at hcn
  rw [e_Pa_lot 1 _ _ _ rfl]
  simp (maxSteps := 2000000) (disch := (first | omega | (simp (disch := omega) only [up_eq, up_ne, cpA_o, cpF_o, List.length_set] <;> omega) | fail)) only [ob_s, am_bi_s, am_bv_s, am_bl_s, ↓bif_d, lits, nI_addS, nI_mulS, nI_subS, nI_lt', nI_le', nI_eq', ↓rd_nI, ↓wrH, up_eq, up_ne, up_up, up_sw, List.set_set, g_seq, g_sne, Nat.reduceEqDiff, ↓reduceIte, List.length_set, Nat.add_sub_cancel_left, Nat.add_sub_cancel, ite_true, ite_false, if_true, if_false, not_true_eq_false, not_false_eq_true, Bool.and_true, Bool.true_and, true_or, or_true, false_or, or_false, and_true, true_and, and_false, false_and, Nat.not_lt_zero, hpRX, hpIX, hpFX, hpLX, hpSX, ↓rgX, ↓rpX, Nat.reduceLeDiff, Nat.reduceLT, Nat.reduceAdd, Nat.reduceMul, Nat.reduceSub, iL, b01_0, g0, p4]
theorem k_lot4 (hC : Cx A F r nB nl nb nx) {k : Nat} (hk : k < nl) : am_cl m_Pa_lot (.ref 1 :: [.int (nI k), .int (nI 4)]) (heap A F P) = some (some (.int (mAs r nB k)), heap A F P) := by
  classical
  obtain ⟨hM, hB, ⟨n1, n2, n3, n4⟩, l1, hCL, hCM, hCX, hCS, hS0, hS1, hS2, hS3⟩ := id hC
  obtain ⟨c5, c7, c10, c12, c14, c16, c18, c21, c23, c25, c27, c29, c31, c33⟩ := LenS2 l1
  have hnl : nl ≤ 20 := hM.1.2.2.2.2.2.2.2.1
  have hnb : nb ≤ 8 := hM.1.2.2.2.2.2.2.2.2.1
  have hnx : nx ≤ 60 := hM.1.2.2.2.2.2.2.2.2.2
  have hnB : nB ≤ 8 := hM.1.2.2.2.2.2.2.1
  have iL := fun x => s_isLot (A := A) (F := F) (P := P) n2 (by omega) x
  have iB := fun x => s_isBidder (A := A) (F := F) (P := P) n3 (by omega) x
  have iX := fun x => s_isBid (A := A) (F := F) (P := P) n4 (by omega) x
  have g0 : ix (nI k) nl := ⟨k, hk, rfl⟩
  obtain ⟨p1, p2, p3, p4, -⟩ := hCL k hk
  have hak := cs_ask (P := P) hC hk
  have hcn := s_cnt23 (A := A) (F := F) (P := P) (N := nx) (by omega) (by omega) (nI k)
  have ecn : cN (fun j => g (A 23) j = nI k) nx 0 = cN (fun j => g r (108 + j) = nI k) nx 0 := cN_c nx 0 (fun j _ hj => by
    rw [(hCX j (by omega)).2.1, (hM.2.2 j (by omega)).1.2])
  rw [ecn] at hcn
  rw [e_Pa_lot 1 _ _ _ rfl]
  simp (maxSteps := 2000000) (disch := (first | omega | (simp (disch := omega) only [up_eq, up_ne, cpA_o, cpF_o, List.length_set] <;> omega) | fail)) only [ob_s, am_bi_s, am_bv_s, am_bl_s, ↓bif_d, lits, nI_addS, nI_mulS, nI_subS, nI_lt', nI_le', nI_eq', ↓rd_nI, ↓wrH, up_eq, up_ne, up_up, up_sw, List.set_set, g_seq, g_sne, Nat.reduceEqDiff, ↓reduceIte, List.length_set, Nat.add_sub_cancel_left, Nat.add_sub_cancel, ite_true, ite_false, if_true, if_false, not_true_eq_false, not_false_eq_true, Bool.and_true, Bool.true_and, true_or, or_true, false_or, or_false, and_true, true_and, and_false, false_and, Nat.not_lt_zero, hpRX, hpIX, hpFX, hpLX, hpSX, ↓rgX, ↓rpX, Nat.reduceLeDiff, Nat.reduceLT, Nat.reduceAdd, Nat.reduceMul, Nat.reduceSub, iL, b01_0, g0, hak]
theorem k_lot5 (hC : Cx A F r nB nl nb nx) {k : Nat} (hk : k < nl) : am_cl m_Pa_lot (.ref 1 :: [.int (nI k), .int (nI 5)]) (heap A F P) = some (some (.int (nI (cN (fun j => g r (108 + j) = nI k) nx 0))), heap A F P) := by
  classical
  obtain ⟨hM, hB, ⟨n1, n2, n3, n4⟩, l1, hCL, hCM, hCX, hCS, hS0, hS1, hS2, hS3⟩ := id hC
  obtain ⟨c5, c7, c10, c12, c14, c16, c18, c21, c23, c25, c27, c29, c31, c33⟩ := LenS2 l1
  have hnl : nl ≤ 20 := hM.1.2.2.2.2.2.2.2.1
  have hnb : nb ≤ 8 := hM.1.2.2.2.2.2.2.2.2.1
  have hnx : nx ≤ 60 := hM.1.2.2.2.2.2.2.2.2.2
  have hnB : nB ≤ 8 := hM.1.2.2.2.2.2.2.1
  have iL := fun x => s_isLot (A := A) (F := F) (P := P) n2 (by omega) x
  have iB := fun x => s_isBidder (A := A) (F := F) (P := P) n3 (by omega) x
  have iX := fun x => s_isBid (A := A) (F := F) (P := P) n4 (by omega) x
  have g0 : ix (nI k) nl := ⟨k, hk, rfl⟩
  obtain ⟨p1, p2, p3, p4, -⟩ := hCL k hk
  have hak := cs_ask (P := P) hC hk
  have hcn := s_cnt23 (A := A) (F := F) (P := P) (N := nx) (by omega) (by omega) (nI k)
  have ecn : cN (fun j => g (A 23) j = nI k) nx 0 = cN (fun j => g r (108 + j) = nI k) nx 0 := cN_c nx 0 (fun j _ hj => by
    rw [(hCX j (by omega)).2.1, (hM.2.2 j (by omega)).1.2])
  rw [ecn] at hcn
  rw [e_Pa_lot 1 _ _ _ rfl]
  simp (maxSteps := 2000000) (disch := (first | omega | (simp (disch := omega) only [up_eq, up_ne, cpA_o, cpF_o, List.length_set] <;> omega) | fail)) only [ob_s, am_bi_s, am_bv_s, am_bl_s, ↓bif_d, lits, nI_addS, nI_mulS, nI_subS, nI_lt', nI_le', nI_eq', ↓rd_nI, ↓wrH, up_eq, up_ne, up_up, up_sw, List.set_set, g_seq, g_sne, Nat.reduceEqDiff, ↓reduceIte, List.length_set, Nat.add_sub_cancel_left, Nat.add_sub_cancel, ite_true, ite_false, if_true, if_false, not_true_eq_false, not_false_eq_true, Bool.and_true, Bool.true_and, true_or, or_true, false_or, or_false, and_true, true_and, and_false, false_and, Nat.not_lt_zero, hpRX, hpIX, hpFX, hpLX, hpSX, ↓rgX, ↓rpX, Nat.reduceLeDiff, Nat.reduceLT, Nat.reduceAdd, Nat.reduceMul, Nat.reduceSub, iL, b01_0, g0, n4, hcn]
theorem k_lot6 (hC : Cx A F r nB nl nb nx) {k : Nat} (hk : k < nl) : am_cl m_Pa_lot (.ref 1 :: [.int (nI k), .int (nI 6)]) (heap A F P) = some (some (.int (-nI 2)), heap A F P) := by
  classical
  obtain ⟨hM, hB, ⟨n1, n2, n3, n4⟩, l1, hCL, hCM, hCX, hCS, hS0, hS1, hS2, hS3⟩ := id hC
  obtain ⟨c5, c7, c10, c12, c14, c16, c18, c21, c23, c25, c27, c29, c31, c33⟩ := LenS2 l1
  have hnl : nl ≤ 20 := hM.1.2.2.2.2.2.2.2.1
  have hnb : nb ≤ 8 := hM.1.2.2.2.2.2.2.2.2.1
  have hnx : nx ≤ 60 := hM.1.2.2.2.2.2.2.2.2.2
  have hnB : nB ≤ 8 := hM.1.2.2.2.2.2.2.1
  have iL := fun x => s_isLot (A := A) (F := F) (P := P) n2 (by omega) x
  have iB := fun x => s_isBidder (A := A) (F := F) (P := P) n3 (by omega) x
  have iX := fun x => s_isBid (A := A) (F := F) (P := P) n4 (by omega) x
  have g0 : ix (nI k) nl := ⟨k, hk, rfl⟩
  obtain ⟨p1, p2, p3, p4, -⟩ := hCL k hk
  have hak := cs_ask (P := P) hC hk
  have hcn := s_cnt23 (A := A) (F := F) (P := P) (N := nx) (by omega) (by omega) (nI k)
  have ecn : cN (fun j => g (A 23) j = nI k) nx 0 = cN (fun j => g r (108 + j) = nI k) nx 0 := cN_c nx 0 (fun j _ hj => by
    rw [(hCX j (by omega)).2.1, (hM.2.2 j (by omega)).1.2])
  rw [ecn] at hcn
  rw [e_Pa_lot 1 _ _ _ rfl]
  simp (maxSteps := 2000000) (disch := (first | omega | (simp (disch := omega) only [up_eq, up_ne, cpA_o, cpF_o, List.length_set] <;> omega) | fail)) only [ob_s, am_bi_s, am_bv_s, am_bl_s, ↓bif_d, lits, nI_addS, nI_mulS, nI_subS, nI_lt', nI_le', nI_eq', ↓rd_nI, ↓wrH, up_eq, up_ne, up_up, up_sw, List.set_set, g_seq, g_sne, Nat.reduceEqDiff, ↓reduceIte, List.length_set, Nat.add_sub_cancel_left, Nat.add_sub_cancel, ite_true, ite_false, if_true, if_false, not_true_eq_false, not_false_eq_true, Bool.and_true, Bool.true_and, true_or, or_true, false_or, or_false, and_true, true_and, and_false, false_and, Nat.not_lt_zero, hpRX, hpIX, hpFX, hpLX, hpSX, ↓rgX, ↓rpX, Nat.reduceLeDiff, Nat.reduceLT, Nat.reduceAdd, Nat.reduceMul, Nat.reduceSub, iL, b01_0, g0]
theorem k_lot_e (hC : Cx A F r nB nl nb nx) (x v : Int32) (g0 : ¬ ix x nl) : am_cl m_Pa_lot (.ref 1 :: [.int x, .int v]) (heap A F P) = some (some (.int (-nI 1)), heap A F P) := by
  classical
  obtain ⟨hM, hB, ⟨n1, n2, n3, n4⟩, l1, hCL, hCM, hCX, hCS, hS0, hS1, hS2, hS3⟩ := id hC
  obtain ⟨c5, c7, c10, c12, c14, c16, c18, c21, c23, c25, c27, c29, c31, c33⟩ := LenS2 l1
  have hnl : nl ≤ 20 := hM.1.2.2.2.2.2.2.2.1
  have hnb : nb ≤ 8 := hM.1.2.2.2.2.2.2.2.2.1
  have hnx : nx ≤ 60 := hM.1.2.2.2.2.2.2.2.2.2
  have hnB : nB ≤ 8 := hM.1.2.2.2.2.2.2.1
  have iL := fun x => s_isLot (A := A) (F := F) (P := P) n2 (by omega) x
  have iB := fun x => s_isBidder (A := A) (F := F) (P := P) n3 (by omega) x
  have iX := fun x => s_isBid (A := A) (F := F) (P := P) n4 (by omega) x
  rw [e_Pa_lot 1 _ _ _ rfl]
  simp (maxSteps := 2000000) (disch := (first | omega | (simp (disch := omega) only [up_eq, up_ne, cpA_o, cpF_o, List.length_set] <;> omega) | fail)) only [ob_s, am_bi_s, am_bv_s, am_bl_s, ↓bif_d, lits, nI_addS, nI_mulS, nI_subS, nI_lt', nI_le', nI_eq', ↓rd_nI, ↓wrH, up_eq, up_ne, up_up, up_sw, List.set_set, g_seq, g_sne, Nat.reduceEqDiff, ↓reduceIte, List.length_set, Nat.add_sub_cancel_left, Nat.add_sub_cancel, ite_true, ite_false, if_true, if_false, not_true_eq_false, not_false_eq_true, Bool.and_true, Bool.true_and, true_or, or_true, false_or, or_false, and_true, true_and, and_false, false_and, Nat.not_lt_zero, hpRX, hpIX, hpFX, hpLX, hpSX, ↓rgX, ↓rpX, Nat.reduceLeDiff, Nat.reduceLT, Nat.reduceAdd, Nat.reduceMul, Nat.reduceSub, iL, b01_0, g0]
theorem k_bidder0 (hI : HQ A F P A' F' r nB nl nb nx L B Fi Se Mn Bu Pr) {k : Nat} (hk : k < nb) : am_cl m_Pa_bidder (.ref 1 :: [.int (nI k), .int (nI 0)]) (heap A F P) = some (some (.int (g r (99 + k))), heap A' F' P) := by
  classical
  obtain ⟨hW, hK, hC', hC0, hS, hcl⟩ := id hI
  obtain ⟨-, -, ⟨n1, n2, n3, n4⟩, l0, hAL, hAM, hAX, hAS, -⟩ := id hC0
  obtain ⟨c5, c7, c10, c12, c14, c16, c18, c21, c23, c25, c27, c29, c31, c33⟩ := LenS2 l0
  obtain ⟨hM, hB, ⟨m1, m2, m3, m4⟩, l1, hCL, hCM, hCX, hCS, hS0, hS1, hS2, hS3⟩ := id hC'
  obtain ⟨d5, d7, d10, d12, d14, d16, d18, d21, d23, d25, d27, d29, d31, d33⟩ := LenS2 l1
  obtain ⟨w166, w168, w170, w172, w174, w176, w178, w180, w182⟩ := id hW
  have hnl : nl ≤ 20 := hM.1.2.2.2.2.2.2.2.1
  have hnb : nb ≤ 8 := hM.1.2.2.2.2.2.2.2.2.1
  have hnx : nx ≤ 60 := hM.1.2.2.2.2.2.2.2.2.2
  have iL := fun x => s_isLot (A := A) (F := F) (P := P) n2 (by omega) x
  have iB := fun x => s_isBidder (A := A) (F := F) (P := P) n3 (by omega) x
  have iX := fun x => s_isBid (A := A) (F := F) (P := P) n4 (by omega) x
  have g0 : ix (nI k) nb := ⟨k, hk, rfl⟩
  have e18 := (hCM k hk).1
  have hlf := cs_left (P := P) hC' hW hS (k := nl) (b := k) (Nat.le_refl _) hk (fun l hl => ⟨(hK.1 l hl).1, (hK.1 l hl).2.1⟩)
  have hcn := s_cnt166 (A := A') (F := F') (P := P) (N := nl) (by omega) (by omega) (nI k)
  have ecn : cN (fun j => g (A' 166) j = nI k) nl 0 = cN (fun l => g Bu l = nI k) nl 0 := cN_c nl 0 (fun j _ hj => by rw [(hK.1 j (by omega)).1])
  rw [ecn] at hcn
  have hpd := c_paid (P := P) hC' hW hS hK hk
  rw [e_Pa_bidder 1 _ _ _ rfl]
  simp (maxSteps := 2000000) (disch := (first | omega | (simp (disch := omega) only [up_eq, up_ne, cpA_o, cpF_o, List.length_set] <;> omega) | fail)) only [ob_s, am_bi_s, am_bv_s, am_bl_s, ↓bif_d, lits, nI_addS, nI_mulS, nI_subS, nI_lt', nI_le', nI_eq', ↓rd_nI, ↓wrH, up_eq, up_ne, up_up, up_sw, List.set_set, g_seq, g_sne, Nat.reduceEqDiff, ↓reduceIte, List.length_set, Nat.add_sub_cancel_left, Nat.add_sub_cancel, ite_true, ite_false, if_true, if_false, not_true_eq_false, not_false_eq_true, Bool.and_true, Bool.true_and, true_or, or_true, false_or, or_false, and_true, true_and, and_false, false_and, Nat.not_lt_zero, hpRX, hpIX, hpFX, hpLX, hpSX, ↓rgX, ↓rpX, Nat.reduceLeDiff, Nat.reduceLT, Nat.reduceAdd, Nat.reduceMul, Nat.reduceSub, iB, b01_0, g0, hcl, e18]
theorem k_bidder1 (hI : HQ A F P A' F' r nB nl nb nx L B Fi Se Mn Bu Pr) {k : Nat} (hk : k < nb) : am_cl m_Pa_bidder (.ref 1 :: [.int (nI k), .int (nI 1)]) (heap A F P) = some (some (.int (g L (8 * nl + k))), heap A' F' P) := by
  classical
  obtain ⟨hW, hK, hC', hC0, hS, hcl⟩ := id hI
  obtain ⟨-, -, ⟨n1, n2, n3, n4⟩, l0, hAL, hAM, hAX, hAS, -⟩ := id hC0
  obtain ⟨c5, c7, c10, c12, c14, c16, c18, c21, c23, c25, c27, c29, c31, c33⟩ := LenS2 l0
  obtain ⟨hM, hB, ⟨m1, m2, m3, m4⟩, l1, hCL, hCM, hCX, hCS, hS0, hS1, hS2, hS3⟩ := id hC'
  obtain ⟨d5, d7, d10, d12, d14, d16, d18, d21, d23, d25, d27, d29, d31, d33⟩ := LenS2 l1
  obtain ⟨w166, w168, w170, w172, w174, w176, w178, w180, w182⟩ := id hW
  have hnl : nl ≤ 20 := hM.1.2.2.2.2.2.2.2.1
  have hnb : nb ≤ 8 := hM.1.2.2.2.2.2.2.2.2.1
  have hnx : nx ≤ 60 := hM.1.2.2.2.2.2.2.2.2.2
  have iL := fun x => s_isLot (A := A) (F := F) (P := P) n2 (by omega) x
  have iB := fun x => s_isBidder (A := A) (F := F) (P := P) n3 (by omega) x
  have iX := fun x => s_isBid (A := A) (F := F) (P := P) n4 (by omega) x
  have g0 : ix (nI k) nb := ⟨k, hk, rfl⟩
  have e18 := (hCM k hk).1
  have hlf := cs_left (P := P) hC' hW hS (k := nl) (b := k) (Nat.le_refl _) hk (fun l hl => ⟨(hK.1 l hl).1, (hK.1 l hl).2.1⟩)
  have hcn := s_cnt166 (A := A') (F := F') (P := P) (N := nl) (by omega) (by omega) (nI k)
  have ecn : cN (fun j => g (A' 166) j = nI k) nl 0 = cN (fun l => g Bu l = nI k) nl 0 := cN_c nl 0 (fun j _ hj => by rw [(hK.1 j (by omega)).1])
  rw [ecn] at hcn
  have hpd := c_paid (P := P) hC' hW hS hK hk
  rw [e_Pa_bidder 1 _ _ _ rfl]
  simp (maxSteps := 2000000) (disch := (first | omega | (simp (disch := omega) only [up_eq, up_ne, cpA_o, cpF_o, List.length_set] <;> omega) | fail)) only [ob_s, am_bi_s, am_bv_s, am_bl_s, ↓bif_d, lits, nI_addS, nI_mulS, nI_subS, nI_lt', nI_le', nI_eq', ↓rd_nI, ↓wrH, up_eq, up_ne, up_up, up_sw, List.set_set, g_seq, g_sne, Nat.reduceEqDiff, ↓reduceIte, List.length_set, Nat.add_sub_cancel_left, Nat.add_sub_cancel, ite_true, ite_false, if_true, if_false, not_true_eq_false, not_false_eq_true, Bool.and_true, Bool.true_and, true_or, or_true, false_or, or_false, and_true, true_and, and_false, false_and, Nat.not_lt_zero, hpRX, hpIX, hpFX, hpLX, hpSX, ↓rgX, ↓rpX, Nat.reduceLeDiff, Nat.reduceLT, Nat.reduceAdd, Nat.reduceMul, Nat.reduceSub, iB, b01_0, g0, hcl, m2, hlf]
theorem k_bidder2 (hI : HQ A F P A' F' r nB nl nb nx L B Fi Se Mn Bu Pr) {k : Nat} (hk : k < nb) : am_cl m_Pa_bidder (.ref 1 :: [.int (nI k), .int (nI 2)]) (heap A F P) = some (some (.int (nI (cN (fun l => g Bu l = nI k) nl 0))), heap A' F' P) := by
  classical
  obtain ⟨hW, hK, hC', hC0, hS, hcl⟩ := id hI
  obtain ⟨-, -, ⟨n1, n2, n3, n4⟩, l0, hAL, hAM, hAX, hAS, -⟩ := id hC0
  obtain ⟨c5, c7, c10, c12, c14, c16, c18, c21, c23, c25, c27, c29, c31, c33⟩ := LenS2 l0
  obtain ⟨hM, hB, ⟨m1, m2, m3, m4⟩, l1, hCL, hCM, hCX, hCS, hS0, hS1, hS2, hS3⟩ := id hC'
  obtain ⟨d5, d7, d10, d12, d14, d16, d18, d21, d23, d25, d27, d29, d31, d33⟩ := LenS2 l1
  obtain ⟨w166, w168, w170, w172, w174, w176, w178, w180, w182⟩ := id hW
  have hnl : nl ≤ 20 := hM.1.2.2.2.2.2.2.2.1
  have hnb : nb ≤ 8 := hM.1.2.2.2.2.2.2.2.2.1
  have hnx : nx ≤ 60 := hM.1.2.2.2.2.2.2.2.2.2
  have iL := fun x => s_isLot (A := A) (F := F) (P := P) n2 (by omega) x
  have iB := fun x => s_isBidder (A := A) (F := F) (P := P) n3 (by omega) x
  have iX := fun x => s_isBid (A := A) (F := F) (P := P) n4 (by omega) x
  have g0 : ix (nI k) nb := ⟨k, hk, rfl⟩
  have e18 := (hCM k hk).1
  have hlf := cs_left (P := P) hC' hW hS (k := nl) (b := k) (Nat.le_refl _) hk (fun l hl => ⟨(hK.1 l hl).1, (hK.1 l hl).2.1⟩)
  have hcn := s_cnt166 (A := A') (F := F') (P := P) (N := nl) (by omega) (by omega) (nI k)
  have ecn : cN (fun j => g (A' 166) j = nI k) nl 0 = cN (fun l => g Bu l = nI k) nl 0 := cN_c nl 0 (fun j _ hj => by rw [(hK.1 j (by omega)).1])
  rw [ecn] at hcn
  have hpd := c_paid (P := P) hC' hW hS hK hk
  rw [e_Pa_bidder 1 _ _ _ rfl]
  simp (maxSteps := 2000000) (disch := (first | omega | (simp (disch := omega) only [up_eq, up_ne, cpA_o, cpF_o, List.length_set] <;> omega) | fail)) only [ob_s, am_bi_s, am_bv_s, am_bl_s, ↓bif_d, lits, nI_addS, nI_mulS, nI_subS, nI_lt', nI_le', nI_eq', ↓rd_nI, ↓wrH, up_eq, up_ne, up_up, up_sw, List.set_set, g_seq, g_sne, Nat.reduceEqDiff, ↓reduceIte, List.length_set, Nat.add_sub_cancel_left, Nat.add_sub_cancel, ite_true, ite_false, if_true, if_false, not_true_eq_false, not_false_eq_true, Bool.and_true, Bool.true_and, true_or, or_true, false_or, or_false, and_true, true_and, and_false, false_and, Nat.not_lt_zero, hpRX, hpIX, hpFX, hpLX, hpSX, ↓rgX, ↓rpX, Nat.reduceLeDiff, Nat.reduceLT, Nat.reduceAdd, Nat.reduceMul, Nat.reduceSub, iB, b01_0, g0, hcl, m2, hcn]
theorem k_bidder3 (hI : HQ A F P A' F' r nB nl nb nx L B Fi Se Mn Bu Pr) {k : Nat} (hk : k < nb) : am_cl m_Pa_bidder (.ref 1 :: [.int (nI k), .int (nI 3)]) (heap A F P) = some (some (.int (pF r Bu Pr k nl 0 (nI 0))), heap A' F' P) := by
  classical
  obtain ⟨hW, hK, hC', hC0, hS, hcl⟩ := id hI
  obtain ⟨-, -, ⟨n1, n2, n3, n4⟩, l0, hAL, hAM, hAX, hAS, -⟩ := id hC0
  obtain ⟨c5, c7, c10, c12, c14, c16, c18, c21, c23, c25, c27, c29, c31, c33⟩ := LenS2 l0
  obtain ⟨hM, hB, ⟨m1, m2, m3, m4⟩, l1, hCL, hCM, hCX, hCS, hS0, hS1, hS2, hS3⟩ := id hC'
  obtain ⟨d5, d7, d10, d12, d14, d16, d18, d21, d23, d25, d27, d29, d31, d33⟩ := LenS2 l1
  obtain ⟨w166, w168, w170, w172, w174, w176, w178, w180, w182⟩ := id hW
  have hnl : nl ≤ 20 := hM.1.2.2.2.2.2.2.2.1
  have hnb : nb ≤ 8 := hM.1.2.2.2.2.2.2.2.2.1
  have hnx : nx ≤ 60 := hM.1.2.2.2.2.2.2.2.2.2
  have iL := fun x => s_isLot (A := A) (F := F) (P := P) n2 (by omega) x
  have iB := fun x => s_isBidder (A := A) (F := F) (P := P) n3 (by omega) x
  have iX := fun x => s_isBid (A := A) (F := F) (P := P) n4 (by omega) x
  have g0 : ix (nI k) nb := ⟨k, hk, rfl⟩
  have e18 := (hCM k hk).1
  have hlf := cs_left (P := P) hC' hW hS (k := nl) (b := k) (Nat.le_refl _) hk (fun l hl => ⟨(hK.1 l hl).1, (hK.1 l hl).2.1⟩)
  have hcn := s_cnt166 (A := A') (F := F') (P := P) (N := nl) (by omega) (by omega) (nI k)
  have ecn : cN (fun j => g (A' 166) j = nI k) nl 0 = cN (fun l => g Bu l = nI k) nl 0 := cN_c nl 0 (fun j _ hj => by rw [(hK.1 j (by omega)).1])
  rw [ecn] at hcn
  have hpd := c_paid (P := P) hC' hW hS hK hk
  rw [e_Pa_bidder 1 _ _ _ rfl]
  simp (maxSteps := 2000000) (disch := (first | omega | (simp (disch := omega) only [up_eq, up_ne, cpA_o, cpF_o, List.length_set] <;> omega) | fail)) only [ob_s, am_bi_s, am_bv_s, am_bl_s, ↓bif_d, lits, nI_addS, nI_mulS, nI_subS, nI_lt', nI_le', nI_eq', ↓rd_nI, ↓wrH, up_eq, up_ne, up_up, up_sw, List.set_set, g_seq, g_sne, Nat.reduceEqDiff, ↓reduceIte, List.length_set, Nat.add_sub_cancel_left, Nat.add_sub_cancel, ite_true, ite_false, if_true, if_false, not_true_eq_false, not_false_eq_true, Bool.and_true, Bool.true_and, true_or, or_true, false_or, or_false, and_true, true_and, and_false, false_and, Nat.not_lt_zero, hpRX, hpIX, hpFX, hpLX, hpSX, ↓rgX, ↓rpX, Nat.reduceLeDiff, Nat.reduceLT, Nat.reduceAdd, Nat.reduceMul, Nat.reduceSub, iB, b01_0, g0, hcl, hpd]
theorem k_bidder4 (hI : HQ A F P A' F' r nB nl nb nx L B Fi Se Mn Bu Pr) {k : Nat} (hk : k < nb) : am_cl m_Pa_bidder (.ref 1 :: [.int (nI k), .int (nI 4)]) (heap A F P) = some (some (.int (-nI 2)), heap A' F' P) := by
  classical
  obtain ⟨hW, hK, hC', hC0, hS, hcl⟩ := id hI
  obtain ⟨-, -, ⟨n1, n2, n3, n4⟩, l0, hAL, hAM, hAX, hAS, -⟩ := id hC0
  obtain ⟨c5, c7, c10, c12, c14, c16, c18, c21, c23, c25, c27, c29, c31, c33⟩ := LenS2 l0
  obtain ⟨hM, hB, ⟨m1, m2, m3, m4⟩, l1, hCL, hCM, hCX, hCS, hS0, hS1, hS2, hS3⟩ := id hC'
  obtain ⟨d5, d7, d10, d12, d14, d16, d18, d21, d23, d25, d27, d29, d31, d33⟩ := LenS2 l1
  obtain ⟨w166, w168, w170, w172, w174, w176, w178, w180, w182⟩ := id hW
  have hnl : nl ≤ 20 := hM.1.2.2.2.2.2.2.2.1
  have hnb : nb ≤ 8 := hM.1.2.2.2.2.2.2.2.2.1
  have hnx : nx ≤ 60 := hM.1.2.2.2.2.2.2.2.2.2
  have iL := fun x => s_isLot (A := A) (F := F) (P := P) n2 (by omega) x
  have iB := fun x => s_isBidder (A := A) (F := F) (P := P) n3 (by omega) x
  have iX := fun x => s_isBid (A := A) (F := F) (P := P) n4 (by omega) x
  have g0 : ix (nI k) nb := ⟨k, hk, rfl⟩
  have e18 := (hCM k hk).1
  have hlf := cs_left (P := P) hC' hW hS (k := nl) (b := k) (Nat.le_refl _) hk (fun l hl => ⟨(hK.1 l hl).1, (hK.1 l hl).2.1⟩)
  have hcn := s_cnt166 (A := A') (F := F') (P := P) (N := nl) (by omega) (by omega) (nI k)
  have ecn : cN (fun j => g (A' 166) j = nI k) nl 0 = cN (fun l => g Bu l = nI k) nl 0 := cN_c nl 0 (fun j _ hj => by rw [(hK.1 j (by omega)).1])
  rw [ecn] at hcn
  have hpd := c_paid (P := P) hC' hW hS hK hk
  rw [e_Pa_bidder 1 _ _ _ rfl]
  simp (maxSteps := 2000000) (disch := (first | omega | (simp (disch := omega) only [up_eq, up_ne, cpA_o, cpF_o, List.length_set] <;> omega) | fail)) only [ob_s, am_bi_s, am_bv_s, am_bl_s, ↓bif_d, lits, nI_addS, nI_mulS, nI_subS, nI_lt', nI_le', nI_eq', ↓rd_nI, ↓wrH, up_eq, up_ne, up_up, up_sw, List.set_set, g_seq, g_sne, Nat.reduceEqDiff, ↓reduceIte, List.length_set, Nat.add_sub_cancel_left, Nat.add_sub_cancel, ite_true, ite_false, if_true, if_false, not_true_eq_false, not_false_eq_true, Bool.and_true, Bool.true_and, true_or, or_true, false_or, or_false, and_true, true_and, and_false, false_and, Nat.not_lt_zero, hpRX, hpIX, hpFX, hpLX, hpSX, ↓rgX, ↓rpX, Nat.reduceLeDiff, Nat.reduceLT, Nat.reduceAdd, Nat.reduceMul, Nat.reduceSub, iB, b01_0, g0, hcl]
theorem k_bidder_e (hC : Cx A F r nB nl nb nx) (x v : Int32) (g0 : ¬ ix x nb) : am_cl m_Pa_bidder (.ref 1 :: [.int x, .int v]) (heap A F P) = some (some (.int (-nI 1)), heap A F P) := by
  classical
  obtain ⟨hM, hB, ⟨n1, n2, n3, n4⟩, l1, hCL, hCM, hCX, hCS, hS0, hS1, hS2, hS3⟩ := id hC
  obtain ⟨c5, c7, c10, c12, c14, c16, c18, c21, c23, c25, c27, c29, c31, c33⟩ := LenS2 l1
  have hnl : nl ≤ 20 := hM.1.2.2.2.2.2.2.2.1
  have hnb : nb ≤ 8 := hM.1.2.2.2.2.2.2.2.2.1
  have hnx : nx ≤ 60 := hM.1.2.2.2.2.2.2.2.2.2
  have hnB : nB ≤ 8 := hM.1.2.2.2.2.2.2.1
  have iL := fun x => s_isLot (A := A) (F := F) (P := P) n2 (by omega) x
  have iB := fun x => s_isBidder (A := A) (F := F) (P := P) n3 (by omega) x
  have iX := fun x => s_isBid (A := A) (F := F) (P := P) n4 (by omega) x
  rw [e_Pa_bidder 1 _ _ _ rfl]
  simp (maxSteps := 2000000) (disch := (first | omega | (simp (disch := omega) only [up_eq, up_ne, cpA_o, cpF_o, List.length_set] <;> omega) | fail)) only [ob_s, am_bi_s, am_bv_s, am_bl_s, ↓bif_d, lits, nI_addS, nI_mulS, nI_subS, nI_lt', nI_le', nI_eq', ↓rd_nI, ↓wrH, up_eq, up_ne, up_up, up_sw, List.set_set, g_seq, g_sne, Nat.reduceEqDiff, ↓reduceIte, List.length_set, Nat.add_sub_cancel_left, Nat.add_sub_cancel, ite_true, ite_false, if_true, if_false, not_true_eq_false, not_false_eq_true, Bool.and_true, Bool.true_and, true_or, or_true, false_or, or_false, and_true, true_and, and_false, false_and, Nat.not_lt_zero, hpRX, hpIX, hpFX, hpLX, hpSX, ↓rgX, ↓rpX, Nat.reduceLeDiff, Nat.reduceLT, Nat.reduceAdd, Nat.reduceMul, Nat.reduceSub, iB, b01_0, g0]
theorem k_seller0 (hI : HQ A F P A' F' r nB nl nb nx L B Fi Se Mn Bu Pr) {s : Nat} (hs : s < 5) : am_cl m_Pa_seller (.ref 1 :: [.int (nI s), .int (nI 0)]) (heap A F P) = some (some (.long (Int32.toInt64 (nI (cN (fun l => g r (18 + l) = nI s) nl 0)))), heap A' F' P) := by
  classical
  obtain ⟨hW, hK, hC', hC0, hS, hcl⟩ := id hI
  obtain ⟨-, -, ⟨n1, n2, n3, n4⟩, l0, hAL, hAM, hAX, hAS, -⟩ := id hC0
  obtain ⟨c5, c7, c10, c12, c14, c16, c18, c21, c23, c25, c27, c29, c31, c33⟩ := LenS2 l0
  obtain ⟨hM, hB, ⟨m1, m2, m3, m4⟩, l1, hCL, hCM, hCX, hCS, hS0, hS1, hS2, hS3⟩ := id hC'
  obtain ⟨d5, d7, d10, d12, d14, d16, d18, d21, d23, d25, d27, d29, d31, d33⟩ := LenS2 l1
  obtain ⟨w166, w168, w170, w172, w174, w176, w178, w180, w182⟩ := id hW
  have hnl : nl ≤ 20 := hM.1.2.2.2.2.2.2.2.1
  have hnb : nb ≤ 8 := hM.1.2.2.2.2.2.2.2.2.1
  have hnx : nx ≤ 60 := hM.1.2.2.2.2.2.2.2.2.2
  have iL := fun x => s_isLot (A := A) (F := F) (P := P) n2 (by omega) x
  have iB := fun x => s_isBidder (A := A) (F := F) (P := P) n3 (by omega) x
  have iX := fun x => s_isBid (A := A) (F := F) (P := P) n4 (by omega) x
  have g0 : ¬ (nI s < nI 0 ∨ nI 4 < nI s) := by rw [nI_lt' (by omega) (by omega), nI_lt' (by omega) (by omega)]; omega
  have hcn := s_cnt10 (A := A') (F := F') (P := P) (N := nl) (by omega) (by omega) (nI s)
  have ecn : cN (fun j => g (A' 10) j = nI s) nl 0 = cN (fun l => g r (18 + l) = nI s) nl 0 := cN_c nl 0 (fun j _ hj => by rw [(hCL j (by omega)).1])
  rw [ecn] at hcn
  have hxm : ¬ nI s = -nI 1 := fun z => g0 (Or.inl (by rw [z]; decide))
  have hq : ∀ k, (nI s = -nI 1 ∨ nI s = g r (18 + k)) ↔ g r (18 + k) = nI s := fun k => ⟨fun z => (z.resolve_left hxm).symm, fun z => Or.inr z.symm⟩
  have hsl : ¬ 4 < s := by omega
  have hc := fun c (hc : c < 4) => c_total (P := P) (c := c) hC' hW hS hK hc (nI s)
  have hc0 := hc 0 (by omega)
  have hc2 := hc 2 (by omega)
  have hc3 := hc 3 (by omega)
  have hfq := fun c => fL_c (p' := fun l => g r (18 + l) = nI s) (f' := mPart r Bu Pr c) nl 0 0 (fun j _ _ => hq j) (fun j _ _ => rfl)
  rw [hfq] at hc0 hc2 hc3
  have hrc := fun x A F P => e_Money_receipts 183 x (heap A F P) rfl
  rw [e_Pa_seller 1 _ _ _ rfl]
  simp (maxSteps := 2000000) (disch := (first | omega | (simp (disch := omega) only [up_eq, up_ne, cpA_o, cpF_o, List.length_set] <;> omega) | fail)) only [ob_s, am_bi_s, am_bv_s, am_bl_s, ↓bif_d, lits, nI_addS, nI_mulS, nI_subS, nI_lt', nI_le', nI_eq', ↓rd_nI, ↓wrH, up_eq, up_ne, up_up, up_sw, List.set_set, g_seq, g_sne, Nat.reduceEqDiff, ↓reduceIte, List.length_set, Nat.add_sub_cancel_left, Nat.add_sub_cancel, ite_true, ite_false, if_true, if_false, not_true_eq_false, not_false_eq_true, Bool.and_true, Bool.true_and, true_or, or_true, false_or, or_false, and_true, true_and, and_false, false_and, Nat.not_lt_zero, hpRX, hpIX, hpFX, hpLX, hpSX, ↓rgX, ↓rpX, Nat.reduceLeDiff, Nat.reduceLT, Nat.reduceAdd, Nat.reduceMul, Nat.reduceSub, s_out, b01_0, g0, hcl, hsl, m2, hcn]
theorem k_seller2 (hI : HQ A F P A' F' r nB nl nb nx L B Fi Se Mn Bu Pr) {s : Nat} (hs : s < 5) : am_cl m_Pa_seller (.ref 1 :: [.int (nI s), .int (nI 2)]) (heap A F P) = some (some (.long (fL (fun l => g r (18 + l) = nI s) (mPart r Bu Pr 0) nl 0 0)), heap A' F' P) := by
  classical
  obtain ⟨hW, hK, hC', hC0, hS, hcl⟩ := id hI
  obtain ⟨-, -, ⟨n1, n2, n3, n4⟩, l0, hAL, hAM, hAX, hAS, -⟩ := id hC0
  obtain ⟨c5, c7, c10, c12, c14, c16, c18, c21, c23, c25, c27, c29, c31, c33⟩ := LenS2 l0
  obtain ⟨hM, hB, ⟨m1, m2, m3, m4⟩, l1, hCL, hCM, hCX, hCS, hS0, hS1, hS2, hS3⟩ := id hC'
  obtain ⟨d5, d7, d10, d12, d14, d16, d18, d21, d23, d25, d27, d29, d31, d33⟩ := LenS2 l1
  obtain ⟨w166, w168, w170, w172, w174, w176, w178, w180, w182⟩ := id hW
  have hnl : nl ≤ 20 := hM.1.2.2.2.2.2.2.2.1
  have hnb : nb ≤ 8 := hM.1.2.2.2.2.2.2.2.2.1
  have hnx : nx ≤ 60 := hM.1.2.2.2.2.2.2.2.2.2
  have iL := fun x => s_isLot (A := A) (F := F) (P := P) n2 (by omega) x
  have iB := fun x => s_isBidder (A := A) (F := F) (P := P) n3 (by omega) x
  have iX := fun x => s_isBid (A := A) (F := F) (P := P) n4 (by omega) x
  have g0 : ¬ (nI s < nI 0 ∨ nI 4 < nI s) := by rw [nI_lt' (by omega) (by omega), nI_lt' (by omega) (by omega)]; omega
  have hcn := s_cnt10 (A := A') (F := F') (P := P) (N := nl) (by omega) (by omega) (nI s)
  have ecn : cN (fun j => g (A' 10) j = nI s) nl 0 = cN (fun l => g r (18 + l) = nI s) nl 0 := cN_c nl 0 (fun j _ hj => by rw [(hCL j (by omega)).1])
  rw [ecn] at hcn
  have hxm : ¬ nI s = -nI 1 := fun z => g0 (Or.inl (by rw [z]; decide))
  have hq : ∀ k, (nI s = -nI 1 ∨ nI s = g r (18 + k)) ↔ g r (18 + k) = nI s := fun k => ⟨fun z => (z.resolve_left hxm).symm, fun z => Or.inr z.symm⟩
  have hsl : ¬ 4 < s := by omega
  have hc := fun c (hc : c < 4) => c_total (P := P) (c := c) hC' hW hS hK hc (nI s)
  have hc0 := hc 0 (by omega)
  have hc2 := hc 2 (by omega)
  have hc3 := hc 3 (by omega)
  have hfq := fun c => fL_c (p' := fun l => g r (18 + l) = nI s) (f' := mPart r Bu Pr c) nl 0 0 (fun j _ _ => hq j) (fun j _ _ => rfl)
  rw [hfq] at hc0 hc2 hc3
  have hrc := fun x A F P => e_Money_receipts 183 x (heap A F P) rfl
  rw [e_Pa_seller 1 _ _ _ rfl]
  simp (maxSteps := 2000000) (disch := (first | omega | (simp (disch := omega) only [up_eq, up_ne, cpA_o, cpF_o, List.length_set] <;> omega) | fail)) only [ob_s, am_bi_s, am_bv_s, am_bl_s, ↓bif_d, lits, nI_addS, nI_mulS, nI_subS, nI_lt', nI_le', nI_eq', ↓rd_nI, ↓wrH, up_eq, up_ne, up_up, up_sw, List.set_set, g_seq, g_sne, Nat.reduceEqDiff, ↓reduceIte, List.length_set, Nat.add_sub_cancel_left, Nat.add_sub_cancel, ite_true, ite_false, if_true, if_false, not_true_eq_false, not_false_eq_true, Bool.and_true, Bool.true_and, true_or, or_true, false_or, or_false, and_true, true_and, and_false, false_and, Nat.not_lt_zero, hpRX, hpIX, hpFX, hpLX, hpSX, ↓rgX, ↓rpX, Nat.reduceLeDiff, Nat.reduceLT, Nat.reduceAdd, Nat.reduceMul, Nat.reduceSub, s_out, b01_0, g0, hcl, hsl, hc0]
theorem k_seller3 (hI : HQ A F P A' F' r nB nl nb nx L B Fi Se Mn Bu Pr) {s : Nat} (hs : s < 5) : am_cl m_Pa_seller (.ref 1 :: [.int (nI s), .int (nI 3)]) (heap A F P) = some (some (.long (fL (fun l => g r (18 + l) = nI s) (mPart r Bu Pr 0) nl 0 0 - fL (fun l => g r (18 + l) = nI s) (mPart r Bu Pr 2) nl 0 0 - fL (fun l => g r (18 + l) = nI s) (mPart r Bu Pr 3) nl 0 0)), heap A' F' P) := by
  classical
  obtain ⟨hW, hK, hC', hC0, hS, hcl⟩ := id hI
  obtain ⟨-, -, ⟨n1, n2, n3, n4⟩, l0, hAL, hAM, hAX, hAS, -⟩ := id hC0
  obtain ⟨c5, c7, c10, c12, c14, c16, c18, c21, c23, c25, c27, c29, c31, c33⟩ := LenS2 l0
  obtain ⟨hM, hB, ⟨m1, m2, m3, m4⟩, l1, hCL, hCM, hCX, hCS, hS0, hS1, hS2, hS3⟩ := id hC'
  obtain ⟨d5, d7, d10, d12, d14, d16, d18, d21, d23, d25, d27, d29, d31, d33⟩ := LenS2 l1
  obtain ⟨w166, w168, w170, w172, w174, w176, w178, w180, w182⟩ := id hW
  have hnl : nl ≤ 20 := hM.1.2.2.2.2.2.2.2.1
  have hnb : nb ≤ 8 := hM.1.2.2.2.2.2.2.2.2.1
  have hnx : nx ≤ 60 := hM.1.2.2.2.2.2.2.2.2.2
  have iL := fun x => s_isLot (A := A) (F := F) (P := P) n2 (by omega) x
  have iB := fun x => s_isBidder (A := A) (F := F) (P := P) n3 (by omega) x
  have iX := fun x => s_isBid (A := A) (F := F) (P := P) n4 (by omega) x
  have g0 : ¬ (nI s < nI 0 ∨ nI 4 < nI s) := by rw [nI_lt' (by omega) (by omega), nI_lt' (by omega) (by omega)]; omega
  have hcn := s_cnt10 (A := A') (F := F') (P := P) (N := nl) (by omega) (by omega) (nI s)
  have ecn : cN (fun j => g (A' 10) j = nI s) nl 0 = cN (fun l => g r (18 + l) = nI s) nl 0 := cN_c nl 0 (fun j _ hj => by rw [(hCL j (by omega)).1])
  rw [ecn] at hcn
  have hxm : ¬ nI s = -nI 1 := fun z => g0 (Or.inl (by rw [z]; decide))
  have hq : ∀ k, (nI s = -nI 1 ∨ nI s = g r (18 + k)) ↔ g r (18 + k) = nI s := fun k => ⟨fun z => (z.resolve_left hxm).symm, fun z => Or.inr z.symm⟩
  have hsl : ¬ 4 < s := by omega
  have hc := fun c (hc : c < 4) => c_total (P := P) (c := c) hC' hW hS hK hc (nI s)
  have hc0 := hc 0 (by omega)
  have hc2 := hc 2 (by omega)
  have hc3 := hc 3 (by omega)
  have hfq := fun c => fL_c (p' := fun l => g r (18 + l) = nI s) (f' := mPart r Bu Pr c) nl 0 0 (fun j _ _ => hq j) (fun j _ _ => rfl)
  rw [hfq] at hc0 hc2 hc3
  have hrc := fun x A F P => e_Money_receipts 183 x (heap A F P) rfl
  rw [e_Pa_seller 1 _ _ _ rfl]
  simp (maxSteps := 2000000) (disch := (first | omega | (simp (disch := omega) only [up_eq, up_ne, cpA_o, cpF_o, List.length_set] <;> omega) | fail)) only [ob_s, am_bi_s, am_bv_s, am_bl_s, ↓bif_d, lits, nI_addS, nI_mulS, nI_subS, nI_lt', nI_le', nI_eq', ↓rd_nI, ↓wrH, up_eq, up_ne, up_up, up_sw, List.set_set, g_seq, g_sne, Nat.reduceEqDiff, ↓reduceIte, List.length_set, Nat.add_sub_cancel_left, Nat.add_sub_cancel, ite_true, ite_false, if_true, if_false, not_true_eq_false, not_false_eq_true, Bool.and_true, Bool.true_and, true_or, or_true, false_or, or_false, and_true, true_and, and_false, false_and, Nat.not_lt_zero, hpRX, hpIX, hpFX, hpLX, hpSX, ↓rgX, ↓rpX, Nat.reduceLeDiff, Nat.reduceLT, Nat.reduceAdd, Nat.reduceMul, Nat.reduceSub, s_out, b01_0, g0, hcl, hsl, hrc, hc0, hc2, hc3]
theorem k_seller4 (hI : HQ A F P A' F' r nB nl nb nx L B Fi Se Mn Bu Pr) {s : Nat} (hs : s < 5) : am_cl m_Pa_seller (.ref 1 :: [.int (nI s), .int (nI 4)]) (heap A F P) = some (some (.long (-9223372036854775808)), heap A' F' P) := by
  classical
  obtain ⟨hW, hK, hC', hC0, hS, hcl⟩ := id hI
  obtain ⟨-, -, ⟨n1, n2, n3, n4⟩, l0, hAL, hAM, hAX, hAS, -⟩ := id hC0
  obtain ⟨c5, c7, c10, c12, c14, c16, c18, c21, c23, c25, c27, c29, c31, c33⟩ := LenS2 l0
  obtain ⟨hM, hB, ⟨m1, m2, m3, m4⟩, l1, hCL, hCM, hCX, hCS, hS0, hS1, hS2, hS3⟩ := id hC'
  obtain ⟨d5, d7, d10, d12, d14, d16, d18, d21, d23, d25, d27, d29, d31, d33⟩ := LenS2 l1
  obtain ⟨w166, w168, w170, w172, w174, w176, w178, w180, w182⟩ := id hW
  have hnl : nl ≤ 20 := hM.1.2.2.2.2.2.2.2.1
  have hnb : nb ≤ 8 := hM.1.2.2.2.2.2.2.2.2.1
  have hnx : nx ≤ 60 := hM.1.2.2.2.2.2.2.2.2.2
  have iL := fun x => s_isLot (A := A) (F := F) (P := P) n2 (by omega) x
  have iB := fun x => s_isBidder (A := A) (F := F) (P := P) n3 (by omega) x
  have iX := fun x => s_isBid (A := A) (F := F) (P := P) n4 (by omega) x
  have g0 : ¬ (nI s < nI 0 ∨ nI 4 < nI s) := by rw [nI_lt' (by omega) (by omega), nI_lt' (by omega) (by omega)]; omega
  have hcn := s_cnt10 (A := A') (F := F') (P := P) (N := nl) (by omega) (by omega) (nI s)
  have ecn : cN (fun j => g (A' 10) j = nI s) nl 0 = cN (fun l => g r (18 + l) = nI s) nl 0 := cN_c nl 0 (fun j _ hj => by rw [(hCL j (by omega)).1])
  rw [ecn] at hcn
  have hxm : ¬ nI s = -nI 1 := fun z => g0 (Or.inl (by rw [z]; decide))
  have hq : ∀ k, (nI s = -nI 1 ∨ nI s = g r (18 + k)) ↔ g r (18 + k) = nI s := fun k => ⟨fun z => (z.resolve_left hxm).symm, fun z => Or.inr z.symm⟩
  have hsl : ¬ 4 < s := by omega
  have hc := fun c (hc : c < 4) => c_total (P := P) (c := c) hC' hW hS hK hc (nI s)
  have hc0 := hc 0 (by omega)
  have hc2 := hc 2 (by omega)
  have hc3 := hc 3 (by omega)
  have hfq := fun c => fL_c (p' := fun l => g r (18 + l) = nI s) (f' := mPart r Bu Pr c) nl 0 0 (fun j _ _ => hq j) (fun j _ _ => rfl)
  rw [hfq] at hc0 hc2 hc3
  have hrc := fun x A F P => e_Money_receipts 183 x (heap A F P) rfl
  rw [e_Pa_seller 1 _ _ _ rfl]
  simp (maxSteps := 2000000) (disch := (first | omega | (simp (disch := omega) only [up_eq, up_ne, cpA_o, cpF_o, List.length_set] <;> omega) | fail)) only [ob_s, am_bi_s, am_bv_s, am_bl_s, ↓bif_d, lits, nI_addS, nI_mulS, nI_subS, nI_lt', nI_le', nI_eq', ↓rd_nI, ↓wrH, up_eq, up_ne, up_up, up_sw, List.set_set, g_seq, g_sne, Nat.reduceEqDiff, ↓reduceIte, List.length_set, Nat.add_sub_cancel_left, Nat.add_sub_cancel, ite_true, ite_false, if_true, if_false, not_true_eq_false, not_false_eq_true, Bool.and_true, Bool.true_and, true_or, or_true, false_or, or_false, and_true, true_and, and_false, false_and, Nat.not_lt_zero, hpRX, hpIX, hpFX, hpLX, hpSX, ↓rgX, ↓rpX, Nat.reduceLeDiff, Nat.reduceLT, Nat.reduceAdd, Nat.reduceMul, Nat.reduceSub, s_out, b01_0, g0, hcl, hsl]
theorem k_seller_e (hC : Cx A F r nB nl nb nx) (x v : Int32) (g0 : x < nI 0 ∨ nI 4 < x) : am_cl m_Pa_seller (.ref 1 :: [.int x, .int v]) (heap A F P) = some (some (.long (-9223372036854775808)), heap A F P) := by
  classical
  obtain ⟨hM, hB, ⟨n1, n2, n3, n4⟩, l1, hCL, hCM, hCX, hCS, hS0, hS1, hS2, hS3⟩ := id hC
  obtain ⟨c5, c7, c10, c12, c14, c16, c18, c21, c23, c25, c27, c29, c31, c33⟩ := LenS2 l1
  have hnl : nl ≤ 20 := hM.1.2.2.2.2.2.2.2.1
  have hnb : nb ≤ 8 := hM.1.2.2.2.2.2.2.2.2.1
  have hnx : nx ≤ 60 := hM.1.2.2.2.2.2.2.2.2.2
  have hnB : nB ≤ 8 := hM.1.2.2.2.2.2.2.1
  have iL := fun x => s_isLot (A := A) (F := F) (P := P) n2 (by omega) x
  have iB := fun x => s_isBidder (A := A) (F := F) (P := P) n3 (by omega) x
  have iX := fun x => s_isBid (A := A) (F := F) (P := P) n4 (by omega) x
  rw [e_Pa_seller 1 _ _ _ rfl]
  simp (maxSteps := 2000000) (disch := (first | omega | (simp (disch := omega) only [up_eq, up_ne, cpA_o, cpF_o, List.length_set] <;> omega) | fail)) only [ob_s, am_bi_s, am_bv_s, am_bl_s, ↓bif_d, lits, nI_addS, nI_mulS, nI_subS, nI_lt', nI_le', nI_eq', ↓rd_nI, ↓wrH, up_eq, up_ne, up_up, up_sw, List.set_set, g_seq, g_sne, Nat.reduceEqDiff, ↓reduceIte, List.length_set, Nat.add_sub_cancel_left, Nat.add_sub_cancel, ite_true, ite_false, if_true, if_false, not_true_eq_false, not_false_eq_true, Bool.and_true, Bool.true_and, true_or, or_true, false_or, or_false, and_true, true_and, and_false, false_and, Nat.not_lt_zero, hpRX, hpIX, hpFX, hpLX, hpSX, ↓rgX, ↓rpX, Nat.reduceLeDiff, Nat.reduceLT, Nat.reduceAdd, Nat.reduceMul, Nat.reduceSub, s_out, b01_0, g0]
theorem k_account0 (hI : HQ A F P A' F' r nB nl nb nx L B Fi Se Mn Bu Pr)  : am_cl m_Pa_account (.ref 1 :: [.int (nI 0)]) (heap A F P) = some (some (.long (fL (fun _ => True) (mPart r Bu Pr 0) nl 0 0)), heap A' F' P) := by
  classical
  obtain ⟨hW, hK, hC', hC0, hS, hcl⟩ := id hI
  obtain ⟨-, -, ⟨n1, n2, n3, n4⟩, l0, hAL, hAM, hAX, hAS, -⟩ := id hC0
  obtain ⟨c5, c7, c10, c12, c14, c16, c18, c21, c23, c25, c27, c29, c31, c33⟩ := LenS2 l0
  obtain ⟨hM, hB, ⟨m1, m2, m3, m4⟩, l1, hCL, hCM, hCX, hCS, hS0, hS1, hS2, hS3⟩ := id hC'
  obtain ⟨d5, d7, d10, d12, d14, d16, d18, d21, d23, d25, d27, d29, d31, d33⟩ := LenS2 l1
  obtain ⟨w166, w168, w170, w172, w174, w176, w178, w180, w182⟩ := id hW
  have hnl : nl ≤ 20 := hM.1.2.2.2.2.2.2.2.1
  have hnb : nb ≤ 8 := hM.1.2.2.2.2.2.2.2.2.1
  have hnx : nx ≤ 60 := hM.1.2.2.2.2.2.2.2.2.2
  have iL := fun x => s_isLot (A := A) (F := F) (P := P) n2 (by omega) x
  have iB := fun x => s_isBidder (A := A) (F := F) (P := P) n3 (by omega) x
  have iX := fun x => s_isBid (A := A) (F := F) (P := P) n4 (by omega) x
  have g0 : True := trivial
  have hc := fun c (hc : c < 4) => c_total (P := P) (c := c) hC' hW hS hK hc (-nI 1)
  have hc0 := hc 0 (by omega)
  have hc1 := hc 1 (by omega)
  have hc2 := hc 2 (by omega)
  have hc3 := hc 3 (by omega)
  have hfq := fun c => fL_c (p := fun l => -nI 1 = -nI 1 ∨ -nI 1 = g r (18 + l)) (p' := fun _ => True) (f' := mPart r Bu Pr c) nl 0 0 (fun j _ _ => ⟨fun _ => trivial, fun _ => Or.inl rfl⟩) (fun j _ _ => rfl)
  rw [hfq] at hc0 hc1 hc2 hc3
  have hrc := fun x A F P => e_Money_receipts 183 x (heap A F P) rfl
  have hpy := fun A F P => e_Money_payments 183 (heap A F P) rfl
  rw [e_Pa_account 1 _ _ rfl]
  simp (maxSteps := 2000000) (disch := (first | omega | (simp (disch := omega) only [up_eq, up_ne, cpA_o, cpF_o, List.length_set] <;> omega) | fail)) only [ob_s, am_bi_s, am_bv_s, am_bl_s, ↓bif_d, lits, nI_addS, nI_mulS, nI_subS, nI_lt', nI_le', nI_eq', ↓rd_nI, ↓wrH, up_eq, up_ne, up_up, up_sw, List.set_set, g_seq, g_sne, Nat.reduceEqDiff, ↓reduceIte, List.length_set, Nat.add_sub_cancel_left, Nat.add_sub_cancel, ite_true, ite_false, if_true, if_false, not_true_eq_false, not_false_eq_true, Bool.and_true, Bool.true_and, true_or, or_true, false_or, or_false, and_true, true_and, and_false, false_and, Nat.not_lt_zero, hpRX, hpIX, hpFX, hpLX, hpSX, ↓rgX, ↓rpX, Nat.reduceLeDiff, Nat.reduceLT, Nat.reduceAdd, Nat.reduceMul, Nat.reduceSub, s_out, b01_0, g0, hcl, hc0]
theorem k_account1 (hI : HQ A F P A' F' r nB nl nb nx L B Fi Se Mn Bu Pr)  : am_cl m_Pa_account (.ref 1 :: [.int (nI 1)]) (heap A F P) = some (some (.long (fL (fun _ => True) (mPart r Bu Pr 1) nl 0 0)), heap A' F' P) := by
  classical
  obtain ⟨hW, hK, hC', hC0, hS, hcl⟩ := id hI
  obtain ⟨-, -, ⟨n1, n2, n3, n4⟩, l0, hAL, hAM, hAX, hAS, -⟩ := id hC0
  obtain ⟨c5, c7, c10, c12, c14, c16, c18, c21, c23, c25, c27, c29, c31, c33⟩ := LenS2 l0
  obtain ⟨hM, hB, ⟨m1, m2, m3, m4⟩, l1, hCL, hCM, hCX, hCS, hS0, hS1, hS2, hS3⟩ := id hC'
  obtain ⟨d5, d7, d10, d12, d14, d16, d18, d21, d23, d25, d27, d29, d31, d33⟩ := LenS2 l1
  obtain ⟨w166, w168, w170, w172, w174, w176, w178, w180, w182⟩ := id hW
  have hnl : nl ≤ 20 := hM.1.2.2.2.2.2.2.2.1
  have hnb : nb ≤ 8 := hM.1.2.2.2.2.2.2.2.2.1
  have hnx : nx ≤ 60 := hM.1.2.2.2.2.2.2.2.2.2
  have iL := fun x => s_isLot (A := A) (F := F) (P := P) n2 (by omega) x
  have iB := fun x => s_isBidder (A := A) (F := F) (P := P) n3 (by omega) x
  have iX := fun x => s_isBid (A := A) (F := F) (P := P) n4 (by omega) x
  have g0 : True := trivial
  have hc := fun c (hc : c < 4) => c_total (P := P) (c := c) hC' hW hS hK hc (-nI 1)
  have hc0 := hc 0 (by omega)
  have hc1 := hc 1 (by omega)
  have hc2 := hc 2 (by omega)
  have hc3 := hc 3 (by omega)
  have hfq := fun c => fL_c (p := fun l => -nI 1 = -nI 1 ∨ -nI 1 = g r (18 + l)) (p' := fun _ => True) (f' := mPart r Bu Pr c) nl 0 0 (fun j _ _ => ⟨fun _ => trivial, fun _ => Or.inl rfl⟩) (fun j _ _ => rfl)
  rw [hfq] at hc0 hc1 hc2 hc3
  have hrc := fun x A F P => e_Money_receipts 183 x (heap A F P) rfl
  have hpy := fun A F P => e_Money_payments 183 (heap A F P) rfl
  rw [e_Pa_account 1 _ _ rfl]
  simp (maxSteps := 2000000) (disch := (first | omega | (simp (disch := omega) only [up_eq, up_ne, cpA_o, cpF_o, List.length_set] <;> omega) | fail)) only [ob_s, am_bi_s, am_bv_s, am_bl_s, ↓bif_d, lits, nI_addS, nI_mulS, nI_subS, nI_lt', nI_le', nI_eq', ↓rd_nI, ↓wrH, up_eq, up_ne, up_up, up_sw, List.set_set, g_seq, g_sne, Nat.reduceEqDiff, ↓reduceIte, List.length_set, Nat.add_sub_cancel_left, Nat.add_sub_cancel, ite_true, ite_false, if_true, if_false, not_true_eq_false, not_false_eq_true, Bool.and_true, Bool.true_and, true_or, or_true, false_or, or_false, and_true, true_and, and_false, false_and, Nat.not_lt_zero, hpRX, hpIX, hpFX, hpLX, hpSX, ↓rgX, ↓rpX, Nat.reduceLeDiff, Nat.reduceLT, Nat.reduceAdd, Nat.reduceMul, Nat.reduceSub, s_out, b01_0, g0, hcl, hc1]
theorem k_account2 (hI : HQ A F P A' F' r nB nl nb nx L B Fi Se Mn Bu Pr)  : am_cl m_Pa_account (.ref 1 :: [.int (nI 2)]) (heap A F P) = some (some (.long (fL (fun _ => True) (mPart r Bu Pr 2) nl 0 0)), heap A' F' P) := by
  classical
  obtain ⟨hW, hK, hC', hC0, hS, hcl⟩ := id hI
  obtain ⟨-, -, ⟨n1, n2, n3, n4⟩, l0, hAL, hAM, hAX, hAS, -⟩ := id hC0
  obtain ⟨c5, c7, c10, c12, c14, c16, c18, c21, c23, c25, c27, c29, c31, c33⟩ := LenS2 l0
  obtain ⟨hM, hB, ⟨m1, m2, m3, m4⟩, l1, hCL, hCM, hCX, hCS, hS0, hS1, hS2, hS3⟩ := id hC'
  obtain ⟨d5, d7, d10, d12, d14, d16, d18, d21, d23, d25, d27, d29, d31, d33⟩ := LenS2 l1
  obtain ⟨w166, w168, w170, w172, w174, w176, w178, w180, w182⟩ := id hW
  have hnl : nl ≤ 20 := hM.1.2.2.2.2.2.2.2.1
  have hnb : nb ≤ 8 := hM.1.2.2.2.2.2.2.2.2.1
  have hnx : nx ≤ 60 := hM.1.2.2.2.2.2.2.2.2.2
  have iL := fun x => s_isLot (A := A) (F := F) (P := P) n2 (by omega) x
  have iB := fun x => s_isBidder (A := A) (F := F) (P := P) n3 (by omega) x
  have iX := fun x => s_isBid (A := A) (F := F) (P := P) n4 (by omega) x
  have g0 : True := trivial
  have hc := fun c (hc : c < 4) => c_total (P := P) (c := c) hC' hW hS hK hc (-nI 1)
  have hc0 := hc 0 (by omega)
  have hc1 := hc 1 (by omega)
  have hc2 := hc 2 (by omega)
  have hc3 := hc 3 (by omega)
  have hfq := fun c => fL_c (p := fun l => -nI 1 = -nI 1 ∨ -nI 1 = g r (18 + l)) (p' := fun _ => True) (f' := mPart r Bu Pr c) nl 0 0 (fun j _ _ => ⟨fun _ => trivial, fun _ => Or.inl rfl⟩) (fun j _ _ => rfl)
  rw [hfq] at hc0 hc1 hc2 hc3
  have hrc := fun x A F P => e_Money_receipts 183 x (heap A F P) rfl
  have hpy := fun A F P => e_Money_payments 183 (heap A F P) rfl
  rw [e_Pa_account 1 _ _ rfl]
  simp (maxSteps := 2000000) (disch := (first | omega | (simp (disch := omega) only [up_eq, up_ne, cpA_o, cpF_o, List.length_set] <;> omega) | fail)) only [ob_s, am_bi_s, am_bv_s, am_bl_s, ↓bif_d, lits, nI_addS, nI_mulS, nI_subS, nI_lt', nI_le', nI_eq', ↓rd_nI, ↓wrH, up_eq, up_ne, up_up, up_sw, List.set_set, g_seq, g_sne, Nat.reduceEqDiff, ↓reduceIte, List.length_set, Nat.add_sub_cancel_left, Nat.add_sub_cancel, ite_true, ite_false, if_true, if_false, not_true_eq_false, not_false_eq_true, Bool.and_true, Bool.true_and, true_or, or_true, false_or, or_false, and_true, true_and, and_false, false_and, Nat.not_lt_zero, hpRX, hpIX, hpFX, hpLX, hpSX, ↓rgX, ↓rpX, Nat.reduceLeDiff, Nat.reduceLT, Nat.reduceAdd, Nat.reduceMul, Nat.reduceSub, s_out, b01_0, g0, hcl, hc2]
theorem k_account3 (hI : HQ A F P A' F' r nB nl nb nx L B Fi Se Mn Bu Pr)  : am_cl m_Pa_account (.ref 1 :: [.int (nI 3)]) (heap A F P) = some (some (.long (fL (fun _ => True) (mPart r Bu Pr 3) nl 0 0)), heap A' F' P) := by
  classical
  obtain ⟨hW, hK, hC', hC0, hS, hcl⟩ := id hI
  obtain ⟨-, -, ⟨n1, n2, n3, n4⟩, l0, hAL, hAM, hAX, hAS, -⟩ := id hC0
  obtain ⟨c5, c7, c10, c12, c14, c16, c18, c21, c23, c25, c27, c29, c31, c33⟩ := LenS2 l0
  obtain ⟨hM, hB, ⟨m1, m2, m3, m4⟩, l1, hCL, hCM, hCX, hCS, hS0, hS1, hS2, hS3⟩ := id hC'
  obtain ⟨d5, d7, d10, d12, d14, d16, d18, d21, d23, d25, d27, d29, d31, d33⟩ := LenS2 l1
  obtain ⟨w166, w168, w170, w172, w174, w176, w178, w180, w182⟩ := id hW
  have hnl : nl ≤ 20 := hM.1.2.2.2.2.2.2.2.1
  have hnb : nb ≤ 8 := hM.1.2.2.2.2.2.2.2.2.1
  have hnx : nx ≤ 60 := hM.1.2.2.2.2.2.2.2.2.2
  have iL := fun x => s_isLot (A := A) (F := F) (P := P) n2 (by omega) x
  have iB := fun x => s_isBidder (A := A) (F := F) (P := P) n3 (by omega) x
  have iX := fun x => s_isBid (A := A) (F := F) (P := P) n4 (by omega) x
  have g0 : True := trivial
  have hc := fun c (hc : c < 4) => c_total (P := P) (c := c) hC' hW hS hK hc (-nI 1)
  have hc0 := hc 0 (by omega)
  have hc1 := hc 1 (by omega)
  have hc2 := hc 2 (by omega)
  have hc3 := hc 3 (by omega)
  have hfq := fun c => fL_c (p := fun l => -nI 1 = -nI 1 ∨ -nI 1 = g r (18 + l)) (p' := fun _ => True) (f' := mPart r Bu Pr c) nl 0 0 (fun j _ _ => ⟨fun _ => trivial, fun _ => Or.inl rfl⟩) (fun j _ _ => rfl)
  rw [hfq] at hc0 hc1 hc2 hc3
  have hrc := fun x A F P => e_Money_receipts 183 x (heap A F P) rfl
  have hpy := fun A F P => e_Money_payments 183 (heap A F P) rfl
  rw [e_Pa_account 1 _ _ rfl]
  simp (maxSteps := 2000000) (disch := (first | omega | (simp (disch := omega) only [up_eq, up_ne, cpA_o, cpF_o, List.length_set] <;> omega) | fail)) only [ob_s, am_bi_s, am_bv_s, am_bl_s, ↓bif_d, lits, nI_addS, nI_mulS, nI_subS, nI_lt', nI_le', nI_eq', ↓rd_nI, ↓wrH, up_eq, up_ne, up_up, up_sw, List.set_set, g_seq, g_sne, Nat.reduceEqDiff, ↓reduceIte, List.length_set, Nat.add_sub_cancel_left, Nat.add_sub_cancel, ite_true, ite_false, if_true, if_false, not_true_eq_false, not_false_eq_true, Bool.and_true, Bool.true_and, true_or, or_true, false_or, or_false, and_true, true_and, and_false, false_and, Nat.not_lt_zero, hpRX, hpIX, hpFX, hpLX, hpSX, ↓rgX, ↓rpX, Nat.reduceLeDiff, Nat.reduceLT, Nat.reduceAdd, Nat.reduceMul, Nat.reduceSub, s_out, b01_0, g0, hcl, hc3]
theorem k_account4 (hI : HQ A F P A' F' r nB nl nb nx L B Fi Se Mn Bu Pr)  : am_cl m_Pa_account (.ref 1 :: [.int (nI 4)]) (heap A F P) = some (some (.long ((fL (fun _ => True) (mPart r Bu Pr 0) nl 0 0 + fL (fun _ => True) (mPart r Bu Pr 1) nl 0 0))), heap A' F' P) := by
  classical
  obtain ⟨hW, hK, hC', hC0, hS, hcl⟩ := id hI
  obtain ⟨-, -, ⟨n1, n2, n3, n4⟩, l0, hAL, hAM, hAX, hAS, -⟩ := id hC0
  obtain ⟨c5, c7, c10, c12, c14, c16, c18, c21, c23, c25, c27, c29, c31, c33⟩ := LenS2 l0
  obtain ⟨hM, hB, ⟨m1, m2, m3, m4⟩, l1, hCL, hCM, hCX, hCS, hS0, hS1, hS2, hS3⟩ := id hC'
  obtain ⟨d5, d7, d10, d12, d14, d16, d18, d21, d23, d25, d27, d29, d31, d33⟩ := LenS2 l1
  obtain ⟨w166, w168, w170, w172, w174, w176, w178, w180, w182⟩ := id hW
  have hnl : nl ≤ 20 := hM.1.2.2.2.2.2.2.2.1
  have hnb : nb ≤ 8 := hM.1.2.2.2.2.2.2.2.2.1
  have hnx : nx ≤ 60 := hM.1.2.2.2.2.2.2.2.2.2
  have iL := fun x => s_isLot (A := A) (F := F) (P := P) n2 (by omega) x
  have iB := fun x => s_isBidder (A := A) (F := F) (P := P) n3 (by omega) x
  have iX := fun x => s_isBid (A := A) (F := F) (P := P) n4 (by omega) x
  have g0 : True := trivial
  have hc := fun c (hc : c < 4) => c_total (P := P) (c := c) hC' hW hS hK hc (-nI 1)
  have hc0 := hc 0 (by omega)
  have hc1 := hc 1 (by omega)
  have hc2 := hc 2 (by omega)
  have hc3 := hc 3 (by omega)
  have hfq := fun c => fL_c (p := fun l => -nI 1 = -nI 1 ∨ -nI 1 = g r (18 + l)) (p' := fun _ => True) (f' := mPart r Bu Pr c) nl 0 0 (fun j _ _ => ⟨fun _ => trivial, fun _ => Or.inl rfl⟩) (fun j _ _ => rfl)
  rw [hfq] at hc0 hc1 hc2 hc3
  have hrc := fun x A F P => e_Money_receipts 183 x (heap A F P) rfl
  have hpy := fun A F P => e_Money_payments 183 (heap A F P) rfl
  rw [e_Pa_account 1 _ _ rfl]
  simp (maxSteps := 2000000) (disch := (first | omega | (simp (disch := omega) only [up_eq, up_ne, cpA_o, cpF_o, List.length_set] <;> omega) | fail)) only [ob_s, am_bi_s, am_bv_s, am_bl_s, ↓bif_d, lits, nI_addS, nI_mulS, nI_subS, nI_lt', nI_le', nI_eq', ↓rd_nI, ↓wrH, up_eq, up_ne, up_up, up_sw, List.set_set, g_seq, g_sne, Nat.reduceEqDiff, ↓reduceIte, List.length_set, Nat.add_sub_cancel_left, Nat.add_sub_cancel, ite_true, ite_false, if_true, if_false, not_true_eq_false, not_false_eq_true, Bool.and_true, Bool.true_and, true_or, or_true, false_or, or_false, and_true, true_and, and_false, false_and, Nat.not_lt_zero, hpRX, hpIX, hpFX, hpLX, hpSX, ↓rgX, ↓rpX, Nat.reduceLeDiff, Nat.reduceLT, Nat.reduceAdd, Nat.reduceMul, Nat.reduceSub, s_out, b01_0, g0, hcl, hpy, hc0, hc1]
theorem k_account5 (hI : HQ A F P A' F' r nB nl nb nx L B Fi Se Mn Bu Pr)  : am_cl m_Pa_account (.ref 1 :: [.int (nI 5)]) (heap A F P) = some (some (.long ((fL (fun _ => True) (mPart r Bu Pr 0) nl 0 0 - fL (fun _ => True) (mPart r Bu Pr 2) nl 0 0 - fL (fun _ => True) (mPart r Bu Pr 3) nl 0 0))), heap A' F' P) := by
  classical
  obtain ⟨hW, hK, hC', hC0, hS, hcl⟩ := id hI
  obtain ⟨-, -, ⟨n1, n2, n3, n4⟩, l0, hAL, hAM, hAX, hAS, -⟩ := id hC0
  obtain ⟨c5, c7, c10, c12, c14, c16, c18, c21, c23, c25, c27, c29, c31, c33⟩ := LenS2 l0
  obtain ⟨hM, hB, ⟨m1, m2, m3, m4⟩, l1, hCL, hCM, hCX, hCS, hS0, hS1, hS2, hS3⟩ := id hC'
  obtain ⟨d5, d7, d10, d12, d14, d16, d18, d21, d23, d25, d27, d29, d31, d33⟩ := LenS2 l1
  obtain ⟨w166, w168, w170, w172, w174, w176, w178, w180, w182⟩ := id hW
  have hnl : nl ≤ 20 := hM.1.2.2.2.2.2.2.2.1
  have hnb : nb ≤ 8 := hM.1.2.2.2.2.2.2.2.2.1
  have hnx : nx ≤ 60 := hM.1.2.2.2.2.2.2.2.2.2
  have iL := fun x => s_isLot (A := A) (F := F) (P := P) n2 (by omega) x
  have iB := fun x => s_isBidder (A := A) (F := F) (P := P) n3 (by omega) x
  have iX := fun x => s_isBid (A := A) (F := F) (P := P) n4 (by omega) x
  have g0 : True := trivial
  have hc := fun c (hc : c < 4) => c_total (P := P) (c := c) hC' hW hS hK hc (-nI 1)
  have hc0 := hc 0 (by omega)
  have hc1 := hc 1 (by omega)
  have hc2 := hc 2 (by omega)
  have hc3 := hc 3 (by omega)
  have hfq := fun c => fL_c (p := fun l => -nI 1 = -nI 1 ∨ -nI 1 = g r (18 + l)) (p' := fun _ => True) (f' := mPart r Bu Pr c) nl 0 0 (fun j _ _ => ⟨fun _ => trivial, fun _ => Or.inl rfl⟩) (fun j _ _ => rfl)
  rw [hfq] at hc0 hc1 hc2 hc3
  have hrc := fun x A F P => e_Money_receipts 183 x (heap A F P) rfl
  have hpy := fun A F P => e_Money_payments 183 (heap A F P) rfl
  rw [e_Pa_account 1 _ _ rfl]
  simp (maxSteps := 2000000) (disch := (first | omega | (simp (disch := omega) only [up_eq, up_ne, cpA_o, cpF_o, List.length_set] <;> omega) | fail)) only [ob_s, am_bi_s, am_bv_s, am_bl_s, ↓bif_d, lits, nI_addS, nI_mulS, nI_subS, nI_lt', nI_le', nI_eq', ↓rd_nI, ↓wrH, up_eq, up_ne, up_up, up_sw, List.set_set, g_seq, g_sne, Nat.reduceEqDiff, ↓reduceIte, List.length_set, Nat.add_sub_cancel_left, Nat.add_sub_cancel, ite_true, ite_false, if_true, if_false, not_true_eq_false, not_false_eq_true, Bool.and_true, Bool.true_and, true_or, or_true, false_or, or_false, and_true, true_and, and_false, false_and, Nat.not_lt_zero, hpRX, hpIX, hpFX, hpLX, hpSX, ↓rgX, ↓rpX, Nat.reduceLeDiff, Nat.reduceLT, Nat.reduceAdd, Nat.reduceMul, Nat.reduceSub, s_out, b01_0, g0, hcl, hrc, hc0, hc2, hc3]
theorem k_account6 (hI : HQ A F P A' F' r nB nl nb nx L B Fi Se Mn Bu Pr)  : am_cl m_Pa_account (.ref 1 :: [.int (nI 6)]) (heap A F P) = some (some (.long ((fL (fun _ => True) (mPart r Bu Pr 0) nl 0 0 + fL (fun _ => True) (mPart r Bu Pr 1) nl 0 0) - (fL (fun _ => True) (mPart r Bu Pr 0) nl 0 0 - fL (fun _ => True) (mPart r Bu Pr 2) nl 0 0 - fL (fun _ => True) (mPart r Bu Pr 3) nl 0 0))), heap A' F' P) := by
  classical
  obtain ⟨hW, hK, hC', hC0, hS, hcl⟩ := id hI
  obtain ⟨-, -, ⟨n1, n2, n3, n4⟩, l0, hAL, hAM, hAX, hAS, -⟩ := id hC0
  obtain ⟨c5, c7, c10, c12, c14, c16, c18, c21, c23, c25, c27, c29, c31, c33⟩ := LenS2 l0
  obtain ⟨hM, hB, ⟨m1, m2, m3, m4⟩, l1, hCL, hCM, hCX, hCS, hS0, hS1, hS2, hS3⟩ := id hC'
  obtain ⟨d5, d7, d10, d12, d14, d16, d18, d21, d23, d25, d27, d29, d31, d33⟩ := LenS2 l1
  obtain ⟨w166, w168, w170, w172, w174, w176, w178, w180, w182⟩ := id hW
  have hnl : nl ≤ 20 := hM.1.2.2.2.2.2.2.2.1
  have hnb : nb ≤ 8 := hM.1.2.2.2.2.2.2.2.2.1
  have hnx : nx ≤ 60 := hM.1.2.2.2.2.2.2.2.2.2
  have iL := fun x => s_isLot (A := A) (F := F) (P := P) n2 (by omega) x
  have iB := fun x => s_isBidder (A := A) (F := F) (P := P) n3 (by omega) x
  have iX := fun x => s_isBid (A := A) (F := F) (P := P) n4 (by omega) x
  have g0 : True := trivial
  have hc := fun c (hc : c < 4) => c_total (P := P) (c := c) hC' hW hS hK hc (-nI 1)
  have hc0 := hc 0 (by omega)
  have hc1 := hc 1 (by omega)
  have hc2 := hc 2 (by omega)
  have hc3 := hc 3 (by omega)
  have hfq := fun c => fL_c (p := fun l => -nI 1 = -nI 1 ∨ -nI 1 = g r (18 + l)) (p' := fun _ => True) (f' := mPart r Bu Pr c) nl 0 0 (fun j _ _ => ⟨fun _ => trivial, fun _ => Or.inl rfl⟩) (fun j _ _ => rfl)
  rw [hfq] at hc0 hc1 hc2 hc3
  have hrc := fun x A F P => e_Money_receipts 183 x (heap A F P) rfl
  have hpy := fun A F P => e_Money_payments 183 (heap A F P) rfl
  rw [e_Pa_account 1 _ _ rfl]
  simp (maxSteps := 2000000) (disch := (first | omega | (simp (disch := omega) only [up_eq, up_ne, cpA_o, cpF_o, List.length_set] <;> omega) | fail)) only [ob_s, am_bi_s, am_bv_s, am_bl_s, ↓bif_d, lits, nI_addS, nI_mulS, nI_subS, nI_lt', nI_le', nI_eq', ↓rd_nI, ↓wrH, up_eq, up_ne, up_up, up_sw, List.set_set, g_seq, g_sne, Nat.reduceEqDiff, ↓reduceIte, List.length_set, Nat.add_sub_cancel_left, Nat.add_sub_cancel, ite_true, ite_false, if_true, if_false, not_true_eq_false, not_false_eq_true, Bool.and_true, Bool.true_and, true_or, or_true, false_or, or_false, and_true, true_and, and_false, false_and, Nat.not_lt_zero, hpRX, hpIX, hpFX, hpLX, hpSX, ↓rgX, ↓rpX, Nat.reduceLeDiff, Nat.reduceLT, Nat.reduceAdd, Nat.reduceMul, Nat.reduceSub, s_out, b01_0, g0, hcl, hpy, hrc, hc0, hc1, hc2, hc3]
theorem k_account7 (hI : HQ A F P A' F' r nB nl nb nx L B Fi Se Mn Bu Pr)  : am_cl m_Pa_account (.ref 1 :: [.int (nI 7)]) (heap A F P) = some (some (.long (-9223372036854775808)), heap A' F' P) := by
  classical
  obtain ⟨hW, hK, hC', hC0, hS, hcl⟩ := id hI
  obtain ⟨-, -, ⟨n1, n2, n3, n4⟩, l0, hAL, hAM, hAX, hAS, -⟩ := id hC0
  obtain ⟨c5, c7, c10, c12, c14, c16, c18, c21, c23, c25, c27, c29, c31, c33⟩ := LenS2 l0
  obtain ⟨hM, hB, ⟨m1, m2, m3, m4⟩, l1, hCL, hCM, hCX, hCS, hS0, hS1, hS2, hS3⟩ := id hC'
  obtain ⟨d5, d7, d10, d12, d14, d16, d18, d21, d23, d25, d27, d29, d31, d33⟩ := LenS2 l1
  obtain ⟨w166, w168, w170, w172, w174, w176, w178, w180, w182⟩ := id hW
  have hnl : nl ≤ 20 := hM.1.2.2.2.2.2.2.2.1
  have hnb : nb ≤ 8 := hM.1.2.2.2.2.2.2.2.2.1
  have hnx : nx ≤ 60 := hM.1.2.2.2.2.2.2.2.2.2
  have iL := fun x => s_isLot (A := A) (F := F) (P := P) n2 (by omega) x
  have iB := fun x => s_isBidder (A := A) (F := F) (P := P) n3 (by omega) x
  have iX := fun x => s_isBid (A := A) (F := F) (P := P) n4 (by omega) x
  have g0 : True := trivial
  have hc := fun c (hc : c < 4) => c_total (P := P) (c := c) hC' hW hS hK hc (-nI 1)
  have hc0 := hc 0 (by omega)
  have hc1 := hc 1 (by omega)
  have hc2 := hc 2 (by omega)
  have hc3 := hc 3 (by omega)
  have hfq := fun c => fL_c (p := fun l => -nI 1 = -nI 1 ∨ -nI 1 = g r (18 + l)) (p' := fun _ => True) (f' := mPart r Bu Pr c) nl 0 0 (fun j _ _ => ⟨fun _ => trivial, fun _ => Or.inl rfl⟩) (fun j _ _ => rfl)
  rw [hfq] at hc0 hc1 hc2 hc3
  have hrc := fun x A F P => e_Money_receipts 183 x (heap A F P) rfl
  have hpy := fun A F P => e_Money_payments 183 (heap A F P) rfl
  rw [e_Pa_account 1 _ _ rfl]
  simp (maxSteps := 2000000) (disch := (first | omega | (simp (disch := omega) only [up_eq, up_ne, cpA_o, cpF_o, List.length_set] <;> omega) | fail)) only [ob_s, am_bi_s, am_bv_s, am_bl_s, ↓bif_d, lits, nI_addS, nI_mulS, nI_subS, nI_lt', nI_le', nI_eq', ↓rd_nI, ↓wrH, up_eq, up_ne, up_up, up_sw, List.set_set, g_seq, g_sne, Nat.reduceEqDiff, ↓reduceIte, List.length_set, Nat.add_sub_cancel_left, Nat.add_sub_cancel, ite_true, ite_false, if_true, if_false, not_true_eq_false, not_false_eq_true, Bool.and_true, Bool.true_and, true_or, or_true, false_or, or_false, and_true, true_and, and_false, false_and, Nat.not_lt_zero, hpRX, hpIX, hpFX, hpLX, hpSX, ↓rgX, ↓rpX, Nat.reduceLeDiff, Nat.reduceLT, Nat.reduceAdd, Nat.reduceMul, Nat.reduceSub, s_out, b01_0, g0, hcl]
theorem k_count0 (hC : Cx A F r nB nl nb nx)  : am_cl m_Pa_count (.ref 1 :: [.int (nI 0)]) (heap A F P) = some (some (.int (nI nl)), heap A F P) := by
  classical
  obtain ⟨hM, hB, ⟨n1, n2, n3, n4⟩, l1, hCL, hCM, hCX, hCS, hS0, hS1, hS2, hS3⟩ := id hC
  obtain ⟨c5, c7, c10, c12, c14, c16, c18, c21, c23, c25, c27, c29, c31, c33⟩ := LenS2 l1
  have hnl : nl ≤ 20 := hM.1.2.2.2.2.2.2.2.1
  have hnb : nb ≤ 8 := hM.1.2.2.2.2.2.2.2.2.1
  have hnx : nx ≤ 60 := hM.1.2.2.2.2.2.2.2.2.2
  have hnB : nB ≤ 8 := hM.1.2.2.2.2.2.2.1
  have iL := fun x => s_isLot (A := A) (F := F) (P := P) n2 (by omega) x
  have iB := fun x => s_isBidder (A := A) (F := F) (P := P) n3 (by omega) x
  have iX := fun x => s_isBid (A := A) (F := F) (P := P) n4 (by omega) x
  have g0 : True := trivial
  have hs16 := s_sum16 (A := A) (F := F) (P := P) (nl := nl) (by omega) (by omega)
  have e16 : sF (fun j => g (A 16) j) nl 0 (nI 0) = sF (fun j => g r (78 + j)) nl 0 (nI 0) := sF_c _ _ _ (fun j _ hj => (hCL j (by omega)).2.2.2.1)
  rw [e16] at hs16
  have z0 := hCS 0 (by omega)
  have z1 := hCS 1 (by omega)
  have z2 := hCS 2 (by omega)
  have z3 := hCS 3 (by omega)
  rw [e_Pa_count 1 _ _ rfl]
  simp (maxSteps := 2000000) (disch := (first | omega | (simp (disch := omega) only [up_eq, up_ne, cpA_o, cpF_o, List.length_set] <;> omega) | fail)) only [ob_s, am_bi_s, am_bv_s, am_bl_s, ↓bif_d, lits, nI_addS, nI_mulS, nI_subS, nI_lt', nI_le', nI_eq', ↓rd_nI, ↓wrH, up_eq, up_ne, up_up, up_sw, List.set_set, g_seq, g_sne, Nat.reduceEqDiff, ↓reduceIte, List.length_set, Nat.add_sub_cancel_left, Nat.add_sub_cancel, ite_true, ite_false, if_true, if_false, not_true_eq_false, not_false_eq_true, Bool.and_true, Bool.true_and, true_or, or_true, false_or, or_false, and_true, true_and, and_false, false_and, Nat.not_lt_zero, hpRX, hpIX, hpFX, hpLX, hpSX, ↓rgX, ↓rpX, Nat.reduceLeDiff, Nat.reduceLT, Nat.reduceAdd, Nat.reduceMul, Nat.reduceSub, s_out, b01_0, g0, n2]
theorem k_count1 (hC : Cx A F r nB nl nb nx)  : am_cl m_Pa_count (.ref 1 :: [.int (nI 1)]) (heap A F P) = some (some (.int (nI nb)), heap A F P) := by
  classical
  obtain ⟨hM, hB, ⟨n1, n2, n3, n4⟩, l1, hCL, hCM, hCX, hCS, hS0, hS1, hS2, hS3⟩ := id hC
  obtain ⟨c5, c7, c10, c12, c14, c16, c18, c21, c23, c25, c27, c29, c31, c33⟩ := LenS2 l1
  have hnl : nl ≤ 20 := hM.1.2.2.2.2.2.2.2.1
  have hnb : nb ≤ 8 := hM.1.2.2.2.2.2.2.2.2.1
  have hnx : nx ≤ 60 := hM.1.2.2.2.2.2.2.2.2.2
  have hnB : nB ≤ 8 := hM.1.2.2.2.2.2.2.1
  have iL := fun x => s_isLot (A := A) (F := F) (P := P) n2 (by omega) x
  have iB := fun x => s_isBidder (A := A) (F := F) (P := P) n3 (by omega) x
  have iX := fun x => s_isBid (A := A) (F := F) (P := P) n4 (by omega) x
  have g0 : True := trivial
  have hs16 := s_sum16 (A := A) (F := F) (P := P) (nl := nl) (by omega) (by omega)
  have e16 : sF (fun j => g (A 16) j) nl 0 (nI 0) = sF (fun j => g r (78 + j)) nl 0 (nI 0) := sF_c _ _ _ (fun j _ hj => (hCL j (by omega)).2.2.2.1)
  rw [e16] at hs16
  have z0 := hCS 0 (by omega)
  have z1 := hCS 1 (by omega)
  have z2 := hCS 2 (by omega)
  have z3 := hCS 3 (by omega)
  rw [e_Pa_count 1 _ _ rfl]
  simp (maxSteps := 2000000) (disch := (first | omega | (simp (disch := omega) only [up_eq, up_ne, cpA_o, cpF_o, List.length_set] <;> omega) | fail)) only [ob_s, am_bi_s, am_bv_s, am_bl_s, ↓bif_d, lits, nI_addS, nI_mulS, nI_subS, nI_lt', nI_le', nI_eq', ↓rd_nI, ↓wrH, up_eq, up_ne, up_up, up_sw, List.set_set, g_seq, g_sne, Nat.reduceEqDiff, ↓reduceIte, List.length_set, Nat.add_sub_cancel_left, Nat.add_sub_cancel, ite_true, ite_false, if_true, if_false, not_true_eq_false, not_false_eq_true, Bool.and_true, Bool.true_and, true_or, or_true, false_or, or_false, and_true, true_and, and_false, false_and, Nat.not_lt_zero, hpRX, hpIX, hpFX, hpLX, hpSX, ↓rgX, ↓rpX, Nat.reduceLeDiff, Nat.reduceLT, Nat.reduceAdd, Nat.reduceMul, Nat.reduceSub, s_out, b01_0, g0, n3]
theorem k_count2 (hC : Cx A F r nB nl nb nx)  : am_cl m_Pa_count (.ref 1 :: [.int (nI 2)]) (heap A F P) = some (some (.int (nI nx)), heap A F P) := by
  classical
  obtain ⟨hM, hB, ⟨n1, n2, n3, n4⟩, l1, hCL, hCM, hCX, hCS, hS0, hS1, hS2, hS3⟩ := id hC
  obtain ⟨c5, c7, c10, c12, c14, c16, c18, c21, c23, c25, c27, c29, c31, c33⟩ := LenS2 l1
  have hnl : nl ≤ 20 := hM.1.2.2.2.2.2.2.2.1
  have hnb : nb ≤ 8 := hM.1.2.2.2.2.2.2.2.2.1
  have hnx : nx ≤ 60 := hM.1.2.2.2.2.2.2.2.2.2
  have hnB : nB ≤ 8 := hM.1.2.2.2.2.2.2.1
  have iL := fun x => s_isLot (A := A) (F := F) (P := P) n2 (by omega) x
  have iB := fun x => s_isBidder (A := A) (F := F) (P := P) n3 (by omega) x
  have iX := fun x => s_isBid (A := A) (F := F) (P := P) n4 (by omega) x
  have g0 : True := trivial
  have hs16 := s_sum16 (A := A) (F := F) (P := P) (nl := nl) (by omega) (by omega)
  have e16 : sF (fun j => g (A 16) j) nl 0 (nI 0) = sF (fun j => g r (78 + j)) nl 0 (nI 0) := sF_c _ _ _ (fun j _ hj => (hCL j (by omega)).2.2.2.1)
  rw [e16] at hs16
  have z0 := hCS 0 (by omega)
  have z1 := hCS 1 (by omega)
  have z2 := hCS 2 (by omega)
  have z3 := hCS 3 (by omega)
  rw [e_Pa_count 1 _ _ rfl]
  simp (maxSteps := 2000000) (disch := (first | omega | (simp (disch := omega) only [up_eq, up_ne, cpA_o, cpF_o, List.length_set] <;> omega) | fail)) only [ob_s, am_bi_s, am_bv_s, am_bl_s, ↓bif_d, lits, nI_addS, nI_mulS, nI_subS, nI_lt', nI_le', nI_eq', ↓rd_nI, ↓wrH, up_eq, up_ne, up_up, up_sw, List.set_set, g_seq, g_sne, Nat.reduceEqDiff, ↓reduceIte, List.length_set, Nat.add_sub_cancel_left, Nat.add_sub_cancel, ite_true, ite_false, if_true, if_false, not_true_eq_false, not_false_eq_true, Bool.and_true, Bool.true_and, true_or, or_true, false_or, or_false, and_true, true_and, and_false, false_and, Nat.not_lt_zero, hpRX, hpIX, hpFX, hpLX, hpSX, ↓rgX, ↓rpX, Nat.reduceLeDiff, Nat.reduceLT, Nat.reduceAdd, Nat.reduceMul, Nat.reduceSub, s_out, b01_0, g0, n4]
theorem k_count4 (hC : Cx A F r nB nl nb nx)  : am_cl m_Pa_count (.ref 1 :: [.int (nI 4)]) (heap A F P) = some (some (.int (sF (fun j => g r (78 + j)) nl 0 (nI 0))), heap A F P) := by
  classical
  obtain ⟨hM, hB, ⟨n1, n2, n3, n4⟩, l1, hCL, hCM, hCX, hCS, hS0, hS1, hS2, hS3⟩ := id hC
  obtain ⟨c5, c7, c10, c12, c14, c16, c18, c21, c23, c25, c27, c29, c31, c33⟩ := LenS2 l1
  have hnl : nl ≤ 20 := hM.1.2.2.2.2.2.2.2.1
  have hnb : nb ≤ 8 := hM.1.2.2.2.2.2.2.2.2.1
  have hnx : nx ≤ 60 := hM.1.2.2.2.2.2.2.2.2.2
  have hnB : nB ≤ 8 := hM.1.2.2.2.2.2.2.1
  have iL := fun x => s_isLot (A := A) (F := F) (P := P) n2 (by omega) x
  have iB := fun x => s_isBidder (A := A) (F := F) (P := P) n3 (by omega) x
  have iX := fun x => s_isBid (A := A) (F := F) (P := P) n4 (by omega) x
  have g0 : True := trivial
  have hs16 := s_sum16 (A := A) (F := F) (P := P) (nl := nl) (by omega) (by omega)
  have e16 : sF (fun j => g (A 16) j) nl 0 (nI 0) = sF (fun j => g r (78 + j)) nl 0 (nI 0) := sF_c _ _ _ (fun j _ hj => (hCL j (by omega)).2.2.2.1)
  rw [e16] at hs16
  have z0 := hCS 0 (by omega)
  have z1 := hCS 1 (by omega)
  have z2 := hCS 2 (by omega)
  have z3 := hCS 3 (by omega)
  rw [e_Pa_count 1 _ _ rfl]
  simp (maxSteps := 2000000) (disch := (first | omega | (simp (disch := omega) only [up_eq, up_ne, cpA_o, cpF_o, List.length_set] <;> omega) | fail)) only [ob_s, am_bi_s, am_bv_s, am_bl_s, ↓bif_d, lits, nI_addS, nI_mulS, nI_subS, nI_lt', nI_le', nI_eq', ↓rd_nI, ↓wrH, up_eq, up_ne, up_up, up_sw, List.set_set, g_seq, g_sne, Nat.reduceEqDiff, ↓reduceIte, List.length_set, Nat.add_sub_cancel_left, Nat.add_sub_cancel, ite_true, ite_false, if_true, if_false, not_true_eq_false, not_false_eq_true, Bool.and_true, Bool.true_and, true_or, or_true, false_or, or_false, and_true, true_and, and_false, false_and, Nat.not_lt_zero, hpRX, hpIX, hpFX, hpLX, hpSX, ↓rgX, ↓rpX, Nat.reduceLeDiff, Nat.reduceLT, Nat.reduceAdd, Nat.reduceMul, Nat.reduceSub, s_out, b01_0, g0, n2, hs16]
theorem k_count7 (hC : Cx A F r nB nl nb nx)  : am_cl m_Pa_count (.ref 1 :: [.int (nI 7)]) (heap A F P) = some (some (.int (nI nB)), heap A F P) := by
  classical
  obtain ⟨hM, hB, ⟨n1, n2, n3, n4⟩, l1, hCL, hCM, hCX, hCS, hS0, hS1, hS2, hS3⟩ := id hC
  obtain ⟨c5, c7, c10, c12, c14, c16, c18, c21, c23, c25, c27, c29, c31, c33⟩ := LenS2 l1
  have hnl : nl ≤ 20 := hM.1.2.2.2.2.2.2.2.1
  have hnb : nb ≤ 8 := hM.1.2.2.2.2.2.2.2.2.1
  have hnx : nx ≤ 60 := hM.1.2.2.2.2.2.2.2.2.2
  have hnB : nB ≤ 8 := hM.1.2.2.2.2.2.2.1
  have iL := fun x => s_isLot (A := A) (F := F) (P := P) n2 (by omega) x
  have iB := fun x => s_isBidder (A := A) (F := F) (P := P) n3 (by omega) x
  have iX := fun x => s_isBid (A := A) (F := F) (P := P) n4 (by omega) x
  have g0 : True := trivial
  have hs16 := s_sum16 (A := A) (F := F) (P := P) (nl := nl) (by omega) (by omega)
  have e16 : sF (fun j => g (A 16) j) nl 0 (nI 0) = sF (fun j => g r (78 + j)) nl 0 (nI 0) := sF_c _ _ _ (fun j _ hj => (hCL j (by omega)).2.2.2.1)
  rw [e16] at hs16
  have z0 := hCS 0 (by omega)
  have z1 := hCS 1 (by omega)
  have z2 := hCS 2 (by omega)
  have z3 := hCS 3 (by omega)
  rw [e_Pa_count 1 _ _ rfl]
  simp (maxSteps := 2000000) (disch := (first | omega | (simp (disch := omega) only [up_eq, up_ne, cpA_o, cpF_o, List.length_set] <;> omega) | fail)) only [ob_s, am_bi_s, am_bv_s, am_bl_s, ↓bif_d, lits, nI_addS, nI_mulS, nI_subS, nI_lt', nI_le', nI_eq', ↓rd_nI, ↓wrH, up_eq, up_ne, up_up, up_sw, List.set_set, g_seq, g_sne, Nat.reduceEqDiff, ↓reduceIte, List.length_set, Nat.add_sub_cancel_left, Nat.add_sub_cancel, ite_true, ite_false, if_true, if_false, not_true_eq_false, not_false_eq_true, Bool.and_true, Bool.true_and, true_or, or_true, false_or, or_false, and_true, true_and, and_false, false_and, Nat.not_lt_zero, hpRX, hpIX, hpFX, hpLX, hpSX, ↓rgX, ↓rpX, Nat.reduceLeDiff, Nat.reduceLT, Nat.reduceAdd, Nat.reduceMul, Nat.reduceSub, s_out, b01_0, g0, n1]
theorem k_count14 (hC : Cx A F r nB nl nb nx)  : am_cl m_Pa_count (.ref 1 :: [.int (nI 14)]) (heap A F P) = some (some (.int (-nI 2)), heap A F P) := by
  classical
  obtain ⟨hM, hB, ⟨n1, n2, n3, n4⟩, l1, hCL, hCM, hCX, hCS, hS0, hS1, hS2, hS3⟩ := id hC
  obtain ⟨c5, c7, c10, c12, c14, c16, c18, c21, c23, c25, c27, c29, c31, c33⟩ := LenS2 l1
  have hnl : nl ≤ 20 := hM.1.2.2.2.2.2.2.2.1
  have hnb : nb ≤ 8 := hM.1.2.2.2.2.2.2.2.2.1
  have hnx : nx ≤ 60 := hM.1.2.2.2.2.2.2.2.2.2
  have hnB : nB ≤ 8 := hM.1.2.2.2.2.2.2.1
  have iL := fun x => s_isLot (A := A) (F := F) (P := P) n2 (by omega) x
  have iB := fun x => s_isBidder (A := A) (F := F) (P := P) n3 (by omega) x
  have iX := fun x => s_isBid (A := A) (F := F) (P := P) n4 (by omega) x
  have g0 : True := trivial
  have hs16 := s_sum16 (A := A) (F := F) (P := P) (nl := nl) (by omega) (by omega)
  have e16 : sF (fun j => g (A 16) j) nl 0 (nI 0) = sF (fun j => g r (78 + j)) nl 0 (nI 0) := sF_c _ _ _ (fun j _ hj => (hCL j (by omega)).2.2.2.1)
  rw [e16] at hs16
  have z0 := hCS 0 (by omega)
  have z1 := hCS 1 (by omega)
  have z2 := hCS 2 (by omega)
  have z3 := hCS 3 (by omega)
  rw [e_Pa_count 1 _ _ rfl]
  simp (maxSteps := 2000000) (disch := (first | omega | (simp (disch := omega) only [up_eq, up_ne, cpA_o, cpF_o, List.length_set] <;> omega) | fail)) only [ob_s, am_bi_s, am_bv_s, am_bl_s, ↓bif_d, lits, nI_addS, nI_mulS, nI_subS, nI_lt', nI_le', nI_eq', ↓rd_nI, ↓wrH, up_eq, up_ne, up_up, up_sw, List.set_set, g_seq, g_sne, Nat.reduceEqDiff, ↓reduceIte, List.length_set, Nat.add_sub_cancel_left, Nat.add_sub_cancel, ite_true, ite_false, if_true, if_false, not_true_eq_false, not_false_eq_true, Bool.and_true, Bool.true_and, true_or, or_true, false_or, or_false, and_true, true_and, and_false, false_and, Nat.not_lt_zero, hpRX, hpIX, hpFX, hpLX, hpSX, ↓rgX, ↓rpX, Nat.reduceLeDiff, Nat.reduceLT, Nat.reduceAdd, Nat.reduceMul, Nat.reduceSub, s_out, b01_0, g0]
theorem k_count8 (hC : Cx A F r nB nl nb nx)  : am_cl m_Pa_count (.ref 1 :: [.int (nI 8)]) (heap A F P) = some (some (.int (g r 468)), heap A F P) := by
  classical
  obtain ⟨hM, hB, ⟨n1, n2, n3, n4⟩, l1, hCL, hCM, hCX, hCS, hS0, hS1, hS2, hS3⟩ := id hC
  obtain ⟨c5, c7, c10, c12, c14, c16, c18, c21, c23, c25, c27, c29, c31, c33⟩ := LenS2 l1
  have hnl : nl ≤ 20 := hM.1.2.2.2.2.2.2.2.1
  have hnb : nb ≤ 8 := hM.1.2.2.2.2.2.2.2.2.1
  have hnx : nx ≤ 60 := hM.1.2.2.2.2.2.2.2.2.2
  have hnB : nB ≤ 8 := hM.1.2.2.2.2.2.2.1
  have iL := fun x => s_isLot (A := A) (F := F) (P := P) n2 (by omega) x
  have iB := fun x => s_isBidder (A := A) (F := F) (P := P) n3 (by omega) x
  have iX := fun x => s_isBid (A := A) (F := F) (P := P) n4 (by omega) x
  have g0 : True := trivial
  have hs16 := s_sum16 (A := A) (F := F) (P := P) (nl := nl) (by omega) (by omega)
  have e16 : sF (fun j => g (A 16) j) nl 0 (nI 0) = sF (fun j => g r (78 + j)) nl 0 (nI 0) := sF_c _ _ _ (fun j _ hj => (hCL j (by omega)).2.2.2.1)
  rw [e16] at hs16
  have z0 := hCS 0 (by omega)
  have z1 := hCS 1 (by omega)
  have z2 := hCS 2 (by omega)
  have z3 := hCS 3 (by omega)
  rw [e_Pa_count 1 _ _ rfl]
  simp (maxSteps := 2000000) (disch := (first | omega | (simp (disch := omega) only [up_eq, up_ne, cpA_o, cpF_o, List.length_set] <;> omega) | fail)) only [ob_s, am_bi_s, am_bv_s, am_bl_s, ↓bif_d, lits, nI_addS, nI_mulS, nI_subS, nI_lt', nI_le', nI_eq', ↓rd_nI, ↓wrH, up_eq, up_ne, up_up, up_sw, List.set_set, g_seq, g_sne, Nat.reduceEqDiff, ↓reduceIte, List.length_set, Nat.add_sub_cancel_left, Nat.add_sub_cancel, ite_true, ite_false, if_true, if_false, not_true_eq_false, not_false_eq_true, Bool.and_true, Bool.true_and, true_or, or_true, false_or, or_false, and_true, true_and, and_false, false_and, Nat.not_lt_zero, hpRX, hpIX, hpFX, hpLX, hpSX, ↓rgX, ↓rpX, Nat.reduceLeDiff, Nat.reduceLT, Nat.reduceAdd, Nat.reduceMul, Nat.reduceSub, s_out, b01_0, g0, z0]
theorem k_count9 (hC : Cx A F r nB nl nb nx)  : am_cl m_Pa_count (.ref 1 :: [.int (nI 9)]) (heap A F P) = some (some (.int (g r 469)), heap A F P) := by
  classical
  obtain ⟨hM, hB, ⟨n1, n2, n3, n4⟩, l1, hCL, hCM, hCX, hCS, hS0, hS1, hS2, hS3⟩ := id hC
  obtain ⟨c5, c7, c10, c12, c14, c16, c18, c21, c23, c25, c27, c29, c31, c33⟩ := LenS2 l1
  have hnl : nl ≤ 20 := hM.1.2.2.2.2.2.2.2.1
  have hnb : nb ≤ 8 := hM.1.2.2.2.2.2.2.2.2.1
  have hnx : nx ≤ 60 := hM.1.2.2.2.2.2.2.2.2.2
  have hnB : nB ≤ 8 := hM.1.2.2.2.2.2.2.1
  have iL := fun x => s_isLot (A := A) (F := F) (P := P) n2 (by omega) x
  have iB := fun x => s_isBidder (A := A) (F := F) (P := P) n3 (by omega) x
  have iX := fun x => s_isBid (A := A) (F := F) (P := P) n4 (by omega) x
  have g0 : True := trivial
  have hs16 := s_sum16 (A := A) (F := F) (P := P) (nl := nl) (by omega) (by omega)
  have e16 : sF (fun j => g (A 16) j) nl 0 (nI 0) = sF (fun j => g r (78 + j)) nl 0 (nI 0) := sF_c _ _ _ (fun j _ hj => (hCL j (by omega)).2.2.2.1)
  rw [e16] at hs16
  have z0 := hCS 0 (by omega)
  have z1 := hCS 1 (by omega)
  have z2 := hCS 2 (by omega)
  have z3 := hCS 3 (by omega)
  rw [e_Pa_count 1 _ _ rfl]
  simp (maxSteps := 2000000) (disch := (first | omega | (simp (disch := omega) only [up_eq, up_ne, cpA_o, cpF_o, List.length_set] <;> omega) | fail)) only [ob_s, am_bi_s, am_bv_s, am_bl_s, ↓bif_d, lits, nI_addS, nI_mulS, nI_subS, nI_lt', nI_le', nI_eq', ↓rd_nI, ↓wrH, up_eq, up_ne, up_up, up_sw, List.set_set, g_seq, g_sne, Nat.reduceEqDiff, ↓reduceIte, List.length_set, Nat.add_sub_cancel_left, Nat.add_sub_cancel, ite_true, ite_false, if_true, if_false, not_true_eq_false, not_false_eq_true, Bool.and_true, Bool.true_and, true_or, or_true, false_or, or_false, and_true, true_and, and_false, false_and, Nat.not_lt_zero, hpRX, hpIX, hpFX, hpLX, hpSX, ↓rgX, ↓rpX, Nat.reduceLeDiff, Nat.reduceLT, Nat.reduceAdd, Nat.reduceMul, Nat.reduceSub, s_out, b01_0, g0, z1]
theorem k_count10 (hC : Cx A F r nB nl nb nx)  : am_cl m_Pa_count (.ref 1 :: [.int (nI 10)]) (heap A F P) = some (some (.int (g r 470)), heap A F P) := by
  classical
  obtain ⟨hM, hB, ⟨n1, n2, n3, n4⟩, l1, hCL, hCM, hCX, hCS, hS0, hS1, hS2, hS3⟩ := id hC
  obtain ⟨c5, c7, c10, c12, c14, c16, c18, c21, c23, c25, c27, c29, c31, c33⟩ := LenS2 l1
  have hnl : nl ≤ 20 := hM.1.2.2.2.2.2.2.2.1
  have hnb : nb ≤ 8 := hM.1.2.2.2.2.2.2.2.2.1
  have hnx : nx ≤ 60 := hM.1.2.2.2.2.2.2.2.2.2
  have hnB : nB ≤ 8 := hM.1.2.2.2.2.2.2.1
  have iL := fun x => s_isLot (A := A) (F := F) (P := P) n2 (by omega) x
  have iB := fun x => s_isBidder (A := A) (F := F) (P := P) n3 (by omega) x
  have iX := fun x => s_isBid (A := A) (F := F) (P := P) n4 (by omega) x
  have g0 : True := trivial
  have hs16 := s_sum16 (A := A) (F := F) (P := P) (nl := nl) (by omega) (by omega)
  have e16 : sF (fun j => g (A 16) j) nl 0 (nI 0) = sF (fun j => g r (78 + j)) nl 0 (nI 0) := sF_c _ _ _ (fun j _ hj => (hCL j (by omega)).2.2.2.1)
  rw [e16] at hs16
  have z0 := hCS 0 (by omega)
  have z1 := hCS 1 (by omega)
  have z2 := hCS 2 (by omega)
  have z3 := hCS 3 (by omega)
  rw [e_Pa_count 1 _ _ rfl]
  simp (maxSteps := 2000000) (disch := (first | omega | (simp (disch := omega) only [up_eq, up_ne, cpA_o, cpF_o, List.length_set] <;> omega) | fail)) only [ob_s, am_bi_s, am_bv_s, am_bl_s, ↓bif_d, lits, nI_addS, nI_mulS, nI_subS, nI_lt', nI_le', nI_eq', ↓rd_nI, ↓wrH, up_eq, up_ne, up_up, up_sw, List.set_set, g_seq, g_sne, Nat.reduceEqDiff, ↓reduceIte, List.length_set, Nat.add_sub_cancel_left, Nat.add_sub_cancel, ite_true, ite_false, if_true, if_false, not_true_eq_false, not_false_eq_true, Bool.and_true, Bool.true_and, true_or, or_true, false_or, or_false, and_true, true_and, and_false, false_and, Nat.not_lt_zero, hpRX, hpIX, hpFX, hpLX, hpSX, ↓rgX, ↓rpX, Nat.reduceLeDiff, Nat.reduceLT, Nat.reduceAdd, Nat.reduceMul, Nat.reduceSub, s_out, b01_0, g0, z2]
theorem k_count11 (hC : Cx A F r nB nl nb nx)  : am_cl m_Pa_count (.ref 1 :: [.int (nI 11)]) (heap A F P) = some (some (.int (g r 471)), heap A F P) := by
  classical
  obtain ⟨hM, hB, ⟨n1, n2, n3, n4⟩, l1, hCL, hCM, hCX, hCS, hS0, hS1, hS2, hS3⟩ := id hC
  obtain ⟨c5, c7, c10, c12, c14, c16, c18, c21, c23, c25, c27, c29, c31, c33⟩ := LenS2 l1
  have hnl : nl ≤ 20 := hM.1.2.2.2.2.2.2.2.1
  have hnb : nb ≤ 8 := hM.1.2.2.2.2.2.2.2.2.1
  have hnx : nx ≤ 60 := hM.1.2.2.2.2.2.2.2.2.2
  have hnB : nB ≤ 8 := hM.1.2.2.2.2.2.2.1
  have iL := fun x => s_isLot (A := A) (F := F) (P := P) n2 (by omega) x
  have iB := fun x => s_isBidder (A := A) (F := F) (P := P) n3 (by omega) x
  have iX := fun x => s_isBid (A := A) (F := F) (P := P) n4 (by omega) x
  have g0 : True := trivial
  have hs16 := s_sum16 (A := A) (F := F) (P := P) (nl := nl) (by omega) (by omega)
  have e16 : sF (fun j => g (A 16) j) nl 0 (nI 0) = sF (fun j => g r (78 + j)) nl 0 (nI 0) := sF_c _ _ _ (fun j _ hj => (hCL j (by omega)).2.2.2.1)
  rw [e16] at hs16
  have z0 := hCS 0 (by omega)
  have z1 := hCS 1 (by omega)
  have z2 := hCS 2 (by omega)
  have z3 := hCS 3 (by omega)
  rw [e_Pa_count 1 _ _ rfl]
  simp (maxSteps := 2000000) (disch := (first | omega | (simp (disch := omega) only [up_eq, up_ne, cpA_o, cpF_o, List.length_set] <;> omega) | fail)) only [ob_s, am_bi_s, am_bv_s, am_bl_s, ↓bif_d, lits, nI_addS, nI_mulS, nI_subS, nI_lt', nI_le', nI_eq', ↓rd_nI, ↓wrH, up_eq, up_ne, up_up, up_sw, List.set_set, g_seq, g_sne, Nat.reduceEqDiff, ↓reduceIte, List.length_set, Nat.add_sub_cancel_left, Nat.add_sub_cancel, ite_true, ite_false, if_true, if_false, not_true_eq_false, not_false_eq_true, Bool.and_true, Bool.true_and, true_or, or_true, false_or, or_false, and_true, true_and, and_false, false_and, Nat.not_lt_zero, hpRX, hpIX, hpFX, hpLX, hpSX, ↓rgX, ↓rpX, Nat.reduceLeDiff, Nat.reduceLT, Nat.reduceAdd, Nat.reduceMul, Nat.reduceSub, s_out, b01_0, g0, z3]
theorem k_count3 (hI : HQ A F P A' F' r nB nl nb nx L B Fi Se Mn Bu Pr)  : am_cl m_Pa_count (.ref 1 :: [.int (nI 3)]) (heap A F P) = some (some (.int (nI (cN (fun l => ¬ g Bu l < nI 0) nl 0))), heap A' F' P) := by
  classical
  obtain ⟨hW, hK, hC', hC0, hS, hcl⟩ := id hI
  obtain ⟨-, -, ⟨n1, n2, n3, n4⟩, l0, hAL, hAM, hAX, hAS, -⟩ := id hC0
  obtain ⟨c5, c7, c10, c12, c14, c16, c18, c21, c23, c25, c27, c29, c31, c33⟩ := LenS2 l0
  obtain ⟨hM, hB, ⟨m1, m2, m3, m4⟩, l1, hCL, hCM, hCX, hCS, hS0, hS1, hS2, hS3⟩ := id hC'
  obtain ⟨d5, d7, d10, d12, d14, d16, d18, d21, d23, d25, d27, d29, d31, d33⟩ := LenS2 l1
  obtain ⟨w166, w168, w170, w172, w174, w176, w178, w180, w182⟩ := id hW
  have hnl : nl ≤ 20 := hM.1.2.2.2.2.2.2.2.1
  have hnb : nb ≤ 8 := hM.1.2.2.2.2.2.2.2.2.1
  have hnx : nx ≤ 60 := hM.1.2.2.2.2.2.2.2.2.2
  have iL := fun x => s_isLot (A := A) (F := F) (P := P) n2 (by omega) x
  have iB := fun x => s_isBidder (A := A) (F := F) (P := P) n3 (by omega) x
  have iX := fun x => s_isBid (A := A) (F := F) (P := P) n4 (by omega) x
  have g0 : True := trivial
  have hcn := c_sold (P := P) hC' hW (-nI 1)
  have ecn : cN (fun l => (-nI 1 = -nI 1 ∨ -nI 1 = g r (18 + l)) ∧ g (A' 170) l = nI 0) nl 0 = cN (fun l => ¬ g Bu l < nI 0) nl 0 := cN_c nl 0 (fun j _ hj => by
    rw [(hK.1 j (by omega)).2.2.1, mSt_0 hM hS (show j < nl by omega)]
    exact ⟨fun z => z.2, fun z => ⟨Or.inl rfl, z⟩⟩)
  rw [ecn] at hcn
  rw [e_Pa_count 1 _ _ rfl]
  simp (maxSteps := 2000000) (disch := (first | omega | (simp (disch := omega) only [up_eq, up_ne, cpA_o, cpF_o, List.length_set] <;> omega) | fail)) only [ob_s, am_bi_s, am_bv_s, am_bl_s, ↓bif_d, lits, nI_addS, nI_mulS, nI_subS, nI_lt', nI_le', nI_eq', ↓rd_nI, ↓wrH, up_eq, up_ne, up_up, up_sw, List.set_set, g_seq, g_sne, Nat.reduceEqDiff, ↓reduceIte, List.length_set, Nat.add_sub_cancel_left, Nat.add_sub_cancel, ite_true, ite_false, if_true, if_false, not_true_eq_false, not_false_eq_true, Bool.and_true, Bool.true_and, true_or, or_true, false_or, or_false, and_true, true_and, and_false, false_and, Nat.not_lt_zero, hpRX, hpIX, hpFX, hpLX, hpSX, ↓rgX, ↓rpX, Nat.reduceLeDiff, Nat.reduceLT, Nat.reduceAdd, Nat.reduceMul, Nat.reduceSub, s_out, b01_0, g0, hcl, hcn]
end Q
