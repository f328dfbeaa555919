section X
variable {A : Nat → List Int32} {F : Nat → Int32} {P : Nat → Nat} {nB nl nb nx q t : Nat}
theorem k_setBandP (hI : InvN A F P nB nl nb nx q t) (x v : Int32) {i j : Nat} (hi : i < nB) (hj : j < nB) (hxi : pO (A 5) x nB 0 = i) (hgi : g (A 5) i = x) (hmj : mAt (A 193) x nB 0 = nI j) (hgj : g (A 193) (1 + j) = x) : Step m_Pa_setBand m_Mod_setBand [.int x, .int v] A F P := by
  obtain ⟨b, hb, b1, b2, hba, hrec⟩ := act_pre hI
  have hI0 := hI
  obtain ⟨⟨hM, ⟨n1, n2, n3, n4⟩, hSB, hSL, hSM, hSX, hSS⟩, ⟨l1, l2, l3⟩, hH, hT, -⟩ := hI0
  have hM0 := hM
  obtain ⟨h0, h1, h2, h3, h4, h5, h6, h7, h8, h9⟩ := hM0
  simp (disch := (first | omega | fail)) only [sf_e, Nat.reduceMul, Nat.reduceAdd] at n1 n2 n3 n4
  have c5 : (A 5).length = 8 := l1.1
  have c7 : (A 7).length = 8 := l1.2.1
  have c10 : (A 10).length = 20 := l1.2.2.1
  have c12 : (A 12).length = 20 := l1.2.2.2.1
  have c14 : (A 14).length = 20 := l1.2.2.2.2.1
  have c16 : (A 16).length = 20 := l1.2.2.2.2.2.1
  have c18 : (A 18).length = 8 := l1.2.2.2.2.2.2.1
  have c21 : (A 21).length = 60 := l1.2.2.2.2.2.2.2.1
  have c23 : (A 23).length = 60 := l1.2.2.2.2.2.2.2.2.1
  have c25 : (A 25).length = 60 := l1.2.2.2.2.2.2.2.2.2.1
  have c27 : (A 27).length = 60 := l1.2.2.2.2.2.2.2.2.2.2.1
  have c29 : (A 29).length = 60 := l1.2.2.2.2.2.2.2.2.2.2.2.1
  have c31 : (A 31).length = 60 := l1.2.2.2.2.2.2.2.2.2.2.2.2.1
  have c33 : (A 33).length = 4 := l1.2.2.2.2.2.2.2.2.2.2.2.2.2
  have iL := fun x => s_isLot (A := A) (F := F) (P := P) n2 (by omega) x
  have iB := fun x => s_isBidder (A := A) (F := F) (P := P) n3 (by omega) x
  have iX := fun x => s_isBid (A := A) (F := F) (P := P) n4 (by omega) x
  have eL := fun A F P => e_Mod_lots 192 (heap A F P) rfl
  have eB := fun A F P => e_Mod_bidders 192 (heap A F P) rfl
  have eX := fun A F P => e_Mod_bids 192 (heap A F P) rfl
  have hPO : ∀ A'' F'' P'', A'' 5 = A 5 → F'' 302 = F 302 → am_cl m_Steps_placeOf [.ref 3, .int x] (heap A'' F'' P'') = some (some (.int (nI i)), heap A'' F'' P'') := by
    intro A'' F'' P'' z1 z2
    rw [s_placeOf (nB := nB) (by rw [z1]; exact c5) h6 (by rw [z2]; exact n1), z1, hxi]
  have hBA : ∀ A'' F'' P'', A'' 193 = A 193 → am_cl m_Mod_bandAt [.ref 192, .int x] (heap A'' F'' P'') = some (some (.int (nI j)), heap A'' F'' P'') := by
    intro A'' F'' P'' z
    have := s_Mod_bandAt (A := A'') (F := F'') (P := P'') (nB := nB) (nl := nl) (nb := nb) (nx := nx) (by rw [z]; exact hM) x
    rw [z, hmj] at this
    exact this
  have eRF := fun x A F P => e_Steps_hasRoomFor 3 x (heap A F P) rfl
  have eHB := fun x A F P => e_Steps_hasBand 3 x (heap A F P) rfl
  have ePB := fun x v A F P => e_Steps_putBand 3 x v (heap A F P) rfl
  have eDB := fun x A F P => e_Steps_dropBand 3 x (heap A F P) rfl
  have e47 := fun x1 x2 x3 h => b_Mod_setBand_47 192 x1 x2 x3 h
  have hi8 : ¬ 8 ≤ i := by omega
  have hmx : am_max (nI nB) (nI (i + 1)) = nI nB := by rw [am_max_N (by omega) (by omega), if_neg (by omega)]
  by_cases g0 : x < nI 0 ∨ nI 1000000 < x
  · refine ⟨.int (-nI 2), A, F, P, A, F, P, ?_, ?_, nB, nl, nb, nx, q, t, hI⟩
    · rw [e_Pa_setBand 1 _ _ _ rfl]
      simp (maxSteps := 2000000) (disch := (first | omega | (simp (disch := omega) only [up_eq, up_ne, cpA_o, cpF_o, List.length_set] <;> omega) | fail)) only [ob_s, am_bi_s, am_bv_s, am_bl_s, ↓bif_d, lits, nI_addS, nI_mulS, nI_subS, nI_lt', nI_le', nI_eq', ↓rd_nI, ↓wrH, up_eq, up_ne, up_up, up_sw, List.set_set, g_seq, g_sne, Nat.reduceEqDiff, ↓reduceIte, List.length_set, Nat.add_sub_cancel_left, Nat.add_sub_cancel, ite_true, ite_false, if_true, if_false, not_true_eq_false, not_false_eq_true, Bool.and_true, Bool.true_and, true_or, or_true, false_or, or_false, and_true, true_and, and_false, false_and, Nat.not_lt_zero, hpRX, hpIX, hpFX, hpLX, hpSX, ↓rgX, ↓rpX, Nat.reduceLeDiff, Nat.reduceLT, Nat.reduceAdd, Nat.reduceMul, Nat.reduceSub, iL, iB, iX, s_out, b01_0, hPO, eRF, ePB, hi8, hmx, n1, n2, n3, n4, g0]
    · rw [e_Mod_setBand 192 _ _ _ rfl]
      simp (maxSteps := 2000000) (disch := (first | omega | (simp (disch := omega) only [up_eq, up_ne, cpA_o, cpF_o, List.length_set] <;> omega) | fail)) only [ob_s, am_bi_s, am_bv_s, am_bl_s, ↓bif_d, lits, nI_addS, nI_mulS, nI_subS, nI_lt', nI_le', nI_eq', ↓rd_nI, ↓wrH, up_eq, up_ne, up_up, up_sw, List.set_set, g_seq, g_sne, Nat.reduceEqDiff, ↓reduceIte, List.length_set, Nat.add_sub_cancel_left, Nat.add_sub_cancel, ite_true, ite_false, if_true, if_false, not_true_eq_false, not_false_eq_true, Bool.and_true, Bool.true_and, true_or, or_true, false_or, or_false, and_true, true_and, and_false, false_and, Nat.not_lt_zero, hpRM, hpIM, hpFM, hpLM, hpSM, s_Mod_noLot hM, s_Mod_noBidder hM, s_Mod_noBid hM, s_Mod_in, eL, eB, eX, h1, h2, h3, h4, b01_0, hBA, e47, Nat.zero_le, g0]
  by_cases g1 : v < nI 1 ∨ nI 100000 < v
  · refine ⟨.int (-nI 2), A, F, P, A, F, P, ?_, ?_, nB, nl, nb, nx, q, t, hI⟩
    · rw [e_Pa_setBand 1 _ _ _ rfl]
      simp (maxSteps := 2000000) (disch := (first | omega | (simp (disch := omega) only [up_eq, up_ne, cpA_o, cpF_o, List.length_set] <;> omega) | fail)) only [ob_s, am_bi_s, am_bv_s, am_bl_s, ↓bif_d, lits, nI_addS, nI_mulS, nI_subS, nI_lt', nI_le', nI_eq', ↓rd_nI, ↓wrH, up_eq, up_ne, up_up, up_sw, List.set_set, g_seq, g_sne, Nat.reduceEqDiff, ↓reduceIte, List.length_set, Nat.add_sub_cancel_left, Nat.add_sub_cancel, ite_true, ite_false, if_true, if_false, not_true_eq_false, not_false_eq_true, Bool.and_true, Bool.true_and, true_or, or_true, false_or, or_false, and_true, true_and, and_false, false_and, Nat.not_lt_zero, hpRX, hpIX, hpFX, hpLX, hpSX, ↓rgX, ↓rpX, Nat.reduceLeDiff, Nat.reduceLT, Nat.reduceAdd, Nat.reduceMul, Nat.reduceSub, iL, iB, iX, s_out, b01_0, hPO, eRF, ePB, hi8, hmx, n1, n2, n3, n4, g0, g1]
    · rw [e_Mod_setBand 192 _ _ _ rfl]
      simp (maxSteps := 2000000) (disch := (first | omega | (simp (disch := omega) only [up_eq, up_ne, cpA_o, cpF_o, List.length_set] <;> omega) | fail)) only [ob_s, am_bi_s, am_bv_s, am_bl_s, ↓bif_d, lits, nI_addS, nI_mulS, nI_subS, nI_lt', nI_le', nI_eq', ↓rd_nI, ↓wrH, up_eq, up_ne, up_up, up_sw, List.set_set, g_seq, g_sne, Nat.reduceEqDiff, ↓reduceIte, List.length_set, Nat.add_sub_cancel_left, Nat.add_sub_cancel, ite_true, ite_false, if_true, if_false, not_true_eq_false, not_false_eq_true, Bool.and_true, Bool.true_and, true_or, or_true, false_or, or_false, and_true, true_and, and_false, false_and, Nat.not_lt_zero, hpRM, hpIM, hpFM, hpLM, hpSM, s_Mod_noLot hM, s_Mod_noBidder hM, s_Mod_noBid hM, s_Mod_in, eL, eB, eX, h1, h2, h3, h4, b01_0, hBA, e47, Nat.zero_le, g0, g1]
  obtain ⟨H', hH0, hH1, hH2, hre⟩ := hrec (up (up (cpA A 2 b) 5 ((A 5).set i x)) 7 ((A 7).set i v)) (up (up (up (cpF F 2 b) 302 (nI nB)) 3401 (nI (kp q + 1))) 16410 (nI 0)) (Pk q P) (by simp (disch := (first | omega | fail)) only [st_e, sf_e, Nat.reduceAdd, Nat.reduceMul, up_eq, up_ne, cpA_o, cpF_o]) (by simp (disch := (first | omega | fail)) only [st_e, sf_e, Nat.reduceAdd, Nat.reduceMul, up_eq, up_ne, cpA_o, cpF_o]) (by simp (disch := (first | omega | fail)) only [st_e, sf_e, Nat.reduceAdd, Nat.reduceMul, up_eq, up_ne, cpA_o, cpF_o])
  have hM1 : Mok ((up (up (cpA A 2 b) 5 ((A 5).set i x)) 7 ((A 7).set i v)) 193) nB nl nb nx := by simp (disch := (first | omega | fail)) only [st_e, sf_e, Nat.reduceAdd, Nat.reduceMul, up_eq, up_ne, cpA_o, cpF_o]; exact hM
  refine ⟨.int (nI nB), up (up (cpA A 2 b) 5 ((A 5).set i x)) 7 ((A 7).set i v), up (up (up (cpF F 2 b) 302 (nI nB)) 3401 (nI (kp q + 1))) 16410 (nI 0), Pk q P, up (up (up (up (cpA A 2 b) 5 ((A 5).set i x)) 7 ((A 7).set i v)) 193 ((A 193).set (9 + j) v)) 194 H', up (up (up (up (cpF F 2 b) 302 (nI nB)) 3401 (nI (kp q + 1))) 16410 (nI 0)) 19202 (nI (kp q + 1)), Pk q P, ?_, ?_, nB, nl, nb, nx, kp q + 1, t, ?_⟩
  · rw [e_Pa_setBand 1 _ _ _ rfl]
    simp (maxSteps := 2000000) (disch := (first | omega | (simp (disch := omega) only [up_eq, up_ne, cpA_o, cpF_o, List.length_set] <;> omega) | fail)) only [ob_s, am_bi_s, am_bv_s, am_bl_s, ↓bif_d, lits, nI_addS, nI_mulS, nI_subS, nI_lt', nI_le', nI_eq', ↓rd_nI, ↓wrH, up_eq, up_ne, up_up, up_sw, List.set_set, g_seq, g_sne, Nat.reduceEqDiff, ↓reduceIte, List.length_set, Nat.add_sub_cancel_left, Nat.add_sub_cancel, ite_true, ite_false, if_true, if_false, not_true_eq_false, not_false_eq_true, Bool.and_true, Bool.true_and, true_or, or_true, false_or, or_false, and_true, true_and, and_false, false_and, Nat.not_lt_zero, hpRX, hpIX, hpFX, hpLX, hpSX, ↓rgX, ↓rpX, Nat.reduceLeDiff, Nat.reduceLT, Nat.reduceAdd, Nat.reduceMul, Nat.reduceSub, iL, iB, iX, s_out, b01_0, hPO, eRF, ePB, hi8, hmx, n1, n2, n3, n4, hba, cpA_o, cpF_o, g0, g1]
  · rw [e_Mod_setBand 192 _ _ _ rfl]
    simp (maxSteps := 2000000) (disch := (first | omega | (simp (disch := omega) only [up_eq, up_ne, cpA_o, cpF_o, List.length_set] <;> omega) | fail)) only [ob_s, am_bi_s, am_bv_s, am_bl_s, ↓bif_d, lits, nI_addS, nI_mulS, nI_subS, nI_lt', nI_le', nI_eq', ↓rd_nI, ↓wrH, up_eq, up_ne, up_up, up_sw, List.set_set, g_seq, g_sne, Nat.reduceEqDiff, ↓reduceIte, List.length_set, Nat.add_sub_cancel_left, Nat.add_sub_cancel, ite_true, ite_false, if_true, if_false, not_true_eq_false, not_false_eq_true, Bool.and_true, Bool.true_and, true_or, or_true, false_or, or_false, and_true, true_and, and_false, false_and, Nat.not_lt_zero, hpRM, hpIM, hpFM, hpLM, hpSM, s_Mod_noLot hM1, s_Mod_noBidder hM1, s_Mod_noBid hM1, s_Mod_in, eL, eB, eX, h1, h2, h3, h4, b01_0, hBA, e47, Nat.zero_le, hre, cpA_o, g0, g1]
  · refine act_done (r' := ((A 193).set (9 + j) v)) hI hb hH0 hH1 hH2 ?_ ?_ ?_ ?_ ?_ ?_ ?_ ?_ ?_ ?_ ?_ ?_
    · intro j z1 z2; simp (disch := (first | omega | fail)) only [st_e, sf_e, Nat.reduceAdd, Nat.reduceMul, up_eq, up_ne, cpA_o, cpF_o]
    · intro j z1 z2 z3; simp (disch := (first | omega | fail)) only [st_e, sf_e, Nat.reduceAdd, Nat.reduceMul, up_eq, up_ne, cpA_o, cpF_o]
    · simp (disch := (first | omega | fail)) only [st_e, sf_e, Nat.reduceAdd, Nat.reduceMul, up_eq, up_ne, cpA_o, cpF_o]
    · intro k z1 z2; simp (disch := (first | omega | fail)) only [st_e, sf_e, Nat.reduceAdd, Nat.reduceMul, up_eq, up_ne, cpA_o, cpF_o]
    · simp (disch := (first | omega | fail)) only [st_e, sf_e, Nat.reduceAdd, Nat.reduceMul, up_eq, up_ne, cpA_o, cpF_o]
    · simp (disch := (first | omega | fail)) only [st_e, sf_e, Nat.reduceAdd, Nat.reduceMul, up_eq, up_ne, cpA_o, cpF_o]
    · simp (disch := (first | omega | fail)) only [st_e, sf_e, Nat.reduceAdd, Nat.reduceMul, up_eq, up_ne, cpA_o, cpF_o]
    · simp (disch := (first | omega | fail)) only [st_e, sf_e, Nat.reduceAdd, Nat.reduceMul, up_eq, up_ne, cpA_o, cpF_o]
    · simp (disch := (first | omega | fail)) only [st_e, sf_e, Nat.reduceAdd, Nat.reduceMul, up_eq, up_ne, cpA_o, cpF_o]
    · unfold LenS; simp (disch := (first | omega | (simp (disch := omega) only [up_eq, up_ne, cpA_o, List.length_set] <;> omega) | fail)) only [st_e, sf_e, Nat.reduceAdd, Nat.reduceMul, up_eq, up_ne, cpA_o, cpF_o, g_seq, g_sne, List.length_set]; exact l1
    · simp (disch := (first | omega | fail)) only [st_e, sf_e, Nat.reduceAdd, Nat.reduceMul, up_eq, up_ne, cpA_o, cpF_o]
    · refine ⟨?_, ?_, ?_, ?_, ?_, ?_, ?_⟩
      · refine ⟨by simp (disch := (first | omega | (simp (disch := omega) only [up_eq, up_ne, cpA_o, List.length_set] <;> omega) | fail)) only [st_e, sf_e, Nat.reduceAdd, Nat.reduceMul, up_eq, up_ne, cpA_o, cpF_o, g_seq, g_sne, List.length_set]; exact h0, by simp (disch := (first | omega | (simp (disch := omega) only [up_eq, up_ne, cpA_o, List.length_set] <;> omega) | fail)) only [st_e, sf_e, Nat.reduceAdd, Nat.reduceMul, up_eq, up_ne, cpA_o, cpF_o, g_seq, g_sne, List.length_set] <;> exact h1, by simp (disch := (first | omega | (simp (disch := omega) only [up_eq, up_ne, cpA_o, List.length_set] <;> omega) | fail)) only [st_e, sf_e, Nat.reduceAdd, Nat.reduceMul, up_eq, up_ne, cpA_o, cpF_o, g_seq, g_sne, List.length_set] <;> exact h2, by simp (disch := (first | omega | (simp (disch := omega) only [up_eq, up_ne, cpA_o, List.length_set] <;> omega) | fail)) only [st_e, sf_e, Nat.reduceAdd, Nat.reduceMul, up_eq, up_ne, cpA_o, cpF_o, g_seq, g_sne, List.length_set] <;> exact h3, by simp (disch := (first | omega | (simp (disch := omega) only [up_eq, up_ne, cpA_o, List.length_set] <;> omega) | fail)) only [st_e, sf_e, Nat.reduceAdd, Nat.reduceMul, up_eq, up_ne, cpA_o, cpF_o, g_seq, g_sne, List.length_set] <;> exact h4, by omega, by omega, by omega, by omega, by omega⟩
      · refine ⟨by simp (disch := (first | omega | (simp (disch := omega) only [up_eq, up_ne, cpA_o, List.length_set] <;> omega) | fail)) only [st_e, sf_e, Nat.reduceAdd, Nat.reduceMul, up_eq, up_ne, cpA_o, cpF_o, g_seq, g_sne, List.length_set] <;> exact n1, by simp (disch := (first | omega | (simp (disch := omega) only [up_eq, up_ne, cpA_o, List.length_set] <;> omega) | fail)) only [st_e, sf_e, Nat.reduceAdd, Nat.reduceMul, up_eq, up_ne, cpA_o, cpF_o, g_seq, g_sne, List.length_set] <;> exact n2, by simp (disch := (first | omega | (simp (disch := omega) only [up_eq, up_ne, cpA_o, List.length_set] <;> omega) | fail)) only [st_e, sf_e, Nat.reduceAdd, Nat.reduceMul, up_eq, up_ne, cpA_o, cpF_o, g_seq, g_sne, List.length_set] <;> exact n3, by simp (disch := (first | omega | (simp (disch := omega) only [up_eq, up_ne, cpA_o, List.length_set] <;> omega) | fail)) only [st_e, sf_e, Nat.reduceAdd, Nat.reduceMul, up_eq, up_ne, cpA_o, cpF_o, g_seq, g_sne, List.length_set] <;> exact n4⟩
      · exact SimB_rep (i := i) (j := j) (x := x) (v := v) hSB (by simp (disch := (first | omega | fail)) only [st_e, sf_e, Nat.reduceAdd, Nat.reduceMul, up_eq, up_ne, cpA_o, cpF_o]; exact c5) (by simp (disch := (first | omega | fail)) only [st_e, sf_e, Nat.reduceAdd, Nat.reduceMul, up_eq, up_ne, cpA_o, cpF_o]; exact c7) h6 hi hj (by simp (disch := (first | omega | fail)) only [st_e, sf_e, Nat.reduceAdd, Nat.reduceMul, up_eq, up_ne, cpA_o, cpF_o]; exact hgi) hgj ((rg_iff (by omega) (by omega)).mpr g1) (by simp (disch := (first | omega | fail)) only [st_e, sf_e, Nat.reduceAdd, Nat.reduceMul, up_eq, up_ne, cpA_o, cpF_o]) (by simp (disch := (first | omega | fail)) only [st_e, sf_e, Nat.reduceAdd, Nat.reduceMul, up_eq, up_ne, cpA_o, cpF_o]) (fun m hm => by simp (disch := (first | omega | (simp only [List.length_set] <;> omega) | fail)) only [g_seq, g_sne, List.length_set]) (fun m hm z => by simp (disch := (first | omega | (simp only [List.length_set] <;> omega) | fail)) only [g_seq, g_sne, List.length_set]) (by simp (disch := (first | omega | (simp only [List.length_set] <;> omega) | fail)) only [g_seq, g_sne, List.length_set])
      · exact SimL_c h7 (fun j z1 z2 => by simp (disch := (first | omega | (simp only [List.length_set] <;> omega) | fail)) only [g_seq, g_sne, List.length_set]) (by simp (disch := (first | omega | fail)) only [st_e, sf_e, Nat.reduceAdd, Nat.reduceMul, up_eq, up_ne, cpA_o, cpF_o]) (by simp (disch := (first | omega | fail)) only [st_e, sf_e, Nat.reduceAdd, Nat.reduceMul, up_eq, up_ne, cpA_o, cpF_o]) (by simp (disch := (first | omega | fail)) only [st_e, sf_e, Nat.reduceAdd, Nat.reduceMul, up_eq, up_ne, cpA_o, cpF_o]) (by simp (disch := (first | omega | fail)) only [st_e, sf_e, Nat.reduceAdd, Nat.reduceMul, up_eq, up_ne, cpA_o, cpF_o]) hSL
      · exact SimM_c h8 (fun j z1 z2 => by simp (disch := (first | omega | (simp only [List.length_set] <;> omega) | fail)) only [g_seq, g_sne, List.length_set]) (by simp (disch := (first | omega | fail)) only [st_e, sf_e, Nat.reduceAdd, Nat.reduceMul, up_eq, up_ne, cpA_o, cpF_o]) hSM
      · exact SimX_c h9 (by omega) (by omega) (fun j z1 z2 => by simp (disch := (first | omega | (simp only [List.length_set] <;> omega) | fail)) only [g_seq, g_sne, List.length_set]) (by simp (disch := (first | omega | fail)) only [st_e, sf_e, Nat.reduceAdd, Nat.reduceMul, up_eq, up_ne, cpA_o, cpF_o]) (by simp (disch := (first | omega | fail)) only [st_e, sf_e, Nat.reduceAdd, Nat.reduceMul, up_eq, up_ne, cpA_o, cpF_o]) (by simp (disch := (first | omega | fail)) only [st_e, sf_e, Nat.reduceAdd, Nat.reduceMul, up_eq, up_ne, cpA_o, cpF_o]) (by simp (disch := (first | omega | fail)) only [st_e, sf_e, Nat.reduceAdd, Nat.reduceMul, up_eq, up_ne, cpA_o, cpF_o]) (by simp (disch := (first | omega | fail)) only [st_e, sf_e, Nat.reduceAdd, Nat.reduceMul, up_eq, up_ne, cpA_o, cpF_o]) (by simp (disch := (first | omega | fail)) only [st_e, sf_e, Nat.reduceAdd, Nat.reduceMul, up_eq, up_ne, cpA_o, cpF_o]) hSX
      · exact SimS_c (fun j z1 z2 => by simp (disch := (first | omega | (simp only [List.length_set] <;> omega) | fail)) only [g_seq, g_sne, List.length_set]) (by simp (disch := (first | omega | fail)) only [st_e, sf_e, Nat.reduceAdd, Nat.reduceMul, up_eq, up_ne, cpA_o, cpF_o]) hSS
theorem k_setBandN (hI : InvN A F P nB nl nb nx q t) (x v : Int32) (hn8 : nB < 8) (hxi : pO (A 5) x nB 0 = nB) (hmj : mAt (A 193) x nB 0 = -nI 5) (hno : ∀ m, m < nB → ¬ g (A 193) (1 + m) = x) : Step m_Pa_setBand m_Mod_setBand [.int x, .int v] A F P := by
  obtain ⟨b, hb, b1, b2, hba, hrec⟩ := act_pre hI
  have hI0 := hI
  obtain ⟨⟨hM, ⟨n1, n2, n3, n4⟩, hSB, hSL, hSM, hSX, hSS⟩, ⟨l1, l2, l3⟩, hH, hT, -⟩ := hI0
  have hM0 := hM
  obtain ⟨h0, h1, h2, h3, h4, h5, h6, h7, h8, h9⟩ := hM0
  simp (disch := (first | omega | fail)) only [sf_e, Nat.reduceMul, Nat.reduceAdd] at n1 n2 n3 n4
  have c5 : (A 5).length = 8 := l1.1
  have c7 : (A 7).length = 8 := l1.2.1
  have c10 : (A 10).length = 20 := l1.2.2.1
  have c12 : (A 12).length = 20 := l1.2.2.2.1
  have c14 : (A 14).length = 20 := l1.2.2.2.2.1
  have c16 : (A 16).length = 20 := l1.2.2.2.2.2.1
  have c18 : (A 18).length = 8 := l1.2.2.2.2.2.2.1
  have c21 : (A 21).length = 60 := l1.2.2.2.2.2.2.2.1
  have c23 : (A 23).length = 60 := l1.2.2.2.2.2.2.2.2.1
  have c25 : (A 25).length = 60 := l1.2.2.2.2.2.2.2.2.2.1
  have c27 : (A 27).length = 60 := l1.2.2.2.2.2.2.2.2.2.2.1
  have c29 : (A 29).length = 60 := l1.2.2.2.2.2.2.2.2.2.2.2.1
  have c31 : (A 31).length = 60 := l1.2.2.2.2.2.2.2.2.2.2.2.2.1
  have c33 : (A 33).length = 4 := l1.2.2.2.2.2.2.2.2.2.2.2.2.2
  have iL := fun x => s_isLot (A := A) (F := F) (P := P) n2 (by omega) x
  have iB := fun x => s_isBidder (A := A) (F := F) (P := P) n3 (by omega) x
  have iX := fun x => s_isBid (A := A) (F := F) (P := P) n4 (by omega) x
  have eL := fun A F P => e_Mod_lots 192 (heap A F P) rfl
  have eB := fun A F P => e_Mod_bidders 192 (heap A F P) rfl
  have eX := fun A F P => e_Mod_bids 192 (heap A F P) rfl
  have hPO : ∀ A'' F'' P'', A'' 5 = A 5 → F'' 302 = F 302 → am_cl m_Steps_placeOf [.ref 3, .int x] (heap A'' F'' P'') = some (some (.int (nI nB)), heap A'' F'' P'') := by
    intro A'' F'' P'' z1 z2
    rw [s_placeOf (nB := nB) (by rw [z1]; exact c5) h6 (by rw [z2]; exact n1), z1, hxi]
  have hBA : ∀ A'' F'' P'', A'' 193 = A 193 → am_cl m_Mod_bandAt [.ref 192, .int x] (heap A'' F'' P'') = some (some (.int (-nI 5)), heap A'' F'' P'') := by
    intro A'' F'' P'' z
    have := s_Mod_bandAt (A := A'') (F := F'') (P := P'') (nB := nB) (nl := nl) (nb := nb) (nx := nx) (by rw [z]; exact hM) x
    rw [z, hmj] at this
    exact this
  have eRF := fun x A F P => e_Steps_hasRoomFor 3 x (heap A F P) rfl
  have eHB := fun x A F P => e_Steps_hasBand 3 x (heap A F P) rfl
  have ePB := fun x v A F P => e_Steps_putBand 3 x v (heap A F P) rfl
  have eDB := fun x A F P => e_Steps_dropBand 3 x (heap A F P) rfl
  have e47 := fun x1 x2 x3 h => b_Mod_setBand_47 192 x1 x2 x3 h
  have hi8 : ¬ 8 ≤ nB := by omega
  have hmx : am_max (nI nB) (nI (nB + 1)) = nI (nB + 1) := by rw [am_max_N (by omega) (by omega), if_pos (by omega)]
  have h5m : (nI 0 ≤ -nI 5) = False := by simp only [eq_iff_iff, iff_false]; decide
  have hne8 : ¬ nB = 8 := by omega
  by_cases g0 : x < nI 0 ∨ nI 1000000 < x
  · refine ⟨.int (-nI 2), A, F, P, A, F, P, ?_, ?_, nB, nl, nb, nx, q, t, hI⟩
    · rw [e_Pa_setBand 1 _ _ _ rfl]
      simp (maxSteps := 2000000) (disch := (first | omega | (simp (disch := omega) only [up_eq, up_ne, cpA_o, cpF_o, List.length_set] <;> omega) | fail)) only [ob_s, am_bi_s, am_bv_s, am_bl_s, ↓bif_d, lits, nI_addS, nI_mulS, nI_subS, nI_lt', nI_le', nI_eq', ↓rd_nI, ↓wrH, up_eq, up_ne, up_up, up_sw, List.set_set, g_seq, g_sne, Nat.reduceEqDiff, ↓reduceIte, List.length_set, Nat.add_sub_cancel_left, Nat.add_sub_cancel, ite_true, ite_false, if_true, if_false, not_true_eq_false, not_false_eq_true, Bool.and_true, Bool.true_and, true_or, or_true, false_or, or_false, and_true, true_and, and_false, false_and, Nat.not_lt_zero, hpRX, hpIX, hpFX, hpLX, hpSX, ↓rgX, ↓rpX, Nat.reduceLeDiff, Nat.reduceLT, Nat.reduceAdd, Nat.reduceMul, Nat.reduceSub, iL, iB, iX, s_out, b01_0, hPO, eRF, ePB, hi8, hmx, n1, n2, n3, n4, g0]
    · rw [e_Mod_setBand 192 _ _ _ rfl]
      simp (maxSteps := 2000000) (disch := (first | omega | (simp (disch := omega) only [up_eq, up_ne, cpA_o, cpF_o, List.length_set] <;> omega) | fail)) only [ob_s, am_bi_s, am_bv_s, am_bl_s, ↓bif_d, lits, nI_addS, nI_mulS, nI_subS, nI_lt', nI_le', nI_eq', ↓rd_nI, ↓wrH, up_eq, up_ne, up_up, up_sw, List.set_set, g_seq, g_sne, Nat.reduceEqDiff, ↓reduceIte, List.length_set, Nat.add_sub_cancel_left, Nat.add_sub_cancel, ite_true, ite_false, if_true, if_false, not_true_eq_false, not_false_eq_true, Bool.and_true, Bool.true_and, true_or, or_true, false_or, or_false, and_true, true_and, and_false, false_and, Nat.not_lt_zero, hpRM, hpIM, hpFM, hpLM, hpSM, s_Mod_noLot hM, s_Mod_noBidder hM, s_Mod_noBid hM, s_Mod_in, eL, eB, eX, h1, h2, h3, h4, b01_0, hBA, e47, h5m, hne8, g0]
  by_cases g1 : v < nI 1 ∨ nI 100000 < v
  · refine ⟨.int (-nI 2), A, F, P, A, F, P, ?_, ?_, nB, nl, nb, nx, q, t, hI⟩
    · rw [e_Pa_setBand 1 _ _ _ rfl]
      simp (maxSteps := 2000000) (disch := (first | omega | (simp (disch := omega) only [up_eq, up_ne, cpA_o, cpF_o, List.length_set] <;> omega) | fail)) only [ob_s, am_bi_s, am_bv_s, am_bl_s, ↓bif_d, lits, nI_addS, nI_mulS, nI_subS, nI_lt', nI_le', nI_eq', ↓rd_nI, ↓wrH, up_eq, up_ne, up_up, up_sw, List.set_set, g_seq, g_sne, Nat.reduceEqDiff, ↓reduceIte, List.length_set, Nat.add_sub_cancel_left, Nat.add_sub_cancel, ite_true, ite_false, if_true, if_false, not_true_eq_false, not_false_eq_true, Bool.and_true, Bool.true_and, true_or, or_true, false_or, or_false, and_true, true_and, and_false, false_and, Nat.not_lt_zero, hpRX, hpIX, hpFX, hpLX, hpSX, ↓rgX, ↓rpX, Nat.reduceLeDiff, Nat.reduceLT, Nat.reduceAdd, Nat.reduceMul, Nat.reduceSub, iL, iB, iX, s_out, b01_0, hPO, eRF, ePB, hi8, hmx, n1, n2, n3, n4, g0, g1]
    · rw [e_Mod_setBand 192 _ _ _ rfl]
      simp (maxSteps := 2000000) (disch := (first | omega | (simp (disch := omega) only [up_eq, up_ne, cpA_o, cpF_o, List.length_set] <;> omega) | fail)) only [ob_s, am_bi_s, am_bv_s, am_bl_s, ↓bif_d, lits, nI_addS, nI_mulS, nI_subS, nI_lt', nI_le', nI_eq', ↓rd_nI, ↓wrH, up_eq, up_ne, up_up, up_sw, List.set_set, g_seq, g_sne, Nat.reduceEqDiff, ↓reduceIte, List.length_set, Nat.add_sub_cancel_left, Nat.add_sub_cancel, ite_true, ite_false, if_true, if_false, not_true_eq_false, not_false_eq_true, Bool.and_true, Bool.true_and, true_or, or_true, false_or, or_false, and_true, true_and, and_false, false_and, Nat.not_lt_zero, hpRM, hpIM, hpFM, hpLM, hpSM, s_Mod_noLot hM, s_Mod_noBidder hM, s_Mod_noBid hM, s_Mod_in, eL, eB, eX, h1, h2, h3, h4, b01_0, hBA, e47, h5m, hne8, g0, g1]
  obtain ⟨H', hH0, hH1, hH2, hre⟩ := hrec (up (up (cpA A 2 b) 5 ((A 5).set nB x)) 7 ((A 7).set nB v)) (up (up (up (cpF F 2 b) 302 (nI (nB + 1))) 3401 (nI (kp q + 1))) 16410 (nI 0)) (Pk q P) (by simp (disch := (first | omega | fail)) only [st_e, sf_e, Nat.reduceAdd, Nat.reduceMul, up_eq, up_ne, cpA_o, cpF_o]) (by simp (disch := (first | omega | fail)) only [st_e, sf_e, Nat.reduceAdd, Nat.reduceMul, up_eq, up_ne, cpA_o, cpF_o]) (by simp (disch := (first | omega | fail)) only [st_e, sf_e, Nat.reduceAdd, Nat.reduceMul, up_eq, up_ne, cpA_o, cpF_o])
  have hr1 : ¬ x < g (A 193) 1 := by rw [hSB.2.2.2.1]; exact fun z => g0 (Or.inl z)
  obtain ⟨R', p, hIns, hloop⟩ := l_setBand62 (A := up (up (up (cpA A 2 b) 5 ((A 5).set nB x)) 7 ((A 7).set nB v)) 194 H') (F := up (up (up (up (cpF F 2 b) 302 (nI (nB + 1))) 3401 (nI (kp q + 1))) 16410 (nI 0)) 19202 (nI (kp q + 1))) (P := Pk q P) (r := A 193) (nB := nB) (x := x) h0 h1 hr1 hn8 v (nB - 1) nB (A 193) (by omega) (Nat.le_refl _) h0 h1 (fun j hj => ⟨rfl, rfl⟩) (fun j z1 z2 => by omega) (fun j z => rfl) (fun j z1 z2 => by omega)
  have e193 : up (up (up (up (cpA A 2 b) 5 ((A 5).set nB x)) 7 ((A 7).set nB v)) 194 H') 193 (A 193) = up (up (up (cpA A 2 b) 5 ((A 5).set nB x)) 7 ((A 7).set nB v)) 194 H' := (congrArg (up (up (up (up (cpA A 2 b) 5 ((A 5).set nB x)) 7 ((A 7).set nB v)) 194 H') 193) (show A 193 = (up (up (up (cpA A 2 b) 5 ((A 5).set nB x)) 7 ((A 7).set nB v)) 194 H') 193 by simp (disch := (first | omega | fail)) only [st_e, sf_e, Nat.reduceAdd, Nat.reduceMul, up_eq, up_ne, cpA_o, cpF_o])).trans (up_id _ _)
  rw [e193] at hloop
  have hI17 := hIns.2.2.2.2.2.2.2.2.1
  have hM1 : Mok ((up (up (cpA A 2 b) 5 ((A 5).set nB x)) 7 ((A 7).set nB v)) 193) nB nl nb nx := by simp (disch := (first | omega | fail)) only [st_e, sf_e, Nat.reduceAdd, Nat.reduceMul, up_eq, up_ne, cpA_o, cpF_o]; exact hM
  refine ⟨.int (nI (nB + 1)), up (up (cpA A 2 b) 5 ((A 5).set nB x)) 7 ((A 7).set nB v), up (up (up (cpF F 2 b) 302 (nI (nB + 1))) 3401 (nI (kp q + 1))) 16410 (nI 0), Pk q P, up (up (up (up (cpA A 2 b) 5 ((A 5).set nB x)) 7 ((A 7).set nB v)) 193 R') 194 H', up (up (up (up (cpF F 2 b) 302 (nI (nB + 1))) 3401 (nI (kp q + 1))) 16410 (nI 0)) 19202 (nI (kp q + 1)), Pk q P, ?_, ?_, nB + 1, nl, nb, nx, kp q + 1, t, ?_⟩
  · rw [e_Pa_setBand 1 _ _ _ rfl]
    simp (maxSteps := 2000000) (disch := (first | omega | (simp (disch := omega) only [up_eq, up_ne, cpA_o, cpF_o, List.length_set] <;> omega) | fail)) only [ob_s, am_bi_s, am_bv_s, am_bl_s, ↓bif_d, lits, nI_addS, nI_mulS, nI_subS, nI_lt', nI_le', nI_eq', ↓rd_nI, ↓wrH, up_eq, up_ne, up_up, up_sw, List.set_set, g_seq, g_sne, Nat.reduceEqDiff, ↓reduceIte, List.length_set, Nat.add_sub_cancel_left, Nat.add_sub_cancel, ite_true, ite_false, if_true, if_false, not_true_eq_false, not_false_eq_true, Bool.and_true, Bool.true_and, true_or, or_true, false_or, or_false, and_true, true_and, and_false, false_and, Nat.not_lt_zero, hpRX, hpIX, hpFX, hpLX, hpSX, ↓rgX, ↓rpX, Nat.reduceLeDiff, Nat.reduceLT, Nat.reduceAdd, Nat.reduceMul, Nat.reduceSub, iL, iB, iX, s_out, b01_0, hPO, eRF, ePB, hi8, hmx, n1, n2, n3, n4, hba, cpA_o, cpF_o, g0, g1]
  · rw [e_Mod_setBand 192 _ _ _ rfl]
    simp (maxSteps := 2000000) (disch := (first | omega | (simp (disch := omega) only [up_eq, up_ne, cpA_o, cpF_o, List.length_set] <;> omega) | fail)) only [ob_s, am_bi_s, am_bv_s, am_bl_s, ↓bif_d, lits, nI_addS, nI_mulS, nI_subS, nI_lt', nI_le', nI_eq', ↓rd_nI, ↓wrH, up_eq, up_ne, up_up, up_sw, List.set_set, g_seq, g_sne, Nat.reduceEqDiff, ↓reduceIte, List.length_set, Nat.add_sub_cancel_left, Nat.add_sub_cancel, ite_true, ite_false, if_true, if_false, not_true_eq_false, not_false_eq_true, Bool.and_true, Bool.true_and, true_or, or_true, false_or, or_false, and_true, true_and, and_false, false_and, Nat.not_lt_zero, hpRM, hpIM, hpFM, hpLM, hpSM, s_Mod_noLot hM1, s_Mod_noBidder hM1, s_Mod_noBid hM1, s_Mod_in, eL, eB, eX, h1, h2, h3, h4, b01_0, hBA, e47, h5m, hne8, hre, cpA_o, g0, g1, hloop]
  · refine act_done (r' := R') hI hb hH0 hH1 hH2 ?_ ?_ ?_ ?_ ?_ ?_ ?_ ?_ ?_ ?_ ?_ ?_
    · intro j z1 z2; simp (disch := (first | omega | fail)) only [st_e, sf_e, Nat.reduceAdd, Nat.reduceMul, up_eq, up_ne, cpA_o, cpF_o]
    · intro j z1 z2 z3; simp (disch := (first | omega | fail)) only [st_e, sf_e, Nat.reduceAdd, Nat.reduceMul, up_eq, up_ne, cpA_o, cpF_o]
    · simp (disch := (first | omega | fail)) only [st_e, sf_e, Nat.reduceAdd, Nat.reduceMul, up_eq, up_ne, cpA_o, cpF_o]
    · intro k z1 z2; simp (disch := (first | omega | fail)) only [st_e, sf_e, Nat.reduceAdd, Nat.reduceMul, up_eq, up_ne, cpA_o, cpF_o]
    · simp (disch := (first | omega | fail)) only [st_e, sf_e, Nat.reduceAdd, Nat.reduceMul, up_eq, up_ne, cpA_o, cpF_o]
    · simp (disch := (first | omega | fail)) only [st_e, sf_e, Nat.reduceAdd, Nat.reduceMul, up_eq, up_ne, cpA_o, cpF_o]
    · simp (disch := (first | omega | fail)) only [st_e, sf_e, Nat.reduceAdd, Nat.reduceMul, up_eq, up_ne, cpA_o, cpF_o]
    · simp (disch := (first | omega | fail)) only [st_e, sf_e, Nat.reduceAdd, Nat.reduceMul, up_eq, up_ne, cpA_o, cpF_o]
    · simp (disch := (first | omega | fail)) only [st_e, sf_e, Nat.reduceAdd, Nat.reduceMul, up_eq, up_ne, cpA_o, cpF_o]
    · unfold LenS; simp (disch := (first | omega | (simp (disch := omega) only [up_eq, up_ne, cpA_o, List.length_set] <;> omega) | fail)) only [st_e, sf_e, Nat.reduceAdd, Nat.reduceMul, up_eq, up_ne, cpA_o, cpF_o, g_seq, g_sne, List.length_set]; exact l1
    · simp (disch := (first | omega | fail)) only [st_e, sf_e, Nat.reduceAdd, Nat.reduceMul, up_eq, up_ne, cpA_o, cpF_o]
    · refine ⟨?_, ?_, ?_, ?_, ?_, ?_, ?_⟩
      · refine ⟨hIns.1, hIns.2.1, by rw [hI17 17 (by omega)]; exact h2, by rw [hI17 98 (by omega)]; exact h3, by rw [hI17 107 (by omega)]; exact h4, by omega, by omega, by omega, by omega, by omega⟩
      · refine ⟨by simp (disch := (first | omega | (simp (disch := omega) only [up_eq, up_ne, cpA_o, List.length_set] <;> omega) | fail)) only [st_e, sf_e, Nat.reduceAdd, Nat.reduceMul, up_eq, up_ne, cpA_o, cpF_o, g_seq, g_sne, List.length_set] <;> exact n1, by simp (disch := (first | omega | (simp (disch := omega) only [up_eq, up_ne, cpA_o, List.length_set] <;> omega) | fail)) only [st_e, sf_e, Nat.reduceAdd, Nat.reduceMul, up_eq, up_ne, cpA_o, cpF_o, g_seq, g_sne, List.length_set] <;> exact n2, by simp (disch := (first | omega | (simp (disch := omega) only [up_eq, up_ne, cpA_o, List.length_set] <;> omega) | fail)) only [st_e, sf_e, Nat.reduceAdd, Nat.reduceMul, up_eq, up_ne, cpA_o, cpF_o, g_seq, g_sne, List.length_set] <;> exact n3, by simp (disch := (first | omega | (simp (disch := omega) only [up_eq, up_ne, cpA_o, List.length_set] <;> omega) | fail)) only [st_e, sf_e, Nat.reduceAdd, Nat.reduceMul, up_eq, up_ne, cpA_o, cpF_o, g_seq, g_sne, List.length_set] <;> exact n4⟩
      · exact SimB_ins hSB (by simp (disch := (first | omega | fail)) only [st_e, sf_e, Nat.reduceAdd, Nat.reduceMul, up_eq, up_ne, cpA_o, cpF_o]; exact c5) (by simp (disch := (first | omega | fail)) only [st_e, sf_e, Nat.reduceAdd, Nat.reduceMul, up_eq, up_ne, cpA_o, cpF_o]; exact c7) hn8 hIns hno ((rg_iff (by omega) (by omega)).mpr g0) ((rg_iff (by omega) (by omega)).mpr g1) (by simp (disch := (first | omega | fail)) only [st_e, sf_e, Nat.reduceAdd, Nat.reduceMul, up_eq, up_ne, cpA_o, cpF_o]) (by simp (disch := (first | omega | fail)) only [st_e, sf_e, Nat.reduceAdd, Nat.reduceMul, up_eq, up_ne, cpA_o, cpF_o])
      · exact SimL_c h7 (fun j z1 z2 => hI17 j (by omega)) (by simp (disch := (first | omega | fail)) only [st_e, sf_e, Nat.reduceAdd, Nat.reduceMul, up_eq, up_ne, cpA_o, cpF_o]) (by simp (disch := (first | omega | fail)) only [st_e, sf_e, Nat.reduceAdd, Nat.reduceMul, up_eq, up_ne, cpA_o, cpF_o]) (by simp (disch := (first | omega | fail)) only [st_e, sf_e, Nat.reduceAdd, Nat.reduceMul, up_eq, up_ne, cpA_o, cpF_o]) (by simp (disch := (first | omega | fail)) only [st_e, sf_e, Nat.reduceAdd, Nat.reduceMul, up_eq, up_ne, cpA_o, cpF_o]) hSL
      · exact SimM_c h8 (fun j z1 z2 => hI17 j (by omega)) (by simp (disch := (first | omega | fail)) only [st_e, sf_e, Nat.reduceAdd, Nat.reduceMul, up_eq, up_ne, cpA_o, cpF_o]) hSM
      · exact SimX_c h9 (by omega) (by omega) (fun j z1 z2 => hI17 j (by omega)) (by simp (disch := (first | omega | fail)) only [st_e, sf_e, Nat.reduceAdd, Nat.reduceMul, up_eq, up_ne, cpA_o, cpF_o]) (by simp (disch := (first | omega | fail)) only [st_e, sf_e, Nat.reduceAdd, Nat.reduceMul, up_eq, up_ne, cpA_o, cpF_o]) (by simp (disch := (first | omega | fail)) only [st_e, sf_e, Nat.reduceAdd, Nat.reduceMul, up_eq, up_ne, cpA_o, cpF_o]) (by simp (disch := (first | omega | fail)) only [st_e, sf_e, Nat.reduceAdd, Nat.reduceMul, up_eq, up_ne, cpA_o, cpF_o]) (by simp (disch := (first | omega | fail)) only [st_e, sf_e, Nat.reduceAdd, Nat.reduceMul, up_eq, up_ne, cpA_o, cpF_o]) (by simp (disch := (first | omega | fail)) only [st_e, sf_e, Nat.reduceAdd, Nat.reduceMul, up_eq, up_ne, cpA_o, cpF_o]) hSX
      · exact SimS_c (fun j z1 z2 => hI17 j (by omega)) (by simp (disch := (first | omega | fail)) only [st_e, sf_e, Nat.reduceAdd, Nat.reduceMul, up_eq, up_ne, cpA_o, cpF_o]) hSS
theorem k_removeBandP (hI : InvN A F P nB nl nb nx q t) (x : Int32) {i p : Nat} (hx0 : ¬ x = nI 0) (hi : i < nB) (hp1 : 1 ≤ p) (hp : p < nB) (hxi : pO (A 5) x nB 0 = i) (hgi : g (A 5) i = x) (hmj : mAt (A 193) x nB 0 = nI p) (hgj : g (A 193) (1 + p) = x) : Step m_Pa_removeBand m_Mod_removeBand [.int x] A F P := by
  obtain ⟨b, hb, b1, b2, hba, hrec⟩ := act_pre hI
  have hI0 := hI
  obtain ⟨⟨hM, ⟨n1, n2, n3, n4⟩, hSB, hSL, hSM, hSX, hSS⟩, ⟨l1, l2, l3⟩, hH, hT, -⟩ := hI0
  have hM0 := hM
  obtain ⟨h0, h1, h2, h3, h4, h5, h6, h7, h8, h9⟩ := hM0
  simp (disch := (first | omega | fail)) only [sf_e, Nat.reduceMul, Nat.reduceAdd] at n1 n2 n3 n4
  have c5 : (A 5).length = 8 := l1.1
  have c7 : (A 7).length = 8 := l1.2.1
  have c10 : (A 10).length = 20 := l1.2.2.1
  have c12 : (A 12).length = 20 := l1.2.2.2.1
  have c14 : (A 14).length = 20 := l1.2.2.2.2.1
  have c16 : (A 16).length = 20 := l1.2.2.2.2.2.1
  have c18 : (A 18).length = 8 := l1.2.2.2.2.2.2.1
  have c21 : (A 21).length = 60 := l1.2.2.2.2.2.2.2.1
  have c23 : (A 23).length = 60 := l1.2.2.2.2.2.2.2.2.1
  have c25 : (A 25).length = 60 := l1.2.2.2.2.2.2.2.2.2.1
  have c27 : (A 27).length = 60 := l1.2.2.2.2.2.2.2.2.2.2.1
  have c29 : (A 29).length = 60 := l1.2.2.2.2.2.2.2.2.2.2.2.1
  have c31 : (A 31).length = 60 := l1.2.2.2.2.2.2.2.2.2.2.2.2.1
  have c33 : (A 33).length = 4 := l1.2.2.2.2.2.2.2.2.2.2.2.2.2
  have iL := fun x => s_isLot (A := A) (F := F) (P := P) n2 (by omega) x
  have iB := fun x => s_isBidder (A := A) (F := F) (P := P) n3 (by omega) x
  have iX := fun x => s_isBid (A := A) (F := F) (P := P) n4 (by omega) x
  have eL := fun A F P => e_Mod_lots 192 (heap A F P) rfl
  have eB := fun A F P => e_Mod_bidders 192 (heap A F P) rfl
  have eX := fun A F P => e_Mod_bids 192 (heap A F P) rfl
  have hPO : ∀ A'' F'' P'', A'' 5 = A 5 → F'' 302 = F 302 → am_cl m_Steps_placeOf [.ref 3, .int x] (heap A'' F'' P'') = some (some (.int (nI i)), heap A'' F'' P'') := by
    intro A'' F'' P'' z1 z2
    rw [s_placeOf (nB := nB) (by rw [z1]; exact c5) h6 (by rw [z2]; exact n1), z1, hxi]
  have hBA : ∀ A'' F'' P'', A'' 193 = A 193 → am_cl m_Mod_bandAt [.ref 192, .int x] (heap A'' F'' P'') = some (some (.int (nI p)), heap A'' F'' P'') := by
    intro A'' F'' P'' z
    have := s_Mod_bandAt (A := A'') (F := F'') (P := P'') (nB := nB) (nl := nl) (nb := nb) (nx := nx) (by rw [z]; exact hM) x
    rw [z, hmj] at this
    exact this
  have eRF := fun x A F P => e_Steps_hasRoomFor 3 x (heap A F P) rfl
  have eHB := fun x A F P => e_Steps_hasBand 3 x (heap A F P) rfl
  have ePB := fun x v A F P => e_Steps_putBand 3 x v (heap A F P) rfl
  have eDB := fun x A F P => e_Steps_dropBand 3 x (heap A F P) rfl
  have e47 := fun x1 x2 x3 h => b_Mod_setBand_47 192 x1 x2 x3 h
  have hi8 : ¬ 8 ≤ i := by omega
  have hli : ¬ nB ≤ i := by omega
  obtain ⟨H', hH0, hH1, hH2, hre⟩ := hrec (up (up (cpA A 2 b) 5 ((A 5).set i (g (A 5) (nB - 1)))) 7 ((A 7).set i (g (A 7) (nB - 1)))) (up (up (up (cpF F 2 b) 302 (nI (nB - 1))) 3401 (nI (kp q + 1))) 16410 (nI 0)) (Pk q P) (by simp (disch := (first | omega | fail)) only [st_e, sf_e, Nat.reduceAdd, Nat.reduceMul, up_eq, up_ne, cpA_o, cpF_o]) (by simp (disch := (first | omega | fail)) only [st_e, sf_e, Nat.reduceAdd, Nat.reduceMul, up_eq, up_ne, cpA_o, cpF_o]) (by simp (disch := (first | omega | fail)) only [st_e, sf_e, Nat.reduceAdd, Nat.reduceMul, up_eq, up_ne, cpA_o, cpF_o])
  obtain ⟨R', hIns, hloop⟩ := l_removeBand30 (A := up (up (up (cpA A 2 b) 5 ((A 5).set i (g (A 5) (nB - 1)))) 7 ((A 7).set i (g (A 7) (nB - 1)))) 194 H') (F := up (up (up (up (cpF F 2 b) 302 (nI (nB - 1))) 3401 (nI (kp q + 1))) 16410 (nI 0)) 19202 (nI (kp q + 1))) (P := Pk q P) (r := A 193) (nB := nB) h0 h5 h6 hp x (nI p) (nB - 1 - p) p ((A 193).set 0 (nI (nB - 1))) (by omega) (Nat.le_refl _) (by rw [List.length_set]; exact h0) (by simp (disch := (first | omega | (simp only [List.length_set] <;> omega) | fail)) only [g_seq, g_sne, List.length_set]) (fun j hj => ⟨by simp (disch := (first | omega | (simp only [List.length_set] <;> omega) | fail)) only [g_seq, g_sne, List.length_set], by simp (disch := (first | omega | (simp only [List.length_set] <;> omega) | fail)) only [g_seq, g_sne, List.length_set]⟩) (fun j z1 z2 => by omega) (fun j z1 z2 => ⟨by simp (disch := (first | omega | (simp only [List.length_set] <;> omega) | fail)) only [g_seq, g_sne, List.length_set], by simp (disch := (first | omega | (simp only [List.length_set] <;> omega) | fail)) only [g_seq, g_sne, List.length_set]⟩) (fun j z => by simp (disch := (first | omega | (simp only [List.length_set] <;> omega) | fail)) only [g_seq, g_sne, List.length_set])
  simp (disch := omega) only [up_sw] at hloop
  have hI17 := hIns.2.2.2.2
  have hM1 : Mok ((up (up (cpA A 2 b) 5 ((A 5).set i (g (A 5) (nB - 1)))) 7 ((A 7).set i (g (A 7) (nB - 1)))) 193) nB nl nb nx := by simp (disch := (first | omega | fail)) only [st_e, sf_e, Nat.reduceAdd, Nat.reduceMul, up_eq, up_ne, cpA_o, cpF_o]; exact hM
  refine ⟨.int (nI (nB - 1)), up (up (cpA A 2 b) 5 ((A 5).set i (g (A 5) (nB - 1)))) 7 ((A 7).set i (g (A 7) (nB - 1))), up (up (up (cpF F 2 b) 302 (nI (nB - 1))) 3401 (nI (kp q + 1))) 16410 (nI 0), Pk q P, up (up (up (up (cpA A 2 b) 5 ((A 5).set i (g (A 5) (nB - 1)))) 7 ((A 7).set i (g (A 7) (nB - 1)))) 193 R') 194 H', up (up (up (up (cpF F 2 b) 302 (nI (nB - 1))) 3401 (nI (kp q + 1))) 16410 (nI 0)) 19202 (nI (kp q + 1)), Pk q P, ?_, ?_, (nB - 1), nl, nb, nx, kp q + 1, t, ?_⟩
  · rw [e_Pa_removeBand 1 _ _ rfl]
    simp (maxSteps := 2000000) (disch := (first | omega | (simp (disch := omega) only [up_eq, up_ne, cpA_o, cpF_o, List.length_set] <;> omega) | fail)) only [ob_s, am_bi_s, am_bv_s, am_bl_s, ↓bif_d, lits, nI_addS, nI_mulS, nI_subS, nI_lt', nI_le', nI_eq', ↓rd_nI, ↓wrH, up_eq, up_ne, up_up, up_sw, List.set_set, g_seq, g_sne, Nat.reduceEqDiff, ↓reduceIte, List.length_set, Nat.add_sub_cancel_left, Nat.add_sub_cancel, ite_true, ite_false, if_true, if_false, not_true_eq_false, not_false_eq_true, Bool.and_true, Bool.true_and, true_or, or_true, false_or, or_false, and_true, true_and, and_false, false_and, Nat.not_lt_zero, hpRX, hpIX, hpFX, hpLX, hpSX, ↓rgX, ↓rpX, Nat.reduceLeDiff, Nat.reduceLT, Nat.reduceAdd, Nat.reduceMul, Nat.reduceSub, iL, iB, iX, s_out, b01_0, hPO, eHB, eDB, hi8, hli, hx0, n1, n2, n3, n4, hba, cpA_o, cpF_o]
  · rw [e_Mod_removeBand 192 _ _ rfl]
    simp (maxSteps := 2000000) (disch := (first | omega | (simp (disch := omega) only [up_eq, up_ne, cpA_o, cpF_o, List.length_set] <;> omega) | fail)) only [ob_s, am_bi_s, am_bv_s, am_bl_s, ↓bif_d, lits, nI_addS, nI_mulS, nI_subS, nI_lt', nI_le', nI_eq', ↓rd_nI, ↓wrH, up_eq, up_ne, up_up, up_sw, List.set_set, g_seq, g_sne, Nat.reduceEqDiff, ↓reduceIte, List.length_set, Nat.add_sub_cancel_left, Nat.add_sub_cancel, ite_true, ite_false, if_true, if_false, not_true_eq_false, not_false_eq_true, Bool.and_true, Bool.true_and, true_or, or_true, false_or, or_false, and_true, true_and, and_false, false_and, Nat.not_lt_zero, hpRM, hpIM, hpFM, hpLM, hpSM, s_Mod_noLot hM1, s_Mod_noBidder hM1, s_Mod_noBid hM1, s_Mod_in, eL, eB, eX, h1, h2, h3, h4, b01_0, hBA, hp1, hre, cpA_o, hloop]
  · refine act_done (r' := R') hI hb hH0 hH1 hH2 ?_ ?_ ?_ ?_ ?_ ?_ ?_ ?_ ?_ ?_ ?_ ?_
    · intro j z1 z2; simp (disch := (first | omega | fail)) only [st_e, sf_e, Nat.reduceAdd, Nat.reduceMul, up_eq, up_ne, cpA_o, cpF_o]
    · intro j z1 z2 z3; simp (disch := (first | omega | fail)) only [st_e, sf_e, Nat.reduceAdd, Nat.reduceMul, up_eq, up_ne, cpA_o, cpF_o]
    · simp (disch := (first | omega | fail)) only [st_e, sf_e, Nat.reduceAdd, Nat.reduceMul, up_eq, up_ne, cpA_o, cpF_o]
    · intro k z1 z2; simp (disch := (first | omega | fail)) only [st_e, sf_e, Nat.reduceAdd, Nat.reduceMul, up_eq, up_ne, cpA_o, cpF_o]
    · simp (disch := (first | omega | fail)) only [st_e, sf_e, Nat.reduceAdd, Nat.reduceMul, up_eq, up_ne, cpA_o, cpF_o]
    · simp (disch := (first | omega | fail)) only [st_e, sf_e, Nat.reduceAdd, Nat.reduceMul, up_eq, up_ne, cpA_o, cpF_o]
    · simp (disch := (first | omega | fail)) only [st_e, sf_e, Nat.reduceAdd, Nat.reduceMul, up_eq, up_ne, cpA_o, cpF_o]
    · simp (disch := (first | omega | fail)) only [st_e, sf_e, Nat.reduceAdd, Nat.reduceMul, up_eq, up_ne, cpA_o, cpF_o]
    · simp (disch := (first | omega | fail)) only [st_e, sf_e, Nat.reduceAdd, Nat.reduceMul, up_eq, up_ne, cpA_o, cpF_o]
    · unfold LenS; simp (disch := (first | omega | (simp (disch := omega) only [up_eq, up_ne, cpA_o, List.length_set] <;> omega) | fail)) only [st_e, sf_e, Nat.reduceAdd, Nat.reduceMul, up_eq, up_ne, cpA_o, cpF_o, g_seq, g_sne, List.length_set]; exact l1
    · simp (disch := (first | omega | fail)) only [st_e, sf_e, Nat.reduceAdd, Nat.reduceMul, up_eq, up_ne, cpA_o, cpF_o]
    · refine ⟨?_, ?_, ?_, ?_, ?_, ?_, ?_⟩
      · refine ⟨hIns.1, hIns.2.1, by rw [hI17 17 (by omega)]; exact h2, by rw [hI17 98 (by omega)]; exact h3, by rw [hI17 107 (by omega)]; exact h4, by omega, by omega, by omega, by omega, by omega⟩
      · refine ⟨by simp (disch := (first | omega | (simp (disch := omega) only [up_eq, up_ne, cpA_o, List.length_set] <;> omega) | fail)) only [st_e, sf_e, Nat.reduceAdd, Nat.reduceMul, up_eq, up_ne, cpA_o, cpF_o, g_seq, g_sne, List.length_set] <;> exact n1, by simp (disch := (first | omega | (simp (disch := omega) only [up_eq, up_ne, cpA_o, List.length_set] <;> omega) | fail)) only [st_e, sf_e, Nat.reduceAdd, Nat.reduceMul, up_eq, up_ne, cpA_o, cpF_o, g_seq, g_sne, List.length_set] <;> exact n2, by simp (disch := (first | omega | (simp (disch := omega) only [up_eq, up_ne, cpA_o, List.length_set] <;> omega) | fail)) only [st_e, sf_e, Nat.reduceAdd, Nat.reduceMul, up_eq, up_ne, cpA_o, cpF_o, g_seq, g_sne, List.length_set] <;> exact n3, by simp (disch := (first | omega | (simp (disch := omega) only [up_eq, up_ne, cpA_o, List.length_set] <;> omega) | fail)) only [st_e, sf_e, Nat.reduceAdd, Nat.reduceMul, up_eq, up_ne, cpA_o, cpF_o, g_seq, g_sne, List.length_set] <;> exact n4⟩
      · exact SimB_del hSB (by simp (disch := (first | omega | fail)) only [st_e, sf_e, Nat.reduceAdd, Nat.reduceMul, up_eq, up_ne, cpA_o, cpF_o]; exact c5) (by simp (disch := (first | omega | fail)) only [st_e, sf_e, Nat.reduceAdd, Nat.reduceMul, up_eq, up_ne, cpA_o, cpF_o]; exact c7) h6 hi hp1 hp (by simp (disch := (first | omega | fail)) only [st_e, sf_e, Nat.reduceAdd, Nat.reduceMul, up_eq, up_ne, cpA_o, cpF_o]; exact hgi.trans hgj.symm) hIns (by simp (disch := (first | omega | fail)) only [st_e, sf_e, Nat.reduceAdd, Nat.reduceMul, up_eq, up_ne, cpA_o, cpF_o]) (by simp (disch := (first | omega | fail)) only [st_e, sf_e, Nat.reduceAdd, Nat.reduceMul, up_eq, up_ne, cpA_o, cpF_o])
      · exact SimL_c h7 (fun j z1 z2 => hI17 j (by omega)) (by simp (disch := (first | omega | fail)) only [st_e, sf_e, Nat.reduceAdd, Nat.reduceMul, up_eq, up_ne, cpA_o, cpF_o]) (by simp (disch := (first | omega | fail)) only [st_e, sf_e, Nat.reduceAdd, Nat.reduceMul, up_eq, up_ne, cpA_o, cpF_o]) (by simp (disch := (first | omega | fail)) only [st_e, sf_e, Nat.reduceAdd, Nat.reduceMul, up_eq, up_ne, cpA_o, cpF_o]) (by simp (disch := (first | omega | fail)) only [st_e, sf_e, Nat.reduceAdd, Nat.reduceMul, up_eq, up_ne, cpA_o, cpF_o]) hSL
      · exact SimM_c h8 (fun j z1 z2 => hI17 j (by omega)) (by simp (disch := (first | omega | fail)) only [st_e, sf_e, Nat.reduceAdd, Nat.reduceMul, up_eq, up_ne, cpA_o, cpF_o]) hSM
      · exact SimX_c h9 (by omega) (by omega) (fun j z1 z2 => hI17 j (by omega)) (by simp (disch := (first | omega | fail)) only [st_e, sf_e, Nat.reduceAdd, Nat.reduceMul, up_eq, up_ne, cpA_o, cpF_o]) (by simp (disch := (first | omega | fail)) only [st_e, sf_e, Nat.reduceAdd, Nat.reduceMul, up_eq, up_ne, cpA_o, cpF_o]) (by simp (disch := (first | omega | fail)) only [st_e, sf_e, Nat.reduceAdd, Nat.reduceMul, up_eq, up_ne, cpA_o, cpF_o]) (by simp (disch := (first | omega | fail)) only [st_e, sf_e, Nat.reduceAdd, Nat.reduceMul, up_eq, up_ne, cpA_o, cpF_o]) (by simp (disch := (first | omega | fail)) only [st_e, sf_e, Nat.reduceAdd, Nat.reduceMul, up_eq, up_ne, cpA_o, cpF_o]) (by simp (disch := (first | omega | fail)) only [st_e, sf_e, Nat.reduceAdd, Nat.reduceMul, up_eq, up_ne, cpA_o, cpF_o]) hSX
      · exact SimS_c (fun j z1 z2 => hI17 j (by omega)) (by simp (disch := (first | omega | fail)) only [st_e, sf_e, Nat.reduceAdd, Nat.reduceMul, up_eq, up_ne, cpA_o, cpF_o]) hSS
theorem band_cases (hI : InvN A F P nB nl nb nx q t) (x : Int32) : (∃ i j, i < nB ∧ j < nB ∧ pO (A 5) x nB 0 = i ∧ g (A 5) i = x ∧ mAt (A 193) x nB 0 = nI j ∧ g (A 193) (1 + j) = x) ∨ (pO (A 5) x nB 0 = nB ∧ mAt (A 193) x nB 0 = -nI 5 ∧ ∀ m, m < nB → ¬ g (A 193) (1 + m) = x) := by
  obtain ⟨b1, b2, -⟩ := hI.1.2.2.1
  have b1 : ∀ k, k < nB → ∃ j, j < nB ∧ g (A 5) k = g (A 193) (1 + j) := fun k hk => by
    obtain ⟨j, j1, j2, -⟩ := b1 k hk
    exact ⟨j, j1, j2⟩
  have b2 : ∀ j, j < nB → ∃ k, k < nB ∧ g (A 5) k = g (A 193) (1 + j) := fun j hj => by
    obtain ⟨k, k1, k2, -⟩ := b2 j hj
    exact ⟨k, k1, k2⟩
  obtain ⟨p1, p2, p3, p4⟩ := pO_spec (A 5) x nB 0
  rw [Nat.zero_add] at p2 p3
  rcases mAt_spec (A 193) x nB 0 with ⟨j, j1, j2, j3, j4⟩ | ⟨h1, h2⟩
  · have hj : j < nB := by omega
    obtain ⟨k, k1, k2⟩ := b2 j hj
    have hi : pO (A 5) x nB 0 < nB := by
      rcases Nat.lt_or_ge (pO (A 5) x nB 0) nB with z | z
      · exact z
      · exact absurd (k2.trans j4) (p4 k (Nat.zero_le _) (by omega))
    exact Or.inl ⟨_, j, hi, hj, rfl, p3 hi, j3, j4⟩
  · have hn : ∀ m, m < nB → ¬ g (A 193) (1 + m) = x := fun m hm => h2 m (Nat.zero_le _) (by omega)
    refine Or.inr ⟨?_, h1, hn⟩
    rcases Nat.lt_or_ge (pO (A 5) x nB 0) nB with z | z
    · obtain ⟨j, q1, q2⟩ := b1 _ z
      exact absurd (q2.symm.trans (p3 z)) (hn j q1)
    · omega
theorem k_setBand (hI : InvN A F P nB nl nb nx q t) (x v : Int32) : Step m_Pa_setBand m_Mod_setBand [.int x, .int v] A F P := by
  rcases band_cases hI x with ⟨i, j, hi, hj, h1, h2, h3, h4⟩ | ⟨h1, h2, h3⟩
  · exact k_setBandP hI x v hi hj h1 h2 h3 h4
  · by_cases h8 : nB < 8
    · exact k_setBandN hI x v h8 h1 h2 h3
    · have hI0 := hI
      obtain ⟨⟨hM, ⟨n1, n2, n3, n4⟩, -⟩, ⟨l1, l2, l3⟩, -⟩ := hI0
      have c5 : (A 5).length = 8 := l1.1
      have hn : nB = 8 := by have := hM.2.2.2.2.2.2.1; omega
      have n1 : F 302 = nI nB := n1
      have hr0 := hM.1
      have h10 := hM.2.1
      have hPO := s_placeOf (A := A) (F := F) (P := P) (nB := nB) c5 (by omega) n1 x
      have hBA := s_Mod_bandAt (F := F) (P := P) hM x
      rw [h1] at hPO
      rw [h2] at hBA
      rw [hn] at hPO h10
      have eRF := fun x A F P => e_Steps_hasRoomFor 3 x (heap A F P) rfl
      have h5m : (nI 0 ≤ -nI 5) = False := by simp only [eq_iff_iff, iff_false]; decide
      by_cases g0 : x < nI 0 ∨ nI 1000000 < x
      · refine ⟨.int (-nI 2), A, F, P, A, F, P, ?_, ?_, nB, nl, nb, nx, q, t, hI⟩
        · rw [e_Pa_setBand 1 _ _ _ rfl]
          simp (maxSteps := 2000000) (disch := (first | omega | (simp (disch := omega) only [up_eq, up_ne, cpA_o, cpF_o, List.length_set] <;> omega) | fail)) only [ob_s, am_bi_s, am_bv_s, am_bl_s, ↓bif_d, lits, nI_addS, nI_mulS, nI_subS, nI_lt', nI_le', nI_eq', ↓rd_nI, ↓wrH, up_eq, up_ne, up_up, up_sw, List.set_set, g_seq, g_sne, Nat.reduceEqDiff, ↓reduceIte, List.length_set, Nat.add_sub_cancel_left, Nat.add_sub_cancel, ite_true, ite_false, if_true, if_false, not_true_eq_false, not_false_eq_true, Bool.and_true, Bool.true_and, true_or, or_true, false_or, or_false, and_true, true_and, and_false, false_and, Nat.not_lt_zero, hpRX, hpIX, hpFX, hpLX, hpSX, ↓rgX, ↓rpX, Nat.reduceLeDiff, Nat.reduceLT, Nat.reduceAdd, Nat.reduceMul, Nat.reduceSub, s_out, b01_0, g0]
        · rw [e_Mod_setBand 192 _ _ _ rfl]
          simp (maxSteps := 2000000) (disch := (first | omega | (simp (disch := omega) only [up_eq, up_ne, cpA_o, cpF_o, List.length_set] <;> omega) | fail)) only [ob_s, am_bi_s, am_bv_s, am_bl_s, ↓bif_d, lits, nI_addS, nI_mulS, nI_subS, nI_lt', nI_le', nI_eq', ↓rd_nI, ↓wrH, up_eq, up_ne, up_up, up_sw, List.set_set, g_seq, g_sne, Nat.reduceEqDiff, ↓reduceIte, List.length_set, Nat.add_sub_cancel_left, Nat.add_sub_cancel, ite_true, ite_false, if_true, if_false, not_true_eq_false, not_false_eq_true, Bool.and_true, Bool.true_and, true_or, or_true, false_or, or_false, and_true, true_and, and_false, false_and, Nat.not_lt_zero, hpRM, hpIM, hpFM, hpLM, hpSM, s_Mod_in, b01_0, g0]
      · by_cases g1 : v < nI 1 ∨ nI 100000 < v
        · refine ⟨.int (-nI 2), A, F, P, A, F, P, ?_, ?_, nB, nl, nb, nx, q, t, hI⟩
          · rw [e_Pa_setBand 1 _ _ _ rfl]
            simp (maxSteps := 2000000) (disch := (first | omega | (simp (disch := omega) only [up_eq, up_ne, cpA_o, cpF_o, List.length_set] <;> omega) | fail)) only [ob_s, am_bi_s, am_bv_s, am_bl_s, ↓bif_d, lits, nI_addS, nI_mulS, nI_subS, nI_lt', nI_le', nI_eq', ↓rd_nI, ↓wrH, up_eq, up_ne, up_up, up_sw, List.set_set, g_seq, g_sne, Nat.reduceEqDiff, ↓reduceIte, List.length_set, Nat.add_sub_cancel_left, Nat.add_sub_cancel, ite_true, ite_false, if_true, if_false, not_true_eq_false, not_false_eq_true, Bool.and_true, Bool.true_and, true_or, or_true, false_or, or_false, and_true, true_and, and_false, false_and, Nat.not_lt_zero, hpRX, hpIX, hpFX, hpLX, hpSX, ↓rgX, ↓rpX, Nat.reduceLeDiff, Nat.reduceLT, Nat.reduceAdd, Nat.reduceMul, Nat.reduceSub, s_out, b01_0, g0, g1]
          · rw [e_Mod_setBand 192 _ _ _ rfl]
            simp (maxSteps := 2000000) (disch := (first | omega | (simp (disch := omega) only [up_eq, up_ne, cpA_o, cpF_o, List.length_set] <;> omega) | fail)) only [ob_s, am_bi_s, am_bv_s, am_bl_s, ↓bif_d, lits, nI_addS, nI_mulS, nI_subS, nI_lt', nI_le', nI_eq', ↓rd_nI, ↓wrH, up_eq, up_ne, up_up, up_sw, List.set_set, g_seq, g_sne, Nat.reduceEqDiff, ↓reduceIte, List.length_set, Nat.add_sub_cancel_left, Nat.add_sub_cancel, ite_true, ite_false, if_true, if_false, not_true_eq_false, not_false_eq_true, Bool.and_true, Bool.true_and, true_or, or_true, false_or, or_false, and_true, true_and, and_false, false_and, Nat.not_lt_zero, hpRM, hpIM, hpFM, hpLM, hpSM, s_Mod_in, b01_0, g0, g1]
        · refine ⟨.int (-nI 3), A, F, P, A, F, P, ?_, ?_, nB, nl, nb, nx, q, t, hI⟩
          · rw [e_Pa_setBand 1 _ _ _ rfl]
            simp (maxSteps := 2000000) (disch := (first | omega | (simp (disch := omega) only [up_eq, up_ne, cpA_o, cpF_o, List.length_set] <;> omega) | fail)) only [ob_s, am_bi_s, am_bv_s, am_bl_s, ↓bif_d, lits, nI_addS, nI_mulS, nI_subS, nI_lt', nI_le', nI_eq', ↓rd_nI, ↓wrH, up_eq, up_ne, up_up, up_sw, List.set_set, g_seq, g_sne, Nat.reduceEqDiff, ↓reduceIte, List.length_set, Nat.add_sub_cancel_left, Nat.add_sub_cancel, ite_true, ite_false, if_true, if_false, not_true_eq_false, not_false_eq_true, Bool.and_true, Bool.true_and, true_or, or_true, false_or, or_false, and_true, true_and, and_false, false_and, Nat.not_lt_zero, hpRX, hpIX, hpFX, hpLX, hpSX, ↓rgX, ↓rpX, Nat.reduceLeDiff, Nat.reduceLT, Nat.reduceAdd, Nat.reduceMul, Nat.reduceSub, s_out, b01_0, g0, g1, eRF, hPO, Nat.le_refl]
          · rw [e_Mod_setBand 192 _ _ _ rfl]
            simp (maxSteps := 2000000) (disch := (first | omega | (simp (disch := omega) only [up_eq, up_ne, cpA_o, cpF_o, List.length_set] <;> omega) | fail)) only [ob_s, am_bi_s, am_bv_s, am_bl_s, ↓bif_d, lits, nI_addS, nI_mulS, nI_subS, nI_lt', nI_le', nI_eq', ↓rd_nI, ↓wrH, up_eq, up_ne, up_up, up_sw, List.set_set, g_seq, g_sne, Nat.reduceEqDiff, ↓reduceIte, List.length_set, Nat.add_sub_cancel_left, Nat.add_sub_cancel, ite_true, ite_false, if_true, if_false, not_true_eq_false, not_false_eq_true, Bool.and_true, Bool.true_and, true_or, or_true, false_or, or_false, and_true, true_and, and_false, false_and, Nat.not_lt_zero, hpRM, hpIM, hpFM, hpLM, hpSM, s_Mod_in, b01_0, g0, g1, hBA, h5m, h10]
theorem k_removeBand (hI : InvN A F P nB nl nb nx q t) (x : Int32) : Step m_Pa_removeBand m_Mod_removeBand [.int x] A F P := by
  have hI0 := hI
  obtain ⟨⟨hM, ⟨n1, n2, n3, n4⟩, hSB, -⟩, ⟨l1, l2, l3⟩, -⟩ := hI0
  have c5 : (A 5).length = 8 := l1.1
  have n1 : F 302 = nI nB := n1
  have hB8 := hM.2.2.2.2.2.2.1
  have hB1 := hM.2.2.2.2.2.1
  have hz : g (A 193) 1 = nI 0 := hSB.2.2.2.1
  have h0s : (-nI 5 : Int32) = -nI 5 := rfl
  have h5m : (nI 1 ≤ -nI 5) = False := by simp only [eq_iff_iff, iff_false]; decide
  by_cases hx0 : x = nI 0
  · subst hx0
    have hBA := s_Mod_bandAt (F := F) (P := P) hM (nI 0)
    have e : mAt (A 193) (nI 0) nB 0 = nI 0 := by
      have : nB = nB - 1 + 1 := by omega
      rw [this, mAt_s, if_pos hz]
    rw [e] at hBA
    refine ⟨.int (-nI 4), A, F, P, A, F, P, ?_, ?_, nB, nl, nb, nx, q, t, hI⟩
    · rw [e_Pa_removeBand 1 _ _ rfl]
      simp (maxSteps := 2000000) (disch := (first | omega | (simp (disch := omega) only [up_eq, up_ne, cpA_o, cpF_o, List.length_set] <;> omega) | fail)) only [ob_s, am_bi_s, am_bv_s, am_bl_s, ↓bif_d, lits, nI_addS, nI_mulS, nI_subS, nI_lt', nI_le', nI_eq', ↓rd_nI, ↓wrH, up_eq, up_ne, up_up, up_sw, List.set_set, g_seq, g_sne, Nat.reduceEqDiff, ↓reduceIte, List.length_set, Nat.add_sub_cancel_left, Nat.add_sub_cancel, ite_true, ite_false, if_true, if_false, not_true_eq_false, not_false_eq_true, Bool.and_true, Bool.true_and, true_or, or_true, false_or, or_false, and_true, true_and, and_false, false_and, Nat.not_lt_zero, hpRX, hpIX, hpFX, hpLX, hpSX, ↓rgX, ↓rpX, Nat.reduceLeDiff, Nat.reduceLT, Nat.reduceAdd, Nat.reduceMul, Nat.reduceSub]
    · rw [e_Mod_removeBand 192 _ _ rfl]
      simp (maxSteps := 2000000) (disch := (first | omega | (simp (disch := omega) only [up_eq, up_ne, cpA_o, cpF_o, List.length_set] <;> omega) | fail)) only [ob_s, am_bi_s, am_bv_s, am_bl_s, ↓bif_d, lits, nI_addS, nI_mulS, nI_subS, nI_lt', nI_le', nI_eq', ↓rd_nI, ↓wrH, up_eq, up_ne, up_up, up_sw, List.set_set, g_seq, g_sne, Nat.reduceEqDiff, ↓reduceIte, List.length_set, Nat.add_sub_cancel_left, Nat.add_sub_cancel, ite_true, ite_false, if_true, if_false, not_true_eq_false, not_false_eq_true, Bool.and_true, Bool.true_and, true_or, or_true, false_or, or_false, and_true, true_and, and_false, false_and, Nat.not_lt_zero, hpRM, hpIM, hpFM, hpLM, hpSM, hBA, Nat.reduceLeDiff]
  · rcases band_cases hI x with ⟨i, j, hi, hj, h1, h2, h3, h4⟩ | ⟨h1, h2, h3⟩
    · have hj1 : 1 ≤ j := by
        rcases Nat.eq_zero_or_pos j with z | z
        · subst z
          exact absurd (h4.symm.trans hz) hx0
        · exact z
      exact k_removeBandP hI x hx0 hi hj1 hj h1 h2 h3 h4
    · have hPO := s_placeOf (A := A) (F := F) (P := P) (nB := nB) c5 hB8 n1 x
      have hBA := s_Mod_bandAt (F := F) (P := P) hM x
      rw [h1] at hPO
      rw [h2] at hBA
      have eHB := fun x A F P => e_Steps_hasBand 3 x (heap A F P) rfl
      have hle : nB ≤ nB := Nat.le_refl _
      refine ⟨.int (-nI 4), A, F, P, A, F, P, ?_, ?_, nB, nl, nb, nx, q, t, hI⟩
      · rw [e_Pa_removeBand 1 _ _ rfl]
        simp (maxSteps := 2000000) (disch := (first | omega | (simp (disch := omega) only [up_eq, up_ne, cpA_o, cpF_o, List.length_set] <;> omega) | fail)) only [ob_s, am_bi_s, am_bv_s, am_bl_s, ↓bif_d, lits, nI_addS, nI_mulS, nI_subS, nI_lt', nI_le', nI_eq', ↓rd_nI, ↓wrH, up_eq, up_ne, up_up, up_sw, List.set_set, g_seq, g_sne, Nat.reduceEqDiff, ↓reduceIte, List.length_set, Nat.add_sub_cancel_left, Nat.add_sub_cancel, ite_true, ite_false, if_true, if_false, not_true_eq_false, not_false_eq_true, Bool.and_true, Bool.true_and, true_or, or_true, false_or, or_false, and_true, true_and, and_false, false_and, Nat.not_lt_zero, hpRX, hpIX, hpFX, hpLX, hpSX, ↓rgX, ↓rpX, Nat.reduceLeDiff, Nat.reduceLT, Nat.reduceAdd, Nat.reduceMul, Nat.reduceSub, hx0, eHB, hPO, n1, hle]
      · rw [e_Mod_removeBand 192 _ _ rfl]
        simp (maxSteps := 2000000) (disch := (first | omega | (simp (disch := omega) only [up_eq, up_ne, cpA_o, cpF_o, List.length_set] <;> omega) | fail)) only [ob_s, am_bi_s, am_bv_s, am_bl_s, ↓bif_d, lits, nI_addS, nI_mulS, nI_subS, nI_lt', nI_le', nI_eq', ↓rd_nI, ↓wrH, up_eq, up_ne, up_up, up_sw, List.set_set, g_seq, g_sne, Nat.reduceEqDiff, ↓reduceIte, List.length_set, Nat.add_sub_cancel_left, Nat.add_sub_cancel, ite_true, ite_false, if_true, if_false, not_true_eq_false, not_false_eq_true, Bool.and_true, Bool.true_and, true_or, or_true, false_or, or_false, and_true, true_and, and_false, false_and, Nat.not_lt_zero, hpRM, hpIM, hpFM, hpLM, hpSM, hBA, h5m]
end X
