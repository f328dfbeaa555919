section X
variable {A : Nat → List Int32} {F : Nat → Int32} {P : Nat → Nat} {nB nl nb nx q t : Nat}
theorem k_setBandP (hI : InvN A F P nB nl nb nx q t) (x v : Int32) {i j : Nat} (hi : i < nB) (hj : j < nB) (hxi : pO (A 5) x nB 0 = i) (hgi : g (A 5) i = x) (hgj : g (A 193) (1 + j) = x) (g0 : ¬ (x < nI 0 ∨ nI 1000000 < x)) (g1 : ¬ (v < nI 1 ∨ nI 100000 < v)) : Act m_Pa_setBand [.int x, .int v] A F P (.int (nI nB)) ((A 193).set (9 + j) v) (nB) (nl) (nb) (nx) q t := by
  have hI0 := hI
  obtain ⟨⟨hM, ⟨n1, n2, n3, n4⟩, hSB, hSL, hSM, hSX, hSS⟩, ⟨l1, l2, l3⟩, hH, hT, -⟩ := hI0
  have hM0 := hM
  obtain ⟨h0, h1, h2, h3, h4, h5, h6, h7, h8, h9⟩ := hM0
  simp (disch := (first | omega | fail)) only [sf_e, Nat.reduceMul, Nat.reduceAdd] at n1 n2 n3 n4
  have c5 : (A 5).length = 8 := l1.1
  have c7 : (A 7).length = 8 := l1.2.1
  have c10 : (A 10).length = 20 := l1.2.2.1
  have c12 : (A 12).length = 20 := l1.2.2.2.1
  have c14 : (A 14).length = 20 := l1.2.2.2.2.1
  have c16 : (A 16).length = 20 := l1.2.2.2.2.2.1
  have c18 : (A 18).length = 8 := l1.2.2.2.2.2.2.1
  have c21 : (A 21).length = 60 := l1.2.2.2.2.2.2.2.1
  have c23 : (A 23).length = 60 := l1.2.2.2.2.2.2.2.2.1
  have c25 : (A 25).length = 60 := l1.2.2.2.2.2.2.2.2.2.1
  have c27 : (A 27).length = 60 := l1.2.2.2.2.2.2.2.2.2.2.1
  have c29 : (A 29).length = 60 := l1.2.2.2.2.2.2.2.2.2.2.2.1
  have c31 : (A 31).length = 60 := l1.2.2.2.2.2.2.2.2.2.2.2.2.1
  have c33 : (A 33).length = 4 := l1.2.2.2.2.2.2.2.2.2.2.2.2.2
  have iL := fun x => s_isLot (A := A) (F := F) (P := P) n2 (by omega) x
  have iB := fun x => s_isBidder (A := A) (F := F) (P := P) n3 (by omega) x
  have iX := fun x => s_isBid (A := A) (F := F) (P := P) n4 (by omega) x
  have hPO : ∀ A'' F'' P'', A'' 5 = A 5 → F'' 302 = F 302 → am_cl m_Steps_placeOf [.ref 3, .int x] (heap A'' F'' P'') = some (some (.int (nI i)), heap A'' F'' P'') := by
    intro A'' F'' P'' z1 z2
    rw [s_placeOf (nB := nB) (by rw [z1]; exact c5) h6 (by rw [z2]; exact n1), z1, hxi]
  have eRF := fun x A F P => e_Steps_hasRoomFor 3 x (heap A F P) rfl
  have eHB := fun x A F P => e_Steps_hasBand 3 x (heap A F P) rfl
  have ePB := fun x v A F P => e_Steps_putBand 3 x v (heap A F P) rfl
  have eDB := fun x A F P => e_Steps_dropBand 3 x (heap A F P) rfl
  have hi8 : ¬ 8 ≤ i := by omega
  have hmx : am_max (nI nB) (nI (i + 1)) = nI nB := by rw [am_max_N (by omega) (by omega), if_neg (by omega)]
  obtain ⟨b, H', hb, b1, b2, hba, hH0, hH1, hH2⟩ := act_pre hI
  refine ⟨up (up (up (up (cpA A 2 b) 5 ((A 5).set i x)) 7 ((A 7).set i v)) 193 ((A 193).set (9 + j) v)) 194 H', up (up (up (up (cpF F 2 b) 302 (nI nB)) 3401 (nI (kp q + 1))) 16410 (nI 0)) 19202 (nI (kp q + 1)), Pk q P, ?_, ?_, ?_, ?_, ?_, ?_, ?_⟩
  · rw [gh194, gh193, ghF2, e_Pa_setBand 1 _ _ _ rfl]
    simp (maxSteps := 2000000) (disch := (first | omega | (simp (disch := omega) only [up_eq, up_ne, cpA_o, cpF_o, List.length_set] <;> omega) | fail)) only [ob_s, am_bi_s, am_bv_s, am_bl_s, ↓bif_d, lits, nI_addS, nI_mulS, nI_subS, nI_lt', nI_le', nI_eq', ↓rd_nI, ↓wrH, up_eq, up_ne, up_up, up_sw, List.set_set, g_seq, g_sne, Nat.reduceEqDiff, ↓reduceIte, List.length_set, Nat.add_sub_cancel_left, Nat.add_sub_cancel, ite_true, ite_false, if_true, if_false, not_true_eq_false, not_false_eq_true, Bool.and_true, Bool.true_and, true_or, or_true, false_or, or_false, and_true, true_and, and_false, false_and, Nat.not_lt_zero, hpRX, hpIX, hpFX, hpLX, hpSX, ↓rgX, ↓rpX, Nat.reduceLeDiff, Nat.reduceLT, Nat.reduceAdd, Nat.reduceMul, Nat.reduceSub, iL, iB, iX, s_out, b01_0, hPO, eRF, ePB, hi8, hmx, n1, n2, n3, n4, hba, cpA_o, cpF_o, g0, g1]
  · refine act_done (r' := ((A 193).set (9 + j) v)) hI hb hH0 hH1 hH2 ?_ ?_ ?_ ?_ ?_ ?_ ?_ ?_ ?_ ?_ ?_ ?_
    · intro j z1 z2; simp (disch := (first | omega | fail)) only [st_e, sf_e, Nat.reduceAdd, Nat.reduceMul, up_eq, up_ne, cpA_o, cpF_o]
    · intro j z1 z2 z3; simp (disch := (first | omega | fail)) only [st_e, sf_e, Nat.reduceAdd, Nat.reduceMul, up_eq, up_ne, cpA_o, cpF_o]
    · simp (disch := (first | omega | fail)) only [st_e, sf_e, Nat.reduceAdd, Nat.reduceMul, up_eq, up_ne, cpA_o, cpF_o]
    · intro k z1 z2; simp (disch := (first | omega | fail)) only [st_e, sf_e, Nat.reduceAdd, Nat.reduceMul, up_eq, up_ne, cpA_o, cpF_o]
    · simp (disch := (first | omega | fail)) only [st_e, sf_e, Nat.reduceAdd, Nat.reduceMul, up_eq, up_ne, cpA_o, cpF_o]
    · simp (disch := (first | omega | fail)) only [st_e, sf_e, Nat.reduceAdd, Nat.reduceMul, up_eq, up_ne, cpA_o, cpF_o]
    · simp (disch := (first | omega | fail)) only [st_e, sf_e, Nat.reduceAdd, Nat.reduceMul, up_eq, up_ne, cpA_o, cpF_o]
    · simp (disch := (first | omega | fail)) only [st_e, sf_e, Nat.reduceAdd, Nat.reduceMul, up_eq, up_ne, cpA_o, cpF_o]
    · simp (disch := (first | omega | fail)) only [st_e, sf_e, Nat.reduceAdd, Nat.reduceMul, up_eq, up_ne, cpA_o, cpF_o]
    · unfold LenS; simp (disch := (first | omega | (simp (disch := omega) only [up_eq, up_ne, cpA_o, List.length_set] <;> omega) | fail)) only [st_e, sf_e, Nat.reduceAdd, Nat.reduceMul, up_eq, up_ne, cpA_o, cpF_o, g_seq, g_sne, List.length_set]; exact l1
    · simp (disch := (first | omega | fail)) only [st_e, sf_e, Nat.reduceAdd, Nat.reduceMul, up_eq, up_ne, cpA_o, cpF_o]
    · refine ⟨?_, ?_, ?_, ?_, ?_, ?_, ?_⟩
      · refine ⟨by simp (disch := (first | omega | (simp (disch := omega) only [up_eq, up_ne, cpA_o, List.length_set] <;> omega) | fail)) only [st_e, sf_e, Nat.reduceAdd, Nat.reduceMul, up_eq, up_ne, cpA_o, cpF_o, g_seq, g_sne, List.length_set]; exact h0, by simp (disch := (first | omega | (simp (disch := omega) only [up_eq, up_ne, cpA_o, List.length_set] <;> omega) | fail)) only [st_e, sf_e, Nat.reduceAdd, Nat.reduceMul, up_eq, up_ne, cpA_o, cpF_o, g_seq, g_sne, List.length_set] <;> exact h1, by simp (disch := (first | omega | (simp (disch := omega) only [up_eq, up_ne, cpA_o, List.length_set] <;> omega) | fail)) only [st_e, sf_e, Nat.reduceAdd, Nat.reduceMul, up_eq, up_ne, cpA_o, cpF_o, g_seq, g_sne, List.length_set] <;> exact h2, by simp (disch := (first | omega | (simp (disch := omega) only [up_eq, up_ne, cpA_o, List.length_set] <;> omega) | fail)) only [st_e, sf_e, Nat.reduceAdd, Nat.reduceMul, up_eq, up_ne, cpA_o, cpF_o, g_seq, g_sne, List.length_set] <;> exact h3, by simp (disch := (first | omega | (simp (disch := omega) only [up_eq, up_ne, cpA_o, List.length_set] <;> omega) | fail)) only [st_e, sf_e, Nat.reduceAdd, Nat.reduceMul, up_eq, up_ne, cpA_o, cpF_o, g_seq, g_sne, List.length_set] <;> exact h4, by omega, by omega, by omega, by omega, by omega⟩
      · refine ⟨by simp (disch := (first | omega | (simp (disch := omega) only [up_eq, up_ne, cpA_o, List.length_set] <;> omega) | fail)) only [st_e, sf_e, Nat.reduceAdd, Nat.reduceMul, up_eq, up_ne, cpA_o, cpF_o, g_seq, g_sne, List.length_set] <;> exact n1, by simp (disch := (first | omega | (simp (disch := omega) only [up_eq, up_ne, cpA_o, List.length_set] <;> omega) | fail)) only [st_e, sf_e, Nat.reduceAdd, Nat.reduceMul, up_eq, up_ne, cpA_o, cpF_o, g_seq, g_sne, List.length_set] <;> exact n2, by simp (disch := (first | omega | (simp (disch := omega) only [up_eq, up_ne, cpA_o, List.length_set] <;> omega) | fail)) only [st_e, sf_e, Nat.reduceAdd, Nat.reduceMul, up_eq, up_ne, cpA_o, cpF_o, g_seq, g_sne, List.length_set] <;> exact n3, by simp (disch := (first | omega | (simp (disch := omega) only [up_eq, up_ne, cpA_o, List.length_set] <;> omega) | fail)) only [st_e, sf_e, Nat.reduceAdd, Nat.reduceMul, up_eq, up_ne, cpA_o, cpF_o, g_seq, g_sne, List.length_set] <;> exact n4⟩
      · exact SimB_rep (i := i) (j := j) (x := x) (v := v) hSB (by simp (disch := (first | omega | fail)) only [st_e, sf_e, Nat.reduceAdd, Nat.reduceMul, up_eq, up_ne, cpA_o, cpF_o]; exact c5) (by simp (disch := (first | omega | fail)) only [st_e, sf_e, Nat.reduceAdd, Nat.reduceMul, up_eq, up_ne, cpA_o, cpF_o]; exact c7) h6 hi hj (by simp (disch := (first | omega | fail)) only [st_e, sf_e, Nat.reduceAdd, Nat.reduceMul, up_eq, up_ne, cpA_o, cpF_o]; exact hgi) hgj ((rg_iff (by omega) (by omega)).mpr g1) (by simp (disch := (first | omega | fail)) only [st_e, sf_e, Nat.reduceAdd, Nat.reduceMul, up_eq, up_ne, cpA_o, cpF_o]) (by simp (disch := (first | omega | fail)) only [st_e, sf_e, Nat.reduceAdd, Nat.reduceMul, up_eq, up_ne, cpA_o, cpF_o]) (fun m hm => by simp (disch := (first | omega | (simp only [List.length_set] <;> omega) | fail)) only [g_seq, g_sne, List.length_set]) (fun m hm z => by simp (disch := (first | omega | (simp only [List.length_set] <;> omega) | fail)) only [g_seq, g_sne, List.length_set]) (by simp (disch := (first | omega | (simp only [List.length_set] <;> omega) | fail)) only [g_seq, g_sne, List.length_set])
      · exact SimL_c h7 (fun j z1 z2 => by simp (disch := (first | omega | (simp only [List.length_set] <;> omega) | fail)) only [g_seq, g_sne, List.length_set]) (by simp (disch := (first | omega | fail)) only [st_e, sf_e, Nat.reduceAdd, Nat.reduceMul, up_eq, up_ne, cpA_o, cpF_o]) (by simp (disch := (first | omega | fail)) only [st_e, sf_e, Nat.reduceAdd, Nat.reduceMul, up_eq, up_ne, cpA_o, cpF_o]) (by simp (disch := (first | omega | fail)) only [st_e, sf_e, Nat.reduceAdd, Nat.reduceMul, up_eq, up_ne, cpA_o, cpF_o]) (by simp (disch := (first | omega | fail)) only [st_e, sf_e, Nat.reduceAdd, Nat.reduceMul, up_eq, up_ne, cpA_o, cpF_o]) hSL
      · exact SimM_c h8 (fun j z1 z2 => by simp (disch := (first | omega | (simp only [List.length_set] <;> omega) | fail)) only [g_seq, g_sne, List.length_set]) (by simp (disch := (first | omega | fail)) only [st_e, sf_e, Nat.reduceAdd, Nat.reduceMul, up_eq, up_ne, cpA_o, cpF_o]) hSM
      · exact SimX_c h9 (by omega) (by omega) (fun j z1 z2 => by simp (disch := (first | omega | (simp only [List.length_set] <;> omega) | fail)) only [g_seq, g_sne, List.length_set]) (by simp (disch := (first | omega | fail)) only [st_e, sf_e, Nat.reduceAdd, Nat.reduceMul, up_eq, up_ne, cpA_o, cpF_o]) (by simp (disch := (first | omega | fail)) only [st_e, sf_e, Nat.reduceAdd, Nat.reduceMul, up_eq, up_ne, cpA_o, cpF_o]) (by simp (disch := (first | omega | fail)) only [st_e, sf_e, Nat.reduceAdd, Nat.reduceMul, up_eq, up_ne, cpA_o, cpF_o]) (by simp (disch := (first | omega | fail)) only [st_e, sf_e, Nat.reduceAdd, Nat.reduceMul, up_eq, up_ne, cpA_o, cpF_o]) (by simp (disch := (first | omega | fail)) only [st_e, sf_e, Nat.reduceAdd, Nat.reduceMul, up_eq, up_ne, cpA_o, cpF_o]) (by simp (disch := (first | omega | fail)) only [st_e, sf_e, Nat.reduceAdd, Nat.reduceMul, up_eq, up_ne, cpA_o, cpF_o]) hSX
      · exact SimS_c (fun j z1 z2 => by simp (disch := (first | omega | (simp only [List.length_set] <;> omega) | fail)) only [g_seq, g_sne, List.length_set]) (by simp (disch := (first | omega | fail)) only [st_e, sf_e, Nat.reduceAdd, Nat.reduceMul, up_eq, up_ne, cpA_o, cpF_o]) hSS
  · simp (disch := (first | omega | fail)) only [st_e, sf_e, Nat.reduceAdd, Nat.reduceMul, up_eq, up_ne, cpA_o, cpF_o]
  · rw [up_eq]; exact hH1
  · simp (disch := (first | omega | fail)) only [st_e, sf_e, Nat.reduceAdd, Nat.reduceMul, up_eq, up_ne, cpA_o, cpF_o]
  · simp (disch := (first | omega | fail)) only [st_e, sf_e, Nat.reduceAdd, Nat.reduceMul, up_eq, up_ne, cpA_o, cpF_o]
  · intro j hj; simp (disch := (first | omega | fail)) only [st_e, sf_e, Nat.reduceAdd, Nat.reduceMul, up_eq, up_ne, cpA_o, cpF_o]
theorem k_setBandN (hI : InvN A F P nB nl nb nx q t) (x v : Int32) (hn8 : nB < 8) (hxi : pO (A 5) x nB 0 = nB) (hno : ∀ m, m < nB → ¬ g (A 193) (1 + m) = x) (g0 : ¬ (x < nI 0 ∨ nI 1000000 < x)) (g1 : ¬ (v < nI 1 ∨ nI 100000 < v)) : ∃ R', (∃ p, InsR (A 193) R' nB x v p) ∧ Act m_Pa_setBand [.int x, .int v] A F P (.int (nI (nB + 1))) R' (nB + 1) (nl) (nb) (nx) q t := by
  have hI0 := hI
  obtain ⟨⟨hM, ⟨n1, n2, n3, n4⟩, hSB, hSL, hSM, hSX, hSS⟩, ⟨l1, l2, l3⟩, hH, hT, -⟩ := hI0
  have hM0 := hM
  obtain ⟨h0, h1, h2, h3, h4, h5, h6, h7, h8, h9⟩ := hM0
  simp (disch := (first | omega | fail)) only [sf_e, Nat.reduceMul, Nat.reduceAdd] at n1 n2 n3 n4
  have c5 : (A 5).length = 8 := l1.1
  have c7 : (A 7).length = 8 := l1.2.1
  have c10 : (A 10).length = 20 := l1.2.2.1
  have c12 : (A 12).length = 20 := l1.2.2.2.1
  have c14 : (A 14).length = 20 := l1.2.2.2.2.1
  have c16 : (A 16).length = 20 := l1.2.2.2.2.2.1
  have c18 : (A 18).length = 8 := l1.2.2.2.2.2.2.1
  have c21 : (A 21).length = 60 := l1.2.2.2.2.2.2.2.1
  have c23 : (A 23).length = 60 := l1.2.2.2.2.2.2.2.2.1
  have c25 : (A 25).length = 60 := l1.2.2.2.2.2.2.2.2.2.1
  have c27 : (A 27).length = 60 := l1.2.2.2.2.2.2.2.2.2.2.1
  have c29 : (A 29).length = 60 := l1.2.2.2.2.2.2.2.2.2.2.2.1
  have c31 : (A 31).length = 60 := l1.2.2.2.2.2.2.2.2.2.2.2.2.1
  have c33 : (A 33).length = 4 := l1.2.2.2.2.2.2.2.2.2.2.2.2.2
  have iL := fun x => s_isLot (A := A) (F := F) (P := P) n2 (by omega) x
  have iB := fun x => s_isBidder (A := A) (F := F) (P := P) n3 (by omega) x
  have iX := fun x => s_isBid (A := A) (F := F) (P := P) n4 (by omega) x
  have hPO : ∀ A'' F'' P'', A'' 5 = A 5 → F'' 302 = F 302 → am_cl m_Steps_placeOf [.ref 3, .int x] (heap A'' F'' P'') = some (some (.int (nI nB)), heap A'' F'' P'') := by
    intro A'' F'' P'' z1 z2
    rw [s_placeOf (nB := nB) (by rw [z1]; exact c5) h6 (by rw [z2]; exact n1), z1, hxi]
  have eRF := fun x A F P => e_Steps_hasRoomFor 3 x (heap A F P) rfl
  have eHB := fun x A F P => e_Steps_hasBand 3 x (heap A F P) rfl
  have ePB := fun x v A F P => e_Steps_putBand 3 x v (heap A F P) rfl
  have eDB := fun x A F P => e_Steps_dropBand 3 x (heap A F P) rfl
  have hi8 : ¬ 8 ≤ nB := by omega
  have hmx : am_max (nI nB) (nI (nB + 1)) = nI (nB + 1) := by rw [am_max_N (by omega) (by omega), if_pos (by omega)]
  obtain ⟨b, H', hb, b1, b2, hba, hH0, hH1, hH2⟩ := act_pre hI
  have hr1 : ¬ x < g (A 193) 1 := by rw [hSB.2.2.2.1]; exact fun z => g0 (Or.inl z)
  obtain ⟨R', p, hIns⟩ := InsR_ex (r := A 193) (nB := nB) (x := x) h0 h5 hr1 hn8 v
  have hI17 := hIns.2.2.2.2.2.2.2.2.1
  refine ⟨R', ⟨p, hIns⟩, ⟨up (up (up (up (cpA A 2 b) 5 ((A 5).set nB x)) 7 ((A 7).set nB v)) 193 R') 194 H', up (up (up (up (cpF F 2 b) 302 (nI (nB + 1))) 3401 (nI (kp q + 1))) 16410 (nI 0)) 19202 (nI (kp q + 1)), Pk q P, ?_, ?_, ?_, ?_, ?_, ?_, ?_⟩⟩
  · rw [gh194, gh193, ghF2, e_Pa_setBand 1 _ _ _ rfl]
    simp (maxSteps := 2000000) (disch := (first | omega | (simp (disch := omega) only [up_eq, up_ne, cpA_o, cpF_o, List.length_set] <;> omega) | fail)) only [ob_s, am_bi_s, am_bv_s, am_bl_s, ↓bif_d, lits, nI_addS, nI_mulS, nI_subS, nI_lt', nI_le', nI_eq', ↓rd_nI, ↓wrH, up_eq, up_ne, up_up, up_sw, List.set_set, g_seq, g_sne, Nat.reduceEqDiff, ↓reduceIte, List.length_set, Nat.add_sub_cancel_left, Nat.add_sub_cancel, ite_true, ite_false, if_true, if_false, not_true_eq_false, not_false_eq_true, Bool.and_true, Bool.true_and, true_or, or_true, false_or, or_false, and_true, true_and, and_false, false_and, Nat.not_lt_zero, hpRX, hpIX, hpFX, hpLX, hpSX, ↓rgX, ↓rpX, Nat.reduceLeDiff, Nat.reduceLT, Nat.reduceAdd, Nat.reduceMul, Nat.reduceSub, iL, iB, iX, s_out, b01_0, hPO, eRF, ePB, hi8, hmx, n1, n2, n3, n4, hba, cpA_o, cpF_o, g0, g1]
  · refine act_done (r' := R') hI hb hH0 hH1 hH2 ?_ ?_ ?_ ?_ ?_ ?_ ?_ ?_ ?_ ?_ ?_ ?_
    · intro j z1 z2; simp (disch := (first | omega | fail)) only [st_e, sf_e, Nat.reduceAdd, Nat.reduceMul, up_eq, up_ne, cpA_o, cpF_o]
    · intro j z1 z2 z3; simp (disch := (first | omega | fail)) only [st_e, sf_e, Nat.reduceAdd, Nat.reduceMul, up_eq, up_ne, cpA_o, cpF_o]
    · simp (disch := (first | omega | fail)) only [st_e, sf_e, Nat.reduceAdd, Nat.reduceMul, up_eq, up_ne, cpA_o, cpF_o]
    · intro k z1 z2; simp (disch := (first | omega | fail)) only [st_e, sf_e, Nat.reduceAdd, Nat.reduceMul, up_eq, up_ne, cpA_o, cpF_o]
    · simp (disch := (first | omega | fail)) only [st_e, sf_e, Nat.reduceAdd, Nat.reduceMul, up_eq, up_ne, cpA_o, cpF_o]
    · simp (disch := (first | omega | fail)) only [st_e, sf_e, Nat.reduceAdd, Nat.reduceMul, up_eq, up_ne, cpA_o, cpF_o]
    · simp (disch := (first | omega | fail)) only [st_e, sf_e, Nat.reduceAdd, Nat.reduceMul, up_eq, up_ne, cpA_o, cpF_o]
    · simp (disch := (first | omega | fail)) only [st_e, sf_e, Nat.reduceAdd, Nat.reduceMul, up_eq, up_ne, cpA_o, cpF_o]
    · simp (disch := (first | omega | fail)) only [st_e, sf_e, Nat.reduceAdd, Nat.reduceMul, up_eq, up_ne, cpA_o, cpF_o]
    · unfold LenS; simp (disch := (first | omega | (simp (disch := omega) only [up_eq, up_ne, cpA_o, List.length_set] <;> omega) | fail)) only [st_e, sf_e, Nat.reduceAdd, Nat.reduceMul, up_eq, up_ne, cpA_o, cpF_o, g_seq, g_sne, List.length_set]; exact l1
    · simp (disch := (first | omega | fail)) only [st_e, sf_e, Nat.reduceAdd, Nat.reduceMul, up_eq, up_ne, cpA_o, cpF_o]
    · refine ⟨?_, ?_, ?_, ?_, ?_, ?_, ?_⟩
      · refine ⟨hIns.1, hIns.2.1, by rw [hI17 17 (by omega)]; exact h2, by rw [hI17 98 (by omega)]; exact h3, by rw [hI17 107 (by omega)]; exact h4, by omega, by omega, by omega, by omega, by omega⟩
      · refine ⟨by simp (disch := (first | omega | (simp (disch := omega) only [up_eq, up_ne, cpA_o, List.length_set] <;> omega) | fail)) only [st_e, sf_e, Nat.reduceAdd, Nat.reduceMul, up_eq, up_ne, cpA_o, cpF_o, g_seq, g_sne, List.length_set] <;> exact n1, by simp (disch := (first | omega | (simp (disch := omega) only [up_eq, up_ne, cpA_o, List.length_set] <;> omega) | fail)) only [st_e, sf_e, Nat.reduceAdd, Nat.reduceMul, up_eq, up_ne, cpA_o, cpF_o, g_seq, g_sne, List.length_set] <;> exact n2, by simp (disch := (first | omega | (simp (disch := omega) only [up_eq, up_ne, cpA_o, List.length_set] <;> omega) | fail)) only [st_e, sf_e, Nat.reduceAdd, Nat.reduceMul, up_eq, up_ne, cpA_o, cpF_o, g_seq, g_sne, List.length_set] <;> exact n3, by simp (disch := (first | omega | (simp (disch := omega) only [up_eq, up_ne, cpA_o, List.length_set] <;> omega) | fail)) only [st_e, sf_e, Nat.reduceAdd, Nat.reduceMul, up_eq, up_ne, cpA_o, cpF_o, g_seq, g_sne, List.length_set] <;> exact n4⟩
      · exact SimB_ins hSB (by simp (disch := (first | omega | fail)) only [st_e, sf_e, Nat.reduceAdd, Nat.reduceMul, up_eq, up_ne, cpA_o, cpF_o]; exact c5) (by simp (disch := (first | omega | fail)) only [st_e, sf_e, Nat.reduceAdd, Nat.reduceMul, up_eq, up_ne, cpA_o, cpF_o]; exact c7) hn8 hIns hno ((rg_iff (by omega) (by omega)).mpr g0) ((rg_iff (by omega) (by omega)).mpr g1) (by simp (disch := (first | omega | fail)) only [st_e, sf_e, Nat.reduceAdd, Nat.reduceMul, up_eq, up_ne, cpA_o, cpF_o]) (by simp (disch := (first | omega | fail)) only [st_e, sf_e, Nat.reduceAdd, Nat.reduceMul, up_eq, up_ne, cpA_o, cpF_o])
      · exact SimL_c h7 (fun j z1 z2 => hI17 j (by omega)) (by simp (disch := (first | omega | fail)) only [st_e, sf_e, Nat.reduceAdd, Nat.reduceMul, up_eq, up_ne, cpA_o, cpF_o]) (by simp (disch := (first | omega | fail)) only [st_e, sf_e, Nat.reduceAdd, Nat.reduceMul, up_eq, up_ne, cpA_o, cpF_o]) (by simp (disch := (first | omega | fail)) only [st_e, sf_e, Nat.reduceAdd, Nat.reduceMul, up_eq, up_ne, cpA_o, cpF_o]) (by simp (disch := (first | omega | fail)) only [st_e, sf_e, Nat.reduceAdd, Nat.reduceMul, up_eq, up_ne, cpA_o, cpF_o]) hSL
      · exact SimM_c h8 (fun j z1 z2 => hI17 j (by omega)) (by simp (disch := (first | omega | fail)) only [st_e, sf_e, Nat.reduceAdd, Nat.reduceMul, up_eq, up_ne, cpA_o, cpF_o]) hSM
      · exact SimX_c h9 (by omega) (by omega) (fun j z1 z2 => hI17 j (by omega)) (by simp (disch := (first | omega | fail)) only [st_e, sf_e, Nat.reduceAdd, Nat.reduceMul, up_eq, up_ne, cpA_o, cpF_o]) (by simp (disch := (first | omega | fail)) only [st_e, sf_e, Nat.reduceAdd, Nat.reduceMul, up_eq, up_ne, cpA_o, cpF_o]) (by simp (disch := (first | omega | fail)) only [st_e, sf_e, Nat.reduceAdd, Nat.reduceMul, up_eq, up_ne, cpA_o, cpF_o]) (by simp (disch := (first | omega | fail)) only [st_e, sf_e, Nat.reduceAdd, Nat.reduceMul, up_eq, up_ne, cpA_o, cpF_o]) (by simp (disch := (first | omega | fail)) only [st_e, sf_e, Nat.reduceAdd, Nat.reduceMul, up_eq, up_ne, cpA_o, cpF_o]) (by simp (disch := (first | omega | fail)) only [st_e, sf_e, Nat.reduceAdd, Nat.reduceMul, up_eq, up_ne, cpA_o, cpF_o]) hSX
      · exact SimS_c (fun j z1 z2 => hI17 j (by omega)) (by simp (disch := (first | omega | fail)) only [st_e, sf_e, Nat.reduceAdd, Nat.reduceMul, up_eq, up_ne, cpA_o, cpF_o]) hSS
  · simp (disch := (first | omega | fail)) only [st_e, sf_e, Nat.reduceAdd, Nat.reduceMul, up_eq, up_ne, cpA_o, cpF_o]
  · rw [up_eq]; exact hH1
  · simp (disch := (first | omega | fail)) only [st_e, sf_e, Nat.reduceAdd, Nat.reduceMul, up_eq, up_ne, cpA_o, cpF_o]
  · simp (disch := (first | omega | fail)) only [st_e, sf_e, Nat.reduceAdd, Nat.reduceMul, up_eq, up_ne, cpA_o, cpF_o]
  · intro j hj; simp (disch := (first | omega | fail)) only [st_e, sf_e, Nat.reduceAdd, Nat.reduceMul, up_eq, up_ne, cpA_o, cpF_o]
theorem k_removeBandP (hI : InvN A F P nB nl nb nx q t) (x : Int32) {i p : Nat} (hx0 : ¬ x = nI 0) (hi : i < nB) (hp1 : 1 ≤ p) (hp : p < nB) (hxi : pO (A 5) x nB 0 = i) (hgi : g (A 5) i = x) (hgj : g (A 193) (1 + p) = x) : ∃ R', DelR (A 193) R' nB p ∧ Act m_Pa_removeBand [.int x] A F P (.int (nI (nB - 1))) R' ((nB - 1)) (nl) (nb) (nx) q t := by
  have hI0 := hI
  obtain ⟨⟨hM, ⟨n1, n2, n3, n4⟩, hSB, hSL, hSM, hSX, hSS⟩, ⟨l1, l2, l3⟩, hH, hT, -⟩ := hI0
  have hM0 := hM
  obtain ⟨h0, h1, h2, h3, h4, h5, h6, h7, h8, h9⟩ := hM0
  simp (disch := (first | omega | fail)) only [sf_e, Nat.reduceMul, Nat.reduceAdd] at n1 n2 n3 n4
  have c5 : (A 5).length = 8 := l1.1
  have c7 : (A 7).length = 8 := l1.2.1
  have c10 : (A 10).length = 20 := l1.2.2.1
  have c12 : (A 12).length = 20 := l1.2.2.2.1
  have c14 : (A 14).length = 20 := l1.2.2.2.2.1
  have c16 : (A 16).length = 20 := l1.2.2.2.2.2.1
  have c18 : (A 18).length = 8 := l1.2.2.2.2.2.2.1
  have c21 : (A 21).length = 60 := l1.2.2.2.2.2.2.2.1
  have c23 : (A 23).length = 60 := l1.2.2.2.2.2.2.2.2.1
  have c25 : (A 25).length = 60 := l1.2.2.2.2.2.2.2.2.2.1
  have c27 : (A 27).length = 60 := l1.2.2.2.2.2.2.2.2.2.2.1
  have c29 : (A 29).length = 60 := l1.2.2.2.2.2.2.2.2.2.2.2.1
  have c31 : (A 31).length = 60 := l1.2.2.2.2.2.2.2.2.2.2.2.2.1
  have c33 : (A 33).length = 4 := l1.2.2.2.2.2.2.2.2.2.2.2.2.2
  have iL := fun x => s_isLot (A := A) (F := F) (P := P) n2 (by omega) x
  have iB := fun x => s_isBidder (A := A) (F := F) (P := P) n3 (by omega) x
  have iX := fun x => s_isBid (A := A) (F := F) (P := P) n4 (by omega) x
  have hPO : ∀ A'' F'' P'', A'' 5 = A 5 → F'' 302 = F 302 → am_cl m_Steps_placeOf [.ref 3, .int x] (heap A'' F'' P'') = some (some (.int (nI i)), heap A'' F'' P'') := by
    intro A'' F'' P'' z1 z2
    rw [s_placeOf (nB := nB) (by rw [z1]; exact c5) h6 (by rw [z2]; exact n1), z1, hxi]
  have eRF := fun x A F P => e_Steps_hasRoomFor 3 x (heap A F P) rfl
  have eHB := fun x A F P => e_Steps_hasBand 3 x (heap A F P) rfl
  have ePB := fun x v A F P => e_Steps_putBand 3 x v (heap A F P) rfl
  have eDB := fun x A F P => e_Steps_dropBand 3 x (heap A F P) rfl
  have hi8 : ¬ 8 ≤ i := by omega
  have hli : ¬ nB ≤ i := by omega
  obtain ⟨b, H', hb, b1, b2, hba, hH0, hH1, hH2⟩ := act_pre hI
  obtain ⟨R', hIns⟩ := DelR_ex (r := A 193) (nB := nB) h0 hp h6
  have hI17 := hIns.2.2.2.2
  refine ⟨R', hIns, ⟨up (up (up (up (cpA A 2 b) 5 ((A 5).set i (g (A 5) (nB - 1)))) 7 ((A 7).set i (g (A 7) (nB - 1)))) 193 R') 194 H', up (up (up (up (cpF F 2 b) 302 (nI (nB - 1))) 3401 (nI (kp q + 1))) 16410 (nI 0)) 19202 (nI (kp q + 1)), Pk q P, ?_, ?_, ?_, ?_, ?_, ?_, ?_⟩⟩
  · rw [gh194, gh193, ghF2, e_Pa_removeBand 1 _ _ rfl]
    simp (maxSteps := 2000000) (disch := (first | omega | (simp (disch := omega) only [up_eq, up_ne, cpA_o, cpF_o, List.length_set] <;> omega) | fail)) only [ob_s, am_bi_s, am_bv_s, am_bl_s, ↓bif_d, lits, nI_addS, nI_mulS, nI_subS, nI_lt', nI_le', nI_eq', ↓rd_nI, ↓wrH, up_eq, up_ne, up_up, up_sw, List.set_set, g_seq, g_sne, Nat.reduceEqDiff, ↓reduceIte, List.length_set, Nat.add_sub_cancel_left, Nat.add_sub_cancel, ite_true, ite_false, if_true, if_false, not_true_eq_false, not_false_eq_true, Bool.and_true, Bool.true_and, true_or, or_true, false_or, or_false, and_true, true_and, and_false, false_and, Nat.not_lt_zero, hpRX, hpIX, hpFX, hpLX, hpSX, ↓rgX, ↓rpX, Nat.reduceLeDiff, Nat.reduceLT, Nat.reduceAdd, Nat.reduceMul, Nat.reduceSub, iL, iB, iX, s_out, b01_0, hPO, eHB, eDB, hi8, hli, hx0, n1, n2, n3, n4, hba, cpA_o, cpF_o]
  · refine act_done (r' := R') hI hb hH0 hH1 hH2 ?_ ?_ ?_ ?_ ?_ ?_ ?_ ?_ ?_ ?_ ?_ ?_
    · intro j z1 z2; simp (disch := (first | omega | fail)) only [st_e, sf_e, Nat.reduceAdd, Nat.reduceMul, up_eq, up_ne, cpA_o, cpF_o]
    · intro j z1 z2 z3; simp (disch := (first | omega | fail)) only [st_e, sf_e, Nat.reduceAdd, Nat.reduceMul, up_eq, up_ne, cpA_o, cpF_o]
    · simp (disch := (first | omega | fail)) only [st_e, sf_e, Nat.reduceAdd, Nat.reduceMul, up_eq, up_ne, cpA_o, cpF_o]
    · intro k z1 z2; simp (disch := (first | omega | fail)) only [st_e, sf_e, Nat.reduceAdd, Nat.reduceMul, up_eq, up_ne, cpA_o, cpF_o]
    · simp (disch := (first | omega | fail)) only [st_e, sf_e, Nat.reduceAdd, Nat.reduceMul, up_eq, up_ne, cpA_o, cpF_o]
    · simp (disch := (first | omega | fail)) only [st_e, sf_e, Nat.reduceAdd, Nat.reduceMul, up_eq, up_ne, cpA_o, cpF_o]
    · simp (disch := (first | omega | fail)) only [st_e, sf_e, Nat.reduceAdd, Nat.reduceMul, up_eq, up_ne, cpA_o, cpF_o]
    · simp (disch := (first | omega | fail)) only [st_e, sf_e, Nat.reduceAdd, Nat.reduceMul, up_eq, up_ne, cpA_o, cpF_o]
    · simp (disch := (first | omega | fail)) only [st_e, sf_e, Nat.reduceAdd, Nat.reduceMul, up_eq, up_ne, cpA_o, cpF_o]
    · unfold LenS; simp (disch := (first | omega | (simp (disch := omega) only [up_eq, up_ne, cpA_o, List.length_set] <;> omega) | fail)) only [st_e, sf_e, Nat.reduceAdd, Nat.reduceMul, up_eq, up_ne, cpA_o, cpF_o, g_seq, g_sne, List.length_set]; exact l1
    · simp (disch := (first | omega | fail)) only [st_e, sf_e, Nat.reduceAdd, Nat.reduceMul, up_eq, up_ne, cpA_o, cpF_o]
    · refine ⟨?_, ?_, ?_, ?_, ?_, ?_, ?_⟩
      · refine ⟨hIns.1, hIns.2.1, by rw [hI17 17 (by omega)]; exact h2, by rw [hI17 98 (by omega)]; exact h3, by rw [hI17 107 (by omega)]; exact h4, by omega, by omega, by omega, by omega, by omega⟩
      · refine ⟨by simp (disch := (first | omega | (simp (disch := omega) only [up_eq, up_ne, cpA_o, List.length_set] <;> omega) | fail)) only [st_e, sf_e, Nat.reduceAdd, Nat.reduceMul, up_eq, up_ne, cpA_o, cpF_o, g_seq, g_sne, List.length_set] <;> exact n1, by simp (disch := (first | omega | (simp (disch := omega) only [up_eq, up_ne, cpA_o, List.length_set] <;> omega) | fail)) only [st_e, sf_e, Nat.reduceAdd, Nat.reduceMul, up_eq, up_ne, cpA_o, cpF_o, g_seq, g_sne, List.length_set] <;> exact n2, by simp (disch := (first | omega | (simp (disch := omega) only [up_eq, up_ne, cpA_o, List.length_set] <;> omega) | fail)) only [st_e, sf_e, Nat.reduceAdd, Nat.reduceMul, up_eq, up_ne, cpA_o, cpF_o, g_seq, g_sne, List.length_set] <;> exact n3, by simp (disch := (first | omega | (simp (disch := omega) only [up_eq, up_ne, cpA_o, List.length_set] <;> omega) | fail)) only [st_e, sf_e, Nat.reduceAdd, Nat.reduceMul, up_eq, up_ne, cpA_o, cpF_o, g_seq, g_sne, List.length_set] <;> exact n4⟩
      · exact SimB_del hSB (by simp (disch := (first | omega | fail)) only [st_e, sf_e, Nat.reduceAdd, Nat.reduceMul, up_eq, up_ne, cpA_o, cpF_o]; exact c5) (by simp (disch := (first | omega | fail)) only [st_e, sf_e, Nat.reduceAdd, Nat.reduceMul, up_eq, up_ne, cpA_o, cpF_o]; exact c7) h6 hi hp1 hp (by simp (disch := (first | omega | fail)) only [st_e, sf_e, Nat.reduceAdd, Nat.reduceMul, up_eq, up_ne, cpA_o, cpF_o]; exact hgi.trans hgj.symm) hIns (by simp (disch := (first | omega | fail)) only [st_e, sf_e, Nat.reduceAdd, Nat.reduceMul, up_eq, up_ne, cpA_o, cpF_o]) (by simp (disch := (first | omega | fail)) only [st_e, sf_e, Nat.reduceAdd, Nat.reduceMul, up_eq, up_ne, cpA_o, cpF_o])
      · exact SimL_c h7 (fun j z1 z2 => hI17 j (by omega)) (by simp (disch := (first | omega | fail)) only [st_e, sf_e, Nat.reduceAdd, Nat.reduceMul, up_eq, up_ne, cpA_o, cpF_o]) (by simp (disch := (first | omega | fail)) only [st_e, sf_e, Nat.reduceAdd, Nat.reduceMul, up_eq, up_ne, cpA_o, cpF_o]) (by simp (disch := (first | omega | fail)) only [st_e, sf_e, Nat.reduceAdd, Nat.reduceMul, up_eq, up_ne, cpA_o, cpF_o]) (by simp (disch := (first | omega | fail)) only [st_e, sf_e, Nat.reduceAdd, Nat.reduceMul, up_eq, up_ne, cpA_o, cpF_o]) hSL
      · exact SimM_c h8 (fun j z1 z2 => hI17 j (by omega)) (by simp (disch := (first | omega | fail)) only [st_e, sf_e, Nat.reduceAdd, Nat.reduceMul, up_eq, up_ne, cpA_o, cpF_o]) hSM
      · exact SimX_c h9 (by omega) (by omega) (fun j z1 z2 => hI17 j (by omega)) (by simp (disch := (first | omega | fail)) only [st_e, sf_e, Nat.reduceAdd, Nat.reduceMul, up_eq, up_ne, cpA_o, cpF_o]) (by simp (disch := (first | omega | fail)) only [st_e, sf_e, Nat.reduceAdd, Nat.reduceMul, up_eq, up_ne, cpA_o, cpF_o]) (by simp (disch := (first | omega | fail)) only [st_e, sf_e, Nat.reduceAdd, Nat.reduceMul, up_eq, up_ne, cpA_o, cpF_o]) (by simp (disch := (first | omega | fail)) only [st_e, sf_e, Nat.reduceAdd, Nat.reduceMul, up_eq, up_ne, cpA_o, cpF_o]) (by simp (disch := (first | omega | fail)) only [st_e, sf_e, Nat.reduceAdd, Nat.reduceMul, up_eq, up_ne, cpA_o, cpF_o]) (by simp (disch := (first | omega | fail)) only [st_e, sf_e, Nat.reduceAdd, Nat.reduceMul, up_eq, up_ne, cpA_o, cpF_o]) hSX
      · exact SimS_c (fun j z1 z2 => hI17 j (by omega)) (by simp (disch := (first | omega | fail)) only [st_e, sf_e, Nat.reduceAdd, Nat.reduceMul, up_eq, up_ne, cpA_o, cpF_o]) hSS
  · simp (disch := (first | omega | fail)) only [st_e, sf_e, Nat.reduceAdd, Nat.reduceMul, up_eq, up_ne, cpA_o, cpF_o]
  · rw [up_eq]; exact hH1
  · simp (disch := (first | omega | fail)) only [st_e, sf_e, Nat.reduceAdd, Nat.reduceMul, up_eq, up_ne, cpA_o, cpF_o]
  · simp (disch := (first | omega | fail)) only [st_e, sf_e, Nat.reduceAdd, Nat.reduceMul, up_eq, up_ne, cpA_o, cpF_o]
  · intro j hj; simp (disch := (first | omega | fail)) only [st_e, sf_e, Nat.reduceAdd, Nat.reduceMul, up_eq, up_ne, cpA_o, cpF_o]
theorem band_cases (hI : InvN A F P nB nl nb nx q t) (x : Int32) : (∃ i j, i < nB ∧ j < nB ∧ pO (A 5) x nB 0 = i ∧ g (A 5) i = x ∧ g (A 193) (1 + j) = x) ∨ (pO (A 5) x nB 0 = nB ∧ ∀ m, m < nB → ¬ g (A 193) (1 + m) = x) := by
  obtain ⟨b1, b2, -⟩ := hI.1.2.2.1
  have b1 : ∀ k, k < nB → ∃ j, j < nB ∧ g (A 5) k = g (A 193) (1 + j) := fun k hk => by
    obtain ⟨j, j1, j2, -⟩ := b1 k hk
    exact ⟨j, j1, j2⟩
  have b2 : ∀ j, j < nB → ∃ k, k < nB ∧ g (A 5) k = g (A 193) (1 + j) := fun j hj => by
    obtain ⟨k, k1, k2, -⟩ := b2 j hj
    exact ⟨k, k1, k2⟩
  obtain ⟨p1, p2, p3, p4⟩ := pO_spec (A 5) x nB 0
  rw [Nat.zero_add] at p2 p3
  rcases Nat.lt_or_ge (pO (A 5) x nB 0) nB with z | z
  · obtain ⟨j, q1, q2⟩ := b1 _ z
    exact Or.inl ⟨_, j, z, q1, rfl, p3 z, q2.symm.trans (p3 z)⟩
  · refine Or.inr ⟨by omega, fun m hm e => ?_⟩
    obtain ⟨k, k1, k2⟩ := b2 m hm
    exact p4 k (Nat.zero_le _) (by omega) (k2.trans e)
/-- a band is set: in place of an old one, or as a new one -/
theorem k_setBand (hI : InvN A F P nB nl nb nx q t) (x v : Int32) (h8 : nB < 8) (g0 : ¬ (x < nI 0 ∨ nI 1000000 < x)) (g1 : ¬ (v < nI 1 ∨ nI 100000 < v)) : (∃ j, j < nB ∧ g (A 193) (1 + j) = x ∧ Act m_Pa_setBand [.int x, .int v] A F P (.int (nI nB)) ((A 193).set (9 + j) v) nB nl nb nx q t) ∨ ((∀ m, m < nB → ¬ g (A 193) (1 + m) = x) ∧ ∃ R', (∃ p, InsR (A 193) R' nB x v p) ∧ Act m_Pa_setBand [.int x, .int v] A F P (.int (nI (nB + 1))) R' (nB + 1) nl nb nx q t) := by
  rcases band_cases hI x with ⟨i, j, hi, hj, h1, h2, h3⟩ | ⟨h1, h2⟩
  · exact Or.inl ⟨j, hj, h3, k_setBandP hI x v hi hj h1 h2 h3 g0 g1⟩
  · exact Or.inr ⟨h2, k_setBandN hI x v h8 h1 h2 g0 g1⟩
theorem k_setBand_e0 (hI : InvN A F P nB nl nb nx q t) (x v : Int32) (g0 : x < nI 0 ∨ nI 1000000 < x) : am_cl m_Pa_setBand (.ref 1 :: [.int x, .int v]) (heap A F P) = some (some (.int (-nI 2)), heap A F P) := by
  rw [e_Pa_setBand 1 _ _ _ rfl]
  simp (maxSteps := 2000000) (disch := (first | omega | (simp (disch := omega) only [up_eq, up_ne, cpA_o, cpF_o, List.length_set] <;> omega) | fail)) only [ob_s, am_bi_s, am_bv_s, am_bl_s, ↓bif_d, lits, nI_addS, nI_mulS, nI_subS, nI_lt', nI_le', nI_eq', ↓rd_nI, ↓wrH, up_eq, up_ne, up_up, up_sw, List.set_set, g_seq, g_sne, Nat.reduceEqDiff, ↓reduceIte, List.length_set, Nat.add_sub_cancel_left, Nat.add_sub_cancel, ite_true, ite_false, if_true, if_false, not_true_eq_false, not_false_eq_true, Bool.and_true, Bool.true_and, true_or, or_true, false_or, or_false, and_true, true_and, and_false, false_and, Nat.not_lt_zero, hpRX, hpIX, hpFX, hpLX, hpSX, ↓rgX, ↓rpX, Nat.reduceLeDiff, Nat.reduceLT, Nat.reduceAdd, Nat.reduceMul, Nat.reduceSub, s_out, b01_0, g0]
theorem k_setBand_e1 (hI : InvN A F P nB nl nb nx q t) (x v : Int32) (g0 : ¬ (x < nI 0 ∨ nI 1000000 < x)) (g1 : v < nI 1 ∨ nI 100000 < v) : am_cl m_Pa_setBand (.ref 1 :: [.int x, .int v]) (heap A F P) = some (some (.int (-nI 2)), heap A F P) := by
  rw [e_Pa_setBand 1 _ _ _ rfl]
  simp (maxSteps := 2000000) (disch := (first | omega | (simp (disch := omega) only [up_eq, up_ne, cpA_o, cpF_o, List.length_set] <;> omega) | fail)) only [ob_s, am_bi_s, am_bv_s, am_bl_s, ↓bif_d, lits, nI_addS, nI_mulS, nI_subS, nI_lt', nI_le', nI_eq', ↓rd_nI, ↓wrH, up_eq, up_ne, up_up, up_sw, List.set_set, g_seq, g_sne, Nat.reduceEqDiff, ↓reduceIte, List.length_set, Nat.add_sub_cancel_left, Nat.add_sub_cancel, ite_true, ite_false, if_true, if_false, not_true_eq_false, not_false_eq_true, Bool.and_true, Bool.true_and, true_or, or_true, false_or, or_false, and_true, true_and, and_false, false_and, Nat.not_lt_zero, hpRX, hpIX, hpFX, hpLX, hpSX, ↓rgX, ↓rpX, Nat.reduceLeDiff, Nat.reduceLT, Nat.reduceAdd, Nat.reduceMul, Nat.reduceSub, s_out, b01_0, g0, g1]
theorem k_removeBand0 (hI : InvN A F P nB nl nb nx q t) : am_cl m_Pa_removeBand (.ref 1 :: [.int (nI 0)]) (heap A F P) = some (some (.int (-nI 4)), heap A F P) := by
  rw [e_Pa_removeBand 1 _ _ rfl]
  simp (maxSteps := 2000000) (disch := (first | omega | (simp (disch := omega) only [up_eq, up_ne, cpA_o, cpF_o, List.length_set] <;> omega) | fail)) only [ob_s, am_bi_s, am_bv_s, am_bl_s, ↓bif_d, lits, nI_addS, nI_mulS, nI_subS, nI_lt', nI_le', nI_eq', ↓rd_nI, ↓wrH, up_eq, up_ne, up_up, up_sw, List.set_set, g_seq, g_sne, Nat.reduceEqDiff, ↓reduceIte, List.length_set, Nat.add_sub_cancel_left, Nat.add_sub_cancel, ite_true, ite_false, if_true, if_false, not_true_eq_false, not_false_eq_true, Bool.and_true, Bool.true_and, true_or, or_true, false_or, or_false, and_true, true_and, and_false, false_and, Nat.not_lt_zero, hpRX, hpIX, hpFX, hpLX, hpSX, ↓rgX, ↓rpX, Nat.reduceLeDiff, Nat.reduceLT, Nat.reduceAdd, Nat.reduceMul, Nat.reduceSub]
theorem k_removeBand (hI : InvN A F P nB nl nb nx q t) (x : Int32) (hx0 : ¬ x = nI 0) : (∃ p, 1 ≤ p ∧ p < nB ∧ g (A 193) (1 + p) = x ∧ ∃ R', DelR (A 193) R' nB p ∧ Act m_Pa_removeBand [.int x] A F P (.int (nI (nB - 1))) R' (nB - 1) nl nb nx q t) ∨ am_cl m_Pa_removeBand (.ref 1 :: [.int x]) (heap A F P) = some (some (.int (-nI 4)), heap A F P) := by
  have hI0 := hI
  obtain ⟨⟨hM, ⟨n1, n2, n3, n4⟩, hSB, -⟩, ⟨l1, l2, l3⟩, -⟩ := hI0
  have c5 : (A 5).length = 8 := l1.1
  have n1 : F 302 = nI nB := n1
  have hB8 := hM.2.2.2.2.2.2.1
  have hz : g (A 193) 1 = nI 0 := hSB.2.2.2.1
  rcases band_cases hI x with ⟨i, j, hi, hj, h1, h2, h3⟩ | ⟨h1, h2⟩
  · have hj1 : 1 ≤ j := by
      rcases Nat.eq_zero_or_pos j with z | z
      · subst z
        exact absurd (h3.symm.trans hz) hx0
      · exact z
    exact Or.inl ⟨j, hj1, hj, h3, k_removeBandP hI x hx0 hi hj1 hj h1 h2 h3⟩
  · have hPO := s_placeOf (A := A) (F := F) (P := P) (nB := nB) c5 hB8 n1 x
    rw [h1] at hPO
    have eHB := fun x A F P => e_Steps_hasBand 3 x (heap A F P) rfl
    have hle : nB ≤ nB := Nat.le_refl _
    refine Or.inr ?_
    rw [e_Pa_removeBand 1 _ _ rfl]
    simp (maxSteps := 2000000) (disch := (first | omega | (simp (disch := omega) only [up_eq, up_ne, cpA_o, cpF_o, List.length_set] <;> omega) | fail)) only [ob_s, am_bi_s, am_bv_s, am_bl_s, ↓bif_d, lits, nI_addS, nI_mulS, nI_subS, nI_lt', nI_le', nI_eq', ↓rd_nI, ↓wrH, up_eq, up_ne, up_up, up_sw, List.set_set, g_seq, g_sne, Nat.reduceEqDiff, ↓reduceIte, List.length_set, Nat.add_sub_cancel_left, Nat.add_sub_cancel, ite_true, ite_false, if_true, if_false, not_true_eq_false, not_false_eq_true, Bool.and_true, Bool.true_and, true_or, or_true, false_or, or_false, and_true, true_and, and_false, false_and, Nat.not_lt_zero, hpRX, hpIX, hpFX, hpLX, hpSX, ↓rgX, ↓rpX, Nat.reduceLeDiff, Nat.reduceLT, Nat.reduceAdd, Nat.reduceMul, Nat.reduceSub, hx0, eHB, hPO, n1, hle]
end X
