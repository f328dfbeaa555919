section X
variable {A : Nat → List Int32} {F : Nat → Int32} {P : Nat → Nat} {nB nl nb nx q t : Nat}
theorem k_setReserve_e0 (hI : InvN A F P nB nl nb nx q t) (x v : Int32) (g0 : ¬ (ix x nl)) : am_cl m_Pa_setReserve (.ref 1 :: [.int x, .int v]) (heap A F P) = some (some (.int (-nI 1)), heap A F P) := by
  have hI0 := hI
  obtain ⟨⟨hM, ⟨n1, n2, n3, n4⟩, hSB, hSL, hSM, hSX, hSS⟩, ⟨l1, l2, l3⟩, hH, hT, -⟩ := hI0
  have hM0 := hM
  obtain ⟨h0, h1, h2, h3, h4, h5, h6, h7, h8, h9⟩ := hM0
  simp (disch := (first | omega | fail)) only [sf_e, Nat.reduceMul, Nat.reduceAdd] at n1 n2 n3 n4
  have c5 : (A 5).length = 8 := l1.1
  have c7 : (A 7).length = 8 := l1.2.1
  have c10 : (A 10).length = 20 := l1.2.2.1
  have c12 : (A 12).length = 20 := l1.2.2.2.1
  have c14 : (A 14).length = 20 := l1.2.2.2.2.1
  have c16 : (A 16).length = 20 := l1.2.2.2.2.2.1
  have c18 : (A 18).length = 8 := l1.2.2.2.2.2.2.1
  have c21 : (A 21).length = 60 := l1.2.2.2.2.2.2.2.1
  have c23 : (A 23).length = 60 := l1.2.2.2.2.2.2.2.2.1
  have c25 : (A 25).length = 60 := l1.2.2.2.2.2.2.2.2.2.1
  have c27 : (A 27).length = 60 := l1.2.2.2.2.2.2.2.2.2.2.1
  have c29 : (A 29).length = 60 := l1.2.2.2.2.2.2.2.2.2.2.2.1
  have c31 : (A 31).length = 60 := l1.2.2.2.2.2.2.2.2.2.2.2.2.1
  have c33 : (A 33).length = 4 := l1.2.2.2.2.2.2.2.2.2.2.2.2.2
  have iL := fun x => s_isLot (A := A) (F := F) (P := P) n2 (by omega) x
  have iB := fun x => s_isBidder (A := A) (F := F) (P := P) n3 (by omega) x
  have iX := fun x => s_isBid (A := A) (F := F) (P := P) n4 (by omega) x
  rw [e_Pa_setReserve 1 _ _ _ rfl]
  simp (maxSteps := 2000000) (disch := (first | omega | (simp (disch := omega) only [up_eq, up_ne, cpA_o, List.length_set] <;> omega) | fail)) only [ob_s, am_bi_s, am_bv_s, am_bl_s, ↓bif_d, lits, nI_addS, nI_mulS, nI_subS, nI_lt', nI_le', nI_eq', ↓rd_nI, ↓wrH, up_eq, up_ne, up_up, up_sw, List.set_set, g_seq, g_sne, Nat.reduceEqDiff, ↓reduceIte, List.length_set, Nat.add_sub_cancel_left, Nat.add_sub_cancel, ite_true, ite_false, if_true, if_false, not_true_eq_false, not_false_eq_true, Bool.and_true, Bool.true_and, true_or, or_true, false_or, or_false, and_true, true_and, and_false, false_and, Nat.not_lt_zero, hpRX, hpIX, hpFX, hpLX, hpSX, ↓rgX, ↓rpX, Nat.reduceLeDiff, Nat.reduceLT, Nat.reduceAdd, Nat.reduceMul, Nat.reduceSub, iL, iB, iX, s_out, b01_0, n1, n2, n3, n4, g0]
theorem k_setReserve_e1 (hI : InvN A F P nB nl nb nx q t) (x v : Int32) (g0 : ix x nl) (g1 : v < nI 0 ∨ nI 1000000 < v) : am_cl m_Pa_setReserve (.ref 1 :: [.int x, .int v]) (heap A F P) = some (some (.int (-nI 2)), heap A F P) := by
  have hI0 := hI
  obtain ⟨⟨hM, ⟨n1, n2, n3, n4⟩, hSB, hSL, hSM, hSX, hSS⟩, ⟨l1, l2, l3⟩, hH, hT, -⟩ := hI0
  have hM0 := hM
  obtain ⟨h0, h1, h2, h3, h4, h5, h6, h7, h8, h9⟩ := hM0
  simp (disch := (first | omega | fail)) only [sf_e, Nat.reduceMul, Nat.reduceAdd] at n1 n2 n3 n4
  have c5 : (A 5).length = 8 := l1.1
  have c7 : (A 7).length = 8 := l1.2.1
  have c10 : (A 10).length = 20 := l1.2.2.1
  have c12 : (A 12).length = 20 := l1.2.2.2.1
  have c14 : (A 14).length = 20 := l1.2.2.2.2.1
  have c16 : (A 16).length = 20 := l1.2.2.2.2.2.1
  have c18 : (A 18).length = 8 := l1.2.2.2.2.2.2.1
  have c21 : (A 21).length = 60 := l1.2.2.2.2.2.2.2.1
  have c23 : (A 23).length = 60 := l1.2.2.2.2.2.2.2.2.1
  have c25 : (A 25).length = 60 := l1.2.2.2.2.2.2.2.2.2.1
  have c27 : (A 27).length = 60 := l1.2.2.2.2.2.2.2.2.2.2.1
  have c29 : (A 29).length = 60 := l1.2.2.2.2.2.2.2.2.2.2.2.1
  have c31 : (A 31).length = 60 := l1.2.2.2.2.2.2.2.2.2.2.2.2.1
  have c33 : (A 33).length = 4 := l1.2.2.2.2.2.2.2.2.2.2.2.2.2
  have iL := fun x => s_isLot (A := A) (F := F) (P := P) n2 (by omega) x
  have iB := fun x => s_isBidder (A := A) (F := F) (P := P) n3 (by omega) x
  have iX := fun x => s_isBid (A := A) (F := F) (P := P) n4 (by omega) x
  rw [e_Pa_setReserve 1 _ _ _ rfl]
  simp (maxSteps := 2000000) (disch := (first | omega | (simp (disch := omega) only [up_eq, up_ne, cpA_o, List.length_set] <;> omega) | fail)) only [ob_s, am_bi_s, am_bv_s, am_bl_s, ↓bif_d, lits, nI_addS, nI_mulS, nI_subS, nI_lt', nI_le', nI_eq', ↓rd_nI, ↓wrH, up_eq, up_ne, up_up, up_sw, List.set_set, g_seq, g_sne, Nat.reduceEqDiff, ↓reduceIte, List.length_set, Nat.add_sub_cancel_left, Nat.add_sub_cancel, ite_true, ite_false, if_true, if_false, not_true_eq_false, not_false_eq_true, Bool.and_true, Bool.true_and, true_or, or_true, false_or, or_false, and_true, true_and, and_false, false_and, Nat.not_lt_zero, hpRX, hpIX, hpFX, hpLX, hpSX, ↓rgX, ↓rpX, Nat.reduceLeDiff, Nat.reduceLT, Nat.reduceAdd, Nat.reduceMul, Nat.reduceSub, iL, iB, iX, s_out, b01_0, n1, n2, n3, n4, g0, g1]
theorem k_setReserve (hI : InvN A F P nB nl nb nx q t) {l : Nat} (hl : l < nl) (v : Int32) (g1 : ¬ (v < nI 0 ∨ nI 1000000 < v)) : Act m_Pa_setReserve [.int (nI l), .int v] A F P (.int (g (A 193) (58 + l))) ((A 193).set (58 + l) v) (nB) (nl) (nb) (nx) q t := by
  have hI0 := hI
  obtain ⟨⟨hM, ⟨n1, n2, n3, n4⟩, hSB, hSL, hSM, hSX, hSS⟩, ⟨l1, l2, l3⟩, hH, hT, -⟩ := hI0
  have hM0 := hM
  obtain ⟨h0, h1, h2, h3, h4, h5, h6, h7, h8, h9⟩ := hM0
  simp (disch := (first | omega | fail)) only [sf_e, Nat.reduceMul, Nat.reduceAdd] at n1 n2 n3 n4
  have c5 : (A 5).length = 8 := l1.1
  have c7 : (A 7).length = 8 := l1.2.1
  have c10 : (A 10).length = 20 := l1.2.2.1
  have c12 : (A 12).length = 20 := l1.2.2.2.1
  have c14 : (A 14).length = 20 := l1.2.2.2.2.1
  have c16 : (A 16).length = 20 := l1.2.2.2.2.2.1
  have c18 : (A 18).length = 8 := l1.2.2.2.2.2.2.1
  have c21 : (A 21).length = 60 := l1.2.2.2.2.2.2.2.1
  have c23 : (A 23).length = 60 := l1.2.2.2.2.2.2.2.2.1
  have c25 : (A 25).length = 60 := l1.2.2.2.2.2.2.2.2.2.1
  have c27 : (A 27).length = 60 := l1.2.2.2.2.2.2.2.2.2.2.1
  have c29 : (A 29).length = 60 := l1.2.2.2.2.2.2.2.2.2.2.2.1
  have c31 : (A 31).length = 60 := l1.2.2.2.2.2.2.2.2.2.2.2.2.1
  have c33 : (A 33).length = 4 := l1.2.2.2.2.2.2.2.2.2.2.2.2.2
  have iL := fun x => s_isLot (A := A) (F := F) (P := P) n2 (by omega) x
  have iB := fun x => s_isBidder (A := A) (F := F) (P := P) n3 (by omega) x
  have iX := fun x => s_isBid (A := A) (F := F) (P := P) n4 (by omega) x
  have g0 : ix (nI l) nl := ⟨l, hl, rfl⟩
  obtain ⟨b, H', hb, b1, b2, hba, hH0, hH1, hH2⟩ := act_pre hI
  have hvv : g (A 14) l = g (A 193) (58 + l) := by
    have := (hSL l hl).2.2.1
    simp (disch := (first | omega | fail)) only [st_e, Nat.reduceAdd] at this
    exact this
  refine ⟨up (up (up (cpA A 2 b) 14 ((A 14).set l v)) 193 ((A 193).set (58 + l) v)) 194 H', up (up (up (cpF F 2 b) 3401 (nI (kp q + 1))) 16410 (nI 0)) 19202 (nI (kp q + 1)), Pk q P, ?_, ?_, ?_, ?_, ?_, ?_, ?_⟩
  · rw [gh194, gh193, ghF2, e_Pa_setReserve 1 _ _ _ rfl]
    simp (maxSteps := 2000000) (disch := (first | omega | (simp (disch := omega) only [up_eq, up_ne, cpA_o, List.length_set] <;> omega) | fail)) only [ob_s, am_bi_s, am_bv_s, am_bl_s, ↓bif_d, lits, nI_addS, nI_mulS, nI_subS, nI_lt', nI_le', nI_eq', ↓rd_nI, ↓wrH, up_eq, up_ne, up_up, up_sw, List.set_set, g_seq, g_sne, Nat.reduceEqDiff, ↓reduceIte, List.length_set, Nat.add_sub_cancel_left, Nat.add_sub_cancel, ite_true, ite_false, if_true, if_false, not_true_eq_false, not_false_eq_true, Bool.and_true, Bool.true_and, true_or, or_true, false_or, or_false, and_true, true_and, and_false, false_and, Nat.not_lt_zero, hpRX, hpIX, hpFX, hpLX, hpSX, ↓rgX, ↓rpX, Nat.reduceLeDiff, Nat.reduceLT, Nat.reduceAdd, Nat.reduceMul, Nat.reduceSub, iL, iB, iX, s_out, b01_0, n1, n2, n3, n4, hba, cpA_o, cpF_o, g0, g1, hvv]
  · refine act_done (r' := ((A 193).set (58 + l) v)) hI hb hH0 hH1 hH2 ?_ ?_ ?_ ?_ ?_ ?_ ?_ ?_ ?_ ?_ ?_ ?_
    · intro j z1 z2; simp (disch := (first | omega | fail)) only [st_e, sf_e, Nat.reduceAdd, Nat.reduceMul, up_eq, up_ne, cpA_o, cpF_o]
    · intro j z1 z2 z3; simp (disch := (first | omega | fail)) only [st_e, sf_e, Nat.reduceAdd, Nat.reduceMul, up_eq, up_ne, cpA_o, cpF_o]
    · simp (disch := (first | omega | fail)) only [st_e, sf_e, Nat.reduceAdd, Nat.reduceMul, up_eq, up_ne, cpA_o, cpF_o]
    · intro k z1 z2; simp (disch := (first | omega | fail)) only [st_e, sf_e, Nat.reduceAdd, Nat.reduceMul, up_eq, up_ne, cpA_o, cpF_o]
    · simp (disch := (first | omega | fail)) only [st_e, sf_e, Nat.reduceAdd, Nat.reduceMul, up_eq, up_ne, cpA_o, cpF_o]
    · simp (disch := (first | omega | fail)) only [st_e, sf_e, Nat.reduceAdd, Nat.reduceMul, up_eq, up_ne, cpA_o, cpF_o]
    · simp (disch := (first | omega | fail)) only [st_e, sf_e, Nat.reduceAdd, Nat.reduceMul, up_eq, up_ne, cpA_o, cpF_o]
    · simp (disch := (first | omega | fail)) only [st_e, sf_e, Nat.reduceAdd, Nat.reduceMul, up_eq, up_ne, cpA_o, cpF_o]
    · simp (disch := (first | omega | fail)) only [st_e, sf_e, Nat.reduceAdd, Nat.reduceMul, up_eq, up_ne, cpA_o, cpF_o]
    · unfold LenS; simp (disch := (first | omega | (simp (disch := omega) only [up_eq, up_ne, cpA_o, List.length_set] <;> omega) | fail)) only [st_e, sf_e, Nat.reduceAdd, Nat.reduceMul, up_eq, up_ne, cpA_o, cpF_o, g_seq, g_sne, List.length_set]; exact l1
    · simp (disch := (first | omega | fail)) only [st_e, sf_e, Nat.reduceAdd, Nat.reduceMul, up_eq, up_ne, cpA_o, cpF_o]
    · refine ⟨?_, ?_, ?_, ?_, ?_, ?_, ?_⟩
      · refine ⟨by simp (disch := (first | omega | (simp (disch := omega) only [up_eq, up_ne, cpA_o, List.length_set] <;> omega) | fail)) only [st_e, sf_e, Nat.reduceAdd, Nat.reduceMul, up_eq, up_ne, cpA_o, cpF_o, g_seq, g_sne, List.length_set]; exact h0, by simp (disch := (first | omega | (simp (disch := omega) only [up_eq, up_ne, cpA_o, List.length_set] <;> omega) | fail)) only [st_e, sf_e, Nat.reduceAdd, Nat.reduceMul, up_eq, up_ne, cpA_o, cpF_o, g_seq, g_sne, List.length_set] <;> exact h1, by simp (disch := (first | omega | (simp (disch := omega) only [up_eq, up_ne, cpA_o, List.length_set] <;> omega) | fail)) only [st_e, sf_e, Nat.reduceAdd, Nat.reduceMul, up_eq, up_ne, cpA_o, cpF_o, g_seq, g_sne, List.length_set] <;> exact h2, by simp (disch := (first | omega | (simp (disch := omega) only [up_eq, up_ne, cpA_o, List.length_set] <;> omega) | fail)) only [st_e, sf_e, Nat.reduceAdd, Nat.reduceMul, up_eq, up_ne, cpA_o, cpF_o, g_seq, g_sne, List.length_set] <;> exact h3, by simp (disch := (first | omega | (simp (disch := omega) only [up_eq, up_ne, cpA_o, List.length_set] <;> omega) | fail)) only [st_e, sf_e, Nat.reduceAdd, Nat.reduceMul, up_eq, up_ne, cpA_o, cpF_o, g_seq, g_sne, List.length_set] <;> exact h4, by omega, by omega, by omega, by omega, by omega⟩
      · refine ⟨by simp (disch := (first | omega | (simp (disch := omega) only [up_eq, up_ne, cpA_o, List.length_set] <;> omega) | fail)) only [st_e, sf_e, Nat.reduceAdd, Nat.reduceMul, up_eq, up_ne, cpA_o, cpF_o, g_seq, g_sne, List.length_set] <;> exact n1, by simp (disch := (first | omega | (simp (disch := omega) only [up_eq, up_ne, cpA_o, List.length_set] <;> omega) | fail)) only [st_e, sf_e, Nat.reduceAdd, Nat.reduceMul, up_eq, up_ne, cpA_o, cpF_o, g_seq, g_sne, List.length_set] <;> exact n2, by simp (disch := (first | omega | (simp (disch := omega) only [up_eq, up_ne, cpA_o, List.length_set] <;> omega) | fail)) only [st_e, sf_e, Nat.reduceAdd, Nat.reduceMul, up_eq, up_ne, cpA_o, cpF_o, g_seq, g_sne, List.length_set] <;> exact n3, by simp (disch := (first | omega | (simp (disch := omega) only [up_eq, up_ne, cpA_o, List.length_set] <;> omega) | fail)) only [st_e, sf_e, Nat.reduceAdd, Nat.reduceMul, up_eq, up_ne, cpA_o, cpF_o, g_seq, g_sne, List.length_set] <;> exact n4⟩
      · exact SimB_c h6 (fun j z1 z2 => by simp (disch := (first | omega | (simp only [List.length_set] <;> omega) | fail)) only [g_seq, g_sne, List.length_set]) (by simp (disch := (first | omega | fail)) only [st_e, sf_e, Nat.reduceAdd, Nat.reduceMul, up_eq, up_ne, cpA_o, cpF_o]) (by simp (disch := (first | omega | fail)) only [st_e, sf_e, Nat.reduceAdd, Nat.reduceMul, up_eq, up_ne, cpA_o, cpF_o]) h5 hSB
      · intro i hi
        by_cases e : i = l
        · subst e
          obtain ⟨p0, p1, p2, p3, p4, p5, p6⟩ := hSL i hi
          simp (disch := (first | omega | fail)) only [st_e, Nat.reduceAdd] at p0 p1 p2 p3
          exact ⟨by simp (disch := (first | omega | (simp (disch := omega) only [up_eq, up_ne, cpA_o, List.length_set] <;> omega) | fail)) only [st_e, sf_e, Nat.reduceAdd, Nat.reduceMul, up_eq, up_ne, cpA_o, cpF_o, g_seq, g_sne, List.length_set] <;> exact p0, by simp (disch := (first | omega | (simp (disch := omega) only [up_eq, up_ne, cpA_o, List.length_set] <;> omega) | fail)) only [st_e, sf_e, Nat.reduceAdd, Nat.reduceMul, up_eq, up_ne, cpA_o, cpF_o, g_seq, g_sne, List.length_set] <;> exact p1, by simp (disch := (first | omega | (simp (disch := omega) only [up_eq, up_ne, cpA_o, List.length_set] <;> omega) | fail)) only [st_e, sf_e, Nat.reduceAdd, Nat.reduceMul, up_eq, up_ne, cpA_o, cpF_o, g_seq, g_sne, List.length_set] <;> exact rfl, by simp (disch := (first | omega | (simp (disch := omega) only [up_eq, up_ne, cpA_o, List.length_set] <;> omega) | fail)) only [st_e, sf_e, Nat.reduceAdd, Nat.reduceMul, up_eq, up_ne, cpA_o, cpF_o, g_seq, g_sne, List.length_set] <;> exact p3, by simp (disch := (first | omega | (simp (disch := omega) only [up_eq, up_ne, cpA_o, List.length_set] <;> omega) | fail)) only [st_e, sf_e, Nat.reduceAdd, Nat.reduceMul, up_eq, up_ne, cpA_o, cpF_o, g_seq, g_sne, List.length_set] <;> exact p4, by simp (disch := (first | omega | (simp (disch := omega) only [up_eq, up_ne, cpA_o, List.length_set] <;> omega) | fail)) only [st_e, sf_e, Nat.reduceAdd, Nat.reduceMul, up_eq, up_ne, cpA_o, cpF_o, g_seq, g_sne, List.length_set] <;> exact (rg_iff (by omega) (by omega)).mpr g1, by simp (disch := (first | omega | (simp (disch := omega) only [up_eq, up_ne, cpA_o, List.length_set] <;> omega) | fail)) only [st_e, sf_e, Nat.reduceAdd, Nat.reduceMul, up_eq, up_ne, cpA_o, cpF_o, g_seq, g_sne, List.length_set] <;> exact p6⟩
        · obtain ⟨p0, p1, p2, p3, p4, p5, p6⟩ := hSL i (by omega)
          simp (disch := (first | omega | fail)) only [st_e, Nat.reduceAdd] at p0 p1 p2 p3
          exact ⟨by simp (disch := (first | omega | (simp (disch := omega) only [up_eq, up_ne, cpA_o, List.length_set] <;> omega) | fail)) only [st_e, sf_e, Nat.reduceAdd, Nat.reduceMul, up_eq, up_ne, cpA_o, cpF_o, g_seq, g_sne, List.length_set] <;> exact p0, by simp (disch := (first | omega | (simp (disch := omega) only [up_eq, up_ne, cpA_o, List.length_set] <;> omega) | fail)) only [st_e, sf_e, Nat.reduceAdd, Nat.reduceMul, up_eq, up_ne, cpA_o, cpF_o, g_seq, g_sne, List.length_set] <;> exact p1, by simp (disch := (first | omega | (simp (disch := omega) only [up_eq, up_ne, cpA_o, List.length_set] <;> omega) | fail)) only [st_e, sf_e, Nat.reduceAdd, Nat.reduceMul, up_eq, up_ne, cpA_o, cpF_o, g_seq, g_sne, List.length_set] <;> exact p2, by simp (disch := (first | omega | (simp (disch := omega) only [up_eq, up_ne, cpA_o, List.length_set] <;> omega) | fail)) only [st_e, sf_e, Nat.reduceAdd, Nat.reduceMul, up_eq, up_ne, cpA_o, cpF_o, g_seq, g_sne, List.length_set] <;> exact p3, by simp (disch := (first | omega | (simp (disch := omega) only [up_eq, up_ne, cpA_o, List.length_set] <;> omega) | fail)) only [st_e, sf_e, Nat.reduceAdd, Nat.reduceMul, up_eq, up_ne, cpA_o, cpF_o, g_seq, g_sne, List.length_set] <;> exact p4, by simp (disch := (first | omega | (simp (disch := omega) only [up_eq, up_ne, cpA_o, List.length_set] <;> omega) | fail)) only [st_e, sf_e, Nat.reduceAdd, Nat.reduceMul, up_eq, up_ne, cpA_o, cpF_o, g_seq, g_sne, List.length_set] <;> exact p5, by simp (disch := (first | omega | (simp (disch := omega) only [up_eq, up_ne, cpA_o, List.length_set] <;> omega) | fail)) only [st_e, sf_e, Nat.reduceAdd, Nat.reduceMul, up_eq, up_ne, cpA_o, cpF_o, g_seq, g_sne, List.length_set] <;> exact p6⟩
      · exact SimM_c h8 (fun j z1 z2 => by simp (disch := (first | omega | (simp only [List.length_set] <;> omega) | fail)) only [g_seq, g_sne, List.length_set]) (by simp (disch := (first | omega | fail)) only [st_e, sf_e, Nat.reduceAdd, Nat.reduceMul, up_eq, up_ne, cpA_o, cpF_o]) hSM
      · exact SimX_c h9 (by omega) (by omega) (fun j z1 z2 => by simp (disch := (first | omega | (simp only [List.length_set] <;> omega) | fail)) only [g_seq, g_sne, List.length_set]) (by simp (disch := (first | omega | fail)) only [st_e, sf_e, Nat.reduceAdd, Nat.reduceMul, up_eq, up_ne, cpA_o, cpF_o]) (by simp (disch := (first | omega | fail)) only [st_e, sf_e, Nat.reduceAdd, Nat.reduceMul, up_eq, up_ne, cpA_o, cpF_o]) (by simp (disch := (first | omega | fail)) only [st_e, sf_e, Nat.reduceAdd, Nat.reduceMul, up_eq, up_ne, cpA_o, cpF_o]) (by simp (disch := (first | omega | fail)) only [st_e, sf_e, Nat.reduceAdd, Nat.reduceMul, up_eq, up_ne, cpA_o, cpF_o]) (by simp (disch := (first | omega | fail)) only [st_e, sf_e, Nat.reduceAdd, Nat.reduceMul, up_eq, up_ne, cpA_o, cpF_o]) (by simp (disch := (first | omega | fail)) only [st_e, sf_e, Nat.reduceAdd, Nat.reduceMul, up_eq, up_ne, cpA_o, cpF_o]) hSX
      · exact SimS_c (fun j z1 z2 => by simp (disch := (first | omega | (simp only [List.length_set] <;> omega) | fail)) only [g_seq, g_sne, List.length_set]) (by simp (disch := (first | omega | fail)) only [st_e, sf_e, Nat.reduceAdd, Nat.reduceMul, up_eq, up_ne, cpA_o, cpF_o]) hSS
  · simp (disch := (first | omega | fail)) only [st_e, sf_e, Nat.reduceAdd, Nat.reduceMul, up_eq, up_ne, cpA_o, cpF_o]
  · rw [up_eq]; exact hH1
  · simp (disch := (first | omega | fail)) only [st_e, sf_e, Nat.reduceAdd, Nat.reduceMul, up_eq, up_ne, cpA_o, cpF_o]
  · simp (disch := (first | omega | fail)) only [st_e, sf_e, Nat.reduceAdd, Nat.reduceMul, up_eq, up_ne, cpA_o, cpF_o]
  · intro j hj; simp (disch := (first | omega | fail)) only [st_e, sf_e, Nat.reduceAdd, Nat.reduceMul, up_eq, up_ne, cpA_o, cpF_o]
theorem k_setLimit_e0 (hI : InvN A F P nB nl nb nx q t) (x v : Int32) (g0 : ¬ (ix x nb)) : am_cl m_Pa_setLimit (.ref 1 :: [.int x, .int v]) (heap A F P) = some (some (.int (-nI 1)), heap A F P) := by
  have hI0 := hI
  obtain ⟨⟨hM, ⟨n1, n2, n3, n4⟩, hSB, hSL, hSM, hSX, hSS⟩, ⟨l1, l2, l3⟩, hH, hT, -⟩ := hI0
  have hM0 := hM
  obtain ⟨h0, h1, h2, h3, h4, h5, h6, h7, h8, h9⟩ := hM0
  simp (disch := (first | omega | fail)) only [sf_e, Nat.reduceMul, Nat.reduceAdd] at n1 n2 n3 n4
  have c5 : (A 5).length = 8 := l1.1
  have c7 : (A 7).length = 8 := l1.2.1
  have c10 : (A 10).length = 20 := l1.2.2.1
  have c12 : (A 12).length = 20 := l1.2.2.2.1
  have c14 : (A 14).length = 20 := l1.2.2.2.2.1
  have c16 : (A 16).length = 20 := l1.2.2.2.2.2.1
  have c18 : (A 18).length = 8 := l1.2.2.2.2.2.2.1
  have c21 : (A 21).length = 60 := l1.2.2.2.2.2.2.2.1
  have c23 : (A 23).length = 60 := l1.2.2.2.2.2.2.2.2.1
  have c25 : (A 25).length = 60 := l1.2.2.2.2.2.2.2.2.2.1
  have c27 : (A 27).length = 60 := l1.2.2.2.2.2.2.2.2.2.2.1
  have c29 : (A 29).length = 60 := l1.2.2.2.2.2.2.2.2.2.2.2.1
  have c31 : (A 31).length = 60 := l1.2.2.2.2.2.2.2.2.2.2.2.2.1
  have c33 : (A 33).length = 4 := l1.2.2.2.2.2.2.2.2.2.2.2.2.2
  have iL := fun x => s_isLot (A := A) (F := F) (P := P) n2 (by omega) x
  have iB := fun x => s_isBidder (A := A) (F := F) (P := P) n3 (by omega) x
  have iX := fun x => s_isBid (A := A) (F := F) (P := P) n4 (by omega) x
  rw [e_Pa_setLimit 1 _ _ _ rfl]
  simp (maxSteps := 2000000) (disch := (first | omega | (simp (disch := omega) only [up_eq, up_ne, cpA_o, List.length_set] <;> omega) | fail)) only [ob_s, am_bi_s, am_bv_s, am_bl_s, ↓bif_d, lits, nI_addS, nI_mulS, nI_subS, nI_lt', nI_le', nI_eq', ↓rd_nI, ↓wrH, up_eq, up_ne, up_up, up_sw, List.set_set, g_seq, g_sne, Nat.reduceEqDiff, ↓reduceIte, List.length_set, Nat.add_sub_cancel_left, Nat.add_sub_cancel, ite_true, ite_false, if_true, if_false, not_true_eq_false, not_false_eq_true, Bool.and_true, Bool.true_and, true_or, or_true, false_or, or_false, and_true, true_and, and_false, false_and, Nat.not_lt_zero, hpRX, hpIX, hpFX, hpLX, hpSX, ↓rgX, ↓rpX, Nat.reduceLeDiff, Nat.reduceLT, Nat.reduceAdd, Nat.reduceMul, Nat.reduceSub, iL, iB, iX, s_out, b01_0, n1, n2, n3, n4, g0]
theorem k_setLimit_e1 (hI : InvN A F P nB nl nb nx q t) (x v : Int32) (g0 : ix x nb) (g1 : v < nI 0 ∨ nI 10000000 < v) : am_cl m_Pa_setLimit (.ref 1 :: [.int x, .int v]) (heap A F P) = some (some (.int (-nI 2)), heap A F P) := by
  have hI0 := hI
  obtain ⟨⟨hM, ⟨n1, n2, n3, n4⟩, hSB, hSL, hSM, hSX, hSS⟩, ⟨l1, l2, l3⟩, hH, hT, -⟩ := hI0
  have hM0 := hM
  obtain ⟨h0, h1, h2, h3, h4, h5, h6, h7, h8, h9⟩ := hM0
  simp (disch := (first | omega | fail)) only [sf_e, Nat.reduceMul, Nat.reduceAdd] at n1 n2 n3 n4
  have c5 : (A 5).length = 8 := l1.1
  have c7 : (A 7).length = 8 := l1.2.1
  have c10 : (A 10).length = 20 := l1.2.2.1
  have c12 : (A 12).length = 20 := l1.2.2.2.1
  have c14 : (A 14).length = 20 := l1.2.2.2.2.1
  have c16 : (A 16).length = 20 := l1.2.2.2.2.2.1
  have c18 : (A 18).length = 8 := l1.2.2.2.2.2.2.1
  have c21 : (A 21).length = 60 := l1.2.2.2.2.2.2.2.1
  have c23 : (A 23).length = 60 := l1.2.2.2.2.2.2.2.2.1
  have c25 : (A 25).length = 60 := l1.2.2.2.2.2.2.2.2.2.1
  have c27 : (A 27).length = 60 := l1.2.2.2.2.2.2.2.2.2.2.1
  have c29 : (A 29).length = 60 := l1.2.2.2.2.2.2.2.2.2.2.2.1
  have c31 : (A 31).length = 60 := l1.2.2.2.2.2.2.2.2.2.2.2.2.1
  have c33 : (A 33).length = 4 := l1.2.2.2.2.2.2.2.2.2.2.2.2.2
  have iL := fun x => s_isLot (A := A) (F := F) (P := P) n2 (by omega) x
  have iB := fun x => s_isBidder (A := A) (F := F) (P := P) n3 (by omega) x
  have iX := fun x => s_isBid (A := A) (F := F) (P := P) n4 (by omega) x
  rw [e_Pa_setLimit 1 _ _ _ rfl]
  simp (maxSteps := 2000000) (disch := (first | omega | (simp (disch := omega) only [up_eq, up_ne, cpA_o, List.length_set] <;> omega) | fail)) only [ob_s, am_bi_s, am_bv_s, am_bl_s, ↓bif_d, lits, nI_addS, nI_mulS, nI_subS, nI_lt', nI_le', nI_eq', ↓rd_nI, ↓wrH, up_eq, up_ne, up_up, up_sw, List.set_set, g_seq, g_sne, Nat.reduceEqDiff, ↓reduceIte, List.length_set, Nat.add_sub_cancel_left, Nat.add_sub_cancel, ite_true, ite_false, if_true, if_false, not_true_eq_false, not_false_eq_true, Bool.and_true, Bool.true_and, true_or, or_true, false_or, or_false, and_true, true_and, and_false, false_and, Nat.not_lt_zero, hpRX, hpIX, hpFX, hpLX, hpSX, ↓rgX, ↓rpX, Nat.reduceLeDiff, Nat.reduceLT, Nat.reduceAdd, Nat.reduceMul, Nat.reduceSub, iL, iB, iX, s_out, b01_0, n1, n2, n3, n4, g0, g1]
theorem k_setLimit (hI : InvN A F P nB nl nb nx q t) {l : Nat} (hl : l < nb) (v : Int32) (g1 : ¬ (v < nI 0 ∨ nI 10000000 < v)) : Act m_Pa_setLimit [.int (nI l), .int v] A F P (.int (g (A 193) (99 + l))) ((A 193).set (99 + l) v) (nB) (nl) (nb) (nx) q t := by
  have hI0 := hI
  obtain ⟨⟨hM, ⟨n1, n2, n3, n4⟩, hSB, hSL, hSM, hSX, hSS⟩, ⟨l1, l2, l3⟩, hH, hT, -⟩ := hI0
  have hM0 := hM
  obtain ⟨h0, h1, h2, h3, h4, h5, h6, h7, h8, h9⟩ := hM0
  simp (disch := (first | omega | fail)) only [sf_e, Nat.reduceMul, Nat.reduceAdd] at n1 n2 n3 n4
  have c5 : (A 5).length = 8 := l1.1
  have c7 : (A 7).length = 8 := l1.2.1
  have c10 : (A 10).length = 20 := l1.2.2.1
  have c12 : (A 12).length = 20 := l1.2.2.2.1
  have c14 : (A 14).length = 20 := l1.2.2.2.2.1
  have c16 : (A 16).length = 20 := l1.2.2.2.2.2.1
  have c18 : (A 18).length = 8 := l1.2.2.2.2.2.2.1
  have c21 : (A 21).length = 60 := l1.2.2.2.2.2.2.2.1
  have c23 : (A 23).length = 60 := l1.2.2.2.2.2.2.2.2.1
  have c25 : (A 25).length = 60 := l1.2.2.2.2.2.2.2.2.2.1
  have c27 : (A 27).length = 60 := l1.2.2.2.2.2.2.2.2.2.2.1
  have c29 : (A 29).length = 60 := l1.2.2.2.2.2.2.2.2.2.2.2.1
  have c31 : (A 31).length = 60 := l1.2.2.2.2.2.2.2.2.2.2.2.2.1
  have c33 : (A 33).length = 4 := l1.2.2.2.2.2.2.2.2.2.2.2.2.2
  have iL := fun x => s_isLot (A := A) (F := F) (P := P) n2 (by omega) x
  have iB := fun x => s_isBidder (A := A) (F := F) (P := P) n3 (by omega) x
  have iX := fun x => s_isBid (A := A) (F := F) (P := P) n4 (by omega) x
  have g0 : ix (nI l) nb := ⟨l, hl, rfl⟩
  obtain ⟨b, H', hb, b1, b2, hba, hH0, hH1, hH2⟩ := act_pre hI
  have hvv : g (A 18) l = g (A 193) (99 + l) := by
    have := (hSM l hl).1
    simp (disch := (first | omega | fail)) only [st_e, Nat.reduceAdd] at this
    exact this
  refine ⟨up (up (up (cpA A 2 b) 18 ((A 18).set l v)) 193 ((A 193).set (99 + l) v)) 194 H', up (up (up (cpF F 2 b) 3401 (nI (kp q + 1))) 16410 (nI 0)) 19202 (nI (kp q + 1)), Pk q P, ?_, ?_, ?_, ?_, ?_, ?_, ?_⟩
  · rw [gh194, gh193, ghF2, e_Pa_setLimit 1 _ _ _ rfl]
    simp (maxSteps := 2000000) (disch := (first | omega | (simp (disch := omega) only [up_eq, up_ne, cpA_o, List.length_set] <;> omega) | fail)) only [ob_s, am_bi_s, am_bv_s, am_bl_s, ↓bif_d, lits, nI_addS, nI_mulS, nI_subS, nI_lt', nI_le', nI_eq', ↓rd_nI, ↓wrH, up_eq, up_ne, up_up, up_sw, List.set_set, g_seq, g_sne, Nat.reduceEqDiff, ↓reduceIte, List.length_set, Nat.add_sub_cancel_left, Nat.add_sub_cancel, ite_true, ite_false, if_true, if_false, not_true_eq_false, not_false_eq_true, Bool.and_true, Bool.true_and, true_or, or_true, false_or, or_false, and_true, true_and, and_false, false_and, Nat.not_lt_zero, hpRX, hpIX, hpFX, hpLX, hpSX, ↓rgX, ↓rpX, Nat.reduceLeDiff, Nat.reduceLT, Nat.reduceAdd, Nat.reduceMul, Nat.reduceSub, iL, iB, iX, s_out, b01_0, n1, n2, n3, n4, hba, cpA_o, cpF_o, g0, g1, hvv]
  · refine act_done (r' := ((A 193).set (99 + l) v)) hI hb hH0 hH1 hH2 ?_ ?_ ?_ ?_ ?_ ?_ ?_ ?_ ?_ ?_ ?_ ?_
    · intro j z1 z2; simp (disch := (first | omega | fail)) only [st_e, sf_e, Nat.reduceAdd, Nat.reduceMul, up_eq, up_ne, cpA_o, cpF_o]
    · intro j z1 z2 z3; simp (disch := (first | omega | fail)) only [st_e, sf_e, Nat.reduceAdd, Nat.reduceMul, up_eq, up_ne, cpA_o, cpF_o]
    · simp (disch := (first | omega | fail)) only [st_e, sf_e, Nat.reduceAdd, Nat.reduceMul, up_eq, up_ne, cpA_o, cpF_o]
    · intro k z1 z2; simp (disch := (first | omega | fail)) only [st_e, sf_e, Nat.reduceAdd, Nat.reduceMul, up_eq, up_ne, cpA_o, cpF_o]
    · simp (disch := (first | omega | fail)) only [st_e, sf_e, Nat.reduceAdd, Nat.reduceMul, up_eq, up_ne, cpA_o, cpF_o]
    · simp (disch := (first | omega | fail)) only [st_e, sf_e, Nat.reduceAdd, Nat.reduceMul, up_eq, up_ne, cpA_o, cpF_o]
    · simp (disch := (first | omega | fail)) only [st_e, sf_e, Nat.reduceAdd, Nat.reduceMul, up_eq, up_ne, cpA_o, cpF_o]
    · simp (disch := (first | omega | fail)) only [st_e, sf_e, Nat.reduceAdd, Nat.reduceMul, up_eq, up_ne, cpA_o, cpF_o]
    · simp (disch := (first | omega | fail)) only [st_e, sf_e, Nat.reduceAdd, Nat.reduceMul, up_eq, up_ne, cpA_o, cpF_o]
    · unfold LenS; simp (disch := (first | omega | (simp (disch := omega) only [up_eq, up_ne, cpA_o, List.length_set] <;> omega) | fail)) only [st_e, sf_e, Nat.reduceAdd, Nat.reduceMul, up_eq, up_ne, cpA_o, cpF_o, g_seq, g_sne, List.length_set]; exact l1
    · simp (disch := (first | omega | fail)) only [st_e, sf_e, Nat.reduceAdd, Nat.reduceMul, up_eq, up_ne, cpA_o, cpF_o]
    · refine ⟨?_, ?_, ?_, ?_, ?_, ?_, ?_⟩
      · refine ⟨by simp (disch := (first | omega | (simp (disch := omega) only [up_eq, up_ne, cpA_o, List.length_set] <;> omega) | fail)) only [st_e, sf_e, Nat.reduceAdd, Nat.reduceMul, up_eq, up_ne, cpA_o, cpF_o, g_seq, g_sne, List.length_set]; exact h0, by simp (disch := (first | omega | (simp (disch := omega) only [up_eq, up_ne, cpA_o, List.length_set] <;> omega) | fail)) only [st_e, sf_e, Nat.reduceAdd, Nat.reduceMul, up_eq, up_ne, cpA_o, cpF_o, g_seq, g_sne, List.length_set] <;> exact h1, by simp (disch := (first | omega | (simp (disch := omega) only [up_eq, up_ne, cpA_o, List.length_set] <;> omega) | fail)) only [st_e, sf_e, Nat.reduceAdd, Nat.reduceMul, up_eq, up_ne, cpA_o, cpF_o, g_seq, g_sne, List.length_set] <;> exact h2, by simp (disch := (first | omega | (simp (disch := omega) only [up_eq, up_ne, cpA_o, List.length_set] <;> omega) | fail)) only [st_e, sf_e, Nat.reduceAdd, Nat.reduceMul, up_eq, up_ne, cpA_o, cpF_o, g_seq, g_sne, List.length_set] <;> exact h3, by simp (disch := (first | omega | (simp (disch := omega) only [up_eq, up_ne, cpA_o, List.length_set] <;> omega) | fail)) only [st_e, sf_e, Nat.reduceAdd, Nat.reduceMul, up_eq, up_ne, cpA_o, cpF_o, g_seq, g_sne, List.length_set] <;> exact h4, by omega, by omega, by omega, by omega, by omega⟩
      · refine ⟨by simp (disch := (first | omega | (simp (disch := omega) only [up_eq, up_ne, cpA_o, List.length_set] <;> omega) | fail)) only [st_e, sf_e, Nat.reduceAdd, Nat.reduceMul, up_eq, up_ne, cpA_o, cpF_o, g_seq, g_sne, List.length_set] <;> exact n1, by simp (disch := (first | omega | (simp (disch := omega) only [up_eq, up_ne, cpA_o, List.length_set] <;> omega) | fail)) only [st_e, sf_e, Nat.reduceAdd, Nat.reduceMul, up_eq, up_ne, cpA_o, cpF_o, g_seq, g_sne, List.length_set] <;> exact n2, by simp (disch := (first | omega | (simp (disch := omega) only [up_eq, up_ne, cpA_o, List.length_set] <;> omega) | fail)) only [st_e, sf_e, Nat.reduceAdd, Nat.reduceMul, up_eq, up_ne, cpA_o, cpF_o, g_seq, g_sne, List.length_set] <;> exact n3, by simp (disch := (first | omega | (simp (disch := omega) only [up_eq, up_ne, cpA_o, List.length_set] <;> omega) | fail)) only [st_e, sf_e, Nat.reduceAdd, Nat.reduceMul, up_eq, up_ne, cpA_o, cpF_o, g_seq, g_sne, List.length_set] <;> exact n4⟩
      · exact SimB_c h6 (fun j z1 z2 => by simp (disch := (first | omega | (simp only [List.length_set] <;> omega) | fail)) only [g_seq, g_sne, List.length_set]) (by simp (disch := (first | omega | fail)) only [st_e, sf_e, Nat.reduceAdd, Nat.reduceMul, up_eq, up_ne, cpA_o, cpF_o]) (by simp (disch := (first | omega | fail)) only [st_e, sf_e, Nat.reduceAdd, Nat.reduceMul, up_eq, up_ne, cpA_o, cpF_o]) h5 hSB
      · exact SimL_c h7 (fun j z1 z2 => by simp (disch := (first | omega | (simp only [List.length_set] <;> omega) | fail)) only [g_seq, g_sne, List.length_set]) (by simp (disch := (first | omega | fail)) only [st_e, sf_e, Nat.reduceAdd, Nat.reduceMul, up_eq, up_ne, cpA_o, cpF_o]) (by simp (disch := (first | omega | fail)) only [st_e, sf_e, Nat.reduceAdd, Nat.reduceMul, up_eq, up_ne, cpA_o, cpF_o]) (by simp (disch := (first | omega | fail)) only [st_e, sf_e, Nat.reduceAdd, Nat.reduceMul, up_eq, up_ne, cpA_o, cpF_o]) (by simp (disch := (first | omega | fail)) only [st_e, sf_e, Nat.reduceAdd, Nat.reduceMul, up_eq, up_ne, cpA_o, cpF_o]) hSL
      · intro i hi
        by_cases e : i = l
        · subst e
          obtain ⟨p0, p1⟩ := hSM i hi
          simp (disch := (first | omega | fail)) only [st_e, Nat.reduceAdd] at p0
          exact ⟨by simp (disch := (first | omega | (simp (disch := omega) only [up_eq, up_ne, cpA_o, List.length_set] <;> omega) | fail)) only [st_e, sf_e, Nat.reduceAdd, Nat.reduceMul, up_eq, up_ne, cpA_o, cpF_o, g_seq, g_sne, List.length_set] <;> exact rfl, by simp (disch := (first | omega | (simp (disch := omega) only [up_eq, up_ne, cpA_o, List.length_set] <;> omega) | fail)) only [st_e, sf_e, Nat.reduceAdd, Nat.reduceMul, up_eq, up_ne, cpA_o, cpF_o, g_seq, g_sne, List.length_set] <;> exact (rg_iff (by omega) (by omega)).mpr g1⟩
        · obtain ⟨p0, p1⟩ := hSM i (by omega)
          simp (disch := (first | omega | fail)) only [st_e, Nat.reduceAdd] at p0
          exact ⟨by simp (disch := (first | omega | (simp (disch := omega) only [up_eq, up_ne, cpA_o, List.length_set] <;> omega) | fail)) only [st_e, sf_e, Nat.reduceAdd, Nat.reduceMul, up_eq, up_ne, cpA_o, cpF_o, g_seq, g_sne, List.length_set] <;> exact p0, by simp (disch := (first | omega | (simp (disch := omega) only [up_eq, up_ne, cpA_o, List.length_set] <;> omega) | fail)) only [st_e, sf_e, Nat.reduceAdd, Nat.reduceMul, up_eq, up_ne, cpA_o, cpF_o, g_seq, g_sne, List.length_set] <;> exact p1⟩
      · exact SimX_c h9 (by omega) (by omega) (fun j z1 z2 => by simp (disch := (first | omega | (simp only [List.length_set] <;> omega) | fail)) only [g_seq, g_sne, List.length_set]) (by simp (disch := (first | omega | fail)) only [st_e, sf_e, Nat.reduceAdd, Nat.reduceMul, up_eq, up_ne, cpA_o, cpF_o]) (by simp (disch := (first | omega | fail)) only [st_e, sf_e, Nat.reduceAdd, Nat.reduceMul, up_eq, up_ne, cpA_o, cpF_o]) (by simp (disch := (first | omega | fail)) only [st_e, sf_e, Nat.reduceAdd, Nat.reduceMul, up_eq, up_ne, cpA_o, cpF_o]) (by simp (disch := (first | omega | fail)) only [st_e, sf_e, Nat.reduceAdd, Nat.reduceMul, up_eq, up_ne, cpA_o, cpF_o]) (by simp (disch := (first | omega | fail)) only [st_e, sf_e, Nat.reduceAdd, Nat.reduceMul, up_eq, up_ne, cpA_o, cpF_o]) (by simp (disch := (first | omega | fail)) only [st_e, sf_e, Nat.reduceAdd, Nat.reduceMul, up_eq, up_ne, cpA_o, cpF_o]) hSX
      · exact SimS_c (fun j z1 z2 => by simp (disch := (first | omega | (simp only [List.length_set] <;> omega) | fail)) only [g_seq, g_sne, List.length_set]) (by simp (disch := (first | omega | fail)) only [st_e, sf_e, Nat.reduceAdd, Nat.reduceMul, up_eq, up_ne, cpA_o, cpF_o]) hSS
  · simp (disch := (first | omega | fail)) only [st_e, sf_e, Nat.reduceAdd, Nat.reduceMul, up_eq, up_ne, cpA_o, cpF_o]
  · rw [up_eq]; exact hH1
  · simp (disch := (first | omega | fail)) only [st_e, sf_e, Nat.reduceAdd, Nat.reduceMul, up_eq, up_ne, cpA_o, cpF_o]
  · simp (disch := (first | omega | fail)) only [st_e, sf_e, Nat.reduceAdd, Nat.reduceMul, up_eq, up_ne, cpA_o, cpF_o]
  · intro j hj; simp (disch := (first | omega | fail)) only [st_e, sf_e, Nat.reduceAdd, Nat.reduceMul, up_eq, up_ne, cpA_o, cpF_o]
theorem rg_mono {v : Int32} {lo hi hi' : Nat} (h : rg v lo hi) (hh : hi ≤ hi') : rg v lo hi' := by
  obtain ⟨n, h1, h2, h3⟩ := h
  exact ⟨n, h1, by omega, h3⟩
theorem k_addLot_e0 (hI : InvN A F P nB nl nb nx q t) (x v w : Int32) (g0 : x < nI 0 ∨ nI 4 < x) : am_cl m_Pa_addLot (.ref 1 :: [.int x, .int v, .int w]) (heap A F P) = some (some (.int (-nI 1)), heap A F P) := by
  have hI0 := hI
  obtain ⟨⟨hM, ⟨n1, n2, n3, n4⟩, hSB, hSL, hSM, hSX, hSS⟩, ⟨l1, l2, l3⟩, hH, hT, -⟩ := hI0
  have hM0 := hM
  obtain ⟨h0, h1, h2, h3, h4, h5, h6, h7, h8, h9⟩ := hM0
  simp (disch := (first | omega | fail)) only [sf_e, Nat.reduceMul, Nat.reduceAdd] at n1 n2 n3 n4
  have c5 : (A 5).length = 8 := l1.1
  have c7 : (A 7).length = 8 := l1.2.1
  have c10 : (A 10).length = 20 := l1.2.2.1
  have c12 : (A 12).length = 20 := l1.2.2.2.1
  have c14 : (A 14).length = 20 := l1.2.2.2.2.1
  have c16 : (A 16).length = 20 := l1.2.2.2.2.2.1
  have c18 : (A 18).length = 8 := l1.2.2.2.2.2.2.1
  have c21 : (A 21).length = 60 := l1.2.2.2.2.2.2.2.1
  have c23 : (A 23).length = 60 := l1.2.2.2.2.2.2.2.2.1
  have c25 : (A 25).length = 60 := l1.2.2.2.2.2.2.2.2.2.1
  have c27 : (A 27).length = 60 := l1.2.2.2.2.2.2.2.2.2.2.1
  have c29 : (A 29).length = 60 := l1.2.2.2.2.2.2.2.2.2.2.2.1
  have c31 : (A 31).length = 60 := l1.2.2.2.2.2.2.2.2.2.2.2.2.1
  have c33 : (A 33).length = 4 := l1.2.2.2.2.2.2.2.2.2.2.2.2.2
  have iL := fun x => s_isLot (A := A) (F := F) (P := P) n2 (by omega) x
  have iB := fun x => s_isBidder (A := A) (F := F) (P := P) n3 (by omega) x
  have iX := fun x => s_isBid (A := A) (F := F) (P := P) n4 (by omega) x
  have eLA := fun x1 x2 x3 A F P => e_Lots_add 8 x1 x2 x3 (heap A F P) rfl
  rw [e_Pa_addLot 1 _ _ _ _ rfl]
  simp (maxSteps := 2000000) (disch := (first | omega | (simp (disch := omega) only [up_eq, up_ne, cpA_o, List.length_set] <;> omega) | fail)) only [ob_s, am_bi_s, am_bv_s, am_bl_s, ↓bif_d, lits, nI_addS, nI_mulS, nI_subS, nI_lt', nI_le', nI_eq', ↓rd_nI, ↓wrH, up_eq, up_ne, up_up, up_sw, List.set_set, g_seq, g_sne, Nat.reduceEqDiff, ↓reduceIte, List.length_set, Nat.add_sub_cancel_left, Nat.add_sub_cancel, ite_true, ite_false, if_true, if_false, not_true_eq_false, not_false_eq_true, Bool.and_true, Bool.true_and, true_or, or_true, false_or, or_false, and_true, true_and, and_false, false_and, Nat.not_lt_zero, hpRX, hpIX, hpFX, hpLX, hpSX, ↓rgX, ↓rpX, Nat.reduceLeDiff, Nat.reduceLT, Nat.reduceAdd, Nat.reduceMul, Nat.reduceSub, iL, iB, iX, s_out, b01_0, eLA, n1, n2, n3, n4, g0]
theorem k_addLot_e1 (hI : InvN A F P nB nl nb nx q t) (x v w : Int32) (g0 : ¬ (x < nI 0 ∨ nI 4 < x)) (g1 : v < nI 0 ∨ nI 1000000 < v) : am_cl m_Pa_addLot (.ref 1 :: [.int x, .int v, .int w]) (heap A F P) = some (some (.int (-nI 2)), heap A F P) := by
  have hI0 := hI
  obtain ⟨⟨hM, ⟨n1, n2, n3, n4⟩, hSB, hSL, hSM, hSX, hSS⟩, ⟨l1, l2, l3⟩, hH, hT, -⟩ := hI0
  have hM0 := hM
  obtain ⟨h0, h1, h2, h3, h4, h5, h6, h7, h8, h9⟩ := hM0
  simp (disch := (first | omega | fail)) only [sf_e, Nat.reduceMul, Nat.reduceAdd] at n1 n2 n3 n4
  have c5 : (A 5).length = 8 := l1.1
  have c7 : (A 7).length = 8 := l1.2.1
  have c10 : (A 10).length = 20 := l1.2.2.1
  have c12 : (A 12).length = 20 := l1.2.2.2.1
  have c14 : (A 14).length = 20 := l1.2.2.2.2.1
  have c16 : (A 16).length = 20 := l1.2.2.2.2.2.1
  have c18 : (A 18).length = 8 := l1.2.2.2.2.2.2.1
  have c21 : (A 21).length = 60 := l1.2.2.2.2.2.2.2.1
  have c23 : (A 23).length = 60 := l1.2.2.2.2.2.2.2.2.1
  have c25 : (A 25).length = 60 := l1.2.2.2.2.2.2.2.2.2.1
  have c27 : (A 27).length = 60 := l1.2.2.2.2.2.2.2.2.2.2.1
  have c29 : (A 29).length = 60 := l1.2.2.2.2.2.2.2.2.2.2.2.1
  have c31 : (A 31).length = 60 := l1.2.2.2.2.2.2.2.2.2.2.2.2.1
  have c33 : (A 33).length = 4 := l1.2.2.2.2.2.2.2.2.2.2.2.2.2
  have iL := fun x => s_isLot (A := A) (F := F) (P := P) n2 (by omega) x
  have iB := fun x => s_isBidder (A := A) (F := F) (P := P) n3 (by omega) x
  have iX := fun x => s_isBid (A := A) (F := F) (P := P) n4 (by omega) x
  have eLA := fun x1 x2 x3 A F P => e_Lots_add 8 x1 x2 x3 (heap A F P) rfl
  rw [e_Pa_addLot 1 _ _ _ _ rfl]
  simp (maxSteps := 2000000) (disch := (first | omega | (simp (disch := omega) only [up_eq, up_ne, cpA_o, List.length_set] <;> omega) | fail)) only [ob_s, am_bi_s, am_bv_s, am_bl_s, ↓bif_d, lits, nI_addS, nI_mulS, nI_subS, nI_lt', nI_le', nI_eq', ↓rd_nI, ↓wrH, up_eq, up_ne, up_up, up_sw, List.set_set, g_seq, g_sne, Nat.reduceEqDiff, ↓reduceIte, List.length_set, Nat.add_sub_cancel_left, Nat.add_sub_cancel, ite_true, ite_false, if_true, if_false, not_true_eq_false, not_false_eq_true, Bool.and_true, Bool.true_and, true_or, or_true, false_or, or_false, and_true, true_and, and_false, false_and, Nat.not_lt_zero, hpRX, hpIX, hpFX, hpLX, hpSX, ↓rgX, ↓rpX, Nat.reduceLeDiff, Nat.reduceLT, Nat.reduceAdd, Nat.reduceMul, Nat.reduceSub, iL, iB, iX, s_out, b01_0, eLA, n1, n2, n3, n4, g0, g1]
theorem k_addLot_e2 (hI : InvN A F P nB nl nb nx q t) (x v w : Int32) (g0 : ¬ (x < nI 0 ∨ nI 4 < x)) (g1 : ¬ (v < nI 0 ∨ nI 1000000 < v)) (g2 : w < nI 0 ∨ nI 1000000 < w) : am_cl m_Pa_addLot (.ref 1 :: [.int x, .int v, .int w]) (heap A F P) = some (some (.int (-nI 2)), heap A F P) := by
  have hI0 := hI
  obtain ⟨⟨hM, ⟨n1, n2, n3, n4⟩, hSB, hSL, hSM, hSX, hSS⟩, ⟨l1, l2, l3⟩, hH, hT, -⟩ := hI0
  have hM0 := hM
  obtain ⟨h0, h1, h2, h3, h4, h5, h6, h7, h8, h9⟩ := hM0
  simp (disch := (first | omega | fail)) only [sf_e, Nat.reduceMul, Nat.reduceAdd] at n1 n2 n3 n4
  have c5 : (A 5).length = 8 := l1.1
  have c7 : (A 7).length = 8 := l1.2.1
  have c10 : (A 10).length = 20 := l1.2.2.1
  have c12 : (A 12).length = 20 := l1.2.2.2.1
  have c14 : (A 14).length = 20 := l1.2.2.2.2.1
  have c16 : (A 16).length = 20 := l1.2.2.2.2.2.1
  have c18 : (A 18).length = 8 := l1.2.2.2.2.2.2.1
  have c21 : (A 21).length = 60 := l1.2.2.2.2.2.2.2.1
  have c23 : (A 23).length = 60 := l1.2.2.2.2.2.2.2.2.1
  have c25 : (A 25).length = 60 := l1.2.2.2.2.2.2.2.2.2.1
  have c27 : (A 27).length = 60 := l1.2.2.2.2.2.2.2.2.2.2.1
  have c29 : (A 29).length = 60 := l1.2.2.2.2.2.2.2.2.2.2.2.1
  have c31 : (A 31).length = 60 := l1.2.2.2.2.2.2.2.2.2.2.2.2.1
  have c33 : (A 33).length = 4 := l1.2.2.2.2.2.2.2.2.2.2.2.2.2
  have iL := fun x => s_isLot (A := A) (F := F) (P := P) n2 (by omega) x
  have iB := fun x => s_isBidder (A := A) (F := F) (P := P) n3 (by omega) x
  have iX := fun x => s_isBid (A := A) (F := F) (P := P) n4 (by omega) x
  have eLA := fun x1 x2 x3 A F P => e_Lots_add 8 x1 x2 x3 (heap A F P) rfl
  rw [e_Pa_addLot 1 _ _ _ _ rfl]
  simp (maxSteps := 2000000) (disch := (first | omega | (simp (disch := omega) only [up_eq, up_ne, cpA_o, List.length_set] <;> omega) | fail)) only [ob_s, am_bi_s, am_bv_s, am_bl_s, ↓bif_d, lits, nI_addS, nI_mulS, nI_subS, nI_lt', nI_le', nI_eq', ↓rd_nI, ↓wrH, up_eq, up_ne, up_up, up_sw, List.set_set, g_seq, g_sne, Nat.reduceEqDiff, ↓reduceIte, List.length_set, Nat.add_sub_cancel_left, Nat.add_sub_cancel, ite_true, ite_false, if_true, if_false, not_true_eq_false, not_false_eq_true, Bool.and_true, Bool.true_and, true_or, or_true, false_or, or_false, and_true, true_and, and_false, false_and, Nat.not_lt_zero, hpRX, hpIX, hpFX, hpLX, hpSX, ↓rgX, ↓rpX, Nat.reduceLeDiff, Nat.reduceLT, Nat.reduceAdd, Nat.reduceMul, Nat.reduceSub, iL, iB, iX, s_out, b01_0, eLA, n1, n2, n3, n4, g0, g1, g2]
theorem k_addLot_e3 (hI : InvN A F P nB nl nb nx q t) (x v w : Int32) (g0 : ¬ (x < nI 0 ∨ nI 4 < x)) (g1 : ¬ (v < nI 0 ∨ nI 1000000 < v)) (g2 : ¬ (w < nI 0 ∨ nI 1000000 < w)) (g3 : nl = 20) : am_cl m_Pa_addLot (.ref 1 :: [.int x, .int v, .int w]) (heap A F P) = some (some (.int (-nI 3)), heap A F P) := by
  have hI0 := hI
  obtain ⟨⟨hM, ⟨n1, n2, n3, n4⟩, hSB, hSL, hSM, hSX, hSS⟩, ⟨l1, l2, l3⟩, hH, hT, -⟩ := hI0
  have hM0 := hM
  obtain ⟨h0, h1, h2, h3, h4, h5, h6, h7, h8, h9⟩ := hM0
  simp (disch := (first | omega | fail)) only [sf_e, Nat.reduceMul, Nat.reduceAdd] at n1 n2 n3 n4
  have c5 : (A 5).length = 8 := l1.1
  have c7 : (A 7).length = 8 := l1.2.1
  have c10 : (A 10).length = 20 := l1.2.2.1
  have c12 : (A 12).length = 20 := l1.2.2.2.1
  have c14 : (A 14).length = 20 := l1.2.2.2.2.1
  have c16 : (A 16).length = 20 := l1.2.2.2.2.2.1
  have c18 : (A 18).length = 8 := l1.2.2.2.2.2.2.1
  have c21 : (A 21).length = 60 := l1.2.2.2.2.2.2.2.1
  have c23 : (A 23).length = 60 := l1.2.2.2.2.2.2.2.2.1
  have c25 : (A 25).length = 60 := l1.2.2.2.2.2.2.2.2.2.1
  have c27 : (A 27).length = 60 := l1.2.2.2.2.2.2.2.2.2.2.1
  have c29 : (A 29).length = 60 := l1.2.2.2.2.2.2.2.2.2.2.2.1
  have c31 : (A 31).length = 60 := l1.2.2.2.2.2.2.2.2.2.2.2.2.1
  have c33 : (A 33).length = 4 := l1.2.2.2.2.2.2.2.2.2.2.2.2.2
  have iL := fun x => s_isLot (A := A) (F := F) (P := P) n2 (by omega) x
  have iB := fun x => s_isBidder (A := A) (F := F) (P := P) n3 (by omega) x
  have iX := fun x => s_isBid (A := A) (F := F) (P := P) n4 (by omega) x
  have eLA := fun x1 x2 x3 A F P => e_Lots_add 8 x1 x2 x3 (heap A F P) rfl
  have cn : ¬ nl < 20 := by omega
  rw [e_Pa_addLot 1 _ _ _ _ rfl]
  simp (maxSteps := 2000000) (disch := (first | omega | (simp (disch := omega) only [up_eq, up_ne, cpA_o, List.length_set] <;> omega) | fail)) only [ob_s, am_bi_s, am_bv_s, am_bl_s, ↓bif_d, lits, nI_addS, nI_mulS, nI_subS, nI_lt', nI_le', nI_eq', ↓rd_nI, ↓wrH, up_eq, up_ne, up_up, up_sw, List.set_set, g_seq, g_sne, Nat.reduceEqDiff, ↓reduceIte, List.length_set, Nat.add_sub_cancel_left, Nat.add_sub_cancel, ite_true, ite_false, if_true, if_false, not_true_eq_false, not_false_eq_true, Bool.and_true, Bool.true_and, true_or, or_true, false_or, or_false, and_true, true_and, and_false, false_and, Nat.not_lt_zero, hpRX, hpIX, hpFX, hpLX, hpSX, ↓rgX, ↓rpX, Nat.reduceLeDiff, Nat.reduceLT, Nat.reduceAdd, Nat.reduceMul, Nat.reduceSub, iL, iB, iX, s_out, b01_0, eLA, n1, n2, n3, n4, g0, g1, g2, g3, cn]
theorem k_addLot (hI : InvN A F P nB nl nb nx q t) (x v w : Int32) (g0 : ¬ (x < nI 0 ∨ nI 4 < x)) (g1 : ¬ (v < nI 0 ∨ nI 1000000 < v)) (g2 : ¬ (w < nI 0 ∨ nI 1000000 < w)) (g3 : ¬ (nl = 20)) : Act m_Pa_addLot [.int x, .int v, .int w] A F P (.int (nI nl)) ((((((A 193).set (18 + nl) x).set (38 + nl) v).set (58 + nl) w).set (78 + nl) (nI 0)).set 17 (nI (nl + 1))) (nB) (nl + 1) (nb) (nx) q t := by
  have hI0 := hI
  obtain ⟨⟨hM, ⟨n1, n2, n3, n4⟩, hSB, hSL, hSM, hSX, hSS⟩, ⟨l1, l2, l3⟩, hH, hT, -⟩ := hI0
  have hM0 := hM
  obtain ⟨h0, h1, h2, h3, h4, h5, h6, h7, h8, h9⟩ := hM0
  simp (disch := (first | omega | fail)) only [sf_e, Nat.reduceMul, Nat.reduceAdd] at n1 n2 n3 n4
  have c5 : (A 5).length = 8 := l1.1
  have c7 : (A 7).length = 8 := l1.2.1
  have c10 : (A 10).length = 20 := l1.2.2.1
  have c12 : (A 12).length = 20 := l1.2.2.2.1
  have c14 : (A 14).length = 20 := l1.2.2.2.2.1
  have c16 : (A 16).length = 20 := l1.2.2.2.2.2.1
  have c18 : (A 18).length = 8 := l1.2.2.2.2.2.2.1
  have c21 : (A 21).length = 60 := l1.2.2.2.2.2.2.2.1
  have c23 : (A 23).length = 60 := l1.2.2.2.2.2.2.2.2.1
  have c25 : (A 25).length = 60 := l1.2.2.2.2.2.2.2.2.2.1
  have c27 : (A 27).length = 60 := l1.2.2.2.2.2.2.2.2.2.2.1
  have c29 : (A 29).length = 60 := l1.2.2.2.2.2.2.2.2.2.2.2.1
  have c31 : (A 31).length = 60 := l1.2.2.2.2.2.2.2.2.2.2.2.2.1
  have c33 : (A 33).length = 4 := l1.2.2.2.2.2.2.2.2.2.2.2.2.2
  have iL := fun x => s_isLot (A := A) (F := F) (P := P) n2 (by omega) x
  have iB := fun x => s_isBidder (A := A) (F := F) (P := P) n3 (by omega) x
  have iX := fun x => s_isBid (A := A) (F := F) (P := P) n4 (by omega) x
  have eLA := fun x1 x2 x3 A F P => e_Lots_add 8 x1 x2 x3 (heap A F P) rfl
  have cn : nl < 20 := by omega
  obtain ⟨b, H', hb, b1, b2, hba, hH0, hH1, hH2⟩ := act_pre hI
  refine ⟨up (up (up (up (up (up (cpA A 2 b) 10 ((A 10).set nl x)) 12 ((A 12).set nl v)) 14 ((A 14).set nl w)) 16 ((A 16).set nl (nI 0))) 193 ((((((A 193).set (18 + nl) x).set (38 + nl) v).set (58 + nl) w).set (78 + nl) (nI 0)).set 17 (nI (nl + 1)))) 194 H', up (up (up (up (cpF F 2 b) 804 (nI (nl + 1))) 3401 (nI (kp q + 1))) 16410 (nI 0)) 19202 (nI (kp q + 1)), Pk q P, ?_, ?_, ?_, ?_, ?_, ?_, ?_⟩
  · rw [gh194, gh193, ghF2, e_Pa_addLot 1 _ _ _ _ rfl]
    simp (maxSteps := 2000000) (disch := (first | omega | (simp (disch := omega) only [up_eq, up_ne, cpA_o, List.length_set] <;> omega) | fail)) only [ob_s, am_bi_s, am_bv_s, am_bl_s, ↓bif_d, lits, nI_addS, nI_mulS, nI_subS, nI_lt', nI_le', nI_eq', ↓rd_nI, ↓wrH, up_eq, up_ne, up_up, up_sw, List.set_set, g_seq, g_sne, Nat.reduceEqDiff, ↓reduceIte, List.length_set, Nat.add_sub_cancel_left, Nat.add_sub_cancel, ite_true, ite_false, if_true, if_false, not_true_eq_false, not_false_eq_true, Bool.and_true, Bool.true_and, true_or, or_true, false_or, or_false, and_true, true_and, and_false, false_and, Nat.not_lt_zero, hpRX, hpIX, hpFX, hpLX, hpSX, ↓rgX, ↓rpX, Nat.reduceLeDiff, Nat.reduceLT, Nat.reduceAdd, Nat.reduceMul, Nat.reduceSub, iL, iB, iX, s_out, b01_0, eLA, n1, n2, n3, n4, hba, cpA_o, cpF_o, g0, g1, g2, g3, cn]
  · refine act_done (r' := ((((((A 193).set (18 + nl) x).set (38 + nl) v).set (58 + nl) w).set (78 + nl) (nI 0)).set 17 (nI (nl + 1)))) hI hb hH0 hH1 hH2 ?_ ?_ ?_ ?_ ?_ ?_ ?_ ?_ ?_ ?_ ?_ ?_
    · intro j z1 z2; simp (disch := (first | omega | fail)) only [st_e, sf_e, Nat.reduceAdd, Nat.reduceMul, up_eq, up_ne, cpA_o, cpF_o]
    · intro j z1 z2 z3; simp (disch := (first | omega | fail)) only [st_e, sf_e, Nat.reduceAdd, Nat.reduceMul, up_eq, up_ne, cpA_o, cpF_o]
    · simp (disch := (first | omega | fail)) only [st_e, sf_e, Nat.reduceAdd, Nat.reduceMul, up_eq, up_ne, cpA_o, cpF_o]
    · intro k z1 z2; simp (disch := (first | omega | fail)) only [st_e, sf_e, Nat.reduceAdd, Nat.reduceMul, up_eq, up_ne, cpA_o, cpF_o]
    · simp (disch := (first | omega | fail)) only [st_e, sf_e, Nat.reduceAdd, Nat.reduceMul, up_eq, up_ne, cpA_o, cpF_o]
    · simp (disch := (first | omega | fail)) only [st_e, sf_e, Nat.reduceAdd, Nat.reduceMul, up_eq, up_ne, cpA_o, cpF_o]
    · simp (disch := (first | omega | fail)) only [st_e, sf_e, Nat.reduceAdd, Nat.reduceMul, up_eq, up_ne, cpA_o, cpF_o]
    · simp (disch := (first | omega | fail)) only [st_e, sf_e, Nat.reduceAdd, Nat.reduceMul, up_eq, up_ne, cpA_o, cpF_o]
    · simp (disch := (first | omega | fail)) only [st_e, sf_e, Nat.reduceAdd, Nat.reduceMul, up_eq, up_ne, cpA_o, cpF_o]
    · unfold LenS; simp (disch := (first | omega | (simp (disch := omega) only [up_eq, up_ne, cpA_o, List.length_set] <;> omega) | fail)) only [st_e, sf_e, Nat.reduceAdd, Nat.reduceMul, up_eq, up_ne, cpA_o, cpF_o, g_seq, g_sne, List.length_set]; exact l1
    · simp (disch := (first | omega | fail)) only [st_e, sf_e, Nat.reduceAdd, Nat.reduceMul, up_eq, up_ne, cpA_o, cpF_o]
    · refine ⟨?_, ?_, ?_, ?_, ?_, ?_, ?_⟩
      · refine ⟨by simp (disch := (first | omega | (simp (disch := omega) only [up_eq, up_ne, cpA_o, List.length_set] <;> omega) | fail)) only [st_e, sf_e, Nat.reduceAdd, Nat.reduceMul, up_eq, up_ne, cpA_o, cpF_o, g_seq, g_sne, List.length_set]; exact h0, by simp (disch := (first | omega | (simp (disch := omega) only [up_eq, up_ne, cpA_o, List.length_set] <;> omega) | fail)) only [st_e, sf_e, Nat.reduceAdd, Nat.reduceMul, up_eq, up_ne, cpA_o, cpF_o, g_seq, g_sne, List.length_set] <;> exact h1, by simp (disch := (first | omega | (simp (disch := omega) only [up_eq, up_ne, cpA_o, List.length_set] <;> omega) | fail)) only [st_e, sf_e, Nat.reduceAdd, Nat.reduceMul, up_eq, up_ne, cpA_o, cpF_o, g_seq, g_sne, List.length_set] <;> exact h2, by simp (disch := (first | omega | (simp (disch := omega) only [up_eq, up_ne, cpA_o, List.length_set] <;> omega) | fail)) only [st_e, sf_e, Nat.reduceAdd, Nat.reduceMul, up_eq, up_ne, cpA_o, cpF_o, g_seq, g_sne, List.length_set] <;> exact h3, by simp (disch := (first | omega | (simp (disch := omega) only [up_eq, up_ne, cpA_o, List.length_set] <;> omega) | fail)) only [st_e, sf_e, Nat.reduceAdd, Nat.reduceMul, up_eq, up_ne, cpA_o, cpF_o, g_seq, g_sne, List.length_set] <;> exact h4, by omega, by omega, by omega, by omega, by omega⟩
      · refine ⟨by simp (disch := (first | omega | (simp (disch := omega) only [up_eq, up_ne, cpA_o, List.length_set] <;> omega) | fail)) only [st_e, sf_e, Nat.reduceAdd, Nat.reduceMul, up_eq, up_ne, cpA_o, cpF_o, g_seq, g_sne, List.length_set] <;> exact n1, by simp (disch := (first | omega | (simp (disch := omega) only [up_eq, up_ne, cpA_o, List.length_set] <;> omega) | fail)) only [st_e, sf_e, Nat.reduceAdd, Nat.reduceMul, up_eq, up_ne, cpA_o, cpF_o, g_seq, g_sne, List.length_set] <;> exact n2, by simp (disch := (first | omega | (simp (disch := omega) only [up_eq, up_ne, cpA_o, List.length_set] <;> omega) | fail)) only [st_e, sf_e, Nat.reduceAdd, Nat.reduceMul, up_eq, up_ne, cpA_o, cpF_o, g_seq, g_sne, List.length_set] <;> exact n3, by simp (disch := (first | omega | (simp (disch := omega) only [up_eq, up_ne, cpA_o, List.length_set] <;> omega) | fail)) only [st_e, sf_e, Nat.reduceAdd, Nat.reduceMul, up_eq, up_ne, cpA_o, cpF_o, g_seq, g_sne, List.length_set] <;> exact n4⟩
      · exact SimB_c h6 (fun j z1 z2 => by simp (disch := (first | omega | (simp only [List.length_set] <;> omega) | fail)) only [g_seq, g_sne, List.length_set]) (by simp (disch := (first | omega | fail)) only [st_e, sf_e, Nat.reduceAdd, Nat.reduceMul, up_eq, up_ne, cpA_o, cpF_o]) (by simp (disch := (first | omega | fail)) only [st_e, sf_e, Nat.reduceAdd, Nat.reduceMul, up_eq, up_ne, cpA_o, cpF_o]) h5 hSB
      · intro i hi
        by_cases e : i = nl
        · subst e
          exact ⟨by simp (disch := (first | omega | (simp (disch := omega) only [up_eq, up_ne, cpA_o, List.length_set] <;> omega) | fail)) only [st_e, sf_e, Nat.reduceAdd, Nat.reduceMul, up_eq, up_ne, cpA_o, cpF_o, g_seq, g_sne, List.length_set] <;> exact rfl, by simp (disch := (first | omega | (simp (disch := omega) only [up_eq, up_ne, cpA_o, List.length_set] <;> omega) | fail)) only [st_e, sf_e, Nat.reduceAdd, Nat.reduceMul, up_eq, up_ne, cpA_o, cpF_o, g_seq, g_sne, List.length_set] <;> exact rfl, by simp (disch := (first | omega | (simp (disch := omega) only [up_eq, up_ne, cpA_o, List.length_set] <;> omega) | fail)) only [st_e, sf_e, Nat.reduceAdd, Nat.reduceMul, up_eq, up_ne, cpA_o, cpF_o, g_seq, g_sne, List.length_set] <;> exact rfl, by simp (disch := (first | omega | (simp (disch := omega) only [up_eq, up_ne, cpA_o, List.length_set] <;> omega) | fail)) only [st_e, sf_e, Nat.reduceAdd, Nat.reduceMul, up_eq, up_ne, cpA_o, cpF_o, g_seq, g_sne, List.length_set] <;> exact rfl, by simp (disch := (first | omega | (simp (disch := omega) only [up_eq, up_ne, cpA_o, List.length_set] <;> omega) | fail)) only [st_e, sf_e, Nat.reduceAdd, Nat.reduceMul, up_eq, up_ne, cpA_o, cpF_o, g_seq, g_sne, List.length_set] <;> exact (rg_iff (by omega) (by omega)).mpr g1, by simp (disch := (first | omega | (simp (disch := omega) only [up_eq, up_ne, cpA_o, List.length_set] <;> omega) | fail)) only [st_e, sf_e, Nat.reduceAdd, Nat.reduceMul, up_eq, up_ne, cpA_o, cpF_o, g_seq, g_sne, List.length_set] <;> exact (rg_iff (by omega) (by omega)).mpr g2, by simp (disch := (first | omega | (simp (disch := omega) only [up_eq, up_ne, cpA_o, List.length_set] <;> omega) | fail)) only [st_e, sf_e, Nat.reduceAdd, Nat.reduceMul, up_eq, up_ne, cpA_o, cpF_o, g_seq, g_sne, List.length_set] <;> exact ⟨0, by omega, by omega, rfl⟩⟩
        · obtain ⟨p0, p1, p2, p3, p4, p5, p6⟩ := hSL i (by omega)
          simp (disch := (first | omega | fail)) only [st_e, Nat.reduceAdd] at p0 p1 p2 p3
          exact ⟨by simp (disch := (first | omega | (simp (disch := omega) only [up_eq, up_ne, cpA_o, List.length_set] <;> omega) | fail)) only [st_e, sf_e, Nat.reduceAdd, Nat.reduceMul, up_eq, up_ne, cpA_o, cpF_o, g_seq, g_sne, List.length_set] <;> exact p0, by simp (disch := (first | omega | (simp (disch := omega) only [up_eq, up_ne, cpA_o, List.length_set] <;> omega) | fail)) only [st_e, sf_e, Nat.reduceAdd, Nat.reduceMul, up_eq, up_ne, cpA_o, cpF_o, g_seq, g_sne, List.length_set] <;> exact p1, by simp (disch := (first | omega | (simp (disch := omega) only [up_eq, up_ne, cpA_o, List.length_set] <;> omega) | fail)) only [st_e, sf_e, Nat.reduceAdd, Nat.reduceMul, up_eq, up_ne, cpA_o, cpF_o, g_seq, g_sne, List.length_set] <;> exact p2, by simp (disch := (first | omega | (simp (disch := omega) only [up_eq, up_ne, cpA_o, List.length_set] <;> omega) | fail)) only [st_e, sf_e, Nat.reduceAdd, Nat.reduceMul, up_eq, up_ne, cpA_o, cpF_o, g_seq, g_sne, List.length_set] <;> exact p3, by simp (disch := (first | omega | (simp (disch := omega) only [up_eq, up_ne, cpA_o, List.length_set] <;> omega) | fail)) only [st_e, sf_e, Nat.reduceAdd, Nat.reduceMul, up_eq, up_ne, cpA_o, cpF_o, g_seq, g_sne, List.length_set] <;> exact p4, by simp (disch := (first | omega | (simp (disch := omega) only [up_eq, up_ne, cpA_o, List.length_set] <;> omega) | fail)) only [st_e, sf_e, Nat.reduceAdd, Nat.reduceMul, up_eq, up_ne, cpA_o, cpF_o, g_seq, g_sne, List.length_set] <;> exact p5, by simp (disch := (first | omega | (simp (disch := omega) only [up_eq, up_ne, cpA_o, List.length_set] <;> omega) | fail)) only [st_e, sf_e, Nat.reduceAdd, Nat.reduceMul, up_eq, up_ne, cpA_o, cpF_o, g_seq, g_sne, List.length_set] <;> exact p6⟩
      · exact SimM_c h8 (fun j z1 z2 => by simp (disch := (first | omega | (simp only [List.length_set] <;> omega) | fail)) only [g_seq, g_sne, List.length_set]) (by simp (disch := (first | omega | fail)) only [st_e, sf_e, Nat.reduceAdd, Nat.reduceMul, up_eq, up_ne, cpA_o, cpF_o]) hSM
      · exact SimX_c h9 (by omega) (by omega) (fun j z1 z2 => by simp (disch := (first | omega | (simp only [List.length_set] <;> omega) | fail)) only [g_seq, g_sne, List.length_set]) (by simp (disch := (first | omega | fail)) only [st_e, sf_e, Nat.reduceAdd, Nat.reduceMul, up_eq, up_ne, cpA_o, cpF_o]) (by simp (disch := (first | omega | fail)) only [st_e, sf_e, Nat.reduceAdd, Nat.reduceMul, up_eq, up_ne, cpA_o, cpF_o]) (by simp (disch := (first | omega | fail)) only [st_e, sf_e, Nat.reduceAdd, Nat.reduceMul, up_eq, up_ne, cpA_o, cpF_o]) (by simp (disch := (first | omega | fail)) only [st_e, sf_e, Nat.reduceAdd, Nat.reduceMul, up_eq, up_ne, cpA_o, cpF_o]) (by simp (disch := (first | omega | fail)) only [st_e, sf_e, Nat.reduceAdd, Nat.reduceMul, up_eq, up_ne, cpA_o, cpF_o]) (by simp (disch := (first | omega | fail)) only [st_e, sf_e, Nat.reduceAdd, Nat.reduceMul, up_eq, up_ne, cpA_o, cpF_o]) hSX
      · exact SimS_c (fun j z1 z2 => by simp (disch := (first | omega | (simp only [List.length_set] <;> omega) | fail)) only [g_seq, g_sne, List.length_set]) (by simp (disch := (first | omega | fail)) only [st_e, sf_e, Nat.reduceAdd, Nat.reduceMul, up_eq, up_ne, cpA_o, cpF_o]) hSS
  · simp (disch := (first | omega | fail)) only [st_e, sf_e, Nat.reduceAdd, Nat.reduceMul, up_eq, up_ne, cpA_o, cpF_o]
  · rw [up_eq]; exact hH1
  · simp (disch := (first | omega | fail)) only [st_e, sf_e, Nat.reduceAdd, Nat.reduceMul, up_eq, up_ne, cpA_o, cpF_o]
  · simp (disch := (first | omega | fail)) only [st_e, sf_e, Nat.reduceAdd, Nat.reduceMul, up_eq, up_ne, cpA_o, cpF_o]
  · intro j hj; simp (disch := (first | omega | fail)) only [st_e, sf_e, Nat.reduceAdd, Nat.reduceMul, up_eq, up_ne, cpA_o, cpF_o]
theorem k_addBidder_e0 (hI : InvN A F P nB nl nb nx q t) (x : Int32) (g0 : x < nI 0 ∨ nI 10000000 < x) : am_cl m_Pa_addBidder (.ref 1 :: [.int x]) (heap A F P) = some (some (.int (-nI 2)), heap A F P) := by
  have hI0 := hI
  obtain ⟨⟨hM, ⟨n1, n2, n3, n4⟩, hSB, hSL, hSM, hSX, hSS⟩, ⟨l1, l2, l3⟩, hH, hT, -⟩ := hI0
  have hM0 := hM
  obtain ⟨h0, h1, h2, h3, h4, h5, h6, h7, h8, h9⟩ := hM0
  simp (disch := (first | omega | fail)) only [sf_e, Nat.reduceMul, Nat.reduceAdd] at n1 n2 n3 n4
  have c5 : (A 5).length = 8 := l1.1
  have c7 : (A 7).length = 8 := l1.2.1
  have c10 : (A 10).length = 20 := l1.2.2.1
  have c12 : (A 12).length = 20 := l1.2.2.2.1
  have c14 : (A 14).length = 20 := l1.2.2.2.2.1
  have c16 : (A 16).length = 20 := l1.2.2.2.2.2.1
  have c18 : (A 18).length = 8 := l1.2.2.2.2.2.2.1
  have c21 : (A 21).length = 60 := l1.2.2.2.2.2.2.2.1
  have c23 : (A 23).length = 60 := l1.2.2.2.2.2.2.2.2.1
  have c25 : (A 25).length = 60 := l1.2.2.2.2.2.2.2.2.2.1
  have c27 : (A 27).length = 60 := l1.2.2.2.2.2.2.2.2.2.2.1
  have c29 : (A 29).length = 60 := l1.2.2.2.2.2.2.2.2.2.2.2.1
  have c31 : (A 31).length = 60 := l1.2.2.2.2.2.2.2.2.2.2.2.2.1
  have c33 : (A 33).length = 4 := l1.2.2.2.2.2.2.2.2.2.2.2.2.2
  have iL := fun x => s_isLot (A := A) (F := F) (P := P) n2 (by omega) x
  have iB := fun x => s_isBidder (A := A) (F := F) (P := P) n3 (by omega) x
  have iX := fun x => s_isBid (A := A) (F := F) (P := P) n4 (by omega) x
  rw [e_Pa_addBidder 1 _ _ rfl]
  simp (maxSteps := 2000000) (disch := (first | omega | (simp (disch := omega) only [up_eq, up_ne, cpA_o, List.length_set] <;> omega) | fail)) only [ob_s, am_bi_s, am_bv_s, am_bl_s, ↓bif_d, lits, nI_addS, nI_mulS, nI_subS, nI_lt', nI_le', nI_eq', ↓rd_nI, ↓wrH, up_eq, up_ne, up_up, up_sw, List.set_set, g_seq, g_sne, Nat.reduceEqDiff, ↓reduceIte, List.length_set, Nat.add_sub_cancel_left, Nat.add_sub_cancel, ite_true, ite_false, if_true, if_false, not_true_eq_false, not_false_eq_true, Bool.and_true, Bool.true_and, true_or, or_true, false_or, or_false, and_true, true_and, and_false, false_and, Nat.not_lt_zero, hpRX, hpIX, hpFX, hpLX, hpSX, ↓rgX, ↓rpX, Nat.reduceLeDiff, Nat.reduceLT, Nat.reduceAdd, Nat.reduceMul, Nat.reduceSub, iL, iB, iX, s_out, b01_0, n1, n2, n3, n4, g0]
theorem k_addBidder_e1 (hI : InvN A F P nB nl nb nx q t) (x : Int32) (g0 : ¬ (x < nI 0 ∨ nI 10000000 < x)) (g1 : nb = 8) : am_cl m_Pa_addBidder (.ref 1 :: [.int x]) (heap A F P) = some (some (.int (-nI 3)), heap A F P) := by
  have hI0 := hI
  obtain ⟨⟨hM, ⟨n1, n2, n3, n4⟩, hSB, hSL, hSM, hSX, hSS⟩, ⟨l1, l2, l3⟩, hH, hT, -⟩ := hI0
  have hM0 := hM
  obtain ⟨h0, h1, h2, h3, h4, h5, h6, h7, h8, h9⟩ := hM0
  simp (disch := (first | omega | fail)) only [sf_e, Nat.reduceMul, Nat.reduceAdd] at n1 n2 n3 n4
  have c5 : (A 5).length = 8 := l1.1
  have c7 : (A 7).length = 8 := l1.2.1
  have c10 : (A 10).length = 20 := l1.2.2.1
  have c12 : (A 12).length = 20 := l1.2.2.2.1
  have c14 : (A 14).length = 20 := l1.2.2.2.2.1
  have c16 : (A 16).length = 20 := l1.2.2.2.2.2.1
  have c18 : (A 18).length = 8 := l1.2.2.2.2.2.2.1
  have c21 : (A 21).length = 60 := l1.2.2.2.2.2.2.2.1
  have c23 : (A 23).length = 60 := l1.2.2.2.2.2.2.2.2.1
  have c25 : (A 25).length = 60 := l1.2.2.2.2.2.2.2.2.2.1
  have c27 : (A 27).length = 60 := l1.2.2.2.2.2.2.2.2.2.2.1
  have c29 : (A 29).length = 60 := l1.2.2.2.2.2.2.2.2.2.2.2.1
  have c31 : (A 31).length = 60 := l1.2.2.2.2.2.2.2.2.2.2.2.2.1
  have c33 : (A 33).length = 4 := l1.2.2.2.2.2.2.2.2.2.2.2.2.2
  have iL := fun x => s_isLot (A := A) (F := F) (P := P) n2 (by omega) x
  have iB := fun x => s_isBidder (A := A) (F := F) (P := P) n3 (by omega) x
  have iX := fun x => s_isBid (A := A) (F := F) (P := P) n4 (by omega) x
  have cn : ¬ nb < 8 := by omega
  rw [e_Pa_addBidder 1 _ _ rfl]
  simp (maxSteps := 2000000) (disch := (first | omega | (simp (disch := omega) only [up_eq, up_ne, cpA_o, List.length_set] <;> omega) | fail)) only [ob_s, am_bi_s, am_bv_s, am_bl_s, ↓bif_d, lits, nI_addS, nI_mulS, nI_subS, nI_lt', nI_le', nI_eq', ↓rd_nI, ↓wrH, up_eq, up_ne, up_up, up_sw, List.set_set, g_seq, g_sne, Nat.reduceEqDiff, ↓reduceIte, List.length_set, Nat.add_sub_cancel_left, Nat.add_sub_cancel, ite_true, ite_false, if_true, if_false, not_true_eq_false, not_false_eq_true, Bool.and_true, Bool.true_and, true_or, or_true, false_or, or_false, and_true, true_and, and_false, false_and, Nat.not_lt_zero, hpRX, hpIX, hpFX, hpLX, hpSX, ↓rgX, ↓rpX, Nat.reduceLeDiff, Nat.reduceLT, Nat.reduceAdd, Nat.reduceMul, Nat.reduceSub, iL, iB, iX, s_out, b01_0, n1, n2, n3, n4, g0, g1, cn]
theorem k_addBidder (hI : InvN A F P nB nl nb nx q t) (x : Int32) (g0 : ¬ (x < nI 0 ∨ nI 10000000 < x)) (g1 : ¬ (nb = 8)) : Act m_Pa_addBidder [.int x] A F P (.int (nI nb)) (((A 193).set (99 + nb) x).set 98 (nI (nb + 1))) (nB) (nl) (nb + 1) (nx) q t := by
  have hI0 := hI
  obtain ⟨⟨hM, ⟨n1, n2, n3, n4⟩, hSB, hSL, hSM, hSX, hSS⟩, ⟨l1, l2, l3⟩, hH, hT, -⟩ := hI0
  have hM0 := hM
  obtain ⟨h0, h1, h2, h3, h4, h5, h6, h7, h8, h9⟩ := hM0
  simp (disch := (first | omega | fail)) only [sf_e, Nat.reduceMul, Nat.reduceAdd] at n1 n2 n3 n4
  have c5 : (A 5).length = 8 := l1.1
  have c7 : (A 7).length = 8 := l1.2.1
  have c10 : (A 10).length = 20 := l1.2.2.1
  have c12 : (A 12).length = 20 := l1.2.2.2.1
  have c14 : (A 14).length = 20 := l1.2.2.2.2.1
  have c16 : (A 16).length = 20 := l1.2.2.2.2.2.1
  have c18 : (A 18).length = 8 := l1.2.2.2.2.2.2.1
  have c21 : (A 21).length = 60 := l1.2.2.2.2.2.2.2.1
  have c23 : (A 23).length = 60 := l1.2.2.2.2.2.2.2.2.1
  have c25 : (A 25).length = 60 := l1.2.2.2.2.2.2.2.2.2.1
  have c27 : (A 27).length = 60 := l1.2.2.2.2.2.2.2.2.2.2.1
  have c29 : (A 29).length = 60 := l1.2.2.2.2.2.2.2.2.2.2.2.1
  have c31 : (A 31).length = 60 := l1.2.2.2.2.2.2.2.2.2.2.2.2.1
  have c33 : (A 33).length = 4 := l1.2.2.2.2.2.2.2.2.2.2.2.2.2
  have iL := fun x => s_isLot (A := A) (F := F) (P := P) n2 (by omega) x
  have iB := fun x => s_isBidder (A := A) (F := F) (P := P) n3 (by omega) x
  have iX := fun x => s_isBid (A := A) (F := F) (P := P) n4 (by omega) x
  have cn : nb < 8 := by omega
  obtain ⟨b, H', hb, b1, b2, hba, hH0, hH1, hH2⟩ := act_pre hI
  refine ⟨up (up (up (cpA A 2 b) 18 ((A 18).set nb x)) 193 (((A 193).set (99 + nb) x).set 98 (nI (nb + 1)))) 194 H', up (up (up (up (cpF F 2 b) 203 (nI (nb + 1))) 3401 (nI (kp q + 1))) 16410 (nI 0)) 19202 (nI (kp q + 1)), Pk q P, ?_, ?_, ?_, ?_, ?_, ?_, ?_⟩
  · rw [gh194, gh193, ghF2, e_Pa_addBidder 1 _ _ rfl]
    simp (maxSteps := 2000000) (disch := (first | omega | (simp (disch := omega) only [up_eq, up_ne, cpA_o, List.length_set] <;> omega) | fail)) only [ob_s, am_bi_s, am_bv_s, am_bl_s, ↓bif_d, lits, nI_addS, nI_mulS, nI_subS, nI_lt', nI_le', nI_eq', ↓rd_nI, ↓wrH, up_eq, up_ne, up_up, up_sw, List.set_set, g_seq, g_sne, Nat.reduceEqDiff, ↓reduceIte, List.length_set, Nat.add_sub_cancel_left, Nat.add_sub_cancel, ite_true, ite_false, if_true, if_false, not_true_eq_false, not_false_eq_true, Bool.and_true, Bool.true_and, true_or, or_true, false_or, or_false, and_true, true_and, and_false, false_and, Nat.not_lt_zero, hpRX, hpIX, hpFX, hpLX, hpSX, ↓rgX, ↓rpX, Nat.reduceLeDiff, Nat.reduceLT, Nat.reduceAdd, Nat.reduceMul, Nat.reduceSub, iL, iB, iX, s_out, b01_0, n1, n2, n3, n4, hba, cpA_o, cpF_o, g0, g1, cn]
  · refine act_done (r' := (((A 193).set (99 + nb) x).set 98 (nI (nb + 1)))) hI hb hH0 hH1 hH2 ?_ ?_ ?_ ?_ ?_ ?_ ?_ ?_ ?_ ?_ ?_ ?_
    · intro j z1 z2; simp (disch := (first | omega | fail)) only [st_e, sf_e, Nat.reduceAdd, Nat.reduceMul, up_eq, up_ne, cpA_o, cpF_o]
    · intro j z1 z2 z3; simp (disch := (first | omega | fail)) only [st_e, sf_e, Nat.reduceAdd, Nat.reduceMul, up_eq, up_ne, cpA_o, cpF_o]
    · simp (disch := (first | omega | fail)) only [st_e, sf_e, Nat.reduceAdd, Nat.reduceMul, up_eq, up_ne, cpA_o, cpF_o]
    · intro k z1 z2; simp (disch := (first | omega | fail)) only [st_e, sf_e, Nat.reduceAdd, Nat.reduceMul, up_eq, up_ne, cpA_o, cpF_o]
    · simp (disch := (first | omega | fail)) only [st_e, sf_e, Nat.reduceAdd, Nat.reduceMul, up_eq, up_ne, cpA_o, cpF_o]
    · simp (disch := (first | omega | fail)) only [st_e, sf_e, Nat.reduceAdd, Nat.reduceMul, up_eq, up_ne, cpA_o, cpF_o]
    · simp (disch := (first | omega | fail)) only [st_e, sf_e, Nat.reduceAdd, Nat.reduceMul, up_eq, up_ne, cpA_o, cpF_o]
    · simp (disch := (first | omega | fail)) only [st_e, sf_e, Nat.reduceAdd, Nat.reduceMul, up_eq, up_ne, cpA_o, cpF_o]
    · simp (disch := (first | omega | fail)) only [st_e, sf_e, Nat.reduceAdd, Nat.reduceMul, up_eq, up_ne, cpA_o, cpF_o]
    · unfold LenS; simp (disch := (first | omega | (simp (disch := omega) only [up_eq, up_ne, cpA_o, List.length_set] <;> omega) | fail)) only [st_e, sf_e, Nat.reduceAdd, Nat.reduceMul, up_eq, up_ne, cpA_o, cpF_o, g_seq, g_sne, List.length_set]; exact l1
    · simp (disch := (first | omega | fail)) only [st_e, sf_e, Nat.reduceAdd, Nat.reduceMul, up_eq, up_ne, cpA_o, cpF_o]
    · refine ⟨?_, ?_, ?_, ?_, ?_, ?_, ?_⟩
      · refine ⟨by simp (disch := (first | omega | (simp (disch := omega) only [up_eq, up_ne, cpA_o, List.length_set] <;> omega) | fail)) only [st_e, sf_e, Nat.reduceAdd, Nat.reduceMul, up_eq, up_ne, cpA_o, cpF_o, g_seq, g_sne, List.length_set]; exact h0, by simp (disch := (first | omega | (simp (disch := omega) only [up_eq, up_ne, cpA_o, List.length_set] <;> omega) | fail)) only [st_e, sf_e, Nat.reduceAdd, Nat.reduceMul, up_eq, up_ne, cpA_o, cpF_o, g_seq, g_sne, List.length_set] <;> exact h1, by simp (disch := (first | omega | (simp (disch := omega) only [up_eq, up_ne, cpA_o, List.length_set] <;> omega) | fail)) only [st_e, sf_e, Nat.reduceAdd, Nat.reduceMul, up_eq, up_ne, cpA_o, cpF_o, g_seq, g_sne, List.length_set] <;> exact h2, by simp (disch := (first | omega | (simp (disch := omega) only [up_eq, up_ne, cpA_o, List.length_set] <;> omega) | fail)) only [st_e, sf_e, Nat.reduceAdd, Nat.reduceMul, up_eq, up_ne, cpA_o, cpF_o, g_seq, g_sne, List.length_set] <;> exact h3, by simp (disch := (first | omega | (simp (disch := omega) only [up_eq, up_ne, cpA_o, List.length_set] <;> omega) | fail)) only [st_e, sf_e, Nat.reduceAdd, Nat.reduceMul, up_eq, up_ne, cpA_o, cpF_o, g_seq, g_sne, List.length_set] <;> exact h4, by omega, by omega, by omega, by omega, by omega⟩
      · refine ⟨by simp (disch := (first | omega | (simp (disch := omega) only [up_eq, up_ne, cpA_o, List.length_set] <;> omega) | fail)) only [st_e, sf_e, Nat.reduceAdd, Nat.reduceMul, up_eq, up_ne, cpA_o, cpF_o, g_seq, g_sne, List.length_set] <;> exact n1, by simp (disch := (first | omega | (simp (disch := omega) only [up_eq, up_ne, cpA_o, List.length_set] <;> omega) | fail)) only [st_e, sf_e, Nat.reduceAdd, Nat.reduceMul, up_eq, up_ne, cpA_o, cpF_o, g_seq, g_sne, List.length_set] <;> exact n2, by simp (disch := (first | omega | (simp (disch := omega) only [up_eq, up_ne, cpA_o, List.length_set] <;> omega) | fail)) only [st_e, sf_e, Nat.reduceAdd, Nat.reduceMul, up_eq, up_ne, cpA_o, cpF_o, g_seq, g_sne, List.length_set] <;> exact n3, by simp (disch := (first | omega | (simp (disch := omega) only [up_eq, up_ne, cpA_o, List.length_set] <;> omega) | fail)) only [st_e, sf_e, Nat.reduceAdd, Nat.reduceMul, up_eq, up_ne, cpA_o, cpF_o, g_seq, g_sne, List.length_set] <;> exact n4⟩
      · exact SimB_c h6 (fun j z1 z2 => by simp (disch := (first | omega | (simp only [List.length_set] <;> omega) | fail)) only [g_seq, g_sne, List.length_set]) (by simp (disch := (first | omega | fail)) only [st_e, sf_e, Nat.reduceAdd, Nat.reduceMul, up_eq, up_ne, cpA_o, cpF_o]) (by simp (disch := (first | omega | fail)) only [st_e, sf_e, Nat.reduceAdd, Nat.reduceMul, up_eq, up_ne, cpA_o, cpF_o]) h5 hSB
      · exact SimL_c h7 (fun j z1 z2 => by simp (disch := (first | omega | (simp only [List.length_set] <;> omega) | fail)) only [g_seq, g_sne, List.length_set]) (by simp (disch := (first | omega | fail)) only [st_e, sf_e, Nat.reduceAdd, Nat.reduceMul, up_eq, up_ne, cpA_o, cpF_o]) (by simp (disch := (first | omega | fail)) only [st_e, sf_e, Nat.reduceAdd, Nat.reduceMul, up_eq, up_ne, cpA_o, cpF_o]) (by simp (disch := (first | omega | fail)) only [st_e, sf_e, Nat.reduceAdd, Nat.reduceMul, up_eq, up_ne, cpA_o, cpF_o]) (by simp (disch := (first | omega | fail)) only [st_e, sf_e, Nat.reduceAdd, Nat.reduceMul, up_eq, up_ne, cpA_o, cpF_o]) hSL
      · intro i hi
        by_cases e : i = nb
        · subst e
          exact ⟨by simp (disch := (first | omega | (simp (disch := omega) only [up_eq, up_ne, cpA_o, List.length_set] <;> omega) | fail)) only [st_e, sf_e, Nat.reduceAdd, Nat.reduceMul, up_eq, up_ne, cpA_o, cpF_o, g_seq, g_sne, List.length_set] <;> exact rfl, by simp (disch := (first | omega | (simp (disch := omega) only [up_eq, up_ne, cpA_o, List.length_set] <;> omega) | fail)) only [st_e, sf_e, Nat.reduceAdd, Nat.reduceMul, up_eq, up_ne, cpA_o, cpF_o, g_seq, g_sne, List.length_set] <;> exact (rg_iff (by omega) (by omega)).mpr g0⟩
        · obtain ⟨p0, p1⟩ := hSM i (by omega)
          simp (disch := (first | omega | fail)) only [st_e, Nat.reduceAdd] at p0
          exact ⟨by simp (disch := (first | omega | (simp (disch := omega) only [up_eq, up_ne, cpA_o, List.length_set] <;> omega) | fail)) only [st_e, sf_e, Nat.reduceAdd, Nat.reduceMul, up_eq, up_ne, cpA_o, cpF_o, g_seq, g_sne, List.length_set] <;> exact p0, by simp (disch := (first | omega | (simp (disch := omega) only [up_eq, up_ne, cpA_o, List.length_set] <;> omega) | fail)) only [st_e, sf_e, Nat.reduceAdd, Nat.reduceMul, up_eq, up_ne, cpA_o, cpF_o, g_seq, g_sne, List.length_set] <;> exact p1⟩
      · exact SimX_c h9 (by omega) (by omega) (fun j z1 z2 => by simp (disch := (first | omega | (simp only [List.length_set] <;> omega) | fail)) only [g_seq, g_sne, List.length_set]) (by simp (disch := (first | omega | fail)) only [st_e, sf_e, Nat.reduceAdd, Nat.reduceMul, up_eq, up_ne, cpA_o, cpF_o]) (by simp (disch := (first | omega | fail)) only [st_e, sf_e, Nat.reduceAdd, Nat.reduceMul, up_eq, up_ne, cpA_o, cpF_o]) (by simp (disch := (first | omega | fail)) only [st_e, sf_e, Nat.reduceAdd, Nat.reduceMul, up_eq, up_ne, cpA_o, cpF_o]) (by simp (disch := (first | omega | fail)) only [st_e, sf_e, Nat.reduceAdd, Nat.reduceMul, up_eq, up_ne, cpA_o, cpF_o]) (by simp (disch := (first | omega | fail)) only [st_e, sf_e, Nat.reduceAdd, Nat.reduceMul, up_eq, up_ne, cpA_o, cpF_o]) (by simp (disch := (first | omega | fail)) only [st_e, sf_e, Nat.reduceAdd, Nat.reduceMul, up_eq, up_ne, cpA_o, cpF_o]) hSX
      · exact SimS_c (fun j z1 z2 => by simp (disch := (first | omega | (simp only [List.length_set] <;> omega) | fail)) only [g_seq, g_sne, List.length_set]) (by simp (disch := (first | omega | fail)) only [st_e, sf_e, Nat.reduceAdd, Nat.reduceMul, up_eq, up_ne, cpA_o, cpF_o]) hSS
  · simp (disch := (first | omega | fail)) only [st_e, sf_e, Nat.reduceAdd, Nat.reduceMul, up_eq, up_ne, cpA_o, cpF_o]
  · rw [up_eq]; exact hH1
  · simp (disch := (first | omega | fail)) only [st_e, sf_e, Nat.reduceAdd, Nat.reduceMul, up_eq, up_ne, cpA_o, cpF_o]
  · simp (disch := (first | omega | fail)) only [st_e, sf_e, Nat.reduceAdd, Nat.reduceMul, up_eq, up_ne, cpA_o, cpF_o]
  · intro j hj; simp (disch := (first | omega | fail)) only [st_e, sf_e, Nat.reduceAdd, Nat.reduceMul, up_eq, up_ne, cpA_o, cpF_o]
theorem k_set0_e0 (hI : InvN A F P nB nl nb nx q t) (v : Int32) (g0 : v < nI 0 ∨ nI 100000 < v) : am_cl m_Pa_set (.ref 1 :: [.int (nI 0), .int v]) (heap A F P) = some (some (.int (-nI 2)), heap A F P) := by
  have hI0 := hI
  obtain ⟨⟨hM, ⟨n1, n2, n3, n4⟩, hSB, hSL, hSM, hSX, hSS⟩, ⟨l1, l2, l3⟩, hH, hT, -⟩ := hI0
  have hM0 := hM
  obtain ⟨h0, h1, h2, h3, h4, h5, h6, h7, h8, h9⟩ := hM0
  simp (disch := (first | omega | fail)) only [sf_e, Nat.reduceMul, Nat.reduceAdd] at n1 n2 n3 n4
  have c5 : (A 5).length = 8 := l1.1
  have c7 : (A 7).length = 8 := l1.2.1
  have c10 : (A 10).length = 20 := l1.2.2.1
  have c12 : (A 12).length = 20 := l1.2.2.2.1
  have c14 : (A 14).length = 20 := l1.2.2.2.2.1
  have c16 : (A 16).length = 20 := l1.2.2.2.2.2.1
  have c18 : (A 18).length = 8 := l1.2.2.2.2.2.2.1
  have c21 : (A 21).length = 60 := l1.2.2.2.2.2.2.2.1
  have c23 : (A 23).length = 60 := l1.2.2.2.2.2.2.2.2.1
  have c25 : (A 25).length = 60 := l1.2.2.2.2.2.2.2.2.2.1
  have c27 : (A 27).length = 60 := l1.2.2.2.2.2.2.2.2.2.2.1
  have c29 : (A 29).length = 60 := l1.2.2.2.2.2.2.2.2.2.2.2.1
  have c31 : (A 31).length = 60 := l1.2.2.2.2.2.2.2.2.2.2.2.2.1
  have c33 : (A 33).length = 4 := l1.2.2.2.2.2.2.2.2.2.2.2.2.2
  have iL := fun x => s_isLot (A := A) (F := F) (P := P) n2 (by omega) x
  have iB := fun x => s_isBidder (A := A) (F := F) (P := P) n3 (by omega) x
  have iX := fun x => s_isBid (A := A) (F := F) (P := P) n4 (by omega) x
  have hvv : g (A 33) 0 = g (A 193) 468 := by
    have := hSS.1 0 (by omega)
    simp (disch := (first | omega | fail)) only [st_e, Nat.reduceAdd] at this
    exact this
  rw [e_Pa_set 1 _ _ _ rfl]
  simp (maxSteps := 2000000) (disch := (first | omega | (simp (disch := omega) only [up_eq, up_ne, cpA_o, List.length_set] <;> omega) | fail)) only [ob_s, am_bi_s, am_bv_s, am_bl_s, ↓bif_d, lits, nI_addS, nI_mulS, nI_subS, nI_lt', nI_le', nI_eq', ↓rd_nI, ↓wrH, up_eq, up_ne, up_up, up_sw, List.set_set, g_seq, g_sne, Nat.reduceEqDiff, ↓reduceIte, List.length_set, Nat.add_sub_cancel_left, Nat.add_sub_cancel, ite_true, ite_false, if_true, if_false, not_true_eq_false, not_false_eq_true, Bool.and_true, Bool.true_and, true_or, or_true, false_or, or_false, and_true, true_and, and_false, false_and, Nat.not_lt_zero, hpRX, hpIX, hpFX, hpLX, hpSX, ↓rgX, ↓rpX, Nat.reduceLeDiff, Nat.reduceLT, Nat.reduceAdd, Nat.reduceMul, Nat.reduceSub, iL, iB, iX, s_out, b01_0, e_Pa_mostOfSetting, Nat.reduceLT, Nat.reduceLeDiff, n1, n2, n3, n4, g0]
theorem k_set0 (hI : InvN A F P nB nl nb nx q t) (v : Int32) (g0 : ¬ (v < nI 0 ∨ nI 100000 < v)) : Act m_Pa_set [.int (nI 0), .int v] A F P (.int (g (A 193) 468)) ((A 193).set 468 v) (nB) (nl) (nb) (nx) q t := by
  have hI0 := hI
  obtain ⟨⟨hM, ⟨n1, n2, n3, n4⟩, hSB, hSL, hSM, hSX, hSS⟩, ⟨l1, l2, l3⟩, hH, hT, -⟩ := hI0
  have hM0 := hM
  obtain ⟨h0, h1, h2, h3, h4, h5, h6, h7, h8, h9⟩ := hM0
  simp (disch := (first | omega | fail)) only [sf_e, Nat.reduceMul, Nat.reduceAdd] at n1 n2 n3 n4
  have c5 : (A 5).length = 8 := l1.1
  have c7 : (A 7).length = 8 := l1.2.1
  have c10 : (A 10).length = 20 := l1.2.2.1
  have c12 : (A 12).length = 20 := l1.2.2.2.1
  have c14 : (A 14).length = 20 := l1.2.2.2.2.1
  have c16 : (A 16).length = 20 := l1.2.2.2.2.2.1
  have c18 : (A 18).length = 8 := l1.2.2.2.2.2.2.1
  have c21 : (A 21).length = 60 := l1.2.2.2.2.2.2.2.1
  have c23 : (A 23).length = 60 := l1.2.2.2.2.2.2.2.2.1
  have c25 : (A 25).length = 60 := l1.2.2.2.2.2.2.2.2.2.1
  have c27 : (A 27).length = 60 := l1.2.2.2.2.2.2.2.2.2.2.1
  have c29 : (A 29).length = 60 := l1.2.2.2.2.2.2.2.2.2.2.2.1
  have c31 : (A 31).length = 60 := l1.2.2.2.2.2.2.2.2.2.2.2.2.1
  have c33 : (A 33).length = 4 := l1.2.2.2.2.2.2.2.2.2.2.2.2.2
  have iL := fun x => s_isLot (A := A) (F := F) (P := P) n2 (by omega) x
  have iB := fun x => s_isBidder (A := A) (F := F) (P := P) n3 (by omega) x
  have iX := fun x => s_isBid (A := A) (F := F) (P := P) n4 (by omega) x
  have hvv : g (A 33) 0 = g (A 193) 468 := by
    have := hSS.1 0 (by omega)
    simp (disch := (first | omega | fail)) only [st_e, Nat.reduceAdd] at this
    exact this
  obtain ⟨b, H', hb, b1, b2, hba, hH0, hH1, hH2⟩ := act_pre hI
  refine ⟨up (up (up (cpA A 2 b) 33 ((A 33).set 0 v)) 193 ((A 193).set 468 v)) 194 H', up (up (up (cpF F 2 b) 3401 (nI (kp q + 1))) 16410 (nI 0)) 19202 (nI (kp q + 1)), Pk q P, ?_, ?_, ?_, ?_, ?_, ?_, ?_⟩
  · rw [gh194, gh193, ghF2, e_Pa_set 1 _ _ _ rfl]
    simp (maxSteps := 2000000) (disch := (first | omega | (simp (disch := omega) only [up_eq, up_ne, cpA_o, List.length_set] <;> omega) | fail)) only [ob_s, am_bi_s, am_bv_s, am_bl_s, ↓bif_d, lits, nI_addS, nI_mulS, nI_subS, nI_lt', nI_le', nI_eq', ↓rd_nI, ↓wrH, up_eq, up_ne, up_up, up_sw, List.set_set, g_seq, g_sne, Nat.reduceEqDiff, ↓reduceIte, List.length_set, Nat.add_sub_cancel_left, Nat.add_sub_cancel, ite_true, ite_false, if_true, if_false, not_true_eq_false, not_false_eq_true, Bool.and_true, Bool.true_and, true_or, or_true, false_or, or_false, and_true, true_and, and_false, false_and, Nat.not_lt_zero, hpRX, hpIX, hpFX, hpLX, hpSX, ↓rgX, ↓rpX, Nat.reduceLeDiff, Nat.reduceLT, Nat.reduceAdd, Nat.reduceMul, Nat.reduceSub, iL, iB, iX, s_out, b01_0, e_Pa_mostOfSetting, Nat.reduceLT, Nat.reduceLeDiff, n1, n2, n3, n4, hba, cpA_o, cpF_o, g0, hvv]
  · refine act_done (r' := ((A 193).set 468 v)) hI hb hH0 hH1 hH2 ?_ ?_ ?_ ?_ ?_ ?_ ?_ ?_ ?_ ?_ ?_ ?_
    · intro j z1 z2; simp (disch := (first | omega | fail)) only [st_e, sf_e, Nat.reduceAdd, Nat.reduceMul, up_eq, up_ne, cpA_o, cpF_o]
    · intro j z1 z2 z3; simp (disch := (first | omega | fail)) only [st_e, sf_e, Nat.reduceAdd, Nat.reduceMul, up_eq, up_ne, cpA_o, cpF_o]
    · simp (disch := (first | omega | fail)) only [st_e, sf_e, Nat.reduceAdd, Nat.reduceMul, up_eq, up_ne, cpA_o, cpF_o]
    · intro k z1 z2; simp (disch := (first | omega | fail)) only [st_e, sf_e, Nat.reduceAdd, Nat.reduceMul, up_eq, up_ne, cpA_o, cpF_o]
    · simp (disch := (first | omega | fail)) only [st_e, sf_e, Nat.reduceAdd, Nat.reduceMul, up_eq, up_ne, cpA_o, cpF_o]
    · simp (disch := (first | omega | fail)) only [st_e, sf_e, Nat.reduceAdd, Nat.reduceMul, up_eq, up_ne, cpA_o, cpF_o]
    · simp (disch := (first | omega | fail)) only [st_e, sf_e, Nat.reduceAdd, Nat.reduceMul, up_eq, up_ne, cpA_o, cpF_o]
    · simp (disch := (first | omega | fail)) only [st_e, sf_e, Nat.reduceAdd, Nat.reduceMul, up_eq, up_ne, cpA_o, cpF_o]
    · simp (disch := (first | omega | fail)) only [st_e, sf_e, Nat.reduceAdd, Nat.reduceMul, up_eq, up_ne, cpA_o, cpF_o]
    · unfold LenS; simp (disch := (first | omega | (simp (disch := omega) only [up_eq, up_ne, cpA_o, List.length_set] <;> omega) | fail)) only [st_e, sf_e, Nat.reduceAdd, Nat.reduceMul, up_eq, up_ne, cpA_o, cpF_o, g_seq, g_sne, List.length_set]; exact l1
    · simp (disch := (first | omega | fail)) only [st_e, sf_e, Nat.reduceAdd, Nat.reduceMul, up_eq, up_ne, cpA_o, cpF_o]
    · refine ⟨?_, ?_, ?_, ?_, ?_, ?_, ?_⟩
      · refine ⟨by simp (disch := (first | omega | (simp (disch := omega) only [up_eq, up_ne, cpA_o, List.length_set] <;> omega) | fail)) only [st_e, sf_e, Nat.reduceAdd, Nat.reduceMul, up_eq, up_ne, cpA_o, cpF_o, g_seq, g_sne, List.length_set]; exact h0, by simp (disch := (first | omega | (simp (disch := omega) only [up_eq, up_ne, cpA_o, List.length_set] <;> omega) | fail)) only [st_e, sf_e, Nat.reduceAdd, Nat.reduceMul, up_eq, up_ne, cpA_o, cpF_o, g_seq, g_sne, List.length_set] <;> exact h1, by simp (disch := (first | omega | (simp (disch := omega) only [up_eq, up_ne, cpA_o, List.length_set] <;> omega) | fail)) only [st_e, sf_e, Nat.reduceAdd, Nat.reduceMul, up_eq, up_ne, cpA_o, cpF_o, g_seq, g_sne, List.length_set] <;> exact h2, by simp (disch := (first | omega | (simp (disch := omega) only [up_eq, up_ne, cpA_o, List.length_set] <;> omega) | fail)) only [st_e, sf_e, Nat.reduceAdd, Nat.reduceMul, up_eq, up_ne, cpA_o, cpF_o, g_seq, g_sne, List.length_set] <;> exact h3, by simp (disch := (first | omega | (simp (disch := omega) only [up_eq, up_ne, cpA_o, List.length_set] <;> omega) | fail)) only [st_e, sf_e, Nat.reduceAdd, Nat.reduceMul, up_eq, up_ne, cpA_o, cpF_o, g_seq, g_sne, List.length_set] <;> exact h4, by omega, by omega, by omega, by omega, by omega⟩
      · refine ⟨by simp (disch := (first | omega | (simp (disch := omega) only [up_eq, up_ne, cpA_o, List.length_set] <;> omega) | fail)) only [st_e, sf_e, Nat.reduceAdd, Nat.reduceMul, up_eq, up_ne, cpA_o, cpF_o, g_seq, g_sne, List.length_set] <;> exact n1, by simp (disch := (first | omega | (simp (disch := omega) only [up_eq, up_ne, cpA_o, List.length_set] <;> omega) | fail)) only [st_e, sf_e, Nat.reduceAdd, Nat.reduceMul, up_eq, up_ne, cpA_o, cpF_o, g_seq, g_sne, List.length_set] <;> exact n2, by simp (disch := (first | omega | (simp (disch := omega) only [up_eq, up_ne, cpA_o, List.length_set] <;> omega) | fail)) only [st_e, sf_e, Nat.reduceAdd, Nat.reduceMul, up_eq, up_ne, cpA_o, cpF_o, g_seq, g_sne, List.length_set] <;> exact n3, by simp (disch := (first | omega | (simp (disch := omega) only [up_eq, up_ne, cpA_o, List.length_set] <;> omega) | fail)) only [st_e, sf_e, Nat.reduceAdd, Nat.reduceMul, up_eq, up_ne, cpA_o, cpF_o, g_seq, g_sne, List.length_set] <;> exact n4⟩
      · exact SimB_c h6 (fun j z1 z2 => by simp (disch := (first | omega | (simp only [List.length_set] <;> omega) | fail)) only [g_seq, g_sne, List.length_set]) (by simp (disch := (first | omega | fail)) only [st_e, sf_e, Nat.reduceAdd, Nat.reduceMul, up_eq, up_ne, cpA_o, cpF_o]) (by simp (disch := (first | omega | fail)) only [st_e, sf_e, Nat.reduceAdd, Nat.reduceMul, up_eq, up_ne, cpA_o, cpF_o]) h5 hSB
      · exact SimL_c h7 (fun j z1 z2 => by simp (disch := (first | omega | (simp only [List.length_set] <;> omega) | fail)) only [g_seq, g_sne, List.length_set]) (by simp (disch := (first | omega | fail)) only [st_e, sf_e, Nat.reduceAdd, Nat.reduceMul, up_eq, up_ne, cpA_o, cpF_o]) (by simp (disch := (first | omega | fail)) only [st_e, sf_e, Nat.reduceAdd, Nat.reduceMul, up_eq, up_ne, cpA_o, cpF_o]) (by simp (disch := (first | omega | fail)) only [st_e, sf_e, Nat.reduceAdd, Nat.reduceMul, up_eq, up_ne, cpA_o, cpF_o]) (by simp (disch := (first | omega | fail)) only [st_e, sf_e, Nat.reduceAdd, Nat.reduceMul, up_eq, up_ne, cpA_o, cpF_o]) hSL
      · exact SimM_c h8 (fun j z1 z2 => by simp (disch := (first | omega | (simp only [List.length_set] <;> omega) | fail)) only [g_seq, g_sne, List.length_set]) (by simp (disch := (first | omega | fail)) only [st_e, sf_e, Nat.reduceAdd, Nat.reduceMul, up_eq, up_ne, cpA_o, cpF_o]) hSM
      · exact SimX_c h9 (by omega) (by omega) (fun j z1 z2 => by simp (disch := (first | omega | (simp only [List.length_set] <;> omega) | fail)) only [g_seq, g_sne, List.length_set]) (by simp (disch := (first | omega | fail)) only [st_e, sf_e, Nat.reduceAdd, Nat.reduceMul, up_eq, up_ne, cpA_o, cpF_o]) (by simp (disch := (first | omega | fail)) only [st_e, sf_e, Nat.reduceAdd, Nat.reduceMul, up_eq, up_ne, cpA_o, cpF_o]) (by simp (disch := (first | omega | fail)) only [st_e, sf_e, Nat.reduceAdd, Nat.reduceMul, up_eq, up_ne, cpA_o, cpF_o]) (by simp (disch := (first | omega | fail)) only [st_e, sf_e, Nat.reduceAdd, Nat.reduceMul, up_eq, up_ne, cpA_o, cpF_o]) (by simp (disch := (first | omega | fail)) only [st_e, sf_e, Nat.reduceAdd, Nat.reduceMul, up_eq, up_ne, cpA_o, cpF_o]) (by simp (disch := (first | omega | fail)) only [st_e, sf_e, Nat.reduceAdd, Nat.reduceMul, up_eq, up_ne, cpA_o, cpF_o]) hSX
      · refine ⟨fun i hi => ?_, ?_, ?_, ?_, ?_⟩
        · have p := hSS.1 i hi
          simp (disch := (first | omega | fail)) only [st_e, Nat.reduceAdd] at p
          by_cases e : i = 0
          · subst e; simp (disch := (first | omega | (simp (disch := omega) only [up_eq, up_ne, cpA_o, List.length_set] <;> omega) | fail)) only [st_e, sf_e, Nat.reduceAdd, Nat.reduceMul, up_eq, up_ne, cpA_o, cpF_o, g_seq, g_sne, List.length_set]
          · simp (disch := (first | omega | (simp (disch := omega) only [up_eq, up_ne, cpA_o, List.length_set] <;> omega) | fail)) only [st_e, sf_e, Nat.reduceAdd, Nat.reduceMul, up_eq, up_ne, cpA_o, cpF_o, g_seq, g_sne, List.length_set]; exact p
        · simp (disch := (first | omega | (simp (disch := omega) only [up_eq, up_ne, cpA_o, List.length_set] <;> omega) | fail)) only [st_e, sf_e, Nat.reduceAdd, Nat.reduceMul, up_eq, up_ne, cpA_o, cpF_o, g_seq, g_sne, List.length_set] <;> exact (rg_iff (by omega) (by omega)).mpr g0
        · simp (disch := (first | omega | (simp (disch := omega) only [up_eq, up_ne, cpA_o, List.length_set] <;> omega) | fail)) only [st_e, sf_e, Nat.reduceAdd, Nat.reduceMul, up_eq, up_ne, cpA_o, cpF_o, g_seq, g_sne, List.length_set] <;> exact hSS.2.2.1
        · simp (disch := (first | omega | (simp (disch := omega) only [up_eq, up_ne, cpA_o, List.length_set] <;> omega) | fail)) only [st_e, sf_e, Nat.reduceAdd, Nat.reduceMul, up_eq, up_ne, cpA_o, cpF_o, g_seq, g_sne, List.length_set] <;> exact hSS.2.2.2.1
        · simp (disch := (first | omega | (simp (disch := omega) only [up_eq, up_ne, cpA_o, List.length_set] <;> omega) | fail)) only [st_e, sf_e, Nat.reduceAdd, Nat.reduceMul, up_eq, up_ne, cpA_o, cpF_o, g_seq, g_sne, List.length_set] <;> exact hSS.2.2.2.2
  · simp (disch := (first | omega | fail)) only [st_e, sf_e, Nat.reduceAdd, Nat.reduceMul, up_eq, up_ne, cpA_o, cpF_o]
  · rw [up_eq]; exact hH1
  · simp (disch := (first | omega | fail)) only [st_e, sf_e, Nat.reduceAdd, Nat.reduceMul, up_eq, up_ne, cpA_o, cpF_o]
  · simp (disch := (first | omega | fail)) only [st_e, sf_e, Nat.reduceAdd, Nat.reduceMul, up_eq, up_ne, cpA_o, cpF_o]
  · intro j hj; simp (disch := (first | omega | fail)) only [st_e, sf_e, Nat.reduceAdd, Nat.reduceMul, up_eq, up_ne, cpA_o, cpF_o]
theorem k_set1_e0 (hI : InvN A F P nB nl nb nx q t) (v : Int32) (g0 : v < nI 0 ∨ nI 500 < v) : am_cl m_Pa_set (.ref 1 :: [.int (nI 1), .int v]) (heap A F P) = some (some (.int (-nI 2)), heap A F P) := by
  have hI0 := hI
  obtain ⟨⟨hM, ⟨n1, n2, n3, n4⟩, hSB, hSL, hSM, hSX, hSS⟩, ⟨l1, l2, l3⟩, hH, hT, -⟩ := hI0
  have hM0 := hM
  obtain ⟨h0, h1, h2, h3, h4, h5, h6, h7, h8, h9⟩ := hM0
  simp (disch := (first | omega | fail)) only [sf_e, Nat.reduceMul, Nat.reduceAdd] at n1 n2 n3 n4
  have c5 : (A 5).length = 8 := l1.1
  have c7 : (A 7).length = 8 := l1.2.1
  have c10 : (A 10).length = 20 := l1.2.2.1
  have c12 : (A 12).length = 20 := l1.2.2.2.1
  have c14 : (A 14).length = 20 := l1.2.2.2.2.1
  have c16 : (A 16).length = 20 := l1.2.2.2.2.2.1
  have c18 : (A 18).length = 8 := l1.2.2.2.2.2.2.1
  have c21 : (A 21).length = 60 := l1.2.2.2.2.2.2.2.1
  have c23 : (A 23).length = 60 := l1.2.2.2.2.2.2.2.2.1
  have c25 : (A 25).length = 60 := l1.2.2.2.2.2.2.2.2.2.1
  have c27 : (A 27).length = 60 := l1.2.2.2.2.2.2.2.2.2.2.1
  have c29 : (A 29).length = 60 := l1.2.2.2.2.2.2.2.2.2.2.2.1
  have c31 : (A 31).length = 60 := l1.2.2.2.2.2.2.2.2.2.2.2.2.1
  have c33 : (A 33).length = 4 := l1.2.2.2.2.2.2.2.2.2.2.2.2.2
  have iL := fun x => s_isLot (A := A) (F := F) (P := P) n2 (by omega) x
  have iB := fun x => s_isBidder (A := A) (F := F) (P := P) n3 (by omega) x
  have iX := fun x => s_isBid (A := A) (F := F) (P := P) n4 (by omega) x
  have hvv : g (A 33) 1 = g (A 193) 469 := by
    have := hSS.1 1 (by omega)
    simp (disch := (first | omega | fail)) only [st_e, Nat.reduceAdd] at this
    exact this
  rw [e_Pa_set 1 _ _ _ rfl]
  simp (maxSteps := 2000000) (disch := (first | omega | (simp (disch := omega) only [up_eq, up_ne, cpA_o, List.length_set] <;> omega) | fail)) only [ob_s, am_bi_s, am_bv_s, am_bl_s, ↓bif_d, lits, nI_addS, nI_mulS, nI_subS, nI_lt', nI_le', nI_eq', ↓rd_nI, ↓wrH, up_eq, up_ne, up_up, up_sw, List.set_set, g_seq, g_sne, Nat.reduceEqDiff, ↓reduceIte, List.length_set, Nat.add_sub_cancel_left, Nat.add_sub_cancel, ite_true, ite_false, if_true, if_false, not_true_eq_false, not_false_eq_true, Bool.and_true, Bool.true_and, true_or, or_true, false_or, or_false, and_true, true_and, and_false, false_and, Nat.not_lt_zero, hpRX, hpIX, hpFX, hpLX, hpSX, ↓rgX, ↓rpX, Nat.reduceLeDiff, Nat.reduceLT, Nat.reduceAdd, Nat.reduceMul, Nat.reduceSub, iL, iB, iX, s_out, b01_0, e_Pa_mostOfSetting, Nat.reduceLT, Nat.reduceLeDiff, n1, n2, n3, n4, g0]
theorem k_set1 (hI : InvN A F P nB nl nb nx q t) (v : Int32) (g0 : ¬ (v < nI 0 ∨ nI 500 < v)) : Act m_Pa_set [.int (nI 1), .int v] A F P (.int (g (A 193) 469)) ((A 193).set 469 v) (nB) (nl) (nb) (nx) q t := by
  have hI0 := hI
  obtain ⟨⟨hM, ⟨n1, n2, n3, n4⟩, hSB, hSL, hSM, hSX, hSS⟩, ⟨l1, l2, l3⟩, hH, hT, -⟩ := hI0
  have hM0 := hM
  obtain ⟨h0, h1, h2, h3, h4, h5, h6, h7, h8, h9⟩ := hM0
  simp (disch := (first | omega | fail)) only [sf_e, Nat.reduceMul, Nat.reduceAdd] at n1 n2 n3 n4
  have c5 : (A 5).length = 8 := l1.1
  have c7 : (A 7).length = 8 := l1.2.1
  have c10 : (A 10).length = 20 := l1.2.2.1
  have c12 : (A 12).length = 20 := l1.2.2.2.1
  have c14 : (A 14).length = 20 := l1.2.2.2.2.1
  have c16 : (A 16).length = 20 := l1.2.2.2.2.2.1
  have c18 : (A 18).length = 8 := l1.2.2.2.2.2.2.1
  have c21 : (A 21).length = 60 := l1.2.2.2.2.2.2.2.1
  have c23 : (A 23).length = 60 := l1.2.2.2.2.2.2.2.2.1
  have c25 : (A 25).length = 60 := l1.2.2.2.2.2.2.2.2.2.1
  have c27 : (A 27).length = 60 := l1.2.2.2.2.2.2.2.2.2.2.1
  have c29 : (A 29).length = 60 := l1.2.2.2.2.2.2.2.2.2.2.2.1
  have c31 : (A 31).length = 60 := l1.2.2.2.2.2.2.2.2.2.2.2.2.1
  have c33 : (A 33).length = 4 := l1.2.2.2.2.2.2.2.2.2.2.2.2.2
  have iL := fun x => s_isLot (A := A) (F := F) (P := P) n2 (by omega) x
  have iB := fun x => s_isBidder (A := A) (F := F) (P := P) n3 (by omega) x
  have iX := fun x => s_isBid (A := A) (F := F) (P := P) n4 (by omega) x
  have hvv : g (A 33) 1 = g (A 193) 469 := by
    have := hSS.1 1 (by omega)
    simp (disch := (first | omega | fail)) only [st_e, Nat.reduceAdd] at this
    exact this
  obtain ⟨b, H', hb, b1, b2, hba, hH0, hH1, hH2⟩ := act_pre hI
  refine ⟨up (up (up (cpA A 2 b) 33 ((A 33).set 1 v)) 193 ((A 193).set 469 v)) 194 H', up (up (up (cpF F 2 b) 3401 (nI (kp q + 1))) 16410 (nI 0)) 19202 (nI (kp q + 1)), Pk q P, ?_, ?_, ?_, ?_, ?_, ?_, ?_⟩
  · rw [gh194, gh193, ghF2, e_Pa_set 1 _ _ _ rfl]
    simp (maxSteps := 2000000) (disch := (first | omega | (simp (disch := omega) only [up_eq, up_ne, cpA_o, List.length_set] <;> omega) | fail)) only [ob_s, am_bi_s, am_bv_s, am_bl_s, ↓bif_d, lits, nI_addS, nI_mulS, nI_subS, nI_lt', nI_le', nI_eq', ↓rd_nI, ↓wrH, up_eq, up_ne, up_up, up_sw, List.set_set, g_seq, g_sne, Nat.reduceEqDiff, ↓reduceIte, List.length_set, Nat.add_sub_cancel_left, Nat.add_sub_cancel, ite_true, ite_false, if_true, if_false, not_true_eq_false, not_false_eq_true, Bool.and_true, Bool.true_and, true_or, or_true, false_or, or_false, and_true, true_and, and_false, false_and, Nat.not_lt_zero, hpRX, hpIX, hpFX, hpLX, hpSX, ↓rgX, ↓rpX, Nat.reduceLeDiff, Nat.reduceLT, Nat.reduceAdd, Nat.reduceMul, Nat.reduceSub, iL, iB, iX, s_out, b01_0, e_Pa_mostOfSetting, Nat.reduceLT, Nat.reduceLeDiff, n1, n2, n3, n4, hba, cpA_o, cpF_o, g0, hvv]
  · refine act_done (r' := ((A 193).set 469 v)) hI hb hH0 hH1 hH2 ?_ ?_ ?_ ?_ ?_ ?_ ?_ ?_ ?_ ?_ ?_ ?_
    · intro j z1 z2; simp (disch := (first | omega | fail)) only [st_e, sf_e, Nat.reduceAdd, Nat.reduceMul, up_eq, up_ne, cpA_o, cpF_o]
    · intro j z1 z2 z3; simp (disch := (first | omega | fail)) only [st_e, sf_e, Nat.reduceAdd, Nat.reduceMul, up_eq, up_ne, cpA_o, cpF_o]
    · simp (disch := (first | omega | fail)) only [st_e, sf_e, Nat.reduceAdd, Nat.reduceMul, up_eq, up_ne, cpA_o, cpF_o]
    · intro k z1 z2; simp (disch := (first | omega | fail)) only [st_e, sf_e, Nat.reduceAdd, Nat.reduceMul, up_eq, up_ne, cpA_o, cpF_o]
    · simp (disch := (first | omega | fail)) only [st_e, sf_e, Nat.reduceAdd, Nat.reduceMul, up_eq, up_ne, cpA_o, cpF_o]
    · simp (disch := (first | omega | fail)) only [st_e, sf_e, Nat.reduceAdd, Nat.reduceMul, up_eq, up_ne, cpA_o, cpF_o]
    · simp (disch := (first | omega | fail)) only [st_e, sf_e, Nat.reduceAdd, Nat.reduceMul, up_eq, up_ne, cpA_o, cpF_o]
    · simp (disch := (first | omega | fail)) only [st_e, sf_e, Nat.reduceAdd, Nat.reduceMul, up_eq, up_ne, cpA_o, cpF_o]
    · simp (disch := (first | omega | fail)) only [st_e, sf_e, Nat.reduceAdd, Nat.reduceMul, up_eq, up_ne, cpA_o, cpF_o]
    · unfold LenS; simp (disch := (first | omega | (simp (disch := omega) only [up_eq, up_ne, cpA_o, List.length_set] <;> omega) | fail)) only [st_e, sf_e, Nat.reduceAdd, Nat.reduceMul, up_eq, up_ne, cpA_o, cpF_o, g_seq, g_sne, List.length_set]; exact l1
    · simp (disch := (first | omega | fail)) only [st_e, sf_e, Nat.reduceAdd, Nat.reduceMul, up_eq, up_ne, cpA_o, cpF_o]
    · refine ⟨?_, ?_, ?_, ?_, ?_, ?_, ?_⟩
      · refine ⟨by simp (disch := (first | omega | (simp (disch := omega) only [up_eq, up_ne, cpA_o, List.length_set] <;> omega) | fail)) only [st_e, sf_e, Nat.reduceAdd, Nat.reduceMul, up_eq, up_ne, cpA_o, cpF_o, g_seq, g_sne, List.length_set]; exact h0, by simp (disch := (first | omega | (simp (disch := omega) only [up_eq, up_ne, cpA_o, List.length_set] <;> omega) | fail)) only [st_e, sf_e, Nat.reduceAdd, Nat.reduceMul, up_eq, up_ne, cpA_o, cpF_o, g_seq, g_sne, List.length_set] <;> exact h1, by simp (disch := (first | omega | (simp (disch := omega) only [up_eq, up_ne, cpA_o, List.length_set] <;> omega) | fail)) only [st_e, sf_e, Nat.reduceAdd, Nat.reduceMul, up_eq, up_ne, cpA_o, cpF_o, g_seq, g_sne, List.length_set] <;> exact h2, by simp (disch := (first | omega | (simp (disch := omega) only [up_eq, up_ne, cpA_o, List.length_set] <;> omega) | fail)) only [st_e, sf_e, Nat.reduceAdd, Nat.reduceMul, up_eq, up_ne, cpA_o, cpF_o, g_seq, g_sne, List.length_set] <;> exact h3, by simp (disch := (first | omega | (simp (disch := omega) only [up_eq, up_ne, cpA_o, List.length_set] <;> omega) | fail)) only [st_e, sf_e, Nat.reduceAdd, Nat.reduceMul, up_eq, up_ne, cpA_o, cpF_o, g_seq, g_sne, List.length_set] <;> exact h4, by omega, by omega, by omega, by omega, by omega⟩
      · refine ⟨by simp (disch := (first | omega | (simp (disch := omega) only [up_eq, up_ne, cpA_o, List.length_set] <;> omega) | fail)) only [st_e, sf_e, Nat.reduceAdd, Nat.reduceMul, up_eq, up_ne, cpA_o, cpF_o, g_seq, g_sne, List.length_set] <;> exact n1, by simp (disch := (first | omega | (simp (disch := omega) only [up_eq, up_ne, cpA_o, List.length_set] <;> omega) | fail)) only [st_e, sf_e, Nat.reduceAdd, Nat.reduceMul, up_eq, up_ne, cpA_o, cpF_o, g_seq, g_sne, List.length_set] <;> exact n2, by simp (disch := (first | omega | (simp (disch := omega) only [up_eq, up_ne, cpA_o, List.length_set] <;> omega) | fail)) only [st_e, sf_e, Nat.reduceAdd, Nat.reduceMul, up_eq, up_ne, cpA_o, cpF_o, g_seq, g_sne, List.length_set] <;> exact n3, by simp (disch := (first | omega | (simp (disch := omega) only [up_eq, up_ne, cpA_o, List.length_set] <;> omega) | fail)) only [st_e, sf_e, Nat.reduceAdd, Nat.reduceMul, up_eq, up_ne, cpA_o, cpF_o, g_seq, g_sne, List.length_set] <;> exact n4⟩
      · exact SimB_c h6 (fun j z1 z2 => by simp (disch := (first | omega | (simp only [List.length_set] <;> omega) | fail)) only [g_seq, g_sne, List.length_set]) (by simp (disch := (first | omega | fail)) only [st_e, sf_e, Nat.reduceAdd, Nat.reduceMul, up_eq, up_ne, cpA_o, cpF_o]) (by simp (disch := (first | omega | fail)) only [st_e, sf_e, Nat.reduceAdd, Nat.reduceMul, up_eq, up_ne, cpA_o, cpF_o]) h5 hSB
      · exact SimL_c h7 (fun j z1 z2 => by simp (disch := (first | omega | (simp only [List.length_set] <;> omega) | fail)) only [g_seq, g_sne, List.length_set]) (by simp (disch := (first | omega | fail)) only [st_e, sf_e, Nat.reduceAdd, Nat.reduceMul, up_eq, up_ne, cpA_o, cpF_o]) (by simp (disch := (first | omega | fail)) only [st_e, sf_e, Nat.reduceAdd, Nat.reduceMul, up_eq, up_ne, cpA_o, cpF_o]) (by simp (disch := (first | omega | fail)) only [st_e, sf_e, Nat.reduceAdd, Nat.reduceMul, up_eq, up_ne, cpA_o, cpF_o]) (by simp (disch := (first | omega | fail)) only [st_e, sf_e, Nat.reduceAdd, Nat.reduceMul, up_eq, up_ne, cpA_o, cpF_o]) hSL
      · exact SimM_c h8 (fun j z1 z2 => by simp (disch := (first | omega | (simp only [List.length_set] <;> omega) | fail)) only [g_seq, g_sne, List.length_set]) (by simp (disch := (first | omega | fail)) only [st_e, sf_e, Nat.reduceAdd, Nat.reduceMul, up_eq, up_ne, cpA_o, cpF_o]) hSM
      · exact SimX_c h9 (by omega) (by omega) (fun j z1 z2 => by simp (disch := (first | omega | (simp only [List.length_set] <;> omega) | fail)) only [g_seq, g_sne, List.length_set]) (by simp (disch := (first | omega | fail)) only [st_e, sf_e, Nat.reduceAdd, Nat.reduceMul, up_eq, up_ne, cpA_o, cpF_o]) (by simp (disch := (first | omega | fail)) only [st_e, sf_e, Nat.reduceAdd, Nat.reduceMul, up_eq, up_ne, cpA_o, cpF_o]) (by simp (disch := (first | omega | fail)) only [st_e, sf_e, Nat.reduceAdd, Nat.reduceMul, up_eq, up_ne, cpA_o, cpF_o]) (by simp (disch := (first | omega | fail)) only [st_e, sf_e, Nat.reduceAdd, Nat.reduceMul, up_eq, up_ne, cpA_o, cpF_o]) (by simp (disch := (first | omega | fail)) only [st_e, sf_e, Nat.reduceAdd, Nat.reduceMul, up_eq, up_ne, cpA_o, cpF_o]) (by simp (disch := (first | omega | fail)) only [st_e, sf_e, Nat.reduceAdd, Nat.reduceMul, up_eq, up_ne, cpA_o, cpF_o]) hSX
      · refine ⟨fun i hi => ?_, ?_, ?_, ?_, ?_⟩
        · have p := hSS.1 i hi
          simp (disch := (first | omega | fail)) only [st_e, Nat.reduceAdd] at p
          by_cases e : i = 1
          · subst e; simp (disch := (first | omega | (simp (disch := omega) only [up_eq, up_ne, cpA_o, List.length_set] <;> omega) | fail)) only [st_e, sf_e, Nat.reduceAdd, Nat.reduceMul, up_eq, up_ne, cpA_o, cpF_o, g_seq, g_sne, List.length_set]
          · simp (disch := (first | omega | (simp (disch := omega) only [up_eq, up_ne, cpA_o, List.length_set] <;> omega) | fail)) only [st_e, sf_e, Nat.reduceAdd, Nat.reduceMul, up_eq, up_ne, cpA_o, cpF_o, g_seq, g_sne, List.length_set]; exact p
        · simp (disch := (first | omega | (simp (disch := omega) only [up_eq, up_ne, cpA_o, List.length_set] <;> omega) | fail)) only [st_e, sf_e, Nat.reduceAdd, Nat.reduceMul, up_eq, up_ne, cpA_o, cpF_o, g_seq, g_sne, List.length_set] <;> exact hSS.2.1
        · simp (disch := (first | omega | (simp (disch := omega) only [up_eq, up_ne, cpA_o, List.length_set] <;> omega) | fail)) only [st_e, sf_e, Nat.reduceAdd, Nat.reduceMul, up_eq, up_ne, cpA_o, cpF_o, g_seq, g_sne, List.length_set] <;> exact (rg_iff (by omega) (by omega)).mpr g0
        · simp (disch := (first | omega | (simp (disch := omega) only [up_eq, up_ne, cpA_o, List.length_set] <;> omega) | fail)) only [st_e, sf_e, Nat.reduceAdd, Nat.reduceMul, up_eq, up_ne, cpA_o, cpF_o, g_seq, g_sne, List.length_set] <;> exact hSS.2.2.2.1
        · simp (disch := (first | omega | (simp (disch := omega) only [up_eq, up_ne, cpA_o, List.length_set] <;> omega) | fail)) only [st_e, sf_e, Nat.reduceAdd, Nat.reduceMul, up_eq, up_ne, cpA_o, cpF_o, g_seq, g_sne, List.length_set] <;> exact hSS.2.2.2.2
  · simp (disch := (first | omega | fail)) only [st_e, sf_e, Nat.reduceAdd, Nat.reduceMul, up_eq, up_ne, cpA_o, cpF_o]
  · rw [up_eq]; exact hH1
  · simp (disch := (first | omega | fail)) only [st_e, sf_e, Nat.reduceAdd, Nat.reduceMul, up_eq, up_ne, cpA_o, cpF_o]
  · simp (disch := (first | omega | fail)) only [st_e, sf_e, Nat.reduceAdd, Nat.reduceMul, up_eq, up_ne, cpA_o, cpF_o]
  · intro j hj; simp (disch := (first | omega | fail)) only [st_e, sf_e, Nat.reduceAdd, Nat.reduceMul, up_eq, up_ne, cpA_o, cpF_o]
theorem k_set2_e0 (hI : InvN A F P nB nl nb nx q t) (v : Int32) (g0 : v < nI 0 ∨ nI 500 < v) : am_cl m_Pa_set (.ref 1 :: [.int (nI 2), .int v]) (heap A F P) = some (some (.int (-nI 2)), heap A F P) := by
  have hI0 := hI
  obtain ⟨⟨hM, ⟨n1, n2, n3, n4⟩, hSB, hSL, hSM, hSX, hSS⟩, ⟨l1, l2, l3⟩, hH, hT, -⟩ := hI0
  have hM0 := hM
  obtain ⟨h0, h1, h2, h3, h4, h5, h6, h7, h8, h9⟩ := hM0
  simp (disch := (first | omega | fail)) only [sf_e, Nat.reduceMul, Nat.reduceAdd] at n1 n2 n3 n4
  have c5 : (A 5).length = 8 := l1.1
  have c7 : (A 7).length = 8 := l1.2.1
  have c10 : (A 10).length = 20 := l1.2.2.1
  have c12 : (A 12).length = 20 := l1.2.2.2.1
  have c14 : (A 14).length = 20 := l1.2.2.2.2.1
  have c16 : (A 16).length = 20 := l1.2.2.2.2.2.1
  have c18 : (A 18).length = 8 := l1.2.2.2.2.2.2.1
  have c21 : (A 21).length = 60 := l1.2.2.2.2.2.2.2.1
  have c23 : (A 23).length = 60 := l1.2.2.2.2.2.2.2.2.1
  have c25 : (A 25).length = 60 := l1.2.2.2.2.2.2.2.2.2.1
  have c27 : (A 27).length = 60 := l1.2.2.2.2.2.2.2.2.2.2.1
  have c29 : (A 29).length = 60 := l1.2.2.2.2.2.2.2.2.2.2.2.1
  have c31 : (A 31).length = 60 := l1.2.2.2.2.2.2.2.2.2.2.2.2.1
  have c33 : (A 33).length = 4 := l1.2.2.2.2.2.2.2.2.2.2.2.2.2
  have iL := fun x => s_isLot (A := A) (F := F) (P := P) n2 (by omega) x
  have iB := fun x => s_isBidder (A := A) (F := F) (P := P) n3 (by omega) x
  have iX := fun x => s_isBid (A := A) (F := F) (P := P) n4 (by omega) x
  have hvv : g (A 33) 2 = g (A 193) 470 := by
    have := hSS.1 2 (by omega)
    simp (disch := (first | omega | fail)) only [st_e, Nat.reduceAdd] at this
    exact this
  rw [e_Pa_set 1 _ _ _ rfl]
  simp (maxSteps := 2000000) (disch := (first | omega | (simp (disch := omega) only [up_eq, up_ne, cpA_o, List.length_set] <;> omega) | fail)) only [ob_s, am_bi_s, am_bv_s, am_bl_s, ↓bif_d, lits, nI_addS, nI_mulS, nI_subS, nI_lt', nI_le', nI_eq', ↓rd_nI, ↓wrH, up_eq, up_ne, up_up, up_sw, List.set_set, g_seq, g_sne, Nat.reduceEqDiff, ↓reduceIte, List.length_set, Nat.add_sub_cancel_left, Nat.add_sub_cancel, ite_true, ite_false, if_true, if_false, not_true_eq_false, not_false_eq_true, Bool.and_true, Bool.true_and, true_or, or_true, false_or, or_false, and_true, true_and, and_false, false_and, Nat.not_lt_zero, hpRX, hpIX, hpFX, hpLX, hpSX, ↓rgX, ↓rpX, Nat.reduceLeDiff, Nat.reduceLT, Nat.reduceAdd, Nat.reduceMul, Nat.reduceSub, iL, iB, iX, s_out, b01_0, e_Pa_mostOfSetting, Nat.reduceLT, Nat.reduceLeDiff, n1, n2, n3, n4, g0]
theorem k_set2 (hI : InvN A F P nB nl nb nx q t) (v : Int32) (g0 : ¬ (v < nI 0 ∨ nI 500 < v)) : Act m_Pa_set [.int (nI 2), .int v] A F P (.int (g (A 193) 470)) ((A 193).set 470 v) (nB) (nl) (nb) (nx) q t := by
  have hI0 := hI
  obtain ⟨⟨hM, ⟨n1, n2, n3, n4⟩, hSB, hSL, hSM, hSX, hSS⟩, ⟨l1, l2, l3⟩, hH, hT, -⟩ := hI0
  have hM0 := hM
  obtain ⟨h0, h1, h2, h3, h4, h5, h6, h7, h8, h9⟩ := hM0
  simp (disch := (first | omega | fail)) only [sf_e, Nat.reduceMul, Nat.reduceAdd] at n1 n2 n3 n4
  have c5 : (A 5).length = 8 := l1.1
  have c7 : (A 7).length = 8 := l1.2.1
  have c10 : (A 10).length = 20 := l1.2.2.1
  have c12 : (A 12).length = 20 := l1.2.2.2.1
  have c14 : (A 14).length = 20 := l1.2.2.2.2.1
  have c16 : (A 16).length = 20 := l1.2.2.2.2.2.1
  have c18 : (A 18).length = 8 := l1.2.2.2.2.2.2.1
  have c21 : (A 21).length = 60 := l1.2.2.2.2.2.2.2.1
  have c23 : (A 23).length = 60 := l1.2.2.2.2.2.2.2.2.1
  have c25 : (A 25).length = 60 := l1.2.2.2.2.2.2.2.2.2.1
  have c27 : (A 27).length = 60 := l1.2.2.2.2.2.2.2.2.2.2.1
  have c29 : (A 29).length = 60 := l1.2.2.2.2.2.2.2.2.2.2.2.1
  have c31 : (A 31).length = 60 := l1.2.2.2.2.2.2.2.2.2.2.2.2.1
  have c33 : (A 33).length = 4 := l1.2.2.2.2.2.2.2.2.2.2.2.2.2
  have iL := fun x => s_isLot (A := A) (F := F) (P := P) n2 (by omega) x
  have iB := fun x => s_isBidder (A := A) (F := F) (P := P) n3 (by omega) x
  have iX := fun x => s_isBid (A := A) (F := F) (P := P) n4 (by omega) x
  have hvv : g (A 33) 2 = g (A 193) 470 := by
    have := hSS.1 2 (by omega)
    simp (disch := (first | omega | fail)) only [st_e, Nat.reduceAdd] at this
    exact this
  obtain ⟨b, H', hb, b1, b2, hba, hH0, hH1, hH2⟩ := act_pre hI
  refine ⟨up (up (up (cpA A 2 b) 33 ((A 33).set 2 v)) 193 ((A 193).set 470 v)) 194 H', up (up (up (cpF F 2 b) 3401 (nI (kp q + 1))) 16410 (nI 0)) 19202 (nI (kp q + 1)), Pk q P, ?_, ?_, ?_, ?_, ?_, ?_, ?_⟩
  · rw [gh194, gh193, ghF2, e_Pa_set 1 _ _ _ rfl]
    simp (maxSteps := 2000000) (disch := (first | omega | (simp (disch := omega) only [up_eq, up_ne, cpA_o, List.length_set] <;> omega) | fail)) only [ob_s, am_bi_s, am_bv_s, am_bl_s, ↓bif_d, lits, nI_addS, nI_mulS, nI_subS, nI_lt', nI_le', nI_eq', ↓rd_nI, ↓wrH, up_eq, up_ne, up_up, up_sw, List.set_set, g_seq, g_sne, Nat.reduceEqDiff, ↓reduceIte, List.length_set, Nat.add_sub_cancel_left, Nat.add_sub_cancel, ite_true, ite_false, if_true, if_false, not_true_eq_false, not_false_eq_true, Bool.and_true, Bool.true_and, true_or, or_true, false_or, or_false, and_true, true_and, and_false, false_and, Nat.not_lt_zero, hpRX, hpIX, hpFX, hpLX, hpSX, ↓rgX, ↓rpX, Nat.reduceLeDiff, Nat.reduceLT, Nat.reduceAdd, Nat.reduceMul, Nat.reduceSub, iL, iB, iX, s_out, b01_0, e_Pa_mostOfSetting, Nat.reduceLT, Nat.reduceLeDiff, n1, n2, n3, n4, hba, cpA_o, cpF_o, g0, hvv]
  · refine act_done (r' := ((A 193).set 470 v)) hI hb hH0 hH1 hH2 ?_ ?_ ?_ ?_ ?_ ?_ ?_ ?_ ?_ ?_ ?_ ?_
    · intro j z1 z2; simp (disch := (first | omega | fail)) only [st_e, sf_e, Nat.reduceAdd, Nat.reduceMul, up_eq, up_ne, cpA_o, cpF_o]
    · intro j z1 z2 z3; simp (disch := (first | omega | fail)) only [st_e, sf_e, Nat.reduceAdd, Nat.reduceMul, up_eq, up_ne, cpA_o, cpF_o]
    · simp (disch := (first | omega | fail)) only [st_e, sf_e, Nat.reduceAdd, Nat.reduceMul, up_eq, up_ne, cpA_o, cpF_o]
    · intro k z1 z2; simp (disch := (first | omega | fail)) only [st_e, sf_e, Nat.reduceAdd, Nat.reduceMul, up_eq, up_ne, cpA_o, cpF_o]
    · simp (disch := (first | omega | fail)) only [st_e, sf_e, Nat.reduceAdd, Nat.reduceMul, up_eq, up_ne, cpA_o, cpF_o]
    · simp (disch := (first | omega | fail)) only [st_e, sf_e, Nat.reduceAdd, Nat.reduceMul, up_eq, up_ne, cpA_o, cpF_o]
    · simp (disch := (first | omega | fail)) only [st_e, sf_e, Nat.reduceAdd, Nat.reduceMul, up_eq, up_ne, cpA_o, cpF_o]
    · simp (disch := (first | omega | fail)) only [st_e, sf_e, Nat.reduceAdd, Nat.reduceMul, up_eq, up_ne, cpA_o, cpF_o]
    · simp (disch := (first | omega | fail)) only [st_e, sf_e, Nat.reduceAdd, Nat.reduceMul, up_eq, up_ne, cpA_o, cpF_o]
    · unfold LenS; simp (disch := (first | omega | (simp (disch := omega) only [up_eq, up_ne, cpA_o, List.length_set] <;> omega) | fail)) only [st_e, sf_e, Nat.reduceAdd, Nat.reduceMul, up_eq, up_ne, cpA_o, cpF_o, g_seq, g_sne, List.length_set]; exact l1
    · simp (disch := (first | omega | fail)) only [st_e, sf_e, Nat.reduceAdd, Nat.reduceMul, up_eq, up_ne, cpA_o, cpF_o]
    · refine ⟨?_, ?_, ?_, ?_, ?_, ?_, ?_⟩
      · refine ⟨by simp (disch := (first | omega | (simp (disch := omega) only [up_eq, up_ne, cpA_o, List.length_set] <;> omega) | fail)) only [st_e, sf_e, Nat.reduceAdd, Nat.reduceMul, up_eq, up_ne, cpA_o, cpF_o, g_seq, g_sne, List.length_set]; exact h0, by simp (disch := (first | omega | (simp (disch := omega) only [up_eq, up_ne, cpA_o, List.length_set] <;> omega) | fail)) only [st_e, sf_e, Nat.reduceAdd, Nat.reduceMul, up_eq, up_ne, cpA_o, cpF_o, g_seq, g_sne, List.length_set] <;> exact h1, by simp (disch := (first | omega | (simp (disch := omega) only [up_eq, up_ne, cpA_o, List.length_set] <;> omega) | fail)) only [st_e, sf_e, Nat.reduceAdd, Nat.reduceMul, up_eq, up_ne, cpA_o, cpF_o, g_seq, g_sne, List.length_set] <;> exact h2, by simp (disch := (first | omega | (simp (disch := omega) only [up_eq, up_ne, cpA_o, List.length_set] <;> omega) | fail)) only [st_e, sf_e, Nat.reduceAdd, Nat.reduceMul, up_eq, up_ne, cpA_o, cpF_o, g_seq, g_sne, List.length_set] <;> exact h3, by simp (disch := (first | omega | (simp (disch := omega) only [up_eq, up_ne, cpA_o, List.length_set] <;> omega) | fail)) only [st_e, sf_e, Nat.reduceAdd, Nat.reduceMul, up_eq, up_ne, cpA_o, cpF_o, g_seq, g_sne, List.length_set] <;> exact h4, by omega, by omega, by omega, by omega, by omega⟩
      · refine ⟨by simp (disch := (first | omega | (simp (disch := omega) only [up_eq, up_ne, cpA_o, List.length_set] <;> omega) | fail)) only [st_e, sf_e, Nat.reduceAdd, Nat.reduceMul, up_eq, up_ne, cpA_o, cpF_o, g_seq, g_sne, List.length_set] <;> exact n1, by simp (disch := (first | omega | (simp (disch := omega) only [up_eq, up_ne, cpA_o, List.length_set] <;> omega) | fail)) only [st_e, sf_e, Nat.reduceAdd, Nat.reduceMul, up_eq, up_ne, cpA_o, cpF_o, g_seq, g_sne, List.length_set] <;> exact n2, by simp (disch := (first | omega | (simp (disch := omega) only [up_eq, up_ne, cpA_o, List.length_set] <;> omega) | fail)) only [st_e, sf_e, Nat.reduceAdd, Nat.reduceMul, up_eq, up_ne, cpA_o, cpF_o, g_seq, g_sne, List.length_set] <;> exact n3, by simp (disch := (first | omega | (simp (disch := omega) only [up_eq, up_ne, cpA_o, List.length_set] <;> omega) | fail)) only [st_e, sf_e, Nat.reduceAdd, Nat.reduceMul, up_eq, up_ne, cpA_o, cpF_o, g_seq, g_sne, List.length_set] <;> exact n4⟩
      · exact SimB_c h6 (fun j z1 z2 => by simp (disch := (first | omega | (simp only [List.length_set] <;> omega) | fail)) only [g_seq, g_sne, List.length_set]) (by simp (disch := (first | omega | fail)) only [st_e, sf_e, Nat.reduceAdd, Nat.reduceMul, up_eq, up_ne, cpA_o, cpF_o]) (by simp (disch := (first | omega | fail)) only [st_e, sf_e, Nat.reduceAdd, Nat.reduceMul, up_eq, up_ne, cpA_o, cpF_o]) h5 hSB
      · exact SimL_c h7 (fun j z1 z2 => by simp (disch := (first | omega | (simp only [List.length_set] <;> omega) | fail)) only [g_seq, g_sne, List.length_set]) (by simp (disch := (first | omega | fail)) only [st_e, sf_e, Nat.reduceAdd, Nat.reduceMul, up_eq, up_ne, cpA_o, cpF_o]) (by simp (disch := (first | omega | fail)) only [st_e, sf_e, Nat.reduceAdd, Nat.reduceMul, up_eq, up_ne, cpA_o, cpF_o]) (by simp (disch := (first | omega | fail)) only [st_e, sf_e, Nat.reduceAdd, Nat.reduceMul, up_eq, up_ne, cpA_o, cpF_o]) (by simp (disch := (first | omega | fail)) only [st_e, sf_e, Nat.reduceAdd, Nat.reduceMul, up_eq, up_ne, cpA_o, cpF_o]) hSL
      · exact SimM_c h8 (fun j z1 z2 => by simp (disch := (first | omega | (simp only [List.length_set] <;> omega) | fail)) only [g_seq, g_sne, List.length_set]) (by simp (disch := (first | omega | fail)) only [st_e, sf_e, Nat.reduceAdd, Nat.reduceMul, up_eq, up_ne, cpA_o, cpF_o]) hSM
      · exact SimX_c h9 (by omega) (by omega) (fun j z1 z2 => by simp (disch := (first | omega | (simp only [List.length_set] <;> omega) | fail)) only [g_seq, g_sne, List.length_set]) (by simp (disch := (first | omega | fail)) only [st_e, sf_e, Nat.reduceAdd, Nat.reduceMul, up_eq, up_ne, cpA_o, cpF_o]) (by simp (disch := (first | omega | fail)) only [st_e, sf_e, Nat.reduceAdd, Nat.reduceMul, up_eq, up_ne, cpA_o, cpF_o]) (by simp (disch := (first | omega | fail)) only [st_e, sf_e, Nat.reduceAdd, Nat.reduceMul, up_eq, up_ne, cpA_o, cpF_o]) (by simp (disch := (first | omega | fail)) only [st_e, sf_e, Nat.reduceAdd, Nat.reduceMul, up_eq, up_ne, cpA_o, cpF_o]) (by simp (disch := (first | omega | fail)) only [st_e, sf_e, Nat.reduceAdd, Nat.reduceMul, up_eq, up_ne, cpA_o, cpF_o]) (by simp (disch := (first | omega | fail)) only [st_e, sf_e, Nat.reduceAdd, Nat.reduceMul, up_eq, up_ne, cpA_o, cpF_o]) hSX
      · refine ⟨fun i hi => ?_, ?_, ?_, ?_, ?_⟩
        · have p := hSS.1 i hi
          simp (disch := (first | omega | fail)) only [st_e, Nat.reduceAdd] at p
          by_cases e : i = 2
          · subst e; simp (disch := (first | omega | (simp (disch := omega) only [up_eq, up_ne, cpA_o, List.length_set] <;> omega) | fail)) only [st_e, sf_e, Nat.reduceAdd, Nat.reduceMul, up_eq, up_ne, cpA_o, cpF_o, g_seq, g_sne, List.length_set]
          · simp (disch := (first | omega | (simp (disch := omega) only [up_eq, up_ne, cpA_o, List.length_set] <;> omega) | fail)) only [st_e, sf_e, Nat.reduceAdd, Nat.reduceMul, up_eq, up_ne, cpA_o, cpF_o, g_seq, g_sne, List.length_set]; exact p
        · simp (disch := (first | omega | (simp (disch := omega) only [up_eq, up_ne, cpA_o, List.length_set] <;> omega) | fail)) only [st_e, sf_e, Nat.reduceAdd, Nat.reduceMul, up_eq, up_ne, cpA_o, cpF_o, g_seq, g_sne, List.length_set] <;> exact hSS.2.1
        · simp (disch := (first | omega | (simp (disch := omega) only [up_eq, up_ne, cpA_o, List.length_set] <;> omega) | fail)) only [st_e, sf_e, Nat.reduceAdd, Nat.reduceMul, up_eq, up_ne, cpA_o, cpF_o, g_seq, g_sne, List.length_set] <;> exact hSS.2.2.1
        · simp (disch := (first | omega | (simp (disch := omega) only [up_eq, up_ne, cpA_o, List.length_set] <;> omega) | fail)) only [st_e, sf_e, Nat.reduceAdd, Nat.reduceMul, up_eq, up_ne, cpA_o, cpF_o, g_seq, g_sne, List.length_set] <;> exact (rg_iff (by omega) (by omega)).mpr g0
        · simp (disch := (first | omega | (simp (disch := omega) only [up_eq, up_ne, cpA_o, List.length_set] <;> omega) | fail)) only [st_e, sf_e, Nat.reduceAdd, Nat.reduceMul, up_eq, up_ne, cpA_o, cpF_o, g_seq, g_sne, List.length_set] <;> exact hSS.2.2.2.2
  · simp (disch := (first | omega | fail)) only [st_e, sf_e, Nat.reduceAdd, Nat.reduceMul, up_eq, up_ne, cpA_o, cpF_o]
  · rw [up_eq]; exact hH1
  · simp (disch := (first | omega | fail)) only [st_e, sf_e, Nat.reduceAdd, Nat.reduceMul, up_eq, up_ne, cpA_o, cpF_o]
  · simp (disch := (first | omega | fail)) only [st_e, sf_e, Nat.reduceAdd, Nat.reduceMul, up_eq, up_ne, cpA_o, cpF_o]
  · intro j hj; simp (disch := (first | omega | fail)) only [st_e, sf_e, Nat.reduceAdd, Nat.reduceMul, up_eq, up_ne, cpA_o, cpF_o]
theorem k_set3_e0 (hI : InvN A F P nB nl nb nx q t) (v : Int32) (g0 : v < nI 0 ∨ nI 1000 < v) : am_cl m_Pa_set (.ref 1 :: [.int (nI 3), .int v]) (heap A F P) = some (some (.int (-nI 2)), heap A F P) := by
  have hI0 := hI
  obtain ⟨⟨hM, ⟨n1, n2, n3, n4⟩, hSB, hSL, hSM, hSX, hSS⟩, ⟨l1, l2, l3⟩, hH, hT, -⟩ := hI0
  have hM0 := hM
  obtain ⟨h0, h1, h2, h3, h4, h5, h6, h7, h8, h9⟩ := hM0
  simp (disch := (first | omega | fail)) only [sf_e, Nat.reduceMul, Nat.reduceAdd] at n1 n2 n3 n4
  have c5 : (A 5).length = 8 := l1.1
  have c7 : (A 7).length = 8 := l1.2.1
  have c10 : (A 10).length = 20 := l1.2.2.1
  have c12 : (A 12).length = 20 := l1.2.2.2.1
  have c14 : (A 14).length = 20 := l1.2.2.2.2.1
  have c16 : (A 16).length = 20 := l1.2.2.2.2.2.1
  have c18 : (A 18).length = 8 := l1.2.2.2.2.2.2.1
  have c21 : (A 21).length = 60 := l1.2.2.2.2.2.2.2.1
  have c23 : (A 23).length = 60 := l1.2.2.2.2.2.2.2.2.1
  have c25 : (A 25).length = 60 := l1.2.2.2.2.2.2.2.2.2.1
  have c27 : (A 27).length = 60 := l1.2.2.2.2.2.2.2.2.2.2.1
  have c29 : (A 29).length = 60 := l1.2.2.2.2.2.2.2.2.2.2.2.1
  have c31 : (A 31).length = 60 := l1.2.2.2.2.2.2.2.2.2.2.2.2.1
  have c33 : (A 33).length = 4 := l1.2.2.2.2.2.2.2.2.2.2.2.2.2
  have iL := fun x => s_isLot (A := A) (F := F) (P := P) n2 (by omega) x
  have iB := fun x => s_isBidder (A := A) (F := F) (P := P) n3 (by omega) x
  have iX := fun x => s_isBid (A := A) (F := F) (P := P) n4 (by omega) x
  have hvv : g (A 33) 3 = g (A 193) 471 := by
    have := hSS.1 3 (by omega)
    simp (disch := (first | omega | fail)) only [st_e, Nat.reduceAdd] at this
    exact this
  rw [e_Pa_set 1 _ _ _ rfl]
  simp (maxSteps := 2000000) (disch := (first | omega | (simp (disch := omega) only [up_eq, up_ne, cpA_o, List.length_set] <;> omega) | fail)) only [ob_s, am_bi_s, am_bv_s, am_bl_s, ↓bif_d, lits, nI_addS, nI_mulS, nI_subS, nI_lt', nI_le', nI_eq', ↓rd_nI, ↓wrH, up_eq, up_ne, up_up, up_sw, List.set_set, g_seq, g_sne, Nat.reduceEqDiff, ↓reduceIte, List.length_set, Nat.add_sub_cancel_left, Nat.add_sub_cancel, ite_true, ite_false, if_true, if_false, not_true_eq_false, not_false_eq_true, Bool.and_true, Bool.true_and, true_or, or_true, false_or, or_false, and_true, true_and, and_false, false_and, Nat.not_lt_zero, hpRX, hpIX, hpFX, hpLX, hpSX, ↓rgX, ↓rpX, Nat.reduceLeDiff, Nat.reduceLT, Nat.reduceAdd, Nat.reduceMul, Nat.reduceSub, iL, iB, iX, s_out, b01_0, e_Pa_mostOfSetting, Nat.reduceLT, Nat.reduceLeDiff, n1, n2, n3, n4, g0]
theorem k_set3 (hI : InvN A F P nB nl nb nx q t) (v : Int32) (g0 : ¬ (v < nI 0 ∨ nI 1000 < v)) : Act m_Pa_set [.int (nI 3), .int v] A F P (.int (g (A 193) 471)) ((A 193).set 471 v) (nB) (nl) (nb) (nx) q t := by
  have hI0 := hI
  obtain ⟨⟨hM, ⟨n1, n2, n3, n4⟩, hSB, hSL, hSM, hSX, hSS⟩, ⟨l1, l2, l3⟩, hH, hT, -⟩ := hI0
  have hM0 := hM
  obtain ⟨h0, h1, h2, h3, h4, h5, h6, h7, h8, h9⟩ := hM0
  simp (disch := (first | omega | fail)) only [sf_e, Nat.reduceMul, Nat.reduceAdd] at n1 n2 n3 n4
  have c5 : (A 5).length = 8 := l1.1
  have c7 : (A 7).length = 8 := l1.2.1
  have c10 : (A 10).length = 20 := l1.2.2.1
  have c12 : (A 12).length = 20 := l1.2.2.2.1
  have c14 : (A 14).length = 20 := l1.2.2.2.2.1
  have c16 : (A 16).length = 20 := l1.2.2.2.2.2.1
  have c18 : (A 18).length = 8 := l1.2.2.2.2.2.2.1
  have c21 : (A 21).length = 60 := l1.2.2.2.2.2.2.2.1
  have c23 : (A 23).length = 60 := l1.2.2.2.2.2.2.2.2.1
  have c25 : (A 25).length = 60 := l1.2.2.2.2.2.2.2.2.2.1
  have c27 : (A 27).length = 60 := l1.2.2.2.2.2.2.2.2.2.2.1
  have c29 : (A 29).length = 60 := l1.2.2.2.2.2.2.2.2.2.2.2.1
  have c31 : (A 31).length = 60 := l1.2.2.2.2.2.2.2.2.2.2.2.2.1
  have c33 : (A 33).length = 4 := l1.2.2.2.2.2.2.2.2.2.2.2.2.2
  have iL := fun x => s_isLot (A := A) (F := F) (P := P) n2 (by omega) x
  have iB := fun x => s_isBidder (A := A) (F := F) (P := P) n3 (by omega) x
  have iX := fun x => s_isBid (A := A) (F := F) (P := P) n4 (by omega) x
  have hvv : g (A 33) 3 = g (A 193) 471 := by
    have := hSS.1 3 (by omega)
    simp (disch := (first | omega | fail)) only [st_e, Nat.reduceAdd] at this
    exact this
  obtain ⟨b, H', hb, b1, b2, hba, hH0, hH1, hH2⟩ := act_pre hI
  refine ⟨up (up (up (cpA A 2 b) 33 ((A 33).set 3 v)) 193 ((A 193).set 471 v)) 194 H', up (up (up (cpF F 2 b) 3401 (nI (kp q + 1))) 16410 (nI 0)) 19202 (nI (kp q + 1)), Pk q P, ?_, ?_, ?_, ?_, ?_, ?_, ?_⟩
  · rw [gh194, gh193, ghF2, e_Pa_set 1 _ _ _ rfl]
    simp (maxSteps := 2000000) (disch := (first | omega | (simp (disch := omega) only [up_eq, up_ne, cpA_o, List.length_set] <;> omega) | fail)) only [ob_s, am_bi_s, am_bv_s, am_bl_s, ↓bif_d, lits, nI_addS, nI_mulS, nI_subS, nI_lt', nI_le', nI_eq', ↓rd_nI, ↓wrH, up_eq, up_ne, up_up, up_sw, List.set_set, g_seq, g_sne, Nat.reduceEqDiff, ↓reduceIte, List.length_set, Nat.add_sub_cancel_left, Nat.add_sub_cancel, ite_true, ite_false, if_true, if_false, not_true_eq_false, not_false_eq_true, Bool.and_true, Bool.true_and, true_or, or_true, false_or, or_false, and_true, true_and, and_false, false_and, Nat.not_lt_zero, hpRX, hpIX, hpFX, hpLX, hpSX, ↓rgX, ↓rpX, Nat.reduceLeDiff, Nat.reduceLT, Nat.reduceAdd, Nat.reduceMul, Nat.reduceSub, iL, iB, iX, s_out, b01_0, e_Pa_mostOfSetting, Nat.reduceLT, Nat.reduceLeDiff, n1, n2, n3, n4, hba, cpA_o, cpF_o, g0, hvv]
  · refine act_done (r' := ((A 193).set 471 v)) hI hb hH0 hH1 hH2 ?_ ?_ ?_ ?_ ?_ ?_ ?_ ?_ ?_ ?_ ?_ ?_
    · intro j z1 z2; simp (disch := (first | omega | fail)) only [st_e, sf_e, Nat.reduceAdd, Nat.reduceMul, up_eq, up_ne, cpA_o, cpF_o]
    · intro j z1 z2 z3; simp (disch := (first | omega | fail)) only [st_e, sf_e, Nat.reduceAdd, Nat.reduceMul, up_eq, up_ne, cpA_o, cpF_o]
    · simp (disch := (first | omega | fail)) only [st_e, sf_e, Nat.reduceAdd, Nat.reduceMul, up_eq, up_ne, cpA_o, cpF_o]
    · intro k z1 z2; simp (disch := (first | omega | fail)) only [st_e, sf_e, Nat.reduceAdd, Nat.reduceMul, up_eq, up_ne, cpA_o, cpF_o]
    · simp (disch := (first | omega | fail)) only [st_e, sf_e, Nat.reduceAdd, Nat.reduceMul, up_eq, up_ne, cpA_o, cpF_o]
    · simp (disch := (first | omega | fail)) only [st_e, sf_e, Nat.reduceAdd, Nat.reduceMul, up_eq, up_ne, cpA_o, cpF_o]
    · simp (disch := (first | omega | fail)) only [st_e, sf_e, Nat.reduceAdd, Nat.reduceMul, up_eq, up_ne, cpA_o, cpF_o]
    · simp (disch := (first | omega | fail)) only [st_e, sf_e, Nat.reduceAdd, Nat.reduceMul, up_eq, up_ne, cpA_o, cpF_o]
    · simp (disch := (first | omega | fail)) only [st_e, sf_e, Nat.reduceAdd, Nat.reduceMul, up_eq, up_ne, cpA_o, cpF_o]
    · unfold LenS; simp (disch := (first | omega | (simp (disch := omega) only [up_eq, up_ne, cpA_o, List.length_set] <;> omega) | fail)) only [st_e, sf_e, Nat.reduceAdd, Nat.reduceMul, up_eq, up_ne, cpA_o, cpF_o, g_seq, g_sne, List.length_set]; exact l1
    · simp (disch := (first | omega | fail)) only [st_e, sf_e, Nat.reduceAdd, Nat.reduceMul, up_eq, up_ne, cpA_o, cpF_o]
    · refine ⟨?_, ?_, ?_, ?_, ?_, ?_, ?_⟩
      · refine ⟨by simp (disch := (first | omega | (simp (disch := omega) only [up_eq, up_ne, cpA_o, List.length_set] <;> omega) | fail)) only [st_e, sf_e, Nat.reduceAdd, Nat.reduceMul, up_eq, up_ne, cpA_o, cpF_o, g_seq, g_sne, List.length_set]; exact h0, by simp (disch := (first | omega | (simp (disch := omega) only [up_eq, up_ne, cpA_o, List.length_set] <;> omega) | fail)) only [st_e, sf_e, Nat.reduceAdd, Nat.reduceMul, up_eq, up_ne, cpA_o, cpF_o, g_seq, g_sne, List.length_set] <;> exact h1, by simp (disch := (first | omega | (simp (disch := omega) only [up_eq, up_ne, cpA_o, List.length_set] <;> omega) | fail)) only [st_e, sf_e, Nat.reduceAdd, Nat.reduceMul, up_eq, up_ne, cpA_o, cpF_o, g_seq, g_sne, List.length_set] <;> exact h2, by simp (disch := (first | omega | (simp (disch := omega) only [up_eq, up_ne, cpA_o, List.length_set] <;> omega) | fail)) only [st_e, sf_e, Nat.reduceAdd, Nat.reduceMul, up_eq, up_ne, cpA_o, cpF_o, g_seq, g_sne, List.length_set] <;> exact h3, by simp (disch := (first | omega | (simp (disch := omega) only [up_eq, up_ne, cpA_o, List.length_set] <;> omega) | fail)) only [st_e, sf_e, Nat.reduceAdd, Nat.reduceMul, up_eq, up_ne, cpA_o, cpF_o, g_seq, g_sne, List.length_set] <;> exact h4, by omega, by omega, by omega, by omega, by omega⟩
      · refine ⟨by simp (disch := (first | omega | (simp (disch := omega) only [up_eq, up_ne, cpA_o, List.length_set] <;> omega) | fail)) only [st_e, sf_e, Nat.reduceAdd, Nat.reduceMul, up_eq, up_ne, cpA_o, cpF_o, g_seq, g_sne, List.length_set] <;> exact n1, by simp (disch := (first | omega | (simp (disch := omega) only [up_eq, up_ne, cpA_o, List.length_set] <;> omega) | fail)) only [st_e, sf_e, Nat.reduceAdd, Nat.reduceMul, up_eq, up_ne, cpA_o, cpF_o, g_seq, g_sne, List.length_set] <;> exact n2, by simp (disch := (first | omega | (simp (disch := omega) only [up_eq, up_ne, cpA_o, List.length_set] <;> omega) | fail)) only [st_e, sf_e, Nat.reduceAdd, Nat.reduceMul, up_eq, up_ne, cpA_o, cpF_o, g_seq, g_sne, List.length_set] <;> exact n3, by simp (disch := (first | omega | (simp (disch := omega) only [up_eq, up_ne, cpA_o, List.length_set] <;> omega) | fail)) only [st_e, sf_e, Nat.reduceAdd, Nat.reduceMul, up_eq, up_ne, cpA_o, cpF_o, g_seq, g_sne, List.length_set] <;> exact n4⟩
      · exact SimB_c h6 (fun j z1 z2 => by simp (disch := (first | omega | (simp only [List.length_set] <;> omega) | fail)) only [g_seq, g_sne, List.length_set]) (by simp (disch := (first | omega | fail)) only [st_e, sf_e, Nat.reduceAdd, Nat.reduceMul, up_eq, up_ne, cpA_o, cpF_o]) (by simp (disch := (first | omega | fail)) only [st_e, sf_e, Nat.reduceAdd, Nat.reduceMul, up_eq, up_ne, cpA_o, cpF_o]) h5 hSB
      · exact SimL_c h7 (fun j z1 z2 => by simp (disch := (first | omega | (simp only [List.length_set] <;> omega) | fail)) only [g_seq, g_sne, List.length_set]) (by simp (disch := (first | omega | fail)) only [st_e, sf_e, Nat.reduceAdd, Nat.reduceMul, up_eq, up_ne, cpA_o, cpF_o]) (by simp (disch := (first | omega | fail)) only [st_e, sf_e, Nat.reduceAdd, Nat.reduceMul, up_eq, up_ne, cpA_o, cpF_o]) (by simp (disch := (first | omega | fail)) only [st_e, sf_e, Nat.reduceAdd, Nat.reduceMul, up_eq, up_ne, cpA_o, cpF_o]) (by simp (disch := (first | omega | fail)) only [st_e, sf_e, Nat.reduceAdd, Nat.reduceMul, up_eq, up_ne, cpA_o, cpF_o]) hSL
      · exact SimM_c h8 (fun j z1 z2 => by simp (disch := (first | omega | (simp only [List.length_set] <;> omega) | fail)) only [g_seq, g_sne, List.length_set]) (by simp (disch := (first | omega | fail)) only [st_e, sf_e, Nat.reduceAdd, Nat.reduceMul, up_eq, up_ne, cpA_o, cpF_o]) hSM
      · exact SimX_c h9 (by omega) (by omega) (fun j z1 z2 => by simp (disch := (first | omega | (simp only [List.length_set] <;> omega) | fail)) only [g_seq, g_sne, List.length_set]) (by simp (disch := (first | omega | fail)) only [st_e, sf_e, Nat.reduceAdd, Nat.reduceMul, up_eq, up_ne, cpA_o, cpF_o]) (by simp (disch := (first | omega | fail)) only [st_e, sf_e, Nat.reduceAdd, Nat.reduceMul, up_eq, up_ne, cpA_o, cpF_o]) (by simp (disch := (first | omega | fail)) only [st_e, sf_e, Nat.reduceAdd, Nat.reduceMul, up_eq, up_ne, cpA_o, cpF_o]) (by simp (disch := (first | omega | fail)) only [st_e, sf_e, Nat.reduceAdd, Nat.reduceMul, up_eq, up_ne, cpA_o, cpF_o]) (by simp (disch := (first | omega | fail)) only [st_e, sf_e, Nat.reduceAdd, Nat.reduceMul, up_eq, up_ne, cpA_o, cpF_o]) (by simp (disch := (first | omega | fail)) only [st_e, sf_e, Nat.reduceAdd, Nat.reduceMul, up_eq, up_ne, cpA_o, cpF_o]) hSX
      · refine ⟨fun i hi => ?_, ?_, ?_, ?_, ?_⟩
        · have p := hSS.1 i hi
          simp (disch := (first | omega | fail)) only [st_e, Nat.reduceAdd] at p
          by_cases e : i = 3
          · subst e; simp (disch := (first | omega | (simp (disch := omega) only [up_eq, up_ne, cpA_o, List.length_set] <;> omega) | fail)) only [st_e, sf_e, Nat.reduceAdd, Nat.reduceMul, up_eq, up_ne, cpA_o, cpF_o, g_seq, g_sne, List.length_set]
          · simp (disch := (first | omega | (simp (disch := omega) only [up_eq, up_ne, cpA_o, List.length_set] <;> omega) | fail)) only [st_e, sf_e, Nat.reduceAdd, Nat.reduceMul, up_eq, up_ne, cpA_o, cpF_o, g_seq, g_sne, List.length_set]; exact p
        · simp (disch := (first | omega | (simp (disch := omega) only [up_eq, up_ne, cpA_o, List.length_set] <;> omega) | fail)) only [st_e, sf_e, Nat.reduceAdd, Nat.reduceMul, up_eq, up_ne, cpA_o, cpF_o, g_seq, g_sne, List.length_set] <;> exact hSS.2.1
        · simp (disch := (first | omega | (simp (disch := omega) only [up_eq, up_ne, cpA_o, List.length_set] <;> omega) | fail)) only [st_e, sf_e, Nat.reduceAdd, Nat.reduceMul, up_eq, up_ne, cpA_o, cpF_o, g_seq, g_sne, List.length_set] <;> exact hSS.2.2.1
        · simp (disch := (first | omega | (simp (disch := omega) only [up_eq, up_ne, cpA_o, List.length_set] <;> omega) | fail)) only [st_e, sf_e, Nat.reduceAdd, Nat.reduceMul, up_eq, up_ne, cpA_o, cpF_o, g_seq, g_sne, List.length_set] <;> exact hSS.2.2.2.1
        · simp (disch := (first | omega | (simp (disch := omega) only [up_eq, up_ne, cpA_o, List.length_set] <;> omega) | fail)) only [st_e, sf_e, Nat.reduceAdd, Nat.reduceMul, up_eq, up_ne, cpA_o, cpF_o, g_seq, g_sne, List.length_set] <;> exact (rg_iff (by omega) (by omega)).mpr g0
  · simp (disch := (first | omega | fail)) only [st_e, sf_e, Nat.reduceAdd, Nat.reduceMul, up_eq, up_ne, cpA_o, cpF_o]
  · rw [up_eq]; exact hH1
  · simp (disch := (first | omega | fail)) only [st_e, sf_e, Nat.reduceAdd, Nat.reduceMul, up_eq, up_ne, cpA_o, cpF_o]
  · simp (disch := (first | omega | fail)) only [st_e, sf_e, Nat.reduceAdd, Nat.reduceMul, up_eq, up_ne, cpA_o, cpF_o]
  · intro j hj; simp (disch := (first | omega | fail)) only [st_e, sf_e, Nat.reduceAdd, Nat.reduceMul, up_eq, up_ne, cpA_o, cpF_o]
theorem k_bid_e0 (hI : InvN A F P nB nl nb nx q t) (x y v m w : Int32) (g0 : ¬ (ix x nb)) : am_cl m_Pa_bid (.ref 1 :: [.int x, .int y, .int v, .int m, .int w]) (heap A F P) = some (some (.int (-nI 1)), heap A F P) := by
  have hI0 := hI
  obtain ⟨⟨hM, ⟨n1, n2, n3, n4⟩, hSB, hSL, hSM, hSX, hSS⟩, ⟨l1, l2, l3⟩, hH, hT, -⟩ := hI0
  have hM0 := hM
  obtain ⟨h0, h1, h2, h3, h4, h5, h6, h7, h8, h9⟩ := hM0
  simp (disch := (first | omega | fail)) only [sf_e, Nat.reduceMul, Nat.reduceAdd] at n1 n2 n3 n4
  have c5 : (A 5).length = 8 := l1.1
  have c7 : (A 7).length = 8 := l1.2.1
  have c10 : (A 10).length = 20 := l1.2.2.1
  have c12 : (A 12).length = 20 := l1.2.2.2.1
  have c14 : (A 14).length = 20 := l1.2.2.2.2.1
  have c16 : (A 16).length = 20 := l1.2.2.2.2.2.1
  have c18 : (A 18).length = 8 := l1.2.2.2.2.2.2.1
  have c21 : (A 21).length = 60 := l1.2.2.2.2.2.2.2.1
  have c23 : (A 23).length = 60 := l1.2.2.2.2.2.2.2.2.1
  have c25 : (A 25).length = 60 := l1.2.2.2.2.2.2.2.2.2.1
  have c27 : (A 27).length = 60 := l1.2.2.2.2.2.2.2.2.2.2.1
  have c29 : (A 29).length = 60 := l1.2.2.2.2.2.2.2.2.2.2.2.1
  have c31 : (A 31).length = 60 := l1.2.2.2.2.2.2.2.2.2.2.2.2.1
  have c33 : (A 33).length = 4 := l1.2.2.2.2.2.2.2.2.2.2.2.2.2
  have iL := fun x => s_isLot (A := A) (F := F) (P := P) n2 (by omega) x
  have iB := fun x => s_isBidder (A := A) (F := F) (P := P) n3 (by omega) x
  have iX := fun x => s_isBid (A := A) (F := F) (P := P) n4 (by omega) x
  have eBA := fun x1 x2 x3 x4 x5 A F P => e_Bids_add 19 x1 x2 x3 x4 x5 (heap A F P) rfl
  rw [e_Pa_bid 1 _ _ _ _ _ _ rfl]
  simp (maxSteps := 2000000) (disch := (first | omega | (simp (disch := omega) only [up_eq, up_ne, cpA_o, List.length_set] <;> omega) | fail)) only [ob_s, am_bi_s, am_bv_s, am_bl_s, ↓bif_d, lits, nI_addS, nI_mulS, nI_subS, nI_lt', nI_le', nI_eq', ↓rd_nI, ↓wrH, up_eq, up_ne, up_up, up_sw, List.set_set, g_seq, g_sne, Nat.reduceEqDiff, ↓reduceIte, List.length_set, Nat.add_sub_cancel_left, Nat.add_sub_cancel, ite_true, ite_false, if_true, if_false, not_true_eq_false, not_false_eq_true, Bool.and_true, Bool.true_and, true_or, or_true, false_or, or_false, and_true, true_and, and_false, false_and, Nat.not_lt_zero, hpRX, hpIX, hpFX, hpLX, hpSX, ↓rgX, ↓rpX, Nat.reduceLeDiff, Nat.reduceLT, Nat.reduceAdd, Nat.reduceMul, Nat.reduceSub, iL, iB, iX, s_out, b01_0, eBA, n1, n2, n3, n4, g0]
theorem k_bid_e1 (hI : InvN A F P nB nl nb nx q t) (x y v m w : Int32) (g0 : ix x nb) (g1 : ¬ (ix y nl)) : am_cl m_Pa_bid (.ref 1 :: [.int x, .int y, .int v, .int m, .int w]) (heap A F P) = some (some (.int (-nI 1)), heap A F P) := by
  have hI0 := hI
  obtain ⟨⟨hM, ⟨n1, n2, n3, n4⟩, hSB, hSL, hSM, hSX, hSS⟩, ⟨l1, l2, l3⟩, hH, hT, -⟩ := hI0
  have hM0 := hM
  obtain ⟨h0, h1, h2, h3, h4, h5, h6, h7, h8, h9⟩ := hM0
  simp (disch := (first | omega | fail)) only [sf_e, Nat.reduceMul, Nat.reduceAdd] at n1 n2 n3 n4
  have c5 : (A 5).length = 8 := l1.1
  have c7 : (A 7).length = 8 := l1.2.1
  have c10 : (A 10).length = 20 := l1.2.2.1
  have c12 : (A 12).length = 20 := l1.2.2.2.1
  have c14 : (A 14).length = 20 := l1.2.2.2.2.1
  have c16 : (A 16).length = 20 := l1.2.2.2.2.2.1
  have c18 : (A 18).length = 8 := l1.2.2.2.2.2.2.1
  have c21 : (A 21).length = 60 := l1.2.2.2.2.2.2.2.1
  have c23 : (A 23).length = 60 := l1.2.2.2.2.2.2.2.2.1
  have c25 : (A 25).length = 60 := l1.2.2.2.2.2.2.2.2.2.1
  have c27 : (A 27).length = 60 := l1.2.2.2.2.2.2.2.2.2.2.1
  have c29 : (A 29).length = 60 := l1.2.2.2.2.2.2.2.2.2.2.2.1
  have c31 : (A 31).length = 60 := l1.2.2.2.2.2.2.2.2.2.2.2.2.1
  have c33 : (A 33).length = 4 := l1.2.2.2.2.2.2.2.2.2.2.2.2.2
  have iL := fun x => s_isLot (A := A) (F := F) (P := P) n2 (by omega) x
  have iB := fun x => s_isBidder (A := A) (F := F) (P := P) n3 (by omega) x
  have iX := fun x => s_isBid (A := A) (F := F) (P := P) n4 (by omega) x
  have eBA := fun x1 x2 x3 x4 x5 A F P => e_Bids_add 19 x1 x2 x3 x4 x5 (heap A F P) rfl
  rw [e_Pa_bid 1 _ _ _ _ _ _ rfl]
  simp (maxSteps := 2000000) (disch := (first | omega | (simp (disch := omega) only [up_eq, up_ne, cpA_o, List.length_set] <;> omega) | fail)) only [ob_s, am_bi_s, am_bv_s, am_bl_s, ↓bif_d, lits, nI_addS, nI_mulS, nI_subS, nI_lt', nI_le', nI_eq', ↓rd_nI, ↓wrH, up_eq, up_ne, up_up, up_sw, List.set_set, g_seq, g_sne, Nat.reduceEqDiff, ↓reduceIte, List.length_set, Nat.add_sub_cancel_left, Nat.add_sub_cancel, ite_true, ite_false, if_true, if_false, not_true_eq_false, not_false_eq_true, Bool.and_true, Bool.true_and, true_or, or_true, false_or, or_false, and_true, true_and, and_false, false_and, Nat.not_lt_zero, hpRX, hpIX, hpFX, hpLX, hpSX, ↓rgX, ↓rpX, Nat.reduceLeDiff, Nat.reduceLT, Nat.reduceAdd, Nat.reduceMul, Nat.reduceSub, iL, iB, iX, s_out, b01_0, eBA, n1, n2, n3, n4, g0, g1]
theorem k_bid_e2 (hI : InvN A F P nB nl nb nx q t) (x y v m w : Int32) (g0 : ix x nb) (g1 : ix y nl) (g2 : v < nI 1 ∨ nI 1000000 < v) : am_cl m_Pa_bid (.ref 1 :: [.int x, .int y, .int v, .int m, .int w]) (heap A F P) = some (some (.int (-nI 2)), heap A F P) := by
  have hI0 := hI
  obtain ⟨⟨hM, ⟨n1, n2, n3, n4⟩, hSB, hSL, hSM, hSX, hSS⟩, ⟨l1, l2, l3⟩, hH, hT, -⟩ := hI0
  have hM0 := hM
  obtain ⟨h0, h1, h2, h3, h4, h5, h6, h7, h8, h9⟩ := hM0
  simp (disch := (first | omega | fail)) only [sf_e, Nat.reduceMul, Nat.reduceAdd] at n1 n2 n3 n4
  have c5 : (A 5).length = 8 := l1.1
  have c7 : (A 7).length = 8 := l1.2.1
  have c10 : (A 10).length = 20 := l1.2.2.1
  have c12 : (A 12).length = 20 := l1.2.2.2.1
  have c14 : (A 14).length = 20 := l1.2.2.2.2.1
  have c16 : (A 16).length = 20 := l1.2.2.2.2.2.1
  have c18 : (A 18).length = 8 := l1.2.2.2.2.2.2.1
  have c21 : (A 21).length = 60 := l1.2.2.2.2.2.2.2.1
  have c23 : (A 23).length = 60 := l1.2.2.2.2.2.2.2.2.1
  have c25 : (A 25).length = 60 := l1.2.2.2.2.2.2.2.2.2.1
  have c27 : (A 27).length = 60 := l1.2.2.2.2.2.2.2.2.2.2.1
  have c29 : (A 29).length = 60 := l1.2.2.2.2.2.2.2.2.2.2.2.1
  have c31 : (A 31).length = 60 := l1.2.2.2.2.2.2.2.2.2.2.2.2.1
  have c33 : (A 33).length = 4 := l1.2.2.2.2.2.2.2.2.2.2.2.2.2
  have iL := fun x => s_isLot (A := A) (F := F) (P := P) n2 (by omega) x
  have iB := fun x => s_isBidder (A := A) (F := F) (P := P) n3 (by omega) x
  have iX := fun x => s_isBid (A := A) (F := F) (P := P) n4 (by omega) x
  have eBA := fun x1 x2 x3 x4 x5 A F P => e_Bids_add 19 x1 x2 x3 x4 x5 (heap A F P) rfl
  rw [e_Pa_bid 1 _ _ _ _ _ _ rfl]
  simp (maxSteps := 2000000) (disch := (first | omega | (simp (disch := omega) only [up_eq, up_ne, cpA_o, List.length_set] <;> omega) | fail)) only [ob_s, am_bi_s, am_bv_s, am_bl_s, ↓bif_d, lits, nI_addS, nI_mulS, nI_subS, nI_lt', nI_le', nI_eq', ↓rd_nI, ↓wrH, up_eq, up_ne, up_up, up_sw, List.set_set, g_seq, g_sne, Nat.reduceEqDiff, ↓reduceIte, List.length_set, Nat.add_sub_cancel_left, Nat.add_sub_cancel, ite_true, ite_false, if_true, if_false, not_true_eq_false, not_false_eq_true, Bool.and_true, Bool.true_and, true_or, or_true, false_or, or_false, and_true, true_and, and_false, false_and, Nat.not_lt_zero, hpRX, hpIX, hpFX, hpLX, hpSX, ↓rgX, ↓rpX, Nat.reduceLeDiff, Nat.reduceLT, Nat.reduceAdd, Nat.reduceMul, Nat.reduceSub, iL, iB, iX, s_out, b01_0, eBA, n1, n2, n3, n4, g0, g1, g2]
theorem k_bid_e3 (hI : InvN A F P nB nl nb nx q t) (x y v m w : Int32) (g0 : ix x nb) (g1 : ix y nl) (g2 : ¬ (v < nI 1 ∨ nI 1000000 < v)) (g3 : m < nI 0 ∨ nI 100000 < m) : am_cl m_Pa_bid (.ref 1 :: [.int x, .int y, .int v, .int m, .int w]) (heap A F P) = some (some (.int (-nI 2)), heap A F P) := by
  have hI0 := hI
  obtain ⟨⟨hM, ⟨n1, n2, n3, n4⟩, hSB, hSL, hSM, hSX, hSS⟩, ⟨l1, l2, l3⟩, hH, hT, -⟩ := hI0
  have hM0 := hM
  obtain ⟨h0, h1, h2, h3, h4, h5, h6, h7, h8, h9⟩ := hM0
  simp (disch := (first | omega | fail)) only [sf_e, Nat.reduceMul, Nat.reduceAdd] at n1 n2 n3 n4
  have c5 : (A 5).length = 8 := l1.1
  have c7 : (A 7).length = 8 := l1.2.1
  have c10 : (A 10).length = 20 := l1.2.2.1
  have c12 : (A 12).length = 20 := l1.2.2.2.1
  have c14 : (A 14).length = 20 := l1.2.2.2.2.1
  have c16 : (A 16).length = 20 := l1.2.2.2.2.2.1
  have c18 : (A 18).length = 8 := l1.2.2.2.2.2.2.1
  have c21 : (A 21).length = 60 := l1.2.2.2.2.2.2.2.1
  have c23 : (A 23).length = 60 := l1.2.2.2.2.2.2.2.2.1
  have c25 : (A 25).length = 60 := l1.2.2.2.2.2.2.2.2.2.1
  have c27 : (A 27).length = 60 := l1.2.2.2.2.2.2.2.2.2.2.1
  have c29 : (A 29).length = 60 := l1.2.2.2.2.2.2.2.2.2.2.2.1
  have c31 : (A 31).length = 60 := l1.2.2.2.2.2.2.2.2.2.2.2.2.1
  have c33 : (A 33).length = 4 := l1.2.2.2.2.2.2.2.2.2.2.2.2.2
  have iL := fun x => s_isLot (A := A) (F := F) (P := P) n2 (by omega) x
  have iB := fun x => s_isBidder (A := A) (F := F) (P := P) n3 (by omega) x
  have iX := fun x => s_isBid (A := A) (F := F) (P := P) n4 (by omega) x
  have eBA := fun x1 x2 x3 x4 x5 A F P => e_Bids_add 19 x1 x2 x3 x4 x5 (heap A F P) rfl
  rw [e_Pa_bid 1 _ _ _ _ _ _ rfl]
  simp (maxSteps := 2000000) (disch := (first | omega | (simp (disch := omega) only [up_eq, up_ne, cpA_o, List.length_set] <;> omega) | fail)) only [ob_s, am_bi_s, am_bv_s, am_bl_s, ↓bif_d, lits, nI_addS, nI_mulS, nI_subS, nI_lt', nI_le', nI_eq', ↓rd_nI, ↓wrH, up_eq, up_ne, up_up, up_sw, List.set_set, g_seq, g_sne, Nat.reduceEqDiff, ↓reduceIte, List.length_set, Nat.add_sub_cancel_left, Nat.add_sub_cancel, ite_true, ite_false, if_true, if_false, not_true_eq_false, not_false_eq_true, Bool.and_true, Bool.true_and, true_or, or_true, false_or, or_false, and_true, true_and, and_false, false_and, Nat.not_lt_zero, hpRX, hpIX, hpFX, hpLX, hpSX, ↓rgX, ↓rpX, Nat.reduceLeDiff, Nat.reduceLT, Nat.reduceAdd, Nat.reduceMul, Nat.reduceSub, iL, iB, iX, s_out, b01_0, eBA, n1, n2, n3, n4, g0, g1, g2, g3]
theorem k_bid_e4 (hI : InvN A F P nB nl nb nx q t) (x y v m w : Int32) (g0 : ix x nb) (g1 : ix y nl) (g2 : ¬ (v < nI 1 ∨ nI 1000000 < v)) (g3 : ¬ (m < nI 0 ∨ nI 100000 < m)) (g4 : w < nI 0 ∨ nI 1000000 < w) : am_cl m_Pa_bid (.ref 1 :: [.int x, .int y, .int v, .int m, .int w]) (heap A F P) = some (some (.int (-nI 2)), heap A F P) := by
  have hI0 := hI
  obtain ⟨⟨hM, ⟨n1, n2, n3, n4⟩, hSB, hSL, hSM, hSX, hSS⟩, ⟨l1, l2, l3⟩, hH, hT, -⟩ := hI0
  have hM0 := hM
  obtain ⟨h0, h1, h2, h3, h4, h5, h6, h7, h8, h9⟩ := hM0
  simp (disch := (first | omega | fail)) only [sf_e, Nat.reduceMul, Nat.reduceAdd] at n1 n2 n3 n4
  have c5 : (A 5).length = 8 := l1.1
  have c7 : (A 7).length = 8 := l1.2.1
  have c10 : (A 10).length = 20 := l1.2.2.1
  have c12 : (A 12).length = 20 := l1.2.2.2.1
  have c14 : (A 14).length = 20 := l1.2.2.2.2.1
  have c16 : (A 16).length = 20 := l1.2.2.2.2.2.1
  have c18 : (A 18).length = 8 := l1.2.2.2.2.2.2.1
  have c21 : (A 21).length = 60 := l1.2.2.2.2.2.2.2.1
  have c23 : (A 23).length = 60 := l1.2.2.2.2.2.2.2.2.1
  have c25 : (A 25).length = 60 := l1.2.2.2.2.2.2.2.2.2.1
  have c27 : (A 27).length = 60 := l1.2.2.2.2.2.2.2.2.2.2.1
  have c29 : (A 29).length = 60 := l1.2.2.2.2.2.2.2.2.2.2.2.1
  have c31 : (A 31).length = 60 := l1.2.2.2.2.2.2.2.2.2.2.2.2.1
  have c33 : (A 33).length = 4 := l1.2.2.2.2.2.2.2.2.2.2.2.2.2
  have iL := fun x => s_isLot (A := A) (F := F) (P := P) n2 (by omega) x
  have iB := fun x => s_isBidder (A := A) (F := F) (P := P) n3 (by omega) x
  have iX := fun x => s_isBid (A := A) (F := F) (P := P) n4 (by omega) x
  have eBA := fun x1 x2 x3 x4 x5 A F P => e_Bids_add 19 x1 x2 x3 x4 x5 (heap A F P) rfl
  rw [e_Pa_bid 1 _ _ _ _ _ _ rfl]
  simp (maxSteps := 2000000) (disch := (first | omega | (simp (disch := omega) only [up_eq, up_ne, cpA_o, List.length_set] <;> omega) | fail)) only [ob_s, am_bi_s, am_bv_s, am_bl_s, ↓bif_d, lits, nI_addS, nI_mulS, nI_subS, nI_lt', nI_le', nI_eq', ↓rd_nI, ↓wrH, up_eq, up_ne, up_up, up_sw, List.set_set, g_seq, g_sne, Nat.reduceEqDiff, ↓reduceIte, List.length_set, Nat.add_sub_cancel_left, Nat.add_sub_cancel, ite_true, ite_false, if_true, if_false, not_true_eq_false, not_false_eq_true, Bool.and_true, Bool.true_and, true_or, or_true, false_or, or_false, and_true, true_and, and_false, false_and, Nat.not_lt_zero, hpRX, hpIX, hpFX, hpLX, hpSX, ↓rgX, ↓rpX, Nat.reduceLeDiff, Nat.reduceLT, Nat.reduceAdd, Nat.reduceMul, Nat.reduceSub, iL, iB, iX, s_out, b01_0, eBA, n1, n2, n3, n4, g0, g1, g2, g3, g4]
theorem k_bid_e5 (hI : InvN A F P nB nl nb nx q t) (x y v m w : Int32) (g0 : ix x nb) (g1 : ix y nl) (g2 : ¬ (v < nI 1 ∨ nI 1000000 < v)) (g3 : ¬ (m < nI 0 ∨ nI 100000 < m)) (g4 : ¬ (w < nI 0 ∨ nI 1000000 < w)) (g5 : nx = 60) : am_cl m_Pa_bid (.ref 1 :: [.int x, .int y, .int v, .int m, .int w]) (heap A F P) = some (some (.int (-nI 3)), heap A F P) := by
  have hI0 := hI
  obtain ⟨⟨hM, ⟨n1, n2, n3, n4⟩, hSB, hSL, hSM, hSX, hSS⟩, ⟨l1, l2, l3⟩, hH, hT, -⟩ := hI0
  have hM0 := hM
  obtain ⟨h0, h1, h2, h3, h4, h5, h6, h7, h8, h9⟩ := hM0
  simp (disch := (first | omega | fail)) only [sf_e, Nat.reduceMul, Nat.reduceAdd] at n1 n2 n3 n4
  have c5 : (A 5).length = 8 := l1.1
  have c7 : (A 7).length = 8 := l1.2.1
  have c10 : (A 10).length = 20 := l1.2.2.1
  have c12 : (A 12).length = 20 := l1.2.2.2.1
  have c14 : (A 14).length = 20 := l1.2.2.2.2.1
  have c16 : (A 16).length = 20 := l1.2.2.2.2.2.1
  have c18 : (A 18).length = 8 := l1.2.2.2.2.2.2.1
  have c21 : (A 21).length = 60 := l1.2.2.2.2.2.2.2.1
  have c23 : (A 23).length = 60 := l1.2.2.2.2.2.2.2.2.1
  have c25 : (A 25).length = 60 := l1.2.2.2.2.2.2.2.2.2.1
  have c27 : (A 27).length = 60 := l1.2.2.2.2.2.2.2.2.2.2.1
  have c29 : (A 29).length = 60 := l1.2.2.2.2.2.2.2.2.2.2.2.1
  have c31 : (A 31).length = 60 := l1.2.2.2.2.2.2.2.2.2.2.2.2.1
  have c33 : (A 33).length = 4 := l1.2.2.2.2.2.2.2.2.2.2.2.2.2
  have iL := fun x => s_isLot (A := A) (F := F) (P := P) n2 (by omega) x
  have iB := fun x => s_isBidder (A := A) (F := F) (P := P) n3 (by omega) x
  have iX := fun x => s_isBid (A := A) (F := F) (P := P) n4 (by omega) x
  have eBA := fun x1 x2 x3 x4 x5 A F P => e_Bids_add 19 x1 x2 x3 x4 x5 (heap A F P) rfl
  have cn : ¬ nx < 60 := by omega
  rw [e_Pa_bid 1 _ _ _ _ _ _ rfl]
  simp (maxSteps := 2000000) (disch := (first | omega | (simp (disch := omega) only [up_eq, up_ne, cpA_o, List.length_set] <;> omega) | fail)) only [ob_s, am_bi_s, am_bv_s, am_bl_s, ↓bif_d, lits, nI_addS, nI_mulS, nI_subS, nI_lt', nI_le', nI_eq', ↓rd_nI, ↓wrH, up_eq, up_ne, up_up, up_sw, List.set_set, g_seq, g_sne, Nat.reduceEqDiff, ↓reduceIte, List.length_set, Nat.add_sub_cancel_left, Nat.add_sub_cancel, ite_true, ite_false, if_true, if_false, not_true_eq_false, not_false_eq_true, Bool.and_true, Bool.true_and, true_or, or_true, false_or, or_false, and_true, true_and, and_false, false_and, Nat.not_lt_zero, hpRX, hpIX, hpFX, hpLX, hpSX, ↓rgX, ↓rpX, Nat.reduceLeDiff, Nat.reduceLT, Nat.reduceAdd, Nat.reduceMul, Nat.reduceSub, iL, iB, iX, s_out, b01_0, eBA, n1, n2, n3, n4, g0, g1, g2, g3, g4, g5, cn]
theorem k_bid (hI : InvN A F P nB nl nb nx q t) {b0 l : Nat} (hb0 : b0 < nb) (hl : l < nl) (v m w : Int32) (g2 : ¬ (v < nI 1 ∨ nI 1000000 < v)) (g3 : ¬ (m < nI 0 ∨ nI 100000 < m)) (g4 : ¬ (w < nI 0 ∨ nI 1000000 < w)) (g5 : ¬ (nx = 60)) : Act m_Pa_bid [.int (nI b0), .int (nI l), .int v, .int m, .int w] A F P (.int (nI nx)) ((((((((A 193).set (108 + nx) (nI l)).set (168 + nx) (nI b0)).set (228 + nx) v).set (288 + nx) m).set (348 + nx) w).set (408 + nx) (nI 0)).set 107 (nI (nx + 1))) (nB) (nl) (nb) (nx + 1) q t := by
  have hI0 := hI
  obtain ⟨⟨hM, ⟨n1, n2, n3, n4⟩, hSB, hSL, hSM, hSX, hSS⟩, ⟨l1, l2, l3⟩, hH, hT, -⟩ := hI0
  have hM0 := hM
  obtain ⟨h0, h1, h2, h3, h4, h5, h6, h7, h8, h9⟩ := hM0
  simp (disch := (first | omega | fail)) only [sf_e, Nat.reduceMul, Nat.reduceAdd] at n1 n2 n3 n4
  have c5 : (A 5).length = 8 := l1.1
  have c7 : (A 7).length = 8 := l1.2.1
  have c10 : (A 10).length = 20 := l1.2.2.1
  have c12 : (A 12).length = 20 := l1.2.2.2.1
  have c14 : (A 14).length = 20 := l1.2.2.2.2.1
  have c16 : (A 16).length = 20 := l1.2.2.2.2.2.1
  have c18 : (A 18).length = 8 := l1.2.2.2.2.2.2.1
  have c21 : (A 21).length = 60 := l1.2.2.2.2.2.2.2.1
  have c23 : (A 23).length = 60 := l1.2.2.2.2.2.2.2.2.1
  have c25 : (A 25).length = 60 := l1.2.2.2.2.2.2.2.2.2.1
  have c27 : (A 27).length = 60 := l1.2.2.2.2.2.2.2.2.2.2.1
  have c29 : (A 29).length = 60 := l1.2.2.2.2.2.2.2.2.2.2.2.1
  have c31 : (A 31).length = 60 := l1.2.2.2.2.2.2.2.2.2.2.2.2.1
  have c33 : (A 33).length = 4 := l1.2.2.2.2.2.2.2.2.2.2.2.2.2
  have iL := fun x => s_isLot (A := A) (F := F) (P := P) n2 (by omega) x
  have iB := fun x => s_isBidder (A := A) (F := F) (P := P) n3 (by omega) x
  have iX := fun x => s_isBid (A := A) (F := F) (P := P) n4 (by omega) x
  have eBA := fun x1 x2 x3 x4 x5 A F P => e_Bids_add 19 x1 x2 x3 x4 x5 (heap A F P) rfl
  have g0 : ix (nI b0) nb := ⟨b0, hb0, rfl⟩
  have g1 : ix (nI l) nl := ⟨l, hl, rfl⟩
  have cn : nx < 60 := by omega
  obtain ⟨b, H', hb, b1, b2, hba, hH0, hH1, hH2⟩ := act_pre hI
  refine ⟨up (up (up (up (up (up (up (up (cpA A 2 b) 21 ((A 21).set nx (nI b0))) 23 ((A 23).set nx (nI l))) 25 ((A 25).set nx v)) 27 ((A 27).set nx m)) 29 ((A 29).set nx w)) 31 ((A 31).set nx (nI 0))) 193 ((((((((A 193).set (108 + nx) (nI l)).set (168 + nx) (nI b0)).set (228 + nx) v).set (288 + nx) m).set (348 + nx) w).set (408 + nx) (nI 0)).set 107 (nI (nx + 1)))) 194 H', up (up (up (up (cpF F 2 b) 1906 (nI (nx + 1))) 3401 (nI (kp q + 1))) 16410 (nI 0)) 19202 (nI (kp q + 1)), Pk q P, ?_, ?_, ?_, ?_, ?_, ?_, ?_⟩
  · rw [gh194, gh193, ghF2, e_Pa_bid 1 _ _ _ _ _ _ rfl]
    simp (maxSteps := 2000000) (disch := (first | omega | (simp (disch := omega) only [up_eq, up_ne, cpA_o, List.length_set] <;> omega) | fail)) only [ob_s, am_bi_s, am_bv_s, am_bl_s, ↓bif_d, lits, nI_addS, nI_mulS, nI_subS, nI_lt', nI_le', nI_eq', ↓rd_nI, ↓wrH, up_eq, up_ne, up_up, up_sw, List.set_set, g_seq, g_sne, Nat.reduceEqDiff, ↓reduceIte, List.length_set, Nat.add_sub_cancel_left, Nat.add_sub_cancel, ite_true, ite_false, if_true, if_false, not_true_eq_false, not_false_eq_true, Bool.and_true, Bool.true_and, true_or, or_true, false_or, or_false, and_true, true_and, and_false, false_and, Nat.not_lt_zero, hpRX, hpIX, hpFX, hpLX, hpSX, ↓rgX, ↓rpX, Nat.reduceLeDiff, Nat.reduceLT, Nat.reduceAdd, Nat.reduceMul, Nat.reduceSub, iL, iB, iX, s_out, b01_0, eBA, n1, n2, n3, n4, hba, cpA_o, cpF_o, g0, g1, g2, g3, g4, g5, cn]
  · refine act_done (r' := ((((((((A 193).set (108 + nx) (nI l)).set (168 + nx) (nI b0)).set (228 + nx) v).set (288 + nx) m).set (348 + nx) w).set (408 + nx) (nI 0)).set 107 (nI (nx + 1)))) hI hb hH0 hH1 hH2 ?_ ?_ ?_ ?_ ?_ ?_ ?_ ?_ ?_ ?_ ?_ ?_
    · intro j z1 z2; simp (disch := (first | omega | fail)) only [st_e, sf_e, Nat.reduceAdd, Nat.reduceMul, up_eq, up_ne, cpA_o, cpF_o]
    · intro j z1 z2 z3; simp (disch := (first | omega | fail)) only [st_e, sf_e, Nat.reduceAdd, Nat.reduceMul, up_eq, up_ne, cpA_o, cpF_o]
    · simp (disch := (first | omega | fail)) only [st_e, sf_e, Nat.reduceAdd, Nat.reduceMul, up_eq, up_ne, cpA_o, cpF_o]
    · intro k z1 z2; simp (disch := (first | omega | fail)) only [st_e, sf_e, Nat.reduceAdd, Nat.reduceMul, up_eq, up_ne, cpA_o, cpF_o]
    · simp (disch := (first | omega | fail)) only [st_e, sf_e, Nat.reduceAdd, Nat.reduceMul, up_eq, up_ne, cpA_o, cpF_o]
    · simp (disch := (first | omega | fail)) only [st_e, sf_e, Nat.reduceAdd, Nat.reduceMul, up_eq, up_ne, cpA_o, cpF_o]
    · simp (disch := (first | omega | fail)) only [st_e, sf_e, Nat.reduceAdd, Nat.reduceMul, up_eq, up_ne, cpA_o, cpF_o]
    · simp (disch := (first | omega | fail)) only [st_e, sf_e, Nat.reduceAdd, Nat.reduceMul, up_eq, up_ne, cpA_o, cpF_o]
    · simp (disch := (first | omega | fail)) only [st_e, sf_e, Nat.reduceAdd, Nat.reduceMul, up_eq, up_ne, cpA_o, cpF_o]
    · unfold LenS; simp (disch := (first | omega | (simp (disch := omega) only [up_eq, up_ne, cpA_o, List.length_set] <;> omega) | fail)) only [st_e, sf_e, Nat.reduceAdd, Nat.reduceMul, up_eq, up_ne, cpA_o, cpF_o, g_seq, g_sne, List.length_set]; exact l1
    · simp (disch := (first | omega | fail)) only [st_e, sf_e, Nat.reduceAdd, Nat.reduceMul, up_eq, up_ne, cpA_o, cpF_o]
    · refine ⟨?_, ?_, ?_, ?_, ?_, ?_, ?_⟩
      · refine ⟨by simp (disch := (first | omega | (simp (disch := omega) only [up_eq, up_ne, cpA_o, List.length_set] <;> omega) | fail)) only [st_e, sf_e, Nat.reduceAdd, Nat.reduceMul, up_eq, up_ne, cpA_o, cpF_o, g_seq, g_sne, List.length_set]; exact h0, by simp (disch := (first | omega | (simp (disch := omega) only [up_eq, up_ne, cpA_o, List.length_set] <;> omega) | fail)) only [st_e, sf_e, Nat.reduceAdd, Nat.reduceMul, up_eq, up_ne, cpA_o, cpF_o, g_seq, g_sne, List.length_set] <;> exact h1, by simp (disch := (first | omega | (simp (disch := omega) only [up_eq, up_ne, cpA_o, List.length_set] <;> omega) | fail)) only [st_e, sf_e, Nat.reduceAdd, Nat.reduceMul, up_eq, up_ne, cpA_o, cpF_o, g_seq, g_sne, List.length_set] <;> exact h2, by simp (disch := (first | omega | (simp (disch := omega) only [up_eq, up_ne, cpA_o, List.length_set] <;> omega) | fail)) only [st_e, sf_e, Nat.reduceAdd, Nat.reduceMul, up_eq, up_ne, cpA_o, cpF_o, g_seq, g_sne, List.length_set] <;> exact h3, by simp (disch := (first | omega | (simp (disch := omega) only [up_eq, up_ne, cpA_o, List.length_set] <;> omega) | fail)) only [st_e, sf_e, Nat.reduceAdd, Nat.reduceMul, up_eq, up_ne, cpA_o, cpF_o, g_seq, g_sne, List.length_set] <;> exact h4, by omega, by omega, by omega, by omega, by omega⟩
      · refine ⟨by simp (disch := (first | omega | (simp (disch := omega) only [up_eq, up_ne, cpA_o, List.length_set] <;> omega) | fail)) only [st_e, sf_e, Nat.reduceAdd, Nat.reduceMul, up_eq, up_ne, cpA_o, cpF_o, g_seq, g_sne, List.length_set] <;> exact n1, by simp (disch := (first | omega | (simp (disch := omega) only [up_eq, up_ne, cpA_o, List.length_set] <;> omega) | fail)) only [st_e, sf_e, Nat.reduceAdd, Nat.reduceMul, up_eq, up_ne, cpA_o, cpF_o, g_seq, g_sne, List.length_set] <;> exact n2, by simp (disch := (first | omega | (simp (disch := omega) only [up_eq, up_ne, cpA_o, List.length_set] <;> omega) | fail)) only [st_e, sf_e, Nat.reduceAdd, Nat.reduceMul, up_eq, up_ne, cpA_o, cpF_o, g_seq, g_sne, List.length_set] <;> exact n3, by simp (disch := (first | omega | (simp (disch := omega) only [up_eq, up_ne, cpA_o, List.length_set] <;> omega) | fail)) only [st_e, sf_e, Nat.reduceAdd, Nat.reduceMul, up_eq, up_ne, cpA_o, cpF_o, g_seq, g_sne, List.length_set] <;> exact n4⟩
      · exact SimB_c h6 (fun j z1 z2 => by simp (disch := (first | omega | (simp only [List.length_set] <;> omega) | fail)) only [g_seq, g_sne, List.length_set]) (by simp (disch := (first | omega | fail)) only [st_e, sf_e, Nat.reduceAdd, Nat.reduceMul, up_eq, up_ne, cpA_o, cpF_o]) (by simp (disch := (first | omega | fail)) only [st_e, sf_e, Nat.reduceAdd, Nat.reduceMul, up_eq, up_ne, cpA_o, cpF_o]) h5 hSB
      · exact SimL_c h7 (fun j z1 z2 => by simp (disch := (first | omega | (simp only [List.length_set] <;> omega) | fail)) only [g_seq, g_sne, List.length_set]) (by simp (disch := (first | omega | fail)) only [st_e, sf_e, Nat.reduceAdd, Nat.reduceMul, up_eq, up_ne, cpA_o, cpF_o]) (by simp (disch := (first | omega | fail)) only [st_e, sf_e, Nat.reduceAdd, Nat.reduceMul, up_eq, up_ne, cpA_o, cpF_o]) (by simp (disch := (first | omega | fail)) only [st_e, sf_e, Nat.reduceAdd, Nat.reduceMul, up_eq, up_ne, cpA_o, cpF_o]) (by simp (disch := (first | omega | fail)) only [st_e, sf_e, Nat.reduceAdd, Nat.reduceMul, up_eq, up_ne, cpA_o, cpF_o]) hSL
      · exact SimM_c h8 (fun j z1 z2 => by simp (disch := (first | omega | (simp only [List.length_set] <;> omega) | fail)) only [g_seq, g_sne, List.length_set]) (by simp (disch := (first | omega | fail)) only [st_e, sf_e, Nat.reduceAdd, Nat.reduceMul, up_eq, up_ne, cpA_o, cpF_o]) hSM
      · intro i hi
        by_cases e : i = nx
        · subst e
          exact ⟨by simp (disch := (first | omega | (simp (disch := omega) only [up_eq, up_ne, cpA_o, List.length_set] <;> omega) | fail)) only [st_e, sf_e, Nat.reduceAdd, Nat.reduceMul, up_eq, up_ne, cpA_o, cpF_o, g_seq, g_sne, List.length_set] <;> exact rfl, by simp (disch := (first | omega | (simp (disch := omega) only [up_eq, up_ne, cpA_o, List.length_set] <;> omega) | fail)) only [st_e, sf_e, Nat.reduceAdd, Nat.reduceMul, up_eq, up_ne, cpA_o, cpF_o, g_seq, g_sne, List.length_set] <;> exact rfl, by simp (disch := (first | omega | (simp (disch := omega) only [up_eq, up_ne, cpA_o, List.length_set] <;> omega) | fail)) only [st_e, sf_e, Nat.reduceAdd, Nat.reduceMul, up_eq, up_ne, cpA_o, cpF_o, g_seq, g_sne, List.length_set] <;> exact rfl, by simp (disch := (first | omega | (simp (disch := omega) only [up_eq, up_ne, cpA_o, List.length_set] <;> omega) | fail)) only [st_e, sf_e, Nat.reduceAdd, Nat.reduceMul, up_eq, up_ne, cpA_o, cpF_o, g_seq, g_sne, List.length_set] <;> exact rfl, by simp (disch := (first | omega | (simp (disch := omega) only [up_eq, up_ne, cpA_o, List.length_set] <;> omega) | fail)) only [st_e, sf_e, Nat.reduceAdd, Nat.reduceMul, up_eq, up_ne, cpA_o, cpF_o, g_seq, g_sne, List.length_set] <;> exact rfl, by simp (disch := (first | omega | (simp (disch := omega) only [up_eq, up_ne, cpA_o, List.length_set] <;> omega) | fail)) only [st_e, sf_e, Nat.reduceAdd, Nat.reduceMul, up_eq, up_ne, cpA_o, cpF_o, g_seq, g_sne, List.length_set] <;> exact rfl, by simp (disch := (first | omega | (simp (disch := omega) only [up_eq, up_ne, cpA_o, List.length_set] <;> omega) | fail)) only [st_e, sf_e, Nat.reduceAdd, Nat.reduceMul, up_eq, up_ne, cpA_o, cpF_o, g_seq, g_sne, List.length_set] <;> exact g1, by simp (disch := (first | omega | (simp (disch := omega) only [up_eq, up_ne, cpA_o, List.length_set] <;> omega) | fail)) only [st_e, sf_e, Nat.reduceAdd, Nat.reduceMul, up_eq, up_ne, cpA_o, cpF_o, g_seq, g_sne, List.length_set] <;> exact g0, by simp (disch := (first | omega | (simp (disch := omega) only [up_eq, up_ne, cpA_o, List.length_set] <;> omega) | fail)) only [st_e, sf_e, Nat.reduceAdd, Nat.reduceMul, up_eq, up_ne, cpA_o, cpF_o, g_seq, g_sne, List.length_set] <;> exact (rg_iff (by omega) (by omega)).mpr g2, by simp (disch := (first | omega | (simp (disch := omega) only [up_eq, up_ne, cpA_o, List.length_set] <;> omega) | fail)) only [st_e, sf_e, Nat.reduceAdd, Nat.reduceMul, up_eq, up_ne, cpA_o, cpF_o, g_seq, g_sne, List.length_set] <;> exact (rg_iff (by omega) (by omega)).mpr g3, by simp (disch := (first | omega | (simp (disch := omega) only [up_eq, up_ne, cpA_o, List.length_set] <;> omega) | fail)) only [st_e, sf_e, Nat.reduceAdd, Nat.reduceMul, up_eq, up_ne, cpA_o, cpF_o, g_seq, g_sne, List.length_set] <;> exact rg_mono ((rg_iff (by omega) (by omega)).mpr g4) (by omega), by simp (disch := (first | omega | (simp (disch := omega) only [up_eq, up_ne, cpA_o, List.length_set] <;> omega) | fail)) only [st_e, sf_e, Nat.reduceAdd, Nat.reduceMul, up_eq, up_ne, cpA_o, cpF_o, g_seq, g_sne, List.length_set] <;> exact ⟨0, by omega, by omega, rfl⟩⟩
        · obtain ⟨p0, p1, p2, p3, p4, p5, p6, p7, p8, p9, p10, p11⟩ := hSX i (by omega)
          simp (disch := (first | omega | fail)) only [st_e, Nat.reduceAdd] at p0 p1 p2 p3 p4 p5
          exact ⟨by simp (disch := (first | omega | (simp (disch := omega) only [up_eq, up_ne, cpA_o, List.length_set] <;> omega) | fail)) only [st_e, sf_e, Nat.reduceAdd, Nat.reduceMul, up_eq, up_ne, cpA_o, cpF_o, g_seq, g_sne, List.length_set] <;> exact p0, by simp (disch := (first | omega | (simp (disch := omega) only [up_eq, up_ne, cpA_o, List.length_set] <;> omega) | fail)) only [st_e, sf_e, Nat.reduceAdd, Nat.reduceMul, up_eq, up_ne, cpA_o, cpF_o, g_seq, g_sne, List.length_set] <;> exact p1, by simp (disch := (first | omega | (simp (disch := omega) only [up_eq, up_ne, cpA_o, List.length_set] <;> omega) | fail)) only [st_e, sf_e, Nat.reduceAdd, Nat.reduceMul, up_eq, up_ne, cpA_o, cpF_o, g_seq, g_sne, List.length_set] <;> exact p2, by simp (disch := (first | omega | (simp (disch := omega) only [up_eq, up_ne, cpA_o, List.length_set] <;> omega) | fail)) only [st_e, sf_e, Nat.reduceAdd, Nat.reduceMul, up_eq, up_ne, cpA_o, cpF_o, g_seq, g_sne, List.length_set] <;> exact p3, by simp (disch := (first | omega | (simp (disch := omega) only [up_eq, up_ne, cpA_o, List.length_set] <;> omega) | fail)) only [st_e, sf_e, Nat.reduceAdd, Nat.reduceMul, up_eq, up_ne, cpA_o, cpF_o, g_seq, g_sne, List.length_set] <;> exact p4, by simp (disch := (first | omega | (simp (disch := omega) only [up_eq, up_ne, cpA_o, List.length_set] <;> omega) | fail)) only [st_e, sf_e, Nat.reduceAdd, Nat.reduceMul, up_eq, up_ne, cpA_o, cpF_o, g_seq, g_sne, List.length_set] <;> exact p5, by simp (disch := (first | omega | (simp (disch := omega) only [up_eq, up_ne, cpA_o, List.length_set] <;> omega) | fail)) only [st_e, sf_e, Nat.reduceAdd, Nat.reduceMul, up_eq, up_ne, cpA_o, cpF_o, g_seq, g_sne, List.length_set] <;> exact p6, by simp (disch := (first | omega | (simp (disch := omega) only [up_eq, up_ne, cpA_o, List.length_set] <;> omega) | fail)) only [st_e, sf_e, Nat.reduceAdd, Nat.reduceMul, up_eq, up_ne, cpA_o, cpF_o, g_seq, g_sne, List.length_set] <;> exact p7, by simp (disch := (first | omega | (simp (disch := omega) only [up_eq, up_ne, cpA_o, List.length_set] <;> omega) | fail)) only [st_e, sf_e, Nat.reduceAdd, Nat.reduceMul, up_eq, up_ne, cpA_o, cpF_o, g_seq, g_sne, List.length_set] <;> exact p8, by simp (disch := (first | omega | (simp (disch := omega) only [up_eq, up_ne, cpA_o, List.length_set] <;> omega) | fail)) only [st_e, sf_e, Nat.reduceAdd, Nat.reduceMul, up_eq, up_ne, cpA_o, cpF_o, g_seq, g_sne, List.length_set] <;> exact p9, by simp (disch := (first | omega | (simp (disch := omega) only [up_eq, up_ne, cpA_o, List.length_set] <;> omega) | fail)) only [st_e, sf_e, Nat.reduceAdd, Nat.reduceMul, up_eq, up_ne, cpA_o, cpF_o, g_seq, g_sne, List.length_set] <;> exact p10, by simp (disch := (first | omega | (simp (disch := omega) only [up_eq, up_ne, cpA_o, List.length_set] <;> omega) | fail)) only [st_e, sf_e, Nat.reduceAdd, Nat.reduceMul, up_eq, up_ne, cpA_o, cpF_o, g_seq, g_sne, List.length_set] <;> exact p11⟩
      · exact SimS_c (fun j z1 z2 => by simp (disch := (first | omega | (simp only [List.length_set] <;> omega) | fail)) only [g_seq, g_sne, List.length_set]) (by simp (disch := (first | omega | fail)) only [st_e, sf_e, Nat.reduceAdd, Nat.reduceMul, up_eq, up_ne, cpA_o, cpF_o]) hSS
  · simp (disch := (first | omega | fail)) only [st_e, sf_e, Nat.reduceAdd, Nat.reduceMul, up_eq, up_ne, cpA_o, cpF_o]
  · rw [up_eq]; exact hH1
  · simp (disch := (first | omega | fail)) only [st_e, sf_e, Nat.reduceAdd, Nat.reduceMul, up_eq, up_ne, cpA_o, cpF_o]
  · simp (disch := (first | omega | fail)) only [st_e, sf_e, Nat.reduceAdd, Nat.reduceMul, up_eq, up_ne, cpA_o, cpF_o]
  · intro j hj; simp (disch := (first | omega | fail)) only [st_e, sf_e, Nat.reduceAdd, Nat.reduceMul, up_eq, up_ne, cpA_o, cpF_o]
theorem k_withdrawBid_e0 (hI : InvN A F P nB nl nb nx q t) (x : Int32) (g0 : ¬ (ix x nx)) : am_cl m_Pa_withdrawBid (.ref 1 :: [.int x]) (heap A F P) = some (some (.int (-nI 1)), heap A F P) := by
  have hI0 := hI
  obtain ⟨⟨hM, ⟨n1, n2, n3, n4⟩, hSB, hSL, hSM, hSX, hSS⟩, ⟨l1, l2, l3⟩, hH, hT, -⟩ := hI0
  have hM0 := hM
  obtain ⟨h0, h1, h2, h3, h4, h5, h6, h7, h8, h9⟩ := hM0
  simp (disch := (first | omega | fail)) only [sf_e, Nat.reduceMul, Nat.reduceAdd] at n1 n2 n3 n4
  have c5 : (A 5).length = 8 := l1.1
  have c7 : (A 7).length = 8 := l1.2.1
  have c10 : (A 10).length = 20 := l1.2.2.1
  have c12 : (A 12).length = 20 := l1.2.2.2.1
  have c14 : (A 14).length = 20 := l1.2.2.2.2.1
  have c16 : (A 16).length = 20 := l1.2.2.2.2.2.1
  have c18 : (A 18).length = 8 := l1.2.2.2.2.2.2.1
  have c21 : (A 21).length = 60 := l1.2.2.2.2.2.2.2.1
  have c23 : (A 23).length = 60 := l1.2.2.2.2.2.2.2.2.1
  have c25 : (A 25).length = 60 := l1.2.2.2.2.2.2.2.2.2.1
  have c27 : (A 27).length = 60 := l1.2.2.2.2.2.2.2.2.2.2.1
  have c29 : (A 29).length = 60 := l1.2.2.2.2.2.2.2.2.2.2.2.1
  have c31 : (A 31).length = 60 := l1.2.2.2.2.2.2.2.2.2.2.2.2.1
  have c33 : (A 33).length = 4 := l1.2.2.2.2.2.2.2.2.2.2.2.2.2
  have iL := fun x => s_isLot (A := A) (F := F) (P := P) n2 (by omega) x
  have iB := fun x => s_isBidder (A := A) (F := F) (P := P) n3 (by omega) x
  have iX := fun x => s_isBid (A := A) (F := F) (P := P) n4 (by omega) x
  rw [e_Pa_withdrawBid 1 _ _ rfl]
  simp (maxSteps := 2000000) (disch := (first | omega | (simp (disch := omega) only [up_eq, up_ne, cpA_o, List.length_set] <;> omega) | fail)) only [ob_s, am_bi_s, am_bv_s, am_bl_s, ↓bif_d, lits, nI_addS, nI_mulS, nI_subS, nI_lt', nI_le', nI_eq', ↓rd_nI, ↓wrH, up_eq, up_ne, up_up, up_sw, List.set_set, g_seq, g_sne, Nat.reduceEqDiff, ↓reduceIte, List.length_set, Nat.add_sub_cancel_left, Nat.add_sub_cancel, ite_true, ite_false, if_true, if_false, not_true_eq_false, not_false_eq_true, Bool.and_true, Bool.true_and, true_or, or_true, false_or, or_false, and_true, true_and, and_false, false_and, Nat.not_lt_zero, hpRX, hpIX, hpFX, hpLX, hpSX, ↓rgX, ↓rpX, Nat.reduceLeDiff, Nat.reduceLT, Nat.reduceAdd, Nat.reduceMul, Nat.reduceSub, iL, iB, iX, s_out, b01_0, n1, n2, n3, n4, g0]
theorem k_withdrawBid_e1 (hI : InvN A F P nB nl nb nx q t) {l : Nat} (hl : l < nx) (g1 : g (A 193) (408 + l) = nI 1) : am_cl m_Pa_withdrawBid (.ref 1 :: [.int (nI l)]) (heap A F P) = some (some (.int (-nI 4)), heap A F P) := by
  have hI0 := hI
  obtain ⟨⟨hM, ⟨n1, n2, n3, n4⟩, hSB, hSL, hSM, hSX, hSS⟩, ⟨l1, l2, l3⟩, hH, hT, -⟩ := hI0
  have hM0 := hM
  obtain ⟨h0, h1, h2, h3, h4, h5, h6, h7, h8, h9⟩ := hM0
  simp (disch := (first | omega | fail)) only [sf_e, Nat.reduceMul, Nat.reduceAdd] at n1 n2 n3 n4
  have c5 : (A 5).length = 8 := l1.1
  have c7 : (A 7).length = 8 := l1.2.1
  have c10 : (A 10).length = 20 := l1.2.2.1
  have c12 : (A 12).length = 20 := l1.2.2.2.1
  have c14 : (A 14).length = 20 := l1.2.2.2.2.1
  have c16 : (A 16).length = 20 := l1.2.2.2.2.2.1
  have c18 : (A 18).length = 8 := l1.2.2.2.2.2.2.1
  have c21 : (A 21).length = 60 := l1.2.2.2.2.2.2.2.1
  have c23 : (A 23).length = 60 := l1.2.2.2.2.2.2.2.2.1
  have c25 : (A 25).length = 60 := l1.2.2.2.2.2.2.2.2.2.1
  have c27 : (A 27).length = 60 := l1.2.2.2.2.2.2.2.2.2.2.1
  have c29 : (A 29).length = 60 := l1.2.2.2.2.2.2.2.2.2.2.2.1
  have c31 : (A 31).length = 60 := l1.2.2.2.2.2.2.2.2.2.2.2.2.1
  have c33 : (A 33).length = 4 := l1.2.2.2.2.2.2.2.2.2.2.2.2.2
  have iL := fun x => s_isLot (A := A) (F := F) (P := P) n2 (by omega) x
  have iB := fun x => s_isBidder (A := A) (F := F) (P := P) n3 (by omega) x
  have iX := fun x => s_isBid (A := A) (F := F) (P := P) n4 (by omega) x
  have g0 : ix (nI l) nx := ⟨l, hl, rfl⟩
  have hvv : g (A 31) l = g (A 193) (408 + l) := by
    have := (hSX l hl).2.2.2.2.2.1
    simp (disch := (first | omega | fail)) only [st_e, Nat.reduceAdd] at this
    exact this
  have hww : g (A 23) l = g (A 193) (108 + l) := by
    have := (hSX l hl).2.1
    simp (disch := (first | omega | fail)) only [st_e, Nat.reduceAdd] at this
    exact this
  rw [e_Pa_withdrawBid 1 _ _ rfl]
  simp (maxSteps := 2000000) (disch := (first | omega | (simp (disch := omega) only [up_eq, up_ne, cpA_o, List.length_set] <;> omega) | fail)) only [ob_s, am_bi_s, am_bv_s, am_bl_s, ↓bif_d, lits, nI_addS, nI_mulS, nI_subS, nI_lt', nI_le', nI_eq', ↓rd_nI, ↓wrH, up_eq, up_ne, up_up, up_sw, List.set_set, g_seq, g_sne, Nat.reduceEqDiff, ↓reduceIte, List.length_set, Nat.add_sub_cancel_left, Nat.add_sub_cancel, ite_true, ite_false, if_true, if_false, not_true_eq_false, not_false_eq_true, Bool.and_true, Bool.true_and, true_or, or_true, false_or, or_false, and_true, true_and, and_false, false_and, Nat.not_lt_zero, hpRX, hpIX, hpFX, hpLX, hpSX, ↓rgX, ↓rpX, Nat.reduceLeDiff, Nat.reduceLT, Nat.reduceAdd, Nat.reduceMul, Nat.reduceSub, iL, iB, iX, s_out, b01_0, n1, n2, n3, n4, g0, g1, hvv, hww]
theorem k_withdrawBid (hI : InvN A F P nB nl nb nx q t) {l : Nat} (hl : l < nx) (g1 : ¬ (g (A 193) (408 + l) = nI 1)) : Act m_Pa_withdrawBid [.int (nI l)] A F P (.int (g (A 193) (108 + l))) ((A 193).set (408 + l) (nI 1)) (nB) (nl) (nb) (nx) q t := by
  have hI0 := hI
  obtain ⟨⟨hM, ⟨n1, n2, n3, n4⟩, hSB, hSL, hSM, hSX, hSS⟩, ⟨l1, l2, l3⟩, hH, hT, -⟩ := hI0
  have hM0 := hM
  obtain ⟨h0, h1, h2, h3, h4, h5, h6, h7, h8, h9⟩ := hM0
  simp (disch := (first | omega | fail)) only [sf_e, Nat.reduceMul, Nat.reduceAdd] at n1 n2 n3 n4
  have c5 : (A 5).length = 8 := l1.1
  have c7 : (A 7).length = 8 := l1.2.1
  have c10 : (A 10).length = 20 := l1.2.2.1
  have c12 : (A 12).length = 20 := l1.2.2.2.1
  have c14 : (A 14).length = 20 := l1.2.2.2.2.1
  have c16 : (A 16).length = 20 := l1.2.2.2.2.2.1
  have c18 : (A 18).length = 8 := l1.2.2.2.2.2.2.1
  have c21 : (A 21).length = 60 := l1.2.2.2.2.2.2.2.1
  have c23 : (A 23).length = 60 := l1.2.2.2.2.2.2.2.2.1
  have c25 : (A 25).length = 60 := l1.2.2.2.2.2.2.2.2.2.1
  have c27 : (A 27).length = 60 := l1.2.2.2.2.2.2.2.2.2.2.1
  have c29 : (A 29).length = 60 := l1.2.2.2.2.2.2.2.2.2.2.2.1
  have c31 : (A 31).length = 60 := l1.2.2.2.2.2.2.2.2.2.2.2.2.1
  have c33 : (A 33).length = 4 := l1.2.2.2.2.2.2.2.2.2.2.2.2.2
  have iL := fun x => s_isLot (A := A) (F := F) (P := P) n2 (by omega) x
  have iB := fun x => s_isBidder (A := A) (F := F) (P := P) n3 (by omega) x
  have iX := fun x => s_isBid (A := A) (F := F) (P := P) n4 (by omega) x
  have g0 : ix (nI l) nx := ⟨l, hl, rfl⟩
  obtain ⟨b, H', hb, b1, b2, hba, hH0, hH1, hH2⟩ := act_pre hI
  have hvv : g (A 31) l = g (A 193) (408 + l) := by
    have := (hSX l hl).2.2.2.2.2.1
    simp (disch := (first | omega | fail)) only [st_e, Nat.reduceAdd] at this
    exact this
  have hww : g (A 23) l = g (A 193) (108 + l) := by
    have := (hSX l hl).2.1
    simp (disch := (first | omega | fail)) only [st_e, Nat.reduceAdd] at this
    exact this
  refine ⟨up (up (up (cpA A 2 b) 31 ((A 31).set l (nI 1))) 193 ((A 193).set (408 + l) (nI 1))) 194 H', up (up (up (cpF F 2 b) 3401 (nI (kp q + 1))) 16410 (nI 0)) 19202 (nI (kp q + 1)), Pk q P, ?_, ?_, ?_, ?_, ?_, ?_, ?_⟩
  · rw [gh194, gh193, ghF2, e_Pa_withdrawBid 1 _ _ rfl]
    simp (maxSteps := 2000000) (disch := (first | omega | (simp (disch := omega) only [up_eq, up_ne, cpA_o, List.length_set] <;> omega) | fail)) only [ob_s, am_bi_s, am_bv_s, am_bl_s, ↓bif_d, lits, nI_addS, nI_mulS, nI_subS, nI_lt', nI_le', nI_eq', ↓rd_nI, ↓wrH, up_eq, up_ne, up_up, up_sw, List.set_set, g_seq, g_sne, Nat.reduceEqDiff, ↓reduceIte, List.length_set, Nat.add_sub_cancel_left, Nat.add_sub_cancel, ite_true, ite_false, if_true, if_false, not_true_eq_false, not_false_eq_true, Bool.and_true, Bool.true_and, true_or, or_true, false_or, or_false, and_true, true_and, and_false, false_and, Nat.not_lt_zero, hpRX, hpIX, hpFX, hpLX, hpSX, ↓rgX, ↓rpX, Nat.reduceLeDiff, Nat.reduceLT, Nat.reduceAdd, Nat.reduceMul, Nat.reduceSub, iL, iB, iX, s_out, b01_0, n1, n2, n3, n4, hba, cpA_o, cpF_o, g0, g1, hvv, hww]
  · refine act_done (r' := ((A 193).set (408 + l) (nI 1))) hI hb hH0 hH1 hH2 ?_ ?_ ?_ ?_ ?_ ?_ ?_ ?_ ?_ ?_ ?_ ?_
    · intro j z1 z2; simp (disch := (first | omega | fail)) only [st_e, sf_e, Nat.reduceAdd, Nat.reduceMul, up_eq, up_ne, cpA_o, cpF_o]
    · intro j z1 z2 z3; simp (disch := (first | omega | fail)) only [st_e, sf_e, Nat.reduceAdd, Nat.reduceMul, up_eq, up_ne, cpA_o, cpF_o]
    · simp (disch := (first | omega | fail)) only [st_e, sf_e, Nat.reduceAdd, Nat.reduceMul, up_eq, up_ne, cpA_o, cpF_o]
    · intro k z1 z2; simp (disch := (first | omega | fail)) only [st_e, sf_e, Nat.reduceAdd, Nat.reduceMul, up_eq, up_ne, cpA_o, cpF_o]
    · simp (disch := (first | omega | fail)) only [st_e, sf_e, Nat.reduceAdd, Nat.reduceMul, up_eq, up_ne, cpA_o, cpF_o]
    · simp (disch := (first | omega | fail)) only [st_e, sf_e, Nat.reduceAdd, Nat.reduceMul, up_eq, up_ne, cpA_o, cpF_o]
    · simp (disch := (first | omega | fail)) only [st_e, sf_e, Nat.reduceAdd, Nat.reduceMul, up_eq, up_ne, cpA_o, cpF_o]
    · simp (disch := (first | omega | fail)) only [st_e, sf_e, Nat.reduceAdd, Nat.reduceMul, up_eq, up_ne, cpA_o, cpF_o]
    · simp (disch := (first | omega | fail)) only [st_e, sf_e, Nat.reduceAdd, Nat.reduceMul, up_eq, up_ne, cpA_o, cpF_o]
    · unfold LenS; simp (disch := (first | omega | (simp (disch := omega) only [up_eq, up_ne, cpA_o, List.length_set] <;> omega) | fail)) only [st_e, sf_e, Nat.reduceAdd, Nat.reduceMul, up_eq, up_ne, cpA_o, cpF_o, g_seq, g_sne, List.length_set]; exact l1
    · simp (disch := (first | omega | fail)) only [st_e, sf_e, Nat.reduceAdd, Nat.reduceMul, up_eq, up_ne, cpA_o, cpF_o]
    · refine ⟨?_, ?_, ?_, ?_, ?_, ?_, ?_⟩
      · refine ⟨by simp (disch := (first | omega | (simp (disch := omega) only [up_eq, up_ne, cpA_o, List.length_set] <;> omega) | fail)) only [st_e, sf_e, Nat.reduceAdd, Nat.reduceMul, up_eq, up_ne, cpA_o, cpF_o, g_seq, g_sne, List.length_set]; exact h0, by simp (disch := (first | omega | (simp (disch := omega) only [up_eq, up_ne, cpA_o, List.length_set] <;> omega) | fail)) only [st_e, sf_e, Nat.reduceAdd, Nat.reduceMul, up_eq, up_ne, cpA_o, cpF_o, g_seq, g_sne, List.length_set] <;> exact h1, by simp (disch := (first | omega | (simp (disch := omega) only [up_eq, up_ne, cpA_o, List.length_set] <;> omega) | fail)) only [st_e, sf_e, Nat.reduceAdd, Nat.reduceMul, up_eq, up_ne, cpA_o, cpF_o, g_seq, g_sne, List.length_set] <;> exact h2, by simp (disch := (first | omega | (simp (disch := omega) only [up_eq, up_ne, cpA_o, List.length_set] <;> omega) | fail)) only [st_e, sf_e, Nat.reduceAdd, Nat.reduceMul, up_eq, up_ne, cpA_o, cpF_o, g_seq, g_sne, List.length_set] <;> exact h3, by simp (disch := (first | omega | (simp (disch := omega) only [up_eq, up_ne, cpA_o, List.length_set] <;> omega) | fail)) only [st_e, sf_e, Nat.reduceAdd, Nat.reduceMul, up_eq, up_ne, cpA_o, cpF_o, g_seq, g_sne, List.length_set] <;> exact h4, by omega, by omega, by omega, by omega, by omega⟩
      · refine ⟨by simp (disch := (first | omega | (simp (disch := omega) only [up_eq, up_ne, cpA_o, List.length_set] <;> omega) | fail)) only [st_e, sf_e, Nat.reduceAdd, Nat.reduceMul, up_eq, up_ne, cpA_o, cpF_o, g_seq, g_sne, List.length_set] <;> exact n1, by simp (disch := (first | omega | (simp (disch := omega) only [up_eq, up_ne, cpA_o, List.length_set] <;> omega) | fail)) only [st_e, sf_e, Nat.reduceAdd, Nat.reduceMul, up_eq, up_ne, cpA_o, cpF_o, g_seq, g_sne, List.length_set] <;> exact n2, by simp (disch := (first | omega | (simp (disch := omega) only [up_eq, up_ne, cpA_o, List.length_set] <;> omega) | fail)) only [st_e, sf_e, Nat.reduceAdd, Nat.reduceMul, up_eq, up_ne, cpA_o, cpF_o, g_seq, g_sne, List.length_set] <;> exact n3, by simp (disch := (first | omega | (simp (disch := omega) only [up_eq, up_ne, cpA_o, List.length_set] <;> omega) | fail)) only [st_e, sf_e, Nat.reduceAdd, Nat.reduceMul, up_eq, up_ne, cpA_o, cpF_o, g_seq, g_sne, List.length_set] <;> exact n4⟩
      · exact SimB_c h6 (fun j z1 z2 => by simp (disch := (first | omega | (simp only [List.length_set] <;> omega) | fail)) only [g_seq, g_sne, List.length_set]) (by simp (disch := (first | omega | fail)) only [st_e, sf_e, Nat.reduceAdd, Nat.reduceMul, up_eq, up_ne, cpA_o, cpF_o]) (by simp (disch := (first | omega | fail)) only [st_e, sf_e, Nat.reduceAdd, Nat.reduceMul, up_eq, up_ne, cpA_o, cpF_o]) h5 hSB
      · exact SimL_c h7 (fun j z1 z2 => by simp (disch := (first | omega | (simp only [List.length_set] <;> omega) | fail)) only [g_seq, g_sne, List.length_set]) (by simp (disch := (first | omega | fail)) only [st_e, sf_e, Nat.reduceAdd, Nat.reduceMul, up_eq, up_ne, cpA_o, cpF_o]) (by simp (disch := (first | omega | fail)) only [st_e, sf_e, Nat.reduceAdd, Nat.reduceMul, up_eq, up_ne, cpA_o, cpF_o]) (by simp (disch := (first | omega | fail)) only [st_e, sf_e, Nat.reduceAdd, Nat.reduceMul, up_eq, up_ne, cpA_o, cpF_o]) (by simp (disch := (first | omega | fail)) only [st_e, sf_e, Nat.reduceAdd, Nat.reduceMul, up_eq, up_ne, cpA_o, cpF_o]) hSL
      · exact SimM_c h8 (fun j z1 z2 => by simp (disch := (first | omega | (simp only [List.length_set] <;> omega) | fail)) only [g_seq, g_sne, List.length_set]) (by simp (disch := (first | omega | fail)) only [st_e, sf_e, Nat.reduceAdd, Nat.reduceMul, up_eq, up_ne, cpA_o, cpF_o]) hSM
      · intro i hi
        by_cases e : i = l
        · subst e
          obtain ⟨p0, p1, p2, p3, p4, p5, p6, p7, p8, p9, p10, p11⟩ := hSX i hi
          simp (disch := (first | omega | fail)) only [st_e, Nat.reduceAdd] at p0 p1 p2 p3 p4 p5
          exact ⟨by simp (disch := (first | omega | (simp (disch := omega) only [up_eq, up_ne, cpA_o, List.length_set] <;> omega) | fail)) only [st_e, sf_e, Nat.reduceAdd, Nat.reduceMul, up_eq, up_ne, cpA_o, cpF_o, g_seq, g_sne, List.length_set] <;> exact p0, by simp (disch := (first | omega | (simp (disch := omega) only [up_eq, up_ne, cpA_o, List.length_set] <;> omega) | fail)) only [st_e, sf_e, Nat.reduceAdd, Nat.reduceMul, up_eq, up_ne, cpA_o, cpF_o, g_seq, g_sne, List.length_set] <;> exact p1, by simp (disch := (first | omega | (simp (disch := omega) only [up_eq, up_ne, cpA_o, List.length_set] <;> omega) | fail)) only [st_e, sf_e, Nat.reduceAdd, Nat.reduceMul, up_eq, up_ne, cpA_o, cpF_o, g_seq, g_sne, List.length_set] <;> exact p2, by simp (disch := (first | omega | (simp (disch := omega) only [up_eq, up_ne, cpA_o, List.length_set] <;> omega) | fail)) only [st_e, sf_e, Nat.reduceAdd, Nat.reduceMul, up_eq, up_ne, cpA_o, cpF_o, g_seq, g_sne, List.length_set] <;> exact p3, by simp (disch := (first | omega | (simp (disch := omega) only [up_eq, up_ne, cpA_o, List.length_set] <;> omega) | fail)) only [st_e, sf_e, Nat.reduceAdd, Nat.reduceMul, up_eq, up_ne, cpA_o, cpF_o, g_seq, g_sne, List.length_set] <;> exact p4, by simp (disch := (first | omega | (simp (disch := omega) only [up_eq, up_ne, cpA_o, List.length_set] <;> omega) | fail)) only [st_e, sf_e, Nat.reduceAdd, Nat.reduceMul, up_eq, up_ne, cpA_o, cpF_o, g_seq, g_sne, List.length_set] <;> exact rfl, by simp (disch := (first | omega | (simp (disch := omega) only [up_eq, up_ne, cpA_o, List.length_set] <;> omega) | fail)) only [st_e, sf_e, Nat.reduceAdd, Nat.reduceMul, up_eq, up_ne, cpA_o, cpF_o, g_seq, g_sne, List.length_set] <;> exact p6, by simp (disch := (first | omega | (simp (disch := omega) only [up_eq, up_ne, cpA_o, List.length_set] <;> omega) | fail)) only [st_e, sf_e, Nat.reduceAdd, Nat.reduceMul, up_eq, up_ne, cpA_o, cpF_o, g_seq, g_sne, List.length_set] <;> exact p7, by simp (disch := (first | omega | (simp (disch := omega) only [up_eq, up_ne, cpA_o, List.length_set] <;> omega) | fail)) only [st_e, sf_e, Nat.reduceAdd, Nat.reduceMul, up_eq, up_ne, cpA_o, cpF_o, g_seq, g_sne, List.length_set] <;> exact p8, by simp (disch := (first | omega | (simp (disch := omega) only [up_eq, up_ne, cpA_o, List.length_set] <;> omega) | fail)) only [st_e, sf_e, Nat.reduceAdd, Nat.reduceMul, up_eq, up_ne, cpA_o, cpF_o, g_seq, g_sne, List.length_set] <;> exact p9, by simp (disch := (first | omega | (simp (disch := omega) only [up_eq, up_ne, cpA_o, List.length_set] <;> omega) | fail)) only [st_e, sf_e, Nat.reduceAdd, Nat.reduceMul, up_eq, up_ne, cpA_o, cpF_o, g_seq, g_sne, List.length_set] <;> exact p10, by simp (disch := (first | omega | (simp (disch := omega) only [up_eq, up_ne, cpA_o, List.length_set] <;> omega) | fail)) only [st_e, sf_e, Nat.reduceAdd, Nat.reduceMul, up_eq, up_ne, cpA_o, cpF_o, g_seq, g_sne, List.length_set] <;> exact ⟨1, by omega, by omega, rfl⟩⟩
        · obtain ⟨p0, p1, p2, p3, p4, p5, p6, p7, p8, p9, p10, p11⟩ := hSX i (by omega)
          simp (disch := (first | omega | fail)) only [st_e, Nat.reduceAdd] at p0 p1 p2 p3 p4 p5
          exact ⟨by simp (disch := (first | omega | (simp (disch := omega) only [up_eq, up_ne, cpA_o, List.length_set] <;> omega) | fail)) only [st_e, sf_e, Nat.reduceAdd, Nat.reduceMul, up_eq, up_ne, cpA_o, cpF_o, g_seq, g_sne, List.length_set] <;> exact p0, by simp (disch := (first | omega | (simp (disch := omega) only [up_eq, up_ne, cpA_o, List.length_set] <;> omega) | fail)) only [st_e, sf_e, Nat.reduceAdd, Nat.reduceMul, up_eq, up_ne, cpA_o, cpF_o, g_seq, g_sne, List.length_set] <;> exact p1, by simp (disch := (first | omega | (simp (disch := omega) only [up_eq, up_ne, cpA_o, List.length_set] <;> omega) | fail)) only [st_e, sf_e, Nat.reduceAdd, Nat.reduceMul, up_eq, up_ne, cpA_o, cpF_o, g_seq, g_sne, List.length_set] <;> exact p2, by simp (disch := (first | omega | (simp (disch := omega) only [up_eq, up_ne, cpA_o, List.length_set] <;> omega) | fail)) only [st_e, sf_e, Nat.reduceAdd, Nat.reduceMul, up_eq, up_ne, cpA_o, cpF_o, g_seq, g_sne, List.length_set] <;> exact p3, by simp (disch := (first | omega | (simp (disch := omega) only [up_eq, up_ne, cpA_o, List.length_set] <;> omega) | fail)) only [st_e, sf_e, Nat.reduceAdd, Nat.reduceMul, up_eq, up_ne, cpA_o, cpF_o, g_seq, g_sne, List.length_set] <;> exact p4, by simp (disch := (first | omega | (simp (disch := omega) only [up_eq, up_ne, cpA_o, List.length_set] <;> omega) | fail)) only [st_e, sf_e, Nat.reduceAdd, Nat.reduceMul, up_eq, up_ne, cpA_o, cpF_o, g_seq, g_sne, List.length_set] <;> exact p5, by simp (disch := (first | omega | (simp (disch := omega) only [up_eq, up_ne, cpA_o, List.length_set] <;> omega) | fail)) only [st_e, sf_e, Nat.reduceAdd, Nat.reduceMul, up_eq, up_ne, cpA_o, cpF_o, g_seq, g_sne, List.length_set] <;> exact p6, by simp (disch := (first | omega | (simp (disch := omega) only [up_eq, up_ne, cpA_o, List.length_set] <;> omega) | fail)) only [st_e, sf_e, Nat.reduceAdd, Nat.reduceMul, up_eq, up_ne, cpA_o, cpF_o, g_seq, g_sne, List.length_set] <;> exact p7, by simp (disch := (first | omega | (simp (disch := omega) only [up_eq, up_ne, cpA_o, List.length_set] <;> omega) | fail)) only [st_e, sf_e, Nat.reduceAdd, Nat.reduceMul, up_eq, up_ne, cpA_o, cpF_o, g_seq, g_sne, List.length_set] <;> exact p8, by simp (disch := (first | omega | (simp (disch := omega) only [up_eq, up_ne, cpA_o, List.length_set] <;> omega) | fail)) only [st_e, sf_e, Nat.reduceAdd, Nat.reduceMul, up_eq, up_ne, cpA_o, cpF_o, g_seq, g_sne, List.length_set] <;> exact p9, by simp (disch := (first | omega | (simp (disch := omega) only [up_eq, up_ne, cpA_o, List.length_set] <;> omega) | fail)) only [st_e, sf_e, Nat.reduceAdd, Nat.reduceMul, up_eq, up_ne, cpA_o, cpF_o, g_seq, g_sne, List.length_set] <;> exact p10, by simp (disch := (first | omega | (simp (disch := omega) only [up_eq, up_ne, cpA_o, List.length_set] <;> omega) | fail)) only [st_e, sf_e, Nat.reduceAdd, Nat.reduceMul, up_eq, up_ne, cpA_o, cpF_o, g_seq, g_sne, List.length_set] <;> exact p11⟩
      · exact SimS_c (fun j z1 z2 => by simp (disch := (first | omega | (simp only [List.length_set] <;> omega) | fail)) only [g_seq, g_sne, List.length_set]) (by simp (disch := (first | omega | fail)) only [st_e, sf_e, Nat.reduceAdd, Nat.reduceMul, up_eq, up_ne, cpA_o, cpF_o]) hSS
  · simp (disch := (first | omega | fail)) only [st_e, sf_e, Nat.reduceAdd, Nat.reduceMul, up_eq, up_ne, cpA_o, cpF_o]
  · rw [up_eq]; exact hH1
  · simp (disch := (first | omega | fail)) only [st_e, sf_e, Nat.reduceAdd, Nat.reduceMul, up_eq, up_ne, cpA_o, cpF_o]
  · simp (disch := (first | omega | fail)) only [st_e, sf_e, Nat.reduceAdd, Nat.reduceMul, up_eq, up_ne, cpA_o, cpF_o]
  · intro j hj; simp (disch := (first | omega | fail)) only [st_e, sf_e, Nat.reduceAdd, Nat.reduceMul, up_eq, up_ne, cpA_o, cpF_o]
end X
