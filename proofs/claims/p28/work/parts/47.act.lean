section X
variable {A : Nat → List Int32} {F : Nat → Int32} {P : Nat → Nat} {nB nl nb nx q t : Nat}
/-- the sum of n values from k on, behind s -/
def sF (f : Nat → Int32) : Nat → Nat → Int32 → Int32
  | 0, _, s => s
  | n + 1, k, s => sF f n (k + 1) (s + f k)
theorem sF_c {f f' : Nat → Int32} : ∀ n k s, (∀ j, k ≤ j → j < k + n → f j = f' j) → sF f n k s = sF f' n k s := by
  intro n
  induction n with
  | zero => intro k s _; rfl
  | succ n ih =>
    intro k s h
    show sF f n (k + 1) (s + f k) = sF f' n (k + 1) (s + f' k)
    rw [h k (Nat.le_refl _) (by omega)]
    exact ih (k + 1) _ (fun j h1 h2 => h j (by omega) (by omega))
theorem l_rsum {a q : Nat} {h : am_H} {l : List Int32} (h1 : h[a]? = some (.inr (5, [.ref q]))) (h2 : h[q]? = some (.inl (0, l))) (hl : l.length < 2 ^ 31) {N : Nat} (hN : N ≤ l.length) : ∀ n k s, k + n = N → am_ev m_Row_sum (4, [.ref a, .int (nI N), .int s, .int (nI k)], [], h) = some (some (.int (sF (fun j => g l j) n k s)), h) := by
  have e1 : am_gr h a 5 0 = some q := by simp [am_gr, h1]
  have e2 : am_len h q = some (nI l.length) := by unfold am_len; rw [h2]; rfl
  have e3 : ∀ i, am_al h 0 q i = bif am_in i l.length then l[i.toNatClampNeg]? else none := by
    intro i; unfold am_al; rw [h2]; rfl
  intro n
  induction n with
  | zero =>
    intro k s hk
    have hle : N ≤ k := by omega
    rw [b_Row_sum_4]
    simp (maxSteps := 2000000) (disch := (first | omega | (simp (disch := omega) only [up_eq, up_ne, cpA_o, List.length_set] <;> omega) | fail)) only [ob_s, am_bi_s, am_bv_s, am_bl_s, ↓bif_d, lits, nI_addS, nI_mulS, nI_subS, nI_lt', nI_le', nI_eq', ↓rd_nI, ↓wrH, up_eq, up_ne, up_up, up_sw, List.set_set, g_seq, g_sne, Nat.reduceEqDiff, ↓reduceIte, List.length_set, Nat.add_sub_cancel_left, Nat.add_sub_cancel, ite_true, ite_false, if_true, if_false, not_true_eq_false, not_false_eq_true, Bool.and_true, Bool.true_and, true_or, or_true, false_or, or_false, and_true, true_and, and_false, false_and, Nat.not_lt_zero, e1, e2, e3, hle]
    rfl
  | succ n ih =>
    intro k s hk
    have hle : ¬ N ≤ k := by omega
    have hle2 : ¬ l.length ≤ k := by omega
    have ih := ih (k + 1) (s + g l k) (by omega)
    rw [b_Row_sum_4]
    simp (maxSteps := 2000000) (disch := (first | omega | (simp (disch := omega) only [up_eq, up_ne, cpA_o, List.length_set] <;> omega) | fail)) only [ob_s, am_bi_s, am_bv_s, am_bl_s, ↓bif_d, lits, nI_addS, nI_mulS, nI_subS, nI_lt', nI_le', nI_eq', ↓rd_nI, ↓wrH, up_eq, up_ne, up_up, up_sw, List.set_set, g_seq, g_sne, Nat.reduceEqDiff, ↓reduceIte, List.length_set, Nat.add_sub_cancel_left, Nat.add_sub_cancel, ite_true, ite_false, if_true, if_false, not_true_eq_false, not_false_eq_true, Bool.and_true, Bool.true_and, true_or, or_true, false_or, or_false, and_true, true_and, and_false, false_and, Nat.not_lt_zero, e1, e2, e3, hle, hle2, ih]
    rfl
theorem s_rsum {a q : Nat} {h : am_H} {l : List Int32} (h1 : h[a]? = some (.inr (5, [.ref q]))) (h2 : h[q]? = some (.inl (0, l))) (hl : l.length < 2 ^ 31) {N : Nat} (hN : N ≤ l.length) : am_cl m_Row_sum [.ref a, .int (nI N)] h = some (some (.int (sF (fun j => g l j) N 0 (nI 0))), h) := by
  rw [e_Row_sum a _ h h1]
  exact l_rsum h1 h2 hl hN N 0 (nI 0) (by omega)
theorem s_sum16 (hn : nl ≤ (A 16).length) (hl : (A 16).length < 2 ^ 31) : am_cl m_Row_sum [.ref 15, .int (nI nl)] (heap A F P) = some (some (.int (sF (fun j => g (A 16) j) nl 0 (nI 0))), heap A F P) := s_rsum (h := heap A F P) (a := 15) (q := 16) rfl rfl hl hn
theorem s_sum31 (hn : nx ≤ (A 31).length) (hl : (A 31).length < 2 ^ 31) : am_cl m_Row_sum [.ref 30, .int (nI nx)] (heap A F P) = some (some (.int (sF (fun j => g (A 31) j) nx 0 (nI 0))), heap A F P) := s_rsum (h := heap A F P) (a := 30) (q := 31) rfl rfl hl hn
theorem k_withdrawLot0_e0 (hI : InvN A F P nB nl nb nx q t) (x : Int32) (g0 : ¬ (ix x nl)) : am_cl m_Pa_withdrawLot (.ref 1 :: [.int x, .int (nI 0)]) (heap A F P) = some (some (.int (-nI 1)), heap A F P) := by
  have hI0 := hI
  obtain ⟨⟨hM, ⟨n1, n2, n3, n4⟩, hSB, hSL, hSM, hSX, hSS⟩, ⟨l1, l2, l3⟩, hH, hT, -⟩ := hI0
  have hM0 := hM
  obtain ⟨h0, h1, h2, h3, h4, h5, h6, h7, h8, h9⟩ := hM0
  simp (disch := (first | omega | fail)) only [sf_e, Nat.reduceMul, Nat.reduceAdd] at n1 n2 n3 n4
  have c5 : (A 5).length = 8 := l1.1
  have c7 : (A 7).length = 8 := l1.2.1
  have c10 : (A 10).length = 20 := l1.2.2.1
  have c12 : (A 12).length = 20 := l1.2.2.2.1
  have c14 : (A 14).length = 20 := l1.2.2.2.2.1
  have c16 : (A 16).length = 20 := l1.2.2.2.2.2.1
  have c18 : (A 18).length = 8 := l1.2.2.2.2.2.2.1
  have c21 : (A 21).length = 60 := l1.2.2.2.2.2.2.2.1
  have c23 : (A 23).length = 60 := l1.2.2.2.2.2.2.2.2.1
  have c25 : (A 25).length = 60 := l1.2.2.2.2.2.2.2.2.2.1
  have c27 : (A 27).length = 60 := l1.2.2.2.2.2.2.2.2.2.2.1
  have c29 : (A 29).length = 60 := l1.2.2.2.2.2.2.2.2.2.2.2.1
  have c31 : (A 31).length = 60 := l1.2.2.2.2.2.2.2.2.2.2.2.2.1
  have c33 : (A 33).length = 4 := l1.2.2.2.2.2.2.2.2.2.2.2.2.2
  have iL := fun x => s_isLot (A := A) (F := F) (P := P) n2 (by omega) x
  have iB := fun x => s_isBidder (A := A) (F := F) (P := P) n3 (by omega) x
  have iX := fun x => s_isBid (A := A) (F := F) (P := P) n4 (by omega) x
  rw [e_Pa_withdrawLot 1 _ _ _ rfl]
  simp (maxSteps := 2000000) (disch := (first | omega | (simp (disch := omega) only [up_eq, up_ne, cpA_o, List.length_set] <;> omega) | fail)) only [ob_s, am_bi_s, am_bv_s, am_bl_s, ↓bif_d, lits, nI_addS, nI_mulS, nI_subS, nI_lt', nI_le', nI_eq', ↓rd_nI, ↓wrH, up_eq, up_ne, up_up, up_sw, List.set_set, g_seq, g_sne, Nat.reduceEqDiff, ↓reduceIte, List.length_set, Nat.add_sub_cancel_left, Nat.add_sub_cancel, ite_true, ite_false, if_true, if_false, not_true_eq_false, not_false_eq_true, Bool.and_true, Bool.true_and, true_or, or_true, false_or, or_false, and_true, true_and, and_false, false_and, Nat.not_lt_zero, hpRX, hpIX, hpFX, hpLX, hpSX, ↓rgX, ↓rpX, Nat.reduceLeDiff, Nat.reduceLT, Nat.reduceAdd, Nat.reduceMul, Nat.reduceSub, iL, iB, iX, s_out, b01_0, n1, n2, n3, n4, g0]
theorem k_withdrawLot0_e1 (hI : InvN A F P nB nl nb nx q t) {l : Nat} (hl : l < nl) (g1 : g (A 193) (78 + l) = nI 0) : am_cl m_Pa_withdrawLot (.ref 1 :: [.int (nI l), .int (nI 0)]) (heap A F P) = some (some (.int (-nI 4)), heap A F P) := by
  have hI0 := hI
  obtain ⟨⟨hM, ⟨n1, n2, n3, n4⟩, hSB, hSL, hSM, hSX, hSS⟩, ⟨l1, l2, l3⟩, hH, hT, -⟩ := hI0
  have hM0 := hM
  obtain ⟨h0, h1, h2, h3, h4, h5, h6, h7, h8, h9⟩ := hM0
  simp (disch := (first | omega | fail)) only [sf_e, Nat.reduceMul, Nat.reduceAdd] at n1 n2 n3 n4
  have c5 : (A 5).length = 8 := l1.1
  have c7 : (A 7).length = 8 := l1.2.1
  have c10 : (A 10).length = 20 := l1.2.2.1
  have c12 : (A 12).length = 20 := l1.2.2.2.1
  have c14 : (A 14).length = 20 := l1.2.2.2.2.1
  have c16 : (A 16).length = 20 := l1.2.2.2.2.2.1
  have c18 : (A 18).length = 8 := l1.2.2.2.2.2.2.1
  have c21 : (A 21).length = 60 := l1.2.2.2.2.2.2.2.1
  have c23 : (A 23).length = 60 := l1.2.2.2.2.2.2.2.2.1
  have c25 : (A 25).length = 60 := l1.2.2.2.2.2.2.2.2.2.1
  have c27 : (A 27).length = 60 := l1.2.2.2.2.2.2.2.2.2.2.1
  have c29 : (A 29).length = 60 := l1.2.2.2.2.2.2.2.2.2.2.2.1
  have c31 : (A 31).length = 60 := l1.2.2.2.2.2.2.2.2.2.2.2.2.1
  have c33 : (A 33).length = 4 := l1.2.2.2.2.2.2.2.2.2.2.2.2.2
  have iL := fun x => s_isLot (A := A) (F := F) (P := P) n2 (by omega) x
  have iB := fun x => s_isBidder (A := A) (F := F) (P := P) n3 (by omega) x
  have iX := fun x => s_isBid (A := A) (F := F) (P := P) n4 (by omega) x
  have g0 : ix (nI l) nl := ⟨l, hl, rfl⟩
  have hvv : g (A 16) l = g (A 193) (78 + l) := by
    have := (hSL l hl).2.2.2.1
    simp (disch := (first | omega | fail)) only [st_e, Nat.reduceAdd] at this
    exact this
  have hS2 : ∀ j, j < nl → g ((A 193).set (78 + l) (nI 0)) (78 + j) = g ((A 16).set l (nI 0)) j := by
    intro j hj
    have e := (hSL j hj).2.2.2.1
    simp (disch := (first | omega | fail)) only [st_e, Nat.reduceAdd] at e
    by_cases z : j = l
    · subst z; simp (disch := (first | omega | (simp only [List.length_set] <;> omega) | fail)) only [g_seq, g_sne, List.length_set]
    · simp (disch := (first | omega | (simp only [List.length_set] <;> omega) | fail)) only [g_seq, g_sne, List.length_set]; exact e.symm
  have hS3 : sF (fun j => g ((A 193).set (78 + l) (nI 0)) (78 + j)) nl 0 (nI 0) = sF (fun j => g ((A 16).set l (nI 0)) j) nl 0 (nI 0) := sF_c _ _ _ (fun j z1 z2 => hS2 j (by omega))
  rw [e_Pa_withdrawLot 1 _ _ _ rfl]
  simp (maxSteps := 2000000) (disch := (first | omega | (simp (disch := omega) only [up_eq, up_ne, cpA_o, List.length_set] <;> omega) | fail)) only [ob_s, am_bi_s, am_bv_s, am_bl_s, ↓bif_d, lits, nI_addS, nI_mulS, nI_subS, nI_lt', nI_le', nI_eq', ↓rd_nI, ↓wrH, up_eq, up_ne, up_up, up_sw, List.set_set, g_seq, g_sne, Nat.reduceEqDiff, ↓reduceIte, List.length_set, Nat.add_sub_cancel_left, Nat.add_sub_cancel, ite_true, ite_false, if_true, if_false, not_true_eq_false, not_false_eq_true, Bool.and_true, Bool.true_and, true_or, or_true, false_or, or_false, and_true, true_and, and_false, false_and, Nat.not_lt_zero, hpRX, hpIX, hpFX, hpLX, hpSX, ↓rgX, ↓rpX, Nat.reduceLeDiff, Nat.reduceLT, Nat.reduceAdd, Nat.reduceMul, Nat.reduceSub, iL, iB, iX, s_out, b01_0, n1, n2, n3, n4, g0, g1, hvv, hS3, s_sum16]
theorem k_withdrawLot0 (hI : InvN A F P nB nl nb nx q t) {l : Nat} (hl : l < nl) (g1 : ¬ (g (A 193) (78 + l) = nI 0)) : Act m_Pa_withdrawLot [.int (nI l), .int (nI 0)] A F P (.int (sF (fun j => g ((A 193).set (78 + l) (nI 0)) (78 + j)) nl 0 (nI 0))) ((A 193).set (78 + l) (nI 0)) (nB) (nl) (nb) (nx) q t := by
  have hI0 := hI
  obtain ⟨⟨hM, ⟨n1, n2, n3, n4⟩, hSB, hSL, hSM, hSX, hSS⟩, ⟨l1, l2, l3⟩, hH, hT, -⟩ := hI0
  have hM0 := hM
  obtain ⟨h0, h1, h2, h3, h4, h5, h6, h7, h8, h9⟩ := hM0
  simp (disch := (first | omega | fail)) only [sf_e, Nat.reduceMul, Nat.reduceAdd] at n1 n2 n3 n4
  have c5 : (A 5).length = 8 := l1.1
  have c7 : (A 7).length = 8 := l1.2.1
  have c10 : (A 10).length = 20 := l1.2.2.1
  have c12 : (A 12).length = 20 := l1.2.2.2.1
  have c14 : (A 14).length = 20 := l1.2.2.2.2.1
  have c16 : (A 16).length = 20 := l1.2.2.2.2.2.1
  have c18 : (A 18).length = 8 := l1.2.2.2.2.2.2.1
  have c21 : (A 21).length = 60 := l1.2.2.2.2.2.2.2.1
  have c23 : (A 23).length = 60 := l1.2.2.2.2.2.2.2.2.1
  have c25 : (A 25).length = 60 := l1.2.2.2.2.2.2.2.2.2.1
  have c27 : (A 27).length = 60 := l1.2.2.2.2.2.2.2.2.2.2.1
  have c29 : (A 29).length = 60 := l1.2.2.2.2.2.2.2.2.2.2.2.1
  have c31 : (A 31).length = 60 := l1.2.2.2.2.2.2.2.2.2.2.2.2.1
  have c33 : (A 33).length = 4 := l1.2.2.2.2.2.2.2.2.2.2.2.2.2
  have iL := fun x => s_isLot (A := A) (F := F) (P := P) n2 (by omega) x
  have iB := fun x => s_isBidder (A := A) (F := F) (P := P) n3 (by omega) x
  have iX := fun x => s_isBid (A := A) (F := F) (P := P) n4 (by omega) x
  have g0 : ix (nI l) nl := ⟨l, hl, rfl⟩
  obtain ⟨b, H', hb, b1, b2, hba, hH0, hH1, hH2⟩ := act_pre hI
  have hvv : g (A 16) l = g (A 193) (78 + l) := by
    have := (hSL l hl).2.2.2.1
    simp (disch := (first | omega | fail)) only [st_e, Nat.reduceAdd] at this
    exact this
  have hS2 : ∀ j, j < nl → g ((A 193).set (78 + l) (nI 0)) (78 + j) = g ((A 16).set l (nI 0)) j := by
    intro j hj
    have e := (hSL j hj).2.2.2.1
    simp (disch := (first | omega | fail)) only [st_e, Nat.reduceAdd] at e
    by_cases z : j = l
    · subst z; simp (disch := (first | omega | (simp only [List.length_set] <;> omega) | fail)) only [g_seq, g_sne, List.length_set]
    · simp (disch := (first | omega | (simp only [List.length_set] <;> omega) | fail)) only [g_seq, g_sne, List.length_set]; exact e.symm
  have hS3 : sF (fun j => g ((A 193).set (78 + l) (nI 0)) (78 + j)) nl 0 (nI 0) = sF (fun j => g ((A 16).set l (nI 0)) j) nl 0 (nI 0) := sF_c _ _ _ (fun j z1 z2 => hS2 j (by omega))
  refine ⟨up (up (up (cpA A 2 b) 16 ((A 16).set l (nI 0))) 193 ((A 193).set (78 + l) (nI 0))) 194 H', up (up (up (cpF F 2 b) 3401 (nI (kp q + 1))) 16410 (nI 0)) 19202 (nI (kp q + 1)), Pk q P, ?_, ?_, ?_, ?_, ?_, ?_, ?_⟩
  · rw [gh194, gh193, ghF2, e_Pa_withdrawLot 1 _ _ _ rfl]
    simp (maxSteps := 2000000) (disch := (first | omega | (simp (disch := omega) only [up_eq, up_ne, cpA_o, List.length_set] <;> omega) | fail)) only [ob_s, am_bi_s, am_bv_s, am_bl_s, ↓bif_d, lits, nI_addS, nI_mulS, nI_subS, nI_lt', nI_le', nI_eq', ↓rd_nI, ↓wrH, up_eq, up_ne, up_up, up_sw, List.set_set, g_seq, g_sne, Nat.reduceEqDiff, ↓reduceIte, List.length_set, Nat.add_sub_cancel_left, Nat.add_sub_cancel, ite_true, ite_false, if_true, if_false, not_true_eq_false, not_false_eq_true, Bool.and_true, Bool.true_and, true_or, or_true, false_or, or_false, and_true, true_and, and_false, false_and, Nat.not_lt_zero, hpRX, hpIX, hpFX, hpLX, hpSX, ↓rgX, ↓rpX, Nat.reduceLeDiff, Nat.reduceLT, Nat.reduceAdd, Nat.reduceMul, Nat.reduceSub, iL, iB, iX, s_out, b01_0, n1, n2, n3, n4, hba, cpA_o, cpF_o, g0, g1, hvv, hS3, s_sum16]
  · refine act_done (r' := ((A 193).set (78 + l) (nI 0))) hI hb hH0 hH1 hH2 ?_ ?_ ?_ ?_ ?_ ?_ ?_ ?_ ?_ ?_ ?_ ?_
    · intro j z1 z2; simp (disch := (first | omega | fail)) only [st_e, sf_e, Nat.reduceAdd, Nat.reduceMul, up_eq, up_ne, cpA_o, cpF_o]
    · intro j z1 z2 z3; simp (disch := (first | omega | fail)) only [st_e, sf_e, Nat.reduceAdd, Nat.reduceMul, up_eq, up_ne, cpA_o, cpF_o]
    · simp (disch := (first | omega | fail)) only [st_e, sf_e, Nat.reduceAdd, Nat.reduceMul, up_eq, up_ne, cpA_o, cpF_o]
    · intro k z1 z2; simp (disch := (first | omega | fail)) only [st_e, sf_e, Nat.reduceAdd, Nat.reduceMul, up_eq, up_ne, cpA_o, cpF_o]
    · simp (disch := (first | omega | fail)) only [st_e, sf_e, Nat.reduceAdd, Nat.reduceMul, up_eq, up_ne, cpA_o, cpF_o]
    · simp (disch := (first | omega | fail)) only [st_e, sf_e, Nat.reduceAdd, Nat.reduceMul, up_eq, up_ne, cpA_o, cpF_o]
    · simp (disch := (first | omega | fail)) only [st_e, sf_e, Nat.reduceAdd, Nat.reduceMul, up_eq, up_ne, cpA_o, cpF_o]
    · simp (disch := (first | omega | fail)) only [st_e, sf_e, Nat.reduceAdd, Nat.reduceMul, up_eq, up_ne, cpA_o, cpF_o]
    · simp (disch := (first | omega | fail)) only [st_e, sf_e, Nat.reduceAdd, Nat.reduceMul, up_eq, up_ne, cpA_o, cpF_o]
    · unfold LenS; simp (disch := (first | omega | (simp (disch := omega) only [up_eq, up_ne, cpA_o, List.length_set] <;> omega) | fail)) only [st_e, sf_e, Nat.reduceAdd, Nat.reduceMul, up_eq, up_ne, cpA_o, cpF_o, g_seq, g_sne, List.length_set]; exact l1
    · simp (disch := (first | omega | fail)) only [st_e, sf_e, Nat.reduceAdd, Nat.reduceMul, up_eq, up_ne, cpA_o, cpF_o]
    · refine ⟨?_, ?_, ?_, ?_, ?_, ?_, ?_⟩
      · refine ⟨by simp (disch := (first | omega | (simp (disch := omega) only [up_eq, up_ne, cpA_o, List.length_set] <;> omega) | fail)) only [st_e, sf_e, Nat.reduceAdd, Nat.reduceMul, up_eq, up_ne, cpA_o, cpF_o, g_seq, g_sne, List.length_set]; exact h0, by simp (disch := (first | omega | (simp (disch := omega) only [up_eq, up_ne, cpA_o, List.length_set] <;> omega) | fail)) only [st_e, sf_e, Nat.reduceAdd, Nat.reduceMul, up_eq, up_ne, cpA_o, cpF_o, g_seq, g_sne, List.length_set] <;> exact h1, by simp (disch := (first | omega | (simp (disch := omega) only [up_eq, up_ne, cpA_o, List.length_set] <;> omega) | fail)) only [st_e, sf_e, Nat.reduceAdd, Nat.reduceMul, up_eq, up_ne, cpA_o, cpF_o, g_seq, g_sne, List.length_set] <;> exact h2, by simp (disch := (first | omega | (simp (disch := omega) only [up_eq, up_ne, cpA_o, List.length_set] <;> omega) | fail)) only [st_e, sf_e, Nat.reduceAdd, Nat.reduceMul, up_eq, up_ne, cpA_o, cpF_o, g_seq, g_sne, List.length_set] <;> exact h3, by simp (disch := (first | omega | (simp (disch := omega) only [up_eq, up_ne, cpA_o, List.length_set] <;> omega) | fail)) only [st_e, sf_e, Nat.reduceAdd, Nat.reduceMul, up_eq, up_ne, cpA_o, cpF_o, g_seq, g_sne, List.length_set] <;> exact h4, by omega, by omega, by omega, by omega, by omega⟩
      · refine ⟨by simp (disch := (first | omega | (simp (disch := omega) only [up_eq, up_ne, cpA_o, List.length_set] <;> omega) | fail)) only [st_e, sf_e, Nat.reduceAdd, Nat.reduceMul, up_eq, up_ne, cpA_o, cpF_o, g_seq, g_sne, List.length_set] <;> exact n1, by simp (disch := (first | omega | (simp (disch := omega) only [up_eq, up_ne, cpA_o, List.length_set] <;> omega) | fail)) only [st_e, sf_e, Nat.reduceAdd, Nat.reduceMul, up_eq, up_ne, cpA_o, cpF_o, g_seq, g_sne, List.length_set] <;> exact n2, by simp (disch := (first | omega | (simp (disch := omega) only [up_eq, up_ne, cpA_o, List.length_set] <;> omega) | fail)) only [st_e, sf_e, Nat.reduceAdd, Nat.reduceMul, up_eq, up_ne, cpA_o, cpF_o, g_seq, g_sne, List.length_set] <;> exact n3, by simp (disch := (first | omega | (simp (disch := omega) only [up_eq, up_ne, cpA_o, List.length_set] <;> omega) | fail)) only [st_e, sf_e, Nat.reduceAdd, Nat.reduceMul, up_eq, up_ne, cpA_o, cpF_o, g_seq, g_sne, List.length_set] <;> exact n4⟩
      · exact SimB_c h6 (fun j z1 z2 => by simp (disch := (first | omega | (simp only [List.length_set] <;> omega) | fail)) only [g_seq, g_sne, List.length_set]) (by simp (disch := (first | omega | fail)) only [st_e, sf_e, Nat.reduceAdd, Nat.reduceMul, up_eq, up_ne, cpA_o, cpF_o]) (by simp (disch := (first | omega | fail)) only [st_e, sf_e, Nat.reduceAdd, Nat.reduceMul, up_eq, up_ne, cpA_o, cpF_o]) h5 hSB
      · intro i hi
        by_cases e : i = l
        · subst e
          obtain ⟨p0, p1, p2, p3, p4, p5, p6⟩ := hSL i hi
          simp (disch := (first | omega | fail)) only [st_e, Nat.reduceAdd] at p0 p1 p2 p3
          exact ⟨by simp (disch := (first | omega | (simp (disch := omega) only [up_eq, up_ne, cpA_o, List.length_set] <;> omega) | fail)) only [st_e, sf_e, Nat.reduceAdd, Nat.reduceMul, up_eq, up_ne, cpA_o, cpF_o, g_seq, g_sne, List.length_set] <;> exact p0, by simp (disch := (first | omega | (simp (disch := omega) only [up_eq, up_ne, cpA_o, List.length_set] <;> omega) | fail)) only [st_e, sf_e, Nat.reduceAdd, Nat.reduceMul, up_eq, up_ne, cpA_o, cpF_o, g_seq, g_sne, List.length_set] <;> exact p1, by simp (disch := (first | omega | (simp (disch := omega) only [up_eq, up_ne, cpA_o, List.length_set] <;> omega) | fail)) only [st_e, sf_e, Nat.reduceAdd, Nat.reduceMul, up_eq, up_ne, cpA_o, cpF_o, g_seq, g_sne, List.length_set] <;> exact p2, by simp (disch := (first | omega | (simp (disch := omega) only [up_eq, up_ne, cpA_o, List.length_set] <;> omega) | fail)) only [st_e, sf_e, Nat.reduceAdd, Nat.reduceMul, up_eq, up_ne, cpA_o, cpF_o, g_seq, g_sne, List.length_set] <;> exact rfl, by simp (disch := (first | omega | (simp (disch := omega) only [up_eq, up_ne, cpA_o, List.length_set] <;> omega) | fail)) only [st_e, sf_e, Nat.reduceAdd, Nat.reduceMul, up_eq, up_ne, cpA_o, cpF_o, g_seq, g_sne, List.length_set] <;> exact p4, by simp (disch := (first | omega | (simp (disch := omega) only [up_eq, up_ne, cpA_o, List.length_set] <;> omega) | fail)) only [st_e, sf_e, Nat.reduceAdd, Nat.reduceMul, up_eq, up_ne, cpA_o, cpF_o, g_seq, g_sne, List.length_set] <;> exact p5, by simp (disch := (first | omega | (simp (disch := omega) only [up_eq, up_ne, cpA_o, List.length_set] <;> omega) | fail)) only [st_e, sf_e, Nat.reduceAdd, Nat.reduceMul, up_eq, up_ne, cpA_o, cpF_o, g_seq, g_sne, List.length_set] <;> exact ⟨0, by omega, by omega, rfl⟩⟩
        · obtain ⟨p0, p1, p2, p3, p4, p5, p6⟩ := hSL i (by omega)
          simp (disch := (first | omega | fail)) only [st_e, Nat.reduceAdd] at p0 p1 p2 p3
          exact ⟨by simp (disch := (first | omega | (simp (disch := omega) only [up_eq, up_ne, cpA_o, List.length_set] <;> omega) | fail)) only [st_e, sf_e, Nat.reduceAdd, Nat.reduceMul, up_eq, up_ne, cpA_o, cpF_o, g_seq, g_sne, List.length_set] <;> exact p0, by simp (disch := (first | omega | (simp (disch := omega) only [up_eq, up_ne, cpA_o, List.length_set] <;> omega) | fail)) only [st_e, sf_e, Nat.reduceAdd, Nat.reduceMul, up_eq, up_ne, cpA_o, cpF_o, g_seq, g_sne, List.length_set] <;> exact p1, by simp (disch := (first | omega | (simp (disch := omega) only [up_eq, up_ne, cpA_o, List.length_set] <;> omega) | fail)) only [st_e, sf_e, Nat.reduceAdd, Nat.reduceMul, up_eq, up_ne, cpA_o, cpF_o, g_seq, g_sne, List.length_set] <;> exact p2, by simp (disch := (first | omega | (simp (disch := omega) only [up_eq, up_ne, cpA_o, List.length_set] <;> omega) | fail)) only [st_e, sf_e, Nat.reduceAdd, Nat.reduceMul, up_eq, up_ne, cpA_o, cpF_o, g_seq, g_sne, List.length_set] <;> exact p3, by simp (disch := (first | omega | (simp (disch := omega) only [up_eq, up_ne, cpA_o, List.length_set] <;> omega) | fail)) only [st_e, sf_e, Nat.reduceAdd, Nat.reduceMul, up_eq, up_ne, cpA_o, cpF_o, g_seq, g_sne, List.length_set] <;> exact p4, by simp (disch := (first | omega | (simp (disch := omega) only [up_eq, up_ne, cpA_o, List.length_set] <;> omega) | fail)) only [st_e, sf_e, Nat.reduceAdd, Nat.reduceMul, up_eq, up_ne, cpA_o, cpF_o, g_seq, g_sne, List.length_set] <;> exact p5, by simp (disch := (first | omega | (simp (disch := omega) only [up_eq, up_ne, cpA_o, List.length_set] <;> omega) | fail)) only [st_e, sf_e, Nat.reduceAdd, Nat.reduceMul, up_eq, up_ne, cpA_o, cpF_o, g_seq, g_sne, List.length_set] <;> exact p6⟩
      · exact SimM_c h8 (fun j z1 z2 => by simp (disch := (first | omega | (simp only [List.length_set] <;> omega) | fail)) only [g_seq, g_sne, List.length_set]) (by simp (disch := (first | omega | fail)) only [st_e, sf_e, Nat.reduceAdd, Nat.reduceMul, up_eq, up_ne, cpA_o, cpF_o]) hSM
      · exact SimX_c h9 (by omega) (by omega) (fun j z1 z2 => by simp (disch := (first | omega | (simp only [List.length_set] <;> omega) | fail)) only [g_seq, g_sne, List.length_set]) (by simp (disch := (first | omega | fail)) only [st_e, sf_e, Nat.reduceAdd, Nat.reduceMul, up_eq, up_ne, cpA_o, cpF_o]) (by simp (disch := (first | omega | fail)) only [st_e, sf_e, Nat.reduceAdd, Nat.reduceMul, up_eq, up_ne, cpA_o, cpF_o]) (by simp (disch := (first | omega | fail)) only [st_e, sf_e, Nat.reduceAdd, Nat.reduceMul, up_eq, up_ne, cpA_o, cpF_o]) (by simp (disch := (first | omega | fail)) only [st_e, sf_e, Nat.reduceAdd, Nat.reduceMul, up_eq, up_ne, cpA_o, cpF_o]) (by simp (disch := (first | omega | fail)) only [st_e, sf_e, Nat.reduceAdd, Nat.reduceMul, up_eq, up_ne, cpA_o, cpF_o]) (by simp (disch := (first | omega | fail)) only [st_e, sf_e, Nat.reduceAdd, Nat.reduceMul, up_eq, up_ne, cpA_o, cpF_o]) hSX
      · exact SimS_c (fun j z1 z2 => by simp (disch := (first | omega | (simp only [List.length_set] <;> omega) | fail)) only [g_seq, g_sne, List.length_set]) (by simp (disch := (first | omega | fail)) only [st_e, sf_e, Nat.reduceAdd, Nat.reduceMul, up_eq, up_ne, cpA_o, cpF_o]) hSS
  · simp (disch := (first | omega | fail)) only [st_e, sf_e, Nat.reduceAdd, Nat.reduceMul, up_eq, up_ne, cpA_o, cpF_o]
  · rw [up_eq]; exact hH1
  · simp (disch := (first | omega | fail)) only [st_e, sf_e, Nat.reduceAdd, Nat.reduceMul, up_eq, up_ne, cpA_o, cpF_o]
  · simp (disch := (first | omega | fail)) only [st_e, sf_e, Nat.reduceAdd, Nat.reduceMul, up_eq, up_ne, cpA_o, cpF_o]
  · intro j hj; simp (disch := (first | omega | fail)) only [st_e, sf_e, Nat.reduceAdd, Nat.reduceMul, up_eq, up_ne, cpA_o, cpF_o]
theorem k_withdrawLot1_e0 (hI : InvN A F P nB nl nb nx q t) (x : Int32) (g0 : ¬ (ix x nl)) : am_cl m_Pa_withdrawLot (.ref 1 :: [.int x, .int (nI 1)]) (heap A F P) = some (some (.int (-nI 1)), heap A F P) := by
  have hI0 := hI
  obtain ⟨⟨hM, ⟨n1, n2, n3, n4⟩, hSB, hSL, hSM, hSX, hSS⟩, ⟨l1, l2, l3⟩, hH, hT, -⟩ := hI0
  have hM0 := hM
  obtain ⟨h0, h1, h2, h3, h4, h5, h6, h7, h8, h9⟩ := hM0
  simp (disch := (first | omega | fail)) only [sf_e, Nat.reduceMul, Nat.reduceAdd] at n1 n2 n3 n4
  have c5 : (A 5).length = 8 := l1.1
  have c7 : (A 7).length = 8 := l1.2.1
  have c10 : (A 10).length = 20 := l1.2.2.1
  have c12 : (A 12).length = 20 := l1.2.2.2.1
  have c14 : (A 14).length = 20 := l1.2.2.2.2.1
  have c16 : (A 16).length = 20 := l1.2.2.2.2.2.1
  have c18 : (A 18).length = 8 := l1.2.2.2.2.2.2.1
  have c21 : (A 21).length = 60 := l1.2.2.2.2.2.2.2.1
  have c23 : (A 23).length = 60 := l1.2.2.2.2.2.2.2.2.1
  have c25 : (A 25).length = 60 := l1.2.2.2.2.2.2.2.2.2.1
  have c27 : (A 27).length = 60 := l1.2.2.2.2.2.2.2.2.2.2.1
  have c29 : (A 29).length = 60 := l1.2.2.2.2.2.2.2.2.2.2.2.1
  have c31 : (A 31).length = 60 := l1.2.2.2.2.2.2.2.2.2.2.2.2.1
  have c33 : (A 33).length = 4 := l1.2.2.2.2.2.2.2.2.2.2.2.2.2
  have iL := fun x => s_isLot (A := A) (F := F) (P := P) n2 (by omega) x
  have iB := fun x => s_isBidder (A := A) (F := F) (P := P) n3 (by omega) x
  have iX := fun x => s_isBid (A := A) (F := F) (P := P) n4 (by omega) x
  rw [e_Pa_withdrawLot 1 _ _ _ rfl]
  simp (maxSteps := 2000000) (disch := (first | omega | (simp (disch := omega) only [up_eq, up_ne, cpA_o, List.length_set] <;> omega) | fail)) only [ob_s, am_bi_s, am_bv_s, am_bl_s, ↓bif_d, lits, nI_addS, nI_mulS, nI_subS, nI_lt', nI_le', nI_eq', ↓rd_nI, ↓wrH, up_eq, up_ne, up_up, up_sw, List.set_set, g_seq, g_sne, Nat.reduceEqDiff, ↓reduceIte, List.length_set, Nat.add_sub_cancel_left, Nat.add_sub_cancel, ite_true, ite_false, if_true, if_false, not_true_eq_false, not_false_eq_true, Bool.and_true, Bool.true_and, true_or, or_true, false_or, or_false, and_true, true_and, and_false, false_and, Nat.not_lt_zero, hpRX, hpIX, hpFX, hpLX, hpSX, ↓rgX, ↓rpX, Nat.reduceLeDiff, Nat.reduceLT, Nat.reduceAdd, Nat.reduceMul, Nat.reduceSub, iL, iB, iX, s_out, b01_0, n1, n2, n3, n4, g0]
theorem k_withdrawLot1_e1 (hI : InvN A F P nB nl nb nx q t) {l : Nat} (hl : l < nl) (g1 : g (A 193) (78 + l) = nI 1) : am_cl m_Pa_withdrawLot (.ref 1 :: [.int (nI l), .int (nI 1)]) (heap A F P) = some (some (.int (-nI 4)), heap A F P) := by
  have hI0 := hI
  obtain ⟨⟨hM, ⟨n1, n2, n3, n4⟩, hSB, hSL, hSM, hSX, hSS⟩, ⟨l1, l2, l3⟩, hH, hT, -⟩ := hI0
  have hM0 := hM
  obtain ⟨h0, h1, h2, h3, h4, h5, h6, h7, h8, h9⟩ := hM0
  simp (disch := (first | omega | fail)) only [sf_e, Nat.reduceMul, Nat.reduceAdd] at n1 n2 n3 n4
  have c5 : (A 5).length = 8 := l1.1
  have c7 : (A 7).length = 8 := l1.2.1
  have c10 : (A 10).length = 20 := l1.2.2.1
  have c12 : (A 12).length = 20 := l1.2.2.2.1
  have c14 : (A 14).length = 20 := l1.2.2.2.2.1
  have c16 : (A 16).length = 20 := l1.2.2.2.2.2.1
  have c18 : (A 18).length = 8 := l1.2.2.2.2.2.2.1
  have c21 : (A 21).length = 60 := l1.2.2.2.2.2.2.2.1
  have c23 : (A 23).length = 60 := l1.2.2.2.2.2.2.2.2.1
  have c25 : (A 25).length = 60 := l1.2.2.2.2.2.2.2.2.2.1
  have c27 : (A 27).length = 60 := l1.2.2.2.2.2.2.2.2.2.2.1
  have c29 : (A 29).length = 60 := l1.2.2.2.2.2.2.2.2.2.2.2.1
  have c31 : (A 31).length = 60 := l1.2.2.2.2.2.2.2.2.2.2.2.2.1
  have c33 : (A 33).length = 4 := l1.2.2.2.2.2.2.2.2.2.2.2.2.2
  have iL := fun x => s_isLot (A := A) (F := F) (P := P) n2 (by omega) x
  have iB := fun x => s_isBidder (A := A) (F := F) (P := P) n3 (by omega) x
  have iX := fun x => s_isBid (A := A) (F := F) (P := P) n4 (by omega) x
  have g0 : ix (nI l) nl := ⟨l, hl, rfl⟩
  have hvv : g (A 16) l = g (A 193) (78 + l) := by
    have := (hSL l hl).2.2.2.1
    simp (disch := (first | omega | fail)) only [st_e, Nat.reduceAdd] at this
    exact this
  have hS2 : ∀ j, j < nl → g ((A 193).set (78 + l) (nI 1)) (78 + j) = g ((A 16).set l (nI 1)) j := by
    intro j hj
    have e := (hSL j hj).2.2.2.1
    simp (disch := (first | omega | fail)) only [st_e, Nat.reduceAdd] at e
    by_cases z : j = l
    · subst z; simp (disch := (first | omega | (simp only [List.length_set] <;> omega) | fail)) only [g_seq, g_sne, List.length_set]
    · simp (disch := (first | omega | (simp only [List.length_set] <;> omega) | fail)) only [g_seq, g_sne, List.length_set]; exact e.symm
  have hS3 : sF (fun j => g ((A 193).set (78 + l) (nI 1)) (78 + j)) nl 0 (nI 0) = sF (fun j => g ((A 16).set l (nI 1)) j) nl 0 (nI 0) := sF_c _ _ _ (fun j z1 z2 => hS2 j (by omega))
  rw [e_Pa_withdrawLot 1 _ _ _ rfl]
  simp (maxSteps := 2000000) (disch := (first | omega | (simp (disch := omega) only [up_eq, up_ne, cpA_o, List.length_set] <;> omega) | fail)) only [ob_s, am_bi_s, am_bv_s, am_bl_s, ↓bif_d, lits, nI_addS, nI_mulS, nI_subS, nI_lt', nI_le', nI_eq', ↓rd_nI, ↓wrH, up_eq, up_ne, up_up, up_sw, List.set_set, g_seq, g_sne, Nat.reduceEqDiff, ↓reduceIte, List.length_set, Nat.add_sub_cancel_left, Nat.add_sub_cancel, ite_true, ite_false, if_true, if_false, not_true_eq_false, not_false_eq_true, Bool.and_true, Bool.true_and, true_or, or_true, false_or, or_false, and_true, true_and, and_false, false_and, Nat.not_lt_zero, hpRX, hpIX, hpFX, hpLX, hpSX, ↓rgX, ↓rpX, Nat.reduceLeDiff, Nat.reduceLT, Nat.reduceAdd, Nat.reduceMul, Nat.reduceSub, iL, iB, iX, s_out, b01_0, n1, n2, n3, n4, g0, g1, hvv, hS3, s_sum16]
theorem k_withdrawLot1 (hI : InvN A F P nB nl nb nx q t) {l : Nat} (hl : l < nl) (g1 : ¬ (g (A 193) (78 + l) = nI 1)) : Act m_Pa_withdrawLot [.int (nI l), .int (nI 1)] A F P (.int (sF (fun j => g ((A 193).set (78 + l) (nI 1)) (78 + j)) nl 0 (nI 0))) ((A 193).set (78 + l) (nI 1)) (nB) (nl) (nb) (nx) q t := by
  have hI0 := hI
  obtain ⟨⟨hM, ⟨n1, n2, n3, n4⟩, hSB, hSL, hSM, hSX, hSS⟩, ⟨l1, l2, l3⟩, hH, hT, -⟩ := hI0
  have hM0 := hM
  obtain ⟨h0, h1, h2, h3, h4, h5, h6, h7, h8, h9⟩ := hM0
  simp (disch := (first | omega | fail)) only [sf_e, Nat.reduceMul, Nat.reduceAdd] at n1 n2 n3 n4
  have c5 : (A 5).length = 8 := l1.1
  have c7 : (A 7).length = 8 := l1.2.1
  have c10 : (A 10).length = 20 := l1.2.2.1
  have c12 : (A 12).length = 20 := l1.2.2.2.1
  have c14 : (A 14).length = 20 := l1.2.2.2.2.1
  have c16 : (A 16).length = 20 := l1.2.2.2.2.2.1
  have c18 : (A 18).length = 8 := l1.2.2.2.2.2.2.1
  have c21 : (A 21).length = 60 := l1.2.2.2.2.2.2.2.1
  have c23 : (A 23).length = 60 := l1.2.2.2.2.2.2.2.2.1
  have c25 : (A 25).length = 60 := l1.2.2.2.2.2.2.2.2.2.1
  have c27 : (A 27).length = 60 := l1.2.2.2.2.2.2.2.2.2.2.1
  have c29 : (A 29).length = 60 := l1.2.2.2.2.2.2.2.2.2.2.2.1
  have c31 : (A 31).length = 60 := l1.2.2.2.2.2.2.2.2.2.2.2.2.1
  have c33 : (A 33).length = 4 := l1.2.2.2.2.2.2.2.2.2.2.2.2.2
  have iL := fun x => s_isLot (A := A) (F := F) (P := P) n2 (by omega) x
  have iB := fun x => s_isBidder (A := A) (F := F) (P := P) n3 (by omega) x
  have iX := fun x => s_isBid (A := A) (F := F) (P := P) n4 (by omega) x
  have g0 : ix (nI l) nl := ⟨l, hl, rfl⟩
  obtain ⟨b, H', hb, b1, b2, hba, hH0, hH1, hH2⟩ := act_pre hI
  have hvv : g (A 16) l = g (A 193) (78 + l) := by
    have := (hSL l hl).2.2.2.1
    simp (disch := (first | omega | fail)) only [st_e, Nat.reduceAdd] at this
    exact this
  have hS2 : ∀ j, j < nl → g ((A 193).set (78 + l) (nI 1)) (78 + j) = g ((A 16).set l (nI 1)) j := by
    intro j hj
    have e := (hSL j hj).2.2.2.1
    simp (disch := (first | omega | fail)) only [st_e, Nat.reduceAdd] at e
    by_cases z : j = l
    · subst z; simp (disch := (first | omega | (simp only [List.length_set] <;> omega) | fail)) only [g_seq, g_sne, List.length_set]
    · simp (disch := (first | omega | (simp only [List.length_set] <;> omega) | fail)) only [g_seq, g_sne, List.length_set]; exact e.symm
  have hS3 : sF (fun j => g ((A 193).set (78 + l) (nI 1)) (78 + j)) nl 0 (nI 0) = sF (fun j => g ((A 16).set l (nI 1)) j) nl 0 (nI 0) := sF_c _ _ _ (fun j z1 z2 => hS2 j (by omega))
  refine ⟨up (up (up (cpA A 2 b) 16 ((A 16).set l (nI 1))) 193 ((A 193).set (78 + l) (nI 1))) 194 H', up (up (up (cpF F 2 b) 3401 (nI (kp q + 1))) 16410 (nI 0)) 19202 (nI (kp q + 1)), Pk q P, ?_, ?_, ?_, ?_, ?_, ?_, ?_⟩
  · rw [gh194, gh193, ghF2, e_Pa_withdrawLot 1 _ _ _ rfl]
    simp (maxSteps := 2000000) (disch := (first | omega | (simp (disch := omega) only [up_eq, up_ne, cpA_o, List.length_set] <;> omega) | fail)) only [ob_s, am_bi_s, am_bv_s, am_bl_s, ↓bif_d, lits, nI_addS, nI_mulS, nI_subS, nI_lt', nI_le', nI_eq', ↓rd_nI, ↓wrH, up_eq, up_ne, up_up, up_sw, List.set_set, g_seq, g_sne, Nat.reduceEqDiff, ↓reduceIte, List.length_set, Nat.add_sub_cancel_left, Nat.add_sub_cancel, ite_true, ite_false, if_true, if_false, not_true_eq_false, not_false_eq_true, Bool.and_true, Bool.true_and, true_or, or_true, false_or, or_false, and_true, true_and, and_false, false_and, Nat.not_lt_zero, hpRX, hpIX, hpFX, hpLX, hpSX, ↓rgX, ↓rpX, Nat.reduceLeDiff, Nat.reduceLT, Nat.reduceAdd, Nat.reduceMul, Nat.reduceSub, iL, iB, iX, s_out, b01_0, n1, n2, n3, n4, hba, cpA_o, cpF_o, g0, g1, hvv, hS3, s_sum16]
  · refine act_done (r' := ((A 193).set (78 + l) (nI 1))) hI hb hH0 hH1 hH2 ?_ ?_ ?_ ?_ ?_ ?_ ?_ ?_ ?_ ?_ ?_ ?_
    · intro j z1 z2; simp (disch := (first | omega | fail)) only [st_e, sf_e, Nat.reduceAdd, Nat.reduceMul, up_eq, up_ne, cpA_o, cpF_o]
    · intro j z1 z2 z3; simp (disch := (first | omega | fail)) only [st_e, sf_e, Nat.reduceAdd, Nat.reduceMul, up_eq, up_ne, cpA_o, cpF_o]
    · simp (disch := (first | omega | fail)) only [st_e, sf_e, Nat.reduceAdd, Nat.reduceMul, up_eq, up_ne, cpA_o, cpF_o]
    · intro k z1 z2; simp (disch := (first | omega | fail)) only [st_e, sf_e, Nat.reduceAdd, Nat.reduceMul, up_eq, up_ne, cpA_o, cpF_o]
    · simp (disch := (first | omega | fail)) only [st_e, sf_e, Nat.reduceAdd, Nat.reduceMul, up_eq, up_ne, cpA_o, cpF_o]
    · simp (disch := (first | omega | fail)) only [st_e, sf_e, Nat.reduceAdd, Nat.reduceMul, up_eq, up_ne, cpA_o, cpF_o]
    · simp (disch := (first | omega | fail)) only [st_e, sf_e, Nat.reduceAdd, Nat.reduceMul, up_eq, up_ne, cpA_o, cpF_o]
    · simp (disch := (first | omega | fail)) only [st_e, sf_e, Nat.reduceAdd, Nat.reduceMul, up_eq, up_ne, cpA_o, cpF_o]
    · simp (disch := (first | omega | fail)) only [st_e, sf_e, Nat.reduceAdd, Nat.reduceMul, up_eq, up_ne, cpA_o, cpF_o]
    · unfold LenS; simp (disch := (first | omega | (simp (disch := omega) only [up_eq, up_ne, cpA_o, List.length_set] <;> omega) | fail)) only [st_e, sf_e, Nat.reduceAdd, Nat.reduceMul, up_eq, up_ne, cpA_o, cpF_o, g_seq, g_sne, List.length_set]; exact l1
    · simp (disch := (first | omega | fail)) only [st_e, sf_e, Nat.reduceAdd, Nat.reduceMul, up_eq, up_ne, cpA_o, cpF_o]
    · refine ⟨?_, ?_, ?_, ?_, ?_, ?_, ?_⟩
      · refine ⟨by simp (disch := (first | omega | (simp (disch := omega) only [up_eq, up_ne, cpA_o, List.length_set] <;> omega) | fail)) only [st_e, sf_e, Nat.reduceAdd, Nat.reduceMul, up_eq, up_ne, cpA_o, cpF_o, g_seq, g_sne, List.length_set]; exact h0, by simp (disch := (first | omega | (simp (disch := omega) only [up_eq, up_ne, cpA_o, List.length_set] <;> omega) | fail)) only [st_e, sf_e, Nat.reduceAdd, Nat.reduceMul, up_eq, up_ne, cpA_o, cpF_o, g_seq, g_sne, List.length_set] <;> exact h1, by simp (disch := (first | omega | (simp (disch := omega) only [up_eq, up_ne, cpA_o, List.length_set] <;> omega) | fail)) only [st_e, sf_e, Nat.reduceAdd, Nat.reduceMul, up_eq, up_ne, cpA_o, cpF_o, g_seq, g_sne, List.length_set] <;> exact h2, by simp (disch := (first | omega | (simp (disch := omega) only [up_eq, up_ne, cpA_o, List.length_set] <;> omega) | fail)) only [st_e, sf_e, Nat.reduceAdd, Nat.reduceMul, up_eq, up_ne, cpA_o, cpF_o, g_seq, g_sne, List.length_set] <;> exact h3, by simp (disch := (first | omega | (simp (disch := omega) only [up_eq, up_ne, cpA_o, List.length_set] <;> omega) | fail)) only [st_e, sf_e, Nat.reduceAdd, Nat.reduceMul, up_eq, up_ne, cpA_o, cpF_o, g_seq, g_sne, List.length_set] <;> exact h4, by omega, by omega, by omega, by omega, by omega⟩
      · refine ⟨by simp (disch := (first | omega | (simp (disch := omega) only [up_eq, up_ne, cpA_o, List.length_set] <;> omega) | fail)) only [st_e, sf_e, Nat.reduceAdd, Nat.reduceMul, up_eq, up_ne, cpA_o, cpF_o, g_seq, g_sne, List.length_set] <;> exact n1, by simp (disch := (first | omega | (simp (disch := omega) only [up_eq, up_ne, cpA_o, List.length_set] <;> omega) | fail)) only [st_e, sf_e, Nat.reduceAdd, Nat.reduceMul, up_eq, up_ne, cpA_o, cpF_o, g_seq, g_sne, List.length_set] <;> exact n2, by simp (disch := (first | omega | (simp (disch := omega) only [up_eq, up_ne, cpA_o, List.length_set] <;> omega) | fail)) only [st_e, sf_e, Nat.reduceAdd, Nat.reduceMul, up_eq, up_ne, cpA_o, cpF_o, g_seq, g_sne, List.length_set] <;> exact n3, by simp (disch := (first | omega | (simp (disch := omega) only [up_eq, up_ne, cpA_o, List.length_set] <;> omega) | fail)) only [st_e, sf_e, Nat.reduceAdd, Nat.reduceMul, up_eq, up_ne, cpA_o, cpF_o, g_seq, g_sne, List.length_set] <;> exact n4⟩
      · exact SimB_c h6 (fun j z1 z2 => by simp (disch := (first | omega | (simp only [List.length_set] <;> omega) | fail)) only [g_seq, g_sne, List.length_set]) (by simp (disch := (first | omega | fail)) only [st_e, sf_e, Nat.reduceAdd, Nat.reduceMul, up_eq, up_ne, cpA_o, cpF_o]) (by simp (disch := (first | omega | fail)) only [st_e, sf_e, Nat.reduceAdd, Nat.reduceMul, up_eq, up_ne, cpA_o, cpF_o]) h5 hSB
      · intro i hi
        by_cases e : i = l
        · subst e
          obtain ⟨p0, p1, p2, p3, p4, p5, p6⟩ := hSL i hi
          simp (disch := (first | omega | fail)) only [st_e, Nat.reduceAdd] at p0 p1 p2 p3
          exact ⟨by simp (disch := (first | omega | (simp (disch := omega) only [up_eq, up_ne, cpA_o, List.length_set] <;> omega) | fail)) only [st_e, sf_e, Nat.reduceAdd, Nat.reduceMul, up_eq, up_ne, cpA_o, cpF_o, g_seq, g_sne, List.length_set] <;> exact p0, by simp (disch := (first | omega | (simp (disch := omega) only [up_eq, up_ne, cpA_o, List.length_set] <;> omega) | fail)) only [st_e, sf_e, Nat.reduceAdd, Nat.reduceMul, up_eq, up_ne, cpA_o, cpF_o, g_seq, g_sne, List.length_set] <;> exact p1, by simp (disch := (first | omega | (simp (disch := omega) only [up_eq, up_ne, cpA_o, List.length_set] <;> omega) | fail)) only [st_e, sf_e, Nat.reduceAdd, Nat.reduceMul, up_eq, up_ne, cpA_o, cpF_o, g_seq, g_sne, List.length_set] <;> exact p2, by simp (disch := (first | omega | (simp (disch := omega) only [up_eq, up_ne, cpA_o, List.length_set] <;> omega) | fail)) only [st_e, sf_e, Nat.reduceAdd, Nat.reduceMul, up_eq, up_ne, cpA_o, cpF_o, g_seq, g_sne, List.length_set] <;> exact rfl, by simp (disch := (first | omega | (simp (disch := omega) only [up_eq, up_ne, cpA_o, List.length_set] <;> omega) | fail)) only [st_e, sf_e, Nat.reduceAdd, Nat.reduceMul, up_eq, up_ne, cpA_o, cpF_o, g_seq, g_sne, List.length_set] <;> exact p4, by simp (disch := (first | omega | (simp (disch := omega) only [up_eq, up_ne, cpA_o, List.length_set] <;> omega) | fail)) only [st_e, sf_e, Nat.reduceAdd, Nat.reduceMul, up_eq, up_ne, cpA_o, cpF_o, g_seq, g_sne, List.length_set] <;> exact p5, by simp (disch := (first | omega | (simp (disch := omega) only [up_eq, up_ne, cpA_o, List.length_set] <;> omega) | fail)) only [st_e, sf_e, Nat.reduceAdd, Nat.reduceMul, up_eq, up_ne, cpA_o, cpF_o, g_seq, g_sne, List.length_set] <;> exact ⟨1, by omega, by omega, rfl⟩⟩
        · obtain ⟨p0, p1, p2, p3, p4, p5, p6⟩ := hSL i (by omega)
          simp (disch := (first | omega | fail)) only [st_e, Nat.reduceAdd] at p0 p1 p2 p3
          exact ⟨by simp (disch := (first | omega | (simp (disch := omega) only [up_eq, up_ne, cpA_o, List.length_set] <;> omega) | fail)) only [st_e, sf_e, Nat.reduceAdd, Nat.reduceMul, up_eq, up_ne, cpA_o, cpF_o, g_seq, g_sne, List.length_set] <;> exact p0, by simp (disch := (first | omega | (simp (disch := omega) only [up_eq, up_ne, cpA_o, List.length_set] <;> omega) | fail)) only [st_e, sf_e, Nat.reduceAdd, Nat.reduceMul, up_eq, up_ne, cpA_o, cpF_o, g_seq, g_sne, List.length_set] <;> exact p1, by simp (disch := (first | omega | (simp (disch := omega) only [up_eq, up_ne, cpA_o, List.length_set] <;> omega) | fail)) only [st_e, sf_e, Nat.reduceAdd, Nat.reduceMul, up_eq, up_ne, cpA_o, cpF_o, g_seq, g_sne, List.length_set] <;> exact p2, by simp (disch := (first | omega | (simp (disch := omega) only [up_eq, up_ne, cpA_o, List.length_set] <;> omega) | fail)) only [st_e, sf_e, Nat.reduceAdd, Nat.reduceMul, up_eq, up_ne, cpA_o, cpF_o, g_seq, g_sne, List.length_set] <;> exact p3, by simp (disch := (first | omega | (simp (disch := omega) only [up_eq, up_ne, cpA_o, List.length_set] <;> omega) | fail)) only [st_e, sf_e, Nat.reduceAdd, Nat.reduceMul, up_eq, up_ne, cpA_o, cpF_o, g_seq, g_sne, List.length_set] <;> exact p4, by simp (disch := (first | omega | (simp (disch := omega) only [up_eq, up_ne, cpA_o, List.length_set] <;> omega) | fail)) only [st_e, sf_e, Nat.reduceAdd, Nat.reduceMul, up_eq, up_ne, cpA_o, cpF_o, g_seq, g_sne, List.length_set] <;> exact p5, by simp (disch := (first | omega | (simp (disch := omega) only [up_eq, up_ne, cpA_o, List.length_set] <;> omega) | fail)) only [st_e, sf_e, Nat.reduceAdd, Nat.reduceMul, up_eq, up_ne, cpA_o, cpF_o, g_seq, g_sne, List.length_set] <;> exact p6⟩
      · exact SimM_c h8 (fun j z1 z2 => by simp (disch := (first | omega | (simp only [List.length_set] <;> omega) | fail)) only [g_seq, g_sne, List.length_set]) (by simp (disch := (first | omega | fail)) only [st_e, sf_e, Nat.reduceAdd, Nat.reduceMul, up_eq, up_ne, cpA_o, cpF_o]) hSM
      · exact SimX_c h9 (by omega) (by omega) (fun j z1 z2 => by simp (disch := (first | omega | (simp only [List.length_set] <;> omega) | fail)) only [g_seq, g_sne, List.length_set]) (by simp (disch := (first | omega | fail)) only [st_e, sf_e, Nat.reduceAdd, Nat.reduceMul, up_eq, up_ne, cpA_o, cpF_o]) (by simp (disch := (first | omega | fail)) only [st_e, sf_e, Nat.reduceAdd, Nat.reduceMul, up_eq, up_ne, cpA_o, cpF_o]) (by simp (disch := (first | omega | fail)) only [st_e, sf_e, Nat.reduceAdd, Nat.reduceMul, up_eq, up_ne, cpA_o, cpF_o]) (by simp (disch := (first | omega | fail)) only [st_e, sf_e, Nat.reduceAdd, Nat.reduceMul, up_eq, up_ne, cpA_o, cpF_o]) (by simp (disch := (first | omega | fail)) only [st_e, sf_e, Nat.reduceAdd, Nat.reduceMul, up_eq, up_ne, cpA_o, cpF_o]) (by simp (disch := (first | omega | fail)) only [st_e, sf_e, Nat.reduceAdd, Nat.reduceMul, up_eq, up_ne, cpA_o, cpF_o]) hSX
      · exact SimS_c (fun j z1 z2 => by simp (disch := (first | omega | (simp only [List.length_set] <;> omega) | fail)) only [g_seq, g_sne, List.length_set]) (by simp (disch := (first | omega | fail)) only [st_e, sf_e, Nat.reduceAdd, Nat.reduceMul, up_eq, up_ne, cpA_o, cpF_o]) hSS
  · simp (disch := (first | omega | fail)) only [st_e, sf_e, Nat.reduceAdd, Nat.reduceMul, up_eq, up_ne, cpA_o, cpF_o]
  · rw [up_eq]; exact hH1
  · simp (disch := (first | omega | fail)) only [st_e, sf_e, Nat.reduceAdd, Nat.reduceMul, up_eq, up_ne, cpA_o, cpF_o]
  · simp (disch := (first | omega | fail)) only [st_e, sf_e, Nat.reduceAdd, Nat.reduceMul, up_eq, up_ne, cpA_o, cpF_o]
  · intro j hj; simp (disch := (first | omega | fail)) only [st_e, sf_e, Nat.reduceAdd, Nat.reduceMul, up_eq, up_ne, cpA_o, cpF_o]
end X
