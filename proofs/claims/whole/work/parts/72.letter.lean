/-! LETTER -/
theorem cpA_c {A A' : Nat → List Int32} {b j : Nat} (h : ∀ i, i < 164 → A' i = A i) (hb : 36 ≤ b) (hj : j < 164) : cpA A' 2 b j = cpA A 2 b j := by
  unfold cpA
  split
  · split
    · exact h _ (by omega)
    · exact h _ hj
  · exact h _ hj
theorem cpF_c {F F' : Nat → Int32} {b k : Nat} (h : ∀ i, i < 16400 → F' i = F i) (hb : 36 ≤ b) (hk : k < 16400) : cpF F' 2 b k = cpF F 2 b k := by
  unfold cpF
  split
  · split
    · exact h _ (by omega)
    · exact h _ hk
  · exact h _ hk
section X
variable {A : Nat → List Int32} {F : Nat → Int32} {P : Nat → Nat} {nB nl nb nx q t : Nat}
theorem InvN_jk {A' : Nat → List Int32} {F' : Nat → Int32} (hI : InvN A F P nB nl nb nx q t) (hA : ∀ j, j ≠ 187 → j ≠ 189 → j ≠ 191 → j ≠ 196 → j ≠ 197 → j ≠ 198 → A' j = A j) (hF : ∀ k, (k < 18405 ∨ 18409 < k) → (k < 19205 ∨ 19207 < k) → F' k = F k) (m1 : (A' 187).length = 20 ∧ (A' 189).length = 20 ∧ (A' 191).length = 20) (m2 : (A' 196).length = 40 ∧ (A' 197).length = 40 ∧ (A' 198).length = 40) : InvN A' F' P nB nl nb nx q t := by
  obtain ⟨hs, ⟨l1, l2, l3⟩, ⟨q1, q2, q3, q4, q5, q6⟩, ⟨t1, t2, t3, t4⟩, hH⟩ := hI
  have hA' : ∀ j, j < 187 → A' j = A j := fun j hj => hA j (by omega) (by omega) (by omega) (by omega) (by omega) (by omega)
  have hB' : ∀ j, (191 < j ∧ j < 196) ∨ 198 < j → A' j = A j := fun j hj => hA j (by omega) (by omega) (by omega) (by omega) (by omega) (by omega)
  have hF' : ∀ k, k < 18405 → F' k = F k := fun k hk => hF k (by omega) (by omega)
  have eA : ∀ b, b ≤ 132 → st A' b = st A b := fun b hb => st_c (fun j hj => hA' _ (by omega))
  have eF : ∀ b, b ≤ 132 → sf F' b = sf F b := fun b hb => sf_c (fun j hj => hF' _ (by omega))
  have e193 : A' 193 = A 193 := hB' 193 (by omega)
  refine ⟨by rw [eA 2 (by omega), eF 2 (by omega), e193]; exact hs, ⟨LenS_c (fun j hj => hA' _ (by omega)) l1, fun b hb => LenS_c (fun j hj => hA' _ (by have := (hsP_b hb).2; omega)) (l2 b hb), ?_⟩, ⟨q1, by rw [hF' _ (by omega)]; exact q2, by rw [hF 19202 (by omega) (by omega)]; exact q3, q4, q5, fun s hs' => ?_⟩, ⟨t1, by rw [hF' _ (by omega)]; exact t2, by rw [hF 19203 (by omega) (by omega)]; exact t3, fun j hj => by rw [hA' 185 (by omega), hB' 195 (by omega)]; exact t4 j hj⟩, ?_⟩
  · obtain ⟨o1, o2, o3, o4, o5, o6, o7⟩ := l3
    refine ⟨by rw [hB' 194 (by omega)]; exact o1, by rw [hA' 185 (by omega)]; exact o2, by rw [hB' 195 (by omega)]; exact o3, m1, m2, ?_, ?_⟩
    · rw [hB' 199 (by omega), hB' 200 (by omega), hB' 201 (by omega), hB' 202 (by omega), hB' 203 (by omega), hB' 204 (by omega), hB' 205 (by omega)]; exact o6
    · rw [hA' 166 (by omega), hA' 168 (by omega), hA' 170 (by omega), hA' 172 (by omega), hA' 174 (by omega), hA' 176 (by omega), hA' 178 (by omega), hA' 180 (by omega), hA' 182 (by omega)]; exact o7
  · obtain ⟨mB, ml, mb, mx, hm⟩ := q6 s hs'
    have hb := (hsP_b (q4 s (by omega))).2
    refine ⟨mB, ml, mb, mx, ?_⟩
    rw [eA _ hb, eF _ hb, hB' 194 (by omega)]
    exact hm
  · unfold Held ClS at hH ⊢
    rw [e193, hF' 16410 (by omega), hA' 166 (by omega), hA' 168 (by omega), hA' 170 (by omega), hA' 172 (by omega), hA' 174 (by omega), hA' 176 (by omega), hA' 178 (by omega), hA' 180 (by omega)]
    exact hH
theorem k_letter (hI : InvN A F P nB nl nb nx q t) (x v : Int32) : Step m_Pa_letter m_Mod_letter [.int x, .int v] A F P := by
  classical
  have hC := Cx_of hI
  obtain ⟨hM, hB, ⟨n1, n2, n3, n4⟩, l1, hCL, hCM, hCX, hCS, hS0, hS1, hS2, hS3⟩ := id hC
  obtain ⟨c5, c7, c10, c12, c14, c16, c18, c21, c23, c25, c27, c29, c31, c33⟩ := LenS2 l1
  have hnl : nl ≤ 20 := hM.1.2.2.2.2.2.2.2.1
  have hnb : nb ≤ 8 := hM.1.2.2.2.2.2.2.2.2.1
  have hnx : nx ≤ 60 := hM.1.2.2.2.2.2.2.2.2.2
  have hnB : nB ≤ 8 := hM.1.2.2.2.2.2.2.1
  obtain ⟨hSim, ⟨ls1, ls2, ls3⟩, hHi, ⟨t1, t2, t3, t4⟩, hHe⟩ := id hI
  obtain ⟨-, l185, l195, ⟨l187, l189, l191⟩, ⟨l196, l197, l198⟩, -⟩ := id ls3
  have iB := fun x => s_isBidder (A := A) (F := F) (P := P) n3 (by omega) x
  have eMk := fun x h => e_Mod_isMark x h
  have nBd : ∀ A'' F'' P'', A'' 193 = A 193 → ∀ x, am_cl m_Mod_noBidder [.ref 192, .int x] (heap A'' F'' P'') = some (some (.int (b01 (¬ ix x nb))), heap A'' F'' P'') := by
    intro A'' F'' P'' z x
    exact s_Mod_noBidder (A := A'') (F := F'') (P := P'') (nB := nB) (nl := nl) (nb := nb) (nx := nx) (by rw [z]; exact hM.1) x
  have hrfl : A 193 = A 193 := rfl
  have nBd0 := nBd A F P rfl
  by_cases g0 : ix x nb
  rotate_left
  · refine ⟨.int (-nI 1), A, F, P, A, F, P, ?_, ?_, nB, nl, nb, nx, q, t, hI⟩
    · rw [e_Pa_letter 1 _ _ _ rfl]
      simp (maxSteps := 2000000) (disch := (first | omega | (simp (disch := omega) only [up_eq, up_ne, cpA_o, cpF_o, List.length_set] <;> omega) | fail)) only [ob_s, am_bi_s, am_bv_s, am_bl_s, ↓bif_d, lits, nI_addS, nI_mulS, nI_subS, nI_lt', nI_le', nI_eq', ↓rd_nI, ↓wrH, up_eq, up_ne, up_up, up_sw, List.set_set, g_seq, g_sne, Nat.reduceEqDiff, ↓reduceIte, List.length_set, Nat.add_sub_cancel_left, Nat.add_sub_cancel, ite_true, ite_false, if_true, if_false, not_true_eq_false, not_false_eq_true, Bool.and_true, Bool.true_and, true_or, or_true, false_or, or_false, and_true, true_and, and_false, false_and, Nat.not_lt_zero, hpRX, hpIX, hpFX, hpLX, hpSX, ↓rgX, ↓rpX, Nat.reduceLeDiff, Nat.reduceLT, Nat.reduceAdd, Nat.reduceMul, Nat.reduceSub, iB, b01_0, g0]
    · rw [e_Mod_letter 192 _ _ _ rfl]
      simp (maxSteps := 2000000) (disch := (first | omega | (simp (disch := omega) only [up_eq, up_ne, cpA_o, cpF_o, List.length_set] <;> omega) | fail)) only [ob_s, am_bi_s, am_bv_s, am_bl_s, ↓bif_d, lits, nI_addS, nI_mulS, nI_subS, nI_lt', nI_le', nI_eq', ↓rd_nI, ↓wrH, up_eq, up_ne, up_up, up_sw, List.set_set, g_seq, g_sne, Nat.reduceEqDiff, ↓reduceIte, List.length_set, Nat.add_sub_cancel_left, Nat.add_sub_cancel, ite_true, ite_false, if_true, if_false, not_true_eq_false, not_false_eq_true, Bool.and_true, Bool.true_and, true_or, or_true, false_or, or_false, and_true, true_and, and_false, false_and, Nat.not_lt_zero, hpRM, hpIM, hpFM, hpLM, hpSM, nBd0, b01_0, g0]
  obtain ⟨b, hb, rfl⟩ := g0
  have g0 : ix (nI b) nb := ⟨b, hb, rfl⟩
  by_cases g1 : v < nI 0 ∨ nI 100000 < v
  · refine ⟨.int (-nI 2), A, F, P, A, F, P, ?_, ?_, nB, nl, nb, nx, q, t, hI⟩
    · rw [e_Pa_letter 1 _ _ _ rfl]
      simp (maxSteps := 2000000) (disch := (first | omega | (simp (disch := omega) only [up_eq, up_ne, cpA_o, cpF_o, List.length_set] <;> omega) | fail)) only [ob_s, am_bi_s, am_bv_s, am_bl_s, ↓bif_d, lits, nI_addS, nI_mulS, nI_subS, nI_lt', nI_le', nI_eq', ↓rd_nI, ↓wrH, up_eq, up_ne, up_up, up_sw, List.set_set, g_seq, g_sne, Nat.reduceEqDiff, ↓reduceIte, List.length_set, Nat.add_sub_cancel_left, Nat.add_sub_cancel, ite_true, ite_false, if_true, if_false, not_true_eq_false, not_false_eq_true, Bool.and_true, Bool.true_and, true_or, or_true, false_or, or_false, and_true, true_and, and_false, false_and, Nat.not_lt_zero, hpRX, hpIX, hpFX, hpLX, hpSX, ↓rgX, ↓rpX, Nat.reduceLeDiff, Nat.reduceLT, Nat.reduceAdd, Nat.reduceMul, Nat.reduceSub, iB, b01_0, g0, s_out, g1]
    · rw [e_Mod_letter 192 _ _ _ rfl]
      simp (maxSteps := 2000000) (disch := (first | omega | (simp (disch := omega) only [up_eq, up_ne, cpA_o, cpF_o, List.length_set] <;> omega) | fail)) only [ob_s, am_bi_s, am_bv_s, am_bl_s, ↓bif_d, lits, nI_addS, nI_mulS, nI_subS, nI_lt', nI_le', nI_eq', ↓rd_nI, ↓wrH, up_eq, up_ne, up_up, up_sw, List.set_set, g_seq, g_sne, Nat.reduceEqDiff, ↓reduceIte, List.length_set, Nat.add_sub_cancel_left, Nat.add_sub_cancel, ite_true, ite_false, if_true, if_false, not_true_eq_false, not_false_eq_true, Bool.and_true, Bool.true_and, true_or, or_true, false_or, or_false, and_true, true_and, and_false, false_and, Nat.not_lt_zero, hpRM, hpIM, hpFM, hpLM, hpSM, nBd0, b01_0, g0, eMk, s_Mod_in, am_bz_b, g1]
  -- the text is read
  have est := fun A F P => e_Letter_startNumber 184 (heap A F P) rfl
  have hrd : am_cl m_Letter_read [.ref 184, .int (nI nl)] (heap A F P) = am_ev m_Letter_read (21, [.ref 184, .int (nI nl), .int (nI 0), .float 0, .float 0, .float 0], [], heap A (up (up (up (up (up F 18405 (nI 0)) 18406 (nI 0)) 18407 (nI 0)) 18408 (nI 0)) 18409 (nI 0)) P) := by
    rw [e_Letter_read 184 _ _ rfl]
    simp (maxSteps := 2000000) (disch := (first | omega | (simp (disch := omega) only [up_eq, up_ne, cpA_o, cpF_o, List.length_set] <;> omega) | fail)) only [ob_s, am_bi_s, am_bv_s, am_bl_s, ↓bif_d, lits, nI_addS, nI_mulS, nI_subS, nI_lt', nI_le', nI_eq', ↓rd_nI, ↓wrH, up_eq, up_ne, up_up, up_sw, List.set_set, g_seq, g_sne, Nat.reduceEqDiff, ↓reduceIte, List.length_set, Nat.add_sub_cancel_left, Nat.add_sub_cancel, ite_true, ite_false, if_true, if_false, not_true_eq_false, not_false_eq_true, Bool.and_true, Bool.true_and, true_or, or_true, false_or, or_false, and_true, true_and, and_false, false_and, Nat.not_lt_zero, hpRX, hpIX, hpFX, hpLX, hpSX, ↓rgX, ↓rpX, Nat.reduceLeDiff, Nat.reduceLT, Nat.reduceAdd, Nat.reduceMul, Nat.reduceSub, est]
  have hF0 : ∀ k, (k < 18405 ∨ 18409 < k) → up (up (up (up (up F 18405 (nI 0)) 18406 (nI 0)) 18407 (nI 0)) 18408 (nI 0)) 18409 (nI 0) k = F k := fun k hk => by
    rw [up_ne _ _ (by omega), up_ne _ _ (by omega), up_ne _ _ (by omega), up_ne _ _ (by omega), up_ne _ _ (by omega)]
  have hcl : CL A (up (up (up (up (up F 18405 (nI 0)) 18406 (nI 0)) 18407 (nI 0)) 18408 (nI 0)) 18409 (nI 0)) (g (A 185)) t := ⟨by rw [hF0 _ (by omega)]; exact t2, t1, l185, fun _ _ => rfl, l187, l189, l191⟩
  obtain ⟨A1, F1, a1, a2, a3, a4⟩ := letter_run (P := P) (nB := nB) (nl := nl) (nb := nb) (nx := nx) hnl (t + 1) 0 0 0 A _ (.float 0) (.float 0) (.float 0) (by omega) (Nat.zero_le _) (by omega) (Nat.le_refl _) hcl (by simp (disch := (first | omega | fail)) only [st_e, sf_e, Nat.reduceAdd, Nat.reduceMul, up_eq, up_ne, cpA_o, cpF_o]) (by simp (disch := (first | omega | fail)) only [st_e, sf_e, Nat.reduceAdd, Nat.reduceMul, up_eq, up_ne, cpA_o, cpF_o]) (by simp (disch := (first | omega | fail)) only [st_e, sf_e, Nat.reduceAdd, Nat.reduceMul, up_eq, up_ne, cpA_o, cpF_o]) (by simp (disch := (first | omega | fail)) only [st_e, sf_e, Nat.reduceAdd, Nat.reduceMul, up_eq, up_ne, cpA_o, cpF_o]) (by simp (disch := (first | omega | fail)) only [st_e, sf_e, Nat.reduceAdd, Nat.reduceMul, up_eq, up_ne, cpA_o, cpF_o])
  rw [← hrd] at a4
  have a2 : ∀ k, (k < 18405 ∨ 18409 < k) → F1 k = F k := fun k hk => (a2 k hk).trans (hF0 k hk)
  clear hF0 hcl hrd
  have eA1 : ∀ j, j < 187 ∨ 191 < j → A1 j = A j := fun j hj => a1 j (by omega) (by omega) (by omega)
  have hmr : ∀ Q, MRun (g (A 185)) t nB nl nb nx A 0 0 0 Q → ∀ P' B G, B 193 = A 193 → B 195 = A 195 → ((B 196).length = 40 ∧ (B 197).length = 40 ∧ (B 198).length = 40) → G 19203 = nI t → ∃ B' G', MfA B B' ∧ MfF G G' ∧ ((B' 196).length = 40 ∧ (B' 197).length = 40 ∧ (B' 198).length = 40) ∧ am_cl m_Mod_readLetter [.ref 192] (heap B G P') = some (none, heap B' G' P') ∧ Q B' G' := by
    intro Q hQ P' B G z1 z2 z3 z4
    obtain ⟨B', G', r1, r2, r3, r4, r5⟩ := hQ P' B (up (up (up G 19205 (nI 0)) 19206 (nI 1)) 19207 (nI 0)) ⟨by simp (disch := (first | omega | fail)) only [st_e, sf_e, Nat.reduceAdd, Nat.reduceMul, up_eq, up_ne, cpA_o, cpF_o]; exact z4, t1, by rw [z2]; exact l195, fun j hj => by rw [z2]; exact (t4 j hj).symm, z3⟩ (by rw [z1]; exact hM.1) (by simp (disch := (first | omega | fail)) only [st_e, sf_e, Nat.reduceAdd, Nat.reduceMul, up_eq, up_ne, cpA_o, cpF_o]) (by simp (disch := (first | omega | fail)) only [st_e, sf_e, Nat.reduceAdd, Nat.reduceMul, up_eq, up_ne, cpA_o, cpF_o]) (by simp (disch := (first | omega | fail)) only [st_e, sf_e, Nat.reduceAdd, Nat.reduceMul, up_eq, up_ne, cpA_o, cpF_o]) ⟨fun _ => 0, fun _ => 0, fun _ => 0, fun j hj => absurd hj (Nat.not_lt_zero _), fun i j _ hj => absurd hj (Nat.not_lt_zero _)⟩
    refine ⟨B', G', r1, fun k hk => by rw [r2 k hk, up_ne _ _ (by omega), up_ne _ _ (by omega), up_ne _ _ (by omega)], r3, ?_, r5⟩
    rw [← r4, e_Mod_readLetter 192 _ rfl]
    simp (maxSteps := 2000000) (disch := (first | omega | (simp (disch := omega) only [up_eq, up_ne, cpA_o, cpF_o, List.length_set] <;> omega) | fail)) only [ob_s, am_bi_s, am_bv_s, am_bl_s, ↓bif_d, lits, nI_addS, nI_mulS, nI_subS, nI_lt', nI_le', nI_eq', ↓rd_nI, ↓wrH, up_eq, up_ne, up_up, up_sw, List.set_set, g_seq, g_sne, Nat.reduceEqDiff, ↓reduceIte, List.length_set, Nat.add_sub_cancel_left, Nat.add_sub_cancel, ite_true, ite_false, if_true, if_false, not_true_eq_false, not_false_eq_true, Bool.and_true, Bool.true_and, true_or, or_true, false_or, or_false, and_true, true_and, and_false, false_and, Nat.not_lt_zero, hpRM, hpIM, hpFM, hpLM, hpSM]
  have hI1 : InvN A1 F1 P nB nl nb nx q t := InvN_jk hI (fun j z1 z2 z3 _ _ _ => a1 j z1 z2 z3) (fun k hk _ => a2 k hk) a3 (by rw [eA1 196 (by omega), eA1 197 (by omega), eA1 198 (by omega)]; exact ⟨l196, l197, l198⟩)
  have nBd1 := nBd A1 F1 P (eA1 193 (by omega))
  rcases a4 with ⟨f, f1, f2, f3⟩ | ⟨K, W, k1, k2, k3, k4, k5⟩
  · -- a fault
    obtain ⟨B', G', r1, r2, r3, r4, r5, r6⟩ := hmr _ f3 P A1 F1 (eA1 193 (by omega)) (eA1 195 (by omega)) (by rw [eA1 196 (by omega), eA1 197 (by omega), eA1 198 (by omega)]; exact ⟨l196, l197, l198⟩) (by rw [a2 _ (by omega)]; exact t3)
    have n1f := nI_nm1 (a := f) (by omega)
    refine ⟨.int (-nI 100 - nI f), A1, F1, P, B', G', P, ?_, ?_, nB, nl, nb, nx, q, t, InvN_jk hI1 (fun j _ _ _ z1 z2 z3 => r1 j z1 z2 z3) (fun k _ hk => r2 k hk) ?_ r3⟩
    · rw [e_Pa_letter 1 _ _ _ rfl]
      simp (maxSteps := 2000000) (disch := (first | omega | (simp (disch := omega) only [up_eq, up_ne, cpA_o, cpF_o, List.length_set] <;> omega) | fail)) only [ob_s, am_bi_s, am_bv_s, am_bl_s, ↓bif_d, lits, nI_addS, nI_mulS, nI_subS, nI_lt', nI_le', nI_eq', ↓rd_nI, ↓wrH, up_eq, up_ne, up_up, up_sw, List.set_set, g_seq, g_sne, Nat.reduceEqDiff, ↓reduceIte, List.length_set, Nat.add_sub_cancel_left, Nat.add_sub_cancel, ite_true, ite_false, if_true, if_false, not_true_eq_false, not_false_eq_true, Bool.and_true, Bool.true_and, true_or, or_true, false_or, or_false, and_true, true_and, and_false, false_and, Nat.not_lt_zero, hpRX, hpIX, hpFX, hpLX, hpSX, ↓rgX, ↓rpX, Nat.reduceLeDiff, Nat.reduceLT, Nat.reduceAdd, Nat.reduceMul, Nat.reduceSub, iB, b01_0, g0, s_out, g1, n2, f2, n1f]
    · rw [e_Mod_letter 192 _ _ _ rfl]
      simp (maxSteps := 2000000) (disch := (first | omega | (simp (disch := omega) only [up_eq, up_ne, cpA_o, cpF_o, List.length_set] <;> omega) | fail)) only [ob_s, am_bi_s, am_bv_s, am_bl_s, ↓bif_d, lits, nI_addS, nI_mulS, nI_subS, nI_lt', nI_le', nI_eq', ↓rd_nI, ↓wrH, up_eq, up_ne, up_up, up_sw, List.set_set, g_seq, g_sne, Nat.reduceEqDiff, ↓reduceIte, List.length_set, Nat.add_sub_cancel_left, Nat.add_sub_cancel, ite_true, ite_false, if_true, if_false, not_true_eq_false, not_false_eq_true, Bool.and_true, Bool.true_and, true_or, or_true, false_or, or_false, and_true, true_and, and_false, false_and, Nat.not_lt_zero, hpRM, hpIM, hpFM, hpLM, hpSM, nBd1, b01_0, g0, eMk, s_Mod_in, am_bz_b, g1, r4, r5, r6]
    · rw [r1 187 (by omega) (by omega) (by omega), r1 189 (by omega) (by omega) (by omega), r1 191 (by omega) (by omega) (by omega)]
      exact a3
  · have e1906 : F1 1906 = nI nx := by rw [a2 _ (by omega)]; exact n4
    have n10 : ¬ nI 1 = nI 0 := by decide
    obtain ⟨B0, G0', r1, r2, r3, r4, r5, r6, hag⟩ := hmr _ k5 P A1 F1 (eA1 193 (by omega)) (eA1 195 (by omega)) (by rw [eA1 196 (by omega), eA1 197 (by omega), eA1 198 (by omega)]; exact ⟨l196, l197, l198⟩) (by rw [a2 _ (by omega)]; exact t3)
    by_cases hfull : nx + K ≤ 60
    rotate_left
    · -- no more room
      have hbd := s_Mod_bids (A := B0) (F := G0') (P := P) (nB := nB) (nl := nl) (nb := nb) (nx := nx) (by rw [r1 193 (by omega) (by omega) (by omega), eA1 193 (by omega)]; exact hM.1)
      refine ⟨.int (-nI 3), A1, F1, P, B0, G0', P, ?_, ?_, nB, nl, nb, nx, q, t, InvN_jk hI1 (fun j _ _ _ z1 z2 z3 => r1 j z1 z2 z3) (fun k _ hk => r2 k hk) ?_ r3⟩
      · rw [e_Pa_letter 1 _ _ _ rfl]
        simp (maxSteps := 2000000) (disch := (first | omega | (simp (disch := omega) only [up_eq, up_ne, cpA_o, cpF_o, List.length_set] <;> omega) | fail)) only [ob_s, am_bi_s, am_bv_s, am_bl_s, ↓bif_d, lits, nI_addS, nI_mulS, nI_subS, nI_lt', nI_le', nI_eq', ↓rd_nI, ↓wrH, up_eq, up_ne, up_up, up_sw, List.set_set, g_seq, g_sne, Nat.reduceEqDiff, ↓reduceIte, List.length_set, Nat.add_sub_cancel_left, Nat.add_sub_cancel, ite_true, ite_false, if_true, if_false, not_true_eq_false, not_false_eq_true, Bool.and_true, Bool.true_and, true_or, or_true, false_or, or_false, and_true, true_and, and_false, false_and, Nat.not_lt_zero, hpRX, hpIX, hpFX, hpLX, hpSX, ↓rgX, ↓rpX, Nat.reduceLeDiff, Nat.reduceLT, Nat.reduceAdd, Nat.reduceMul, Nat.reduceSub, iB, b01_0, g0, s_out, g1, n2, k4, e1906, k3, hfull]
      · rw [e_Mod_letter 192 _ _ _ rfl]
        simp (maxSteps := 2000000) (disch := (first | omega | (simp (disch := omega) only [up_eq, up_ne, cpA_o, cpF_o, List.length_set] <;> omega) | fail)) only [ob_s, am_bi_s, am_bv_s, am_bl_s, ↓bif_d, lits, nI_addS, nI_mulS, nI_subS, nI_lt', nI_le', nI_eq', ↓rd_nI, ↓wrH, up_eq, up_ne, up_up, up_sw, List.set_set, g_seq, g_sne, Nat.reduceEqDiff, ↓reduceIte, List.length_set, Nat.add_sub_cancel_left, Nat.add_sub_cancel, ite_true, ite_false, if_true, if_false, not_true_eq_false, not_false_eq_true, Bool.and_true, Bool.true_and, true_or, or_true, false_or, or_false, and_true, true_and, and_false, false_and, Nat.not_lt_zero, hpRM, hpIM, hpFM, hpLM, hpSM, nBd1, b01_0, g0, eMk, s_Mod_in, am_bz_b, g1, r4, r5, n10, hbd, r6, hfull]
      · rw [r1 187 (by omega) (by omega) (by omega), r1 189 (by omega) (by omega) (by omega), r1 191 (by omega) (by omega) (by omega)]
        exact a3
    -- the bids arrive
    obtain ⟨lf, af, wf, hrow, hmo⟩ := hag
    obtain ⟨b', hb', b1, b2, hba, hrec⟩ := act_pre hI1
    have hSX := hSim.2.2.2.2.2.1
    have hSX : ∀ y, y < nx → g (A 21) y = g (A 193) (168 + y) ∧ g (A 23) y = g (A 193) (108 + y) ∧ g (A 25) y = g (A 193) (228 + y) ∧ g (A 27) y = g (A 193) (288 + y) ∧ g (A 29) y = g (A 193) (348 + y) ∧ g (A 31) y = g (A 193) (408 + y) ∧ (∃ l, l < nl ∧ g (A 193) (108 + y) = nI l) ∧ (∃ b, b < nb ∧ g (A 193) (168 + y) = nI b) ∧ rg (g (A 193) (228 + y)) 1 1000000 ∧ rg (g (A 193) (288 + y)) 0 100000 ∧ rg (g (A 193) (348 + y)) 0 (1000000 + y) ∧ rg (g (A 193) (408 + y)) 0 1 := fun y hy => hSX y hy
    have hgr : ∀ y, y < nx → ∃ k, k ≤ 1200000 ∧ g (A 193) (348 + y) = nI k := fun y hy => by
      obtain ⟨k, z1, z2, z3⟩ := (hSX y hy).2.2.2.2.2.2.2.2.2.2.1
      exact ⟨k, by omega, z3⟩
    obtain ⟨G0, hG, -⟩ := m_grp65 (B := A) (G := F) (P := P) hM.1 (b := b) (by omega) v hgr nx 0 0 (by omega) (MaxOf_none (fun y hy => Nat.not_lt_zero _ hy.1))
    have hG0 : G0 = 0 ∨ G0 + 1 ≤ 1000000 + nx := by
      rcases hG.2.2.2 with z | ⟨y, ⟨y1, y2⟩, y3⟩
      · exact Or.inl z
      · obtain ⟨k, z1, z2, z3⟩ := (hSX y y1).2.2.2.2.2.2.2.2.2.2.1
        have h12 := hG.1
        have y3 : g (A 193) (348 + y) = nI G0 := y3
        rw [z3, nI_eq' (by omega) (by omega)] at y3
        exact Or.inr (by omega)
    have eA2 : ∀ j, j < 36 → cpA A1 2 b' j = A j := fun j hj => by rw [cpA_o (by omega)]; exact eA1 j (by omega)
    have hrow2 : ∀ j, j < K → g (A1 187) j = nI (lf j) ∧ g (A1 189) j = nI (af j) ∧ g (A1 191) j = nI (wf j) ∧ wf j ≤ 20 := fun j hj => by
      obtain ⟨⟨z1, z2, z3, z4⟩, ⟨z5, z6, z7⟩, -⟩ := hrow j hj
      exact ⟨z5, z6, z7, by omega⟩
    obtain ⟨A3, F3, q1, q2, q3, q4, q5, q6, q7⟩ := c_bids (P := Pk q P) (b := b) (nx := nx) (K := K) (G0 := G0) (v := v) (x3 := -nI 1) (lf := lf) (af := af) (wf := wf) k1 hfull (by omega) (by omega) K 0 0 (cpA A1 2 b') (up (up (cpF F1 2 b') 3401 (nI (kp q + 1))) 16410 (nI 0)) (by omega)
      (by unfold LenX; rw [eA2 21 (by omega), eA2 23 (by omega), eA2 25 (by omega), eA2 27 (by omega), eA2 29 (by omega), eA2 31 (by omega)]; exact ⟨c21, c23, c25, c27, c29, c31⟩)
      (by rw [cpA_o (by omega), cpA_o (by omega), cpA_o (by omega)]; exact a3)
      (by simp (disch := (first | omega | fail)) only [st_e, sf_e, Nat.reduceAdd, Nat.reduceMul, up_eq, up_ne, cpA_o, cpF_o]; exact k3)
      (by rw [cpA_o (by omega), cpA_o (by omega), cpA_o (by omega)]; exact hrow2)
      (by simp (disch := (first | omega | fail)) only [st_e, sf_e, Nat.reduceAdd, Nat.reduceMul, up_eq, up_ne, cpA_o, cpF_o]; exact e1906)
      (fun y hy => by rw [eA2 29 (by omega), (hSX y (by omega)).2.2.2.2.1]; exact hgr y (by omega))
      (by
        rw [eA2 29 (by omega), eA2 21 (by omega)]
        refine MaxOf_f (MaxOf_c hG (fun y => ⟨fun ⟨z1, z2⟩ => ⟨by omega, by rw [(hSX y z1).1]; exact z2⟩, fun ⟨z1, z2⟩ => ⟨by omega, by rw [← (hSX y (by omega)).1]; exact z2⟩⟩)) (fun y hy => (hSX y (by have := hy.1; omega)).2.2.2.2.1))
      (fun z => absurd z (Nat.lt_irrefl _))
    -- what stands behind the class
    have eA3 : ∀ j, j ≠ 21 → j ≠ 23 → j ≠ 25 → j ≠ 27 → j ≠ 29 → j ≠ 31 → A3 j = cpA A1 2 b' j := q1
    have eA3h : ∀ j, 164 ≤ j → A3 j = A1 j := fun j hj => by rw [q1 j (by omega) (by omega) (by omega) (by omega) (by omega) (by omega), cpA_o (by omega)]
    have e3193 : A3 193 = A 193 := (eA3h 193 (by omega)).trans (eA1 193 (by omega))
    have eF3 : ∀ k, k ≠ 1906 → k ≠ 3401 → k ≠ 16410 → F3 k = cpF F1 2 b' k := fun k z1 z2 z3 => by rw [q2 k z1, up_ne _ _ z3, up_ne _ _ z2]
    have eF3h : ∀ k, 16411 ≤ k → F3 k = F1 k := fun k hk => by rw [eF3 k (by omega) (by omega) (by omega), cpF_o (by omega)]
    obtain ⟨B', G', y1, y2, y3, y4, y5, y6, hag'⟩ := hmr _ k5 (Pk q P) A3 F3 e3193 ((eA3h 195 (by omega)).trans (eA1 195 (by omega))) (by rw [eA3h 196 (by omega), eA3h 197 (by omega), eA3h 198 (by omega), eA1 196 (by omega), eA1 197 (by omega), eA1 198 (by omega)]; exact ⟨l196, l197, l198⟩) (by rw [eF3h _ (by omega), a2 _ (by omega)]; exact t3)
    have eB' : ∀ j, (j < 196 ∨ 198 < j) → B' j = A3 j := fun j hj => y1 j (by omega) (by omega) (by omega)
    have eB193 : B' 193 = A 193 := (eB' 193 (by omega)).trans e3193
    obtain ⟨H', hH0, hH1, hH2, hre⟩ := hrec B' G' (Pk q P) ((eB' 193 (by omega)).trans (eA3h 193 (by omega))) ((eB' 194 (by omega)).trans (eA3h 194 (by omega))) (by rw [y2 _ (by omega), eF3h _ (by omega)])
    have hrowB : ∀ j, j < K → g (B' 196) j = nI (lf j) ∧ g (B' 197) j = nI (af j) ∧ g (B' 198) j = nI (wf j) ∧ wf j ≤ 20 := fun j hj => by
      obtain ⟨lf', af', wf', hrow', -⟩ := hag'
      obtain ⟨-, ⟨z5, z6, z7⟩, z8, z9, z10⟩ := hrow' j hj
      obtain ⟨w1, w2, w3, w4⟩ := hrow2 j hj
      exact ⟨z8.trans (z5.symm.trans w1), z9.trans (z6.symm.trans w2), z10.trans (z7.symm.trans w3), w4⟩
    have hMB : Mok (up B' 194 H' 193) nB nl nb nx := by rw [up_ne _ _ (by omega), eB193]; exact hM.1
    obtain ⟨G0'', hG'', h65⟩ := m_grp65 (B := up B' 194 H') (G := up G' 19202 (nI (kp q + 1))) (P := Pk q P) hMB (b := b) (by omega) v (by rw [up_ne _ _ (by omega), eB193]; exact hgr) nx 0 0 (by omega) (MaxOf_none (fun y hy => Nat.not_lt_zero _ hy.1))
    rw [up_ne _ _ (show (193 : Nat) ≠ 194 by omega), eB193] at hG''
    have eG : G0'' = G0 := MaxOf_u (fun y => Iff.rfl) hG'' hG
    subst eG
    obtain ⟨R', p1, p2, p3, p4, p5⟩ := m_bids (G := up G' 19202 (nI (kp q + 1))) (P := Pk q P) (b := b) (K := K) (G0 := G0'') (v := v) (lf := lf) (af := af) (wf := wf) k1 hfull (by omega) (by rw [up_ne _ _ (by omega)]; exact y6) hmo K 0 (up B' 194 H') (.float 0) (by omega) hMB (by rw [up_ne _ _ (by omega), up_ne _ _ (by omega), up_ne _ _ (by omega)]; exact y3) (by rw [up_ne _ _ (by omega), up_ne _ _ (by omega), up_ne _ _ (by omega)]; exact hrowB)
    rw [up_ne _ _ (show (193 : Nat) ≠ 194 by omega), eB193] at p2 p3
    have p5 : am_ev m_Mod_letter (118, [.ref 192, .int (nI b), .int v, .int (nI G0''), .int (nI 0), .float 0], [], heap (up B' 194 H') (up G' 19202 (nI (kp q + 1))) (Pk q P)) = some (some (.int (nI K)), heap (up (up B' 194 H') 193 R') (up G' 19202 (nI (kp q + 1))) (Pk q P)) := p5
    have hbd := s_Mod_bids (A := B') (F := G') (P := Pk q P) (nB := nB) (nl := nl) (nb := nb) (nx := nx) (by rw [eB193]; exact hM.1)
    have nBd3 := nBd A3 F3 (Pk q P) e3193
    -- the relation without the act
    have hI5 : InvN (up (up (up A1 196 (B' 196)) 197 (B' 197)) 198 (B' 198)) (up (up (up F1 19205 (G' 19205)) 19206 (G' 19206)) 19207 (G' 19207)) P nB nl nb nx q t := InvN_jk hI1 (fun j _ _ _ z1 z2 z3 => by rw [up_ne _ _ z3, up_ne _ _ z2, up_ne _ _ z1]) (fun k _ hk => by rw [up_ne _ _ (by omega), up_ne _ _ (by omega), up_ne _ _ (by omega)]) (by simp (disch := (first | omega | fail)) only [st_e, sf_e, Nat.reduceAdd, Nat.reduceMul, up_eq, up_ne, cpA_o, cpF_o]; exact a3) (by simp (disch := (first | omega | fail)) only [st_e, sf_e, Nat.reduceAdd, Nat.reduceMul, up_eq, up_ne, cpA_o, cpF_o]; exact y3)
    have e5A : ∀ j, (j < 196 ∨ 198 < j) → up (up (up A1 196 (B' 196)) 197 (B' 197)) 198 (B' 198) j = A1 j := fun j hj => by rw [up_ne _ _ (by omega), up_ne _ _ (by omega), up_ne _ _ (by omega)]
    have e5F : ∀ k, (k < 19205 ∨ 19207 < k) → up (up (up F1 19205 (G' 19205)) 19206 (G' 19206)) 19207 (G' 19207) k = F1 k := fun k hk => by rw [up_ne _ _ (by omega), up_ne _ _ (by omega), up_ne _ _ (by omega)]
    have e4A : ∀ j, j ≠ 193 → j ≠ 194 → (j < 196 ∨ 198 < j) → up (up B' 194 H') 193 R' j = A3 j := fun j z1 z2 z3 => by rw [up_ne _ _ z1, up_ne _ _ z2]; exact eB' j z3
    have e4F : ∀ k, k ≠ 19202 → (k < 19205 ∨ 19207 < k) → up G' 19202 (nI (kp q + 1)) k = F3 k := fun k z1 z2 => by rw [up_ne _ _ z1]; exact y2 k z2
    -- the state
    have sA : ∀ j, j < 36 → j ≠ 21 → j ≠ 23 → j ≠ 25 → j ≠ 27 → j ≠ 29 → j ≠ 31 → up (up B' 194 H') 193 R' j = A j := fun j hj z1 z2 z3 z4 z5 z6 => by rw [e4A j (by omega) (by omega) (by omega), q1 j z1 z2 z3 z4 z5 z6]; exact eA2 j hj
    have sX : ∀ j, j < 36 → up (up B' 194 H') 193 R' j = A3 j := fun j hj => e4A j (by omega) (by omega) (by omega)
    have sF' : ∀ k, k < 3400 → k ≠ 1906 → up G' 19202 (nI (kp q + 1)) k = F k := fun k hk z => by rw [e4F k (by omega) (by omega), eF3 k z (by omega) (by omega), cpF_o (by omega)]; exact a2 k (by omega)
    have s1906 : up G' 19202 (nI (kp q + 1)) 1906 = nI (nx + K) := by rw [e4F _ (by omega) (by omega)]; exact q4
    have hSimN := hSim.2.1
    have hS : Sim (st (up (up B' 194 H') 193 R') 2) (sf (up G' 19202 (nI (kp q + 1))) 2) R' nB nl nb (nx + K) := by
      obtain ⟨-, ⟨m1, m2, m3, m4⟩, hSB, hSL, hSM, -, hSS⟩ := hSim
      have hB1 : 1 ≤ nB := hM.1.2.2.2.2.2.1
      refine ⟨p1, ⟨?_, ?_, ?_, ?_⟩, ?_, ?_, ?_, ?_, ?_⟩
      · show up G' 19202 (nI (kp q + 1)) 302 = nI nB; rw [sF' 302 (by omega) (by omega)]; exact n1
      · show up G' 19202 (nI (kp q + 1)) 804 = nI nl; rw [sF' 804 (by omega) (by omega)]; exact n2
      · show up G' 19202 (nI (kp q + 1)) 203 = nI nb; rw [sF' 203 (by omega) (by omega)]; exact n3
      · exact s1906
      · exact SimB_c (a := st A 2) hnB (fun j z1 z2 => p2 j (by omega)) (sA 5 (by omega) (by omega) (by omega) (by omega) (by omega) (by omega) (by omega)) (sA 7 (by omega) (by omega) (by omega) (by omega) (by omega) (by omega) (by omega)) hB1 hSB
      · exact SimL_c (a := st A 2) hnl (fun j z1 z2 => p2 j (by omega)) (sA 10 (by omega) (by omega) (by omega) (by omega) (by omega) (by omega) (by omega)) (sA 12 (by omega) (by omega) (by omega) (by omega) (by omega) (by omega) (by omega)) (sA 14 (by omega) (by omega) (by omega) (by omega) (by omega) (by omega) (by omega)) (sA 16 (by omega) (by omega) (by omega) (by omega) (by omega) (by omega) (by omega)) hSL
      · exact SimM_c (a := st A 2) hnb (fun j z1 z2 => p2 j (by omega)) (sA 18 (by omega) (by omega) (by omega) (by omega) (by omega) (by omega) (by omega)) hSM
      · intro y hy
        show g (up (up B' 194 H') 193 R' 21) y = g R' (168 + y) ∧ g (up (up B' 194 H') 193 R' 23) y = g R' (108 + y) ∧ g (up (up B' 194 H') 193 R' 25) y = g R' (228 + y) ∧ g (up (up B' 194 H') 193 R' 27) y = g R' (288 + y) ∧ g (up (up B' 194 H') 193 R' 29) y = g R' (348 + y) ∧ g (up (up B' 194 H') 193 R' 31) y = g R' (408 + y) ∧ (∃ l, l < nl ∧ g R' (108 + y) = nI l) ∧ (∃ b, b < nb ∧ g R' (168 + y) = nI b) ∧ rg (g R' (228 + y)) 1 1000000 ∧ rg (g R' (288 + y)) 0 100000 ∧ rg (g R' (348 + y)) 0 (1000000 + y) ∧ rg (g R' (408 + y)) 0 1
        rw [sX 21 (by omega), sX 23 (by omega), sX 25 (by omega), sX 27 (by omega), sX 29 (by omega), sX 31 (by omega)]
        by_cases c : y < nx
        · obtain ⟨u1, u2, u3, u4, u5, u6⟩ := q5 y (by omega)
          obtain ⟨v1, v2, v3, v4, v5, v6⟩ := p3 y (by omega)
          rw [u1, u2, u3, u4, u5, u6, v1, v2, v3, v4, v5, v6, eA2 21 (by omega), eA2 23 (by omega), eA2 25 (by omega), eA2 27 (by omega), eA2 29 (by omega), eA2 31 (by omega)]
          exact hSX y c
        · obtain ⟨m, rfl⟩ : ∃ m, y = nx + m := ⟨y - nx, by omega⟩
          have hmK : m < K := by omega
          obtain ⟨u1, u2, u3, u4, u5, u6⟩ := q6 m (Nat.zero_le _) hmK
          obtain ⟨v1, v2, v3, v4, v5, v6⟩ := p4 m (Nat.zero_le _) hmK
          obtain ⟨⟨w1, w2, w3, w4⟩, -⟩ := hrow m hmK
          have hgl := grp_le wf K G0'' m
          rw [u1, u2, u3, u4, u5, u6, v1, v2, v3, v4, v5, v6]
          refine ⟨rfl, rfl, rfl, rfl, rfl, rfl, ⟨_, w1, rfl⟩, ⟨b, hb, rfl⟩, ⟨_, w2, w3, rfl⟩, (rg_iff (by omega) (by omega)).mpr g1, ⟨_, Nat.zero_le _, by omega, rfl⟩, ⟨0, by omega, by omega, rfl⟩⟩
      · exact SimS_c (a := st A 2) (fun j z1 z2 => p2 j (by omega)) (sA 33 (by omega) (by omega) (by omega) (by omega) (by omega) (by omega) (by omega)) hSS
    have hLS : LenS (up (up B' 194 H') 193 R') 2 := by
      obtain ⟨x1, x2, x3, x4, x5, x6⟩ := q3
      show (up (up B' 194 H') 193 R' 5).length = 8 ∧ (up (up B' 194 H') 193 R' 7).length = 8 ∧ (up (up B' 194 H') 193 R' 10).length = 20 ∧ (up (up B' 194 H') 193 R' 12).length = 20 ∧ (up (up B' 194 H') 193 R' 14).length = 20 ∧ (up (up B' 194 H') 193 R' 16).length = 20 ∧ (up (up B' 194 H') 193 R' 18).length = 8 ∧ (up (up B' 194 H') 193 R' 21).length = 60 ∧ (up (up B' 194 H') 193 R' 23).length = 60 ∧ (up (up B' 194 H') 193 R' 25).length = 60 ∧ (up (up B' 194 H') 193 R' 27).length = 60 ∧ (up (up B' 194 H') 193 R' 29).length = 60 ∧ (up (up B' 194 H') 193 R' 31).length = 60 ∧ (up (up B' 194 H') 193 R' 33).length = 4
      rw [sX 21 (by omega), sX 23 (by omega), sX 25 (by omega), sX 27 (by omega), sX 29 (by omega), sX 31 (by omega)]
      rw [sA 5 (by omega) (by omega) (by omega) (by omega) (by omega) (by omega) (by omega), sA 7 (by omega) (by omega) (by omega) (by omega) (by omega) (by omega) (by omega), sA 10 (by omega) (by omega) (by omega) (by omega) (by omega) (by omega) (by omega), sA 12 (by omega) (by omega) (by omega) (by omega) (by omega) (by omega) (by omega), sA 14 (by omega) (by omega) (by omega) (by omega) (by omega) (by omega) (by omega), sA 16 (by omega) (by omega) (by omega) (by omega) (by omega) (by omega) (by omega), sA 18 (by omega) (by omega) (by omega) (by omega) (by omega) (by omega) (by omega), sA 33 (by omega) (by omega) (by omega) (by omega) (by omega) (by omega) (by omega)]
      exact ⟨c5, c7, c10, c12, c14, c16, c18, x1, x2, x3, x4, x5, x6, c33⟩
    refine ⟨.int (nI K), A3, F3, Pk q P, up (up B' 194 H') 193 R', up G' 19202 (nI (kp q + 1)), Pk q P, ?_, ?_, nB, nl, nb, nx + K, kp q + 1, t, ?_⟩
    · rw [e_Pa_letter 1 _ _ _ rfl]
      simp (maxSteps := 2000000) (disch := (first | omega | (simp (disch := omega) only [up_eq, up_ne, cpA_o, cpF_o, List.length_set] <;> omega) | fail)) only [ob_s, am_bi_s, am_bv_s, am_bl_s, ↓bif_d, lits, nI_addS, nI_mulS, nI_subS, nI_lt', nI_le', nI_eq', ↓rd_nI, ↓wrH, up_eq, up_ne, up_up, up_sw, List.set_set, g_seq, g_sne, Nat.reduceEqDiff, ↓reduceIte, List.length_set, Nat.add_sub_cancel_left, Nat.add_sub_cancel, ite_true, ite_false, if_true, if_false, not_true_eq_false, not_false_eq_true, Bool.and_true, Bool.true_and, true_or, or_true, false_or, or_false, and_true, true_and, and_false, false_and, Nat.not_lt_zero, hpRX, hpIX, hpFX, hpLX, hpSX, ↓rgX, ↓rpX, Nat.reduceLeDiff, Nat.reduceLT, Nat.reduceAdd, Nat.reduceMul, Nat.reduceSub, iB, b01_0, g0, s_out, g1, n2, k4, e1906, k3, hfull, hba, q7]
    · rw [e_Mod_letter 192 _ _ _ rfl]
      simp (maxSteps := 2000000) (disch := (first | omega | (simp (disch := omega) only [up_eq, up_ne, cpA_o, cpF_o, List.length_set] <;> omega) | fail)) only [ob_s, am_bi_s, am_bv_s, am_bl_s, ↓bif_d, lits, nI_addS, nI_mulS, nI_subS, nI_lt', nI_le', nI_eq', ↓rd_nI, ↓wrH, up_eq, up_ne, up_up, up_sw, List.set_set, g_seq, g_sne, Nat.reduceEqDiff, ↓reduceIte, List.length_set, Nat.add_sub_cancel_left, Nat.add_sub_cancel, ite_true, ite_false, if_true, if_false, not_true_eq_false, not_false_eq_true, Bool.and_true, Bool.true_and, true_or, or_true, false_or, or_false, and_true, true_and, and_false, false_and, Nat.not_lt_zero, hpRM, hpIM, hpFM, hpLM, hpSM, nBd3, b01_0, g0, eMk, s_Mod_in, am_bz_b, g1, y4, y5, n10, hbd, y6, hfull, hre]
      rw [h65, p5, up_sw _ _ _ (by omega)]
    · refine act_done (r' := R') (H' := H') hI5 hb' hH0 ?_ ?_ ?_ ?_ ?_ ?_ ?_ ?_ ?_ ?_ ?_ hLS (up_eq _ _ _) hS
      · rw [e5A 193 (by omega)]; exact hH1
      · rw [e5A 194 (by omega)]; exact hH2
      · intro j z1 z2
        rw [e4A j (by omega) (by omega) (by omega), q1 j (by omega) (by omega) (by omega) (by omega) (by omega) (by omega)]
        exact (cpA_c (fun i hi => e5A i (by omega)) b1 z2).symm
      · intro j z1 z2 z3
        by_cases c : j < 196 ∨ 198 < j
        · rw [e4A j z2 z3 c, e5A j c]
          exact eA3h j z1
        · rw [up_ne _ _ z2, up_ne _ _ z3]
          have : j = 196 ∨ j = 197 ∨ j = 198 := by omega
          rcases this with w | w | w
          · subst w; simp (disch := (first | omega | fail)) only [st_e, sf_e, Nat.reduceAdd, Nat.reduceMul, up_eq, up_ne, cpA_o, cpF_o]
          · subst w; simp (disch := (first | omega | fail)) only [st_e, sf_e, Nat.reduceAdd, Nat.reduceMul, up_eq, up_ne, cpA_o, cpF_o]
          · subst w; simp (disch := (first | omega | fail)) only [st_e, sf_e, Nat.reduceAdd, Nat.reduceMul, up_eq, up_ne, cpA_o, cpF_o]
      · rw [up_ne _ _ (by omega), up_eq]
      · intro k z1 z2
        rw [e4F k (by omega) (by omega), eF3 k (by omega) (by omega) (by omega)]
        exact (cpF_c (fun i hi => e5F i (by omega)) b1 z2).symm
      · rw [e4F _ (by omega) (by omega), q2 _ (by omega)]; simp (disch := (first | omega | fail)) only [st_e, sf_e, Nat.reduceAdd, Nat.reduceMul, up_eq, up_ne, cpA_o, cpF_o]
      · exact up_eq _ _ _
      · rw [e4F _ (by omega) (by omega), q2 _ (by omega), up_eq]
      · rw [e4F _ (by omega) (by omega), e5F _ (by omega)]; exact eF3h _ (by omega)
      · rw [e4F _ (by omega) (by omega), e5F _ (by omega)]; exact eF3h _ (by omega)
end X
