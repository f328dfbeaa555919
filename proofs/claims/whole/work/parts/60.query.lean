/-! WHAT IS TOLD OF THE SALE -/
section H
variable {A : Nat → List Int32} {F : Nat → Int32} {P : Nat → Nat} {r : List Int32} {nB nl nb nx q t : Nat} {L B Fi Se Mn Bu Pr : List Int32}
theorem SaI_bs (hM : Mwf r nB nl nb nx) (hS : SaI r nB nl nb nx L B Fi Se Mn Bu Pr nl) {k : Nat} (hk : k < nl) : ∀ b, b < 8 → isL r nb nx k (g B (8 * k + b)) := fun b hb => by rw [hS.2.2.1 k hk b hb]; exact mBs_isL hM _ _ _ _ _
theorem SaI_fi (hM : Mwf r nB nl nb nx) (hS : SaI r nB nl nb nx L B Fi Se Mn Bu Pr nl) {l b : Nat} (hl : l < nl) (hb : b < 2 ^ 31) (h : g Bu l = nI b) : ∃ f, f < nx ∧ g Fi l = nI f ∧ lotN r f = l ∧ byN r f = b ∧ mSold r nB L l (g Fi l) ∧ g Pr l = mPr r nB L l (nI f) (g Se l) := by
  have hnx : nx ≤ 60 := hM.1.2.2.2.2.2.2.2.2.2
  have hnb : nb ≤ 8 := hM.1.2.2.2.2.2.2.2.2.1
  have hOB := SaI_bs hM hS hl
  obtain ⟨s1, s2, s3, s4, s5, s6, s7, s8⟩ := hS
  have h5 : (-nI 5 : Int32) < nI 0 := by decide
  have hFiL : isL r nb nx l (g Fi l) := by rw [s4 l hl]; exact mRk_isL hOB 8 0 (by omega)
  by_cases c : mSold r nB L l (g Fi l)
  · rcases hFiL with z | ⟨f, f1, f2, f3, f4⟩
    · exact absurd (by rw [z]; exact h5) c.1
    · refine ⟨f, f1, f2, f3, ?_, c, by rw [s8 l hl, cif_t c, f2]⟩
      rw [s7 l hl, cif_t c, f2, nI_clamp (by omega), (hM.2.2 f f1).2.2, nI_eq' (by omega) hb] at h
      exact h
  · rw [s7 l hl, cif_f c] at h
    exact absurd h.symm (nI_nm5 hb)
theorem SaI_bu (hM : Mwf r nB nl nb nx) (hS : SaI r nB nl nb nx L B Fi Se Mn Bu Pr nl) {l : Nat} (hl : l < nl) : (g Bu l = -nI 5 ∧ g Pr l = nI 0) ∨ ∃ b, b < nb ∧ g Bu l = nI b := by
  have hnx : nx ≤ 60 := hM.1.2.2.2.2.2.2.2.2.2
  have hOB := SaI_bs hM hS hl
  obtain ⟨s1, s2, s3, s4, s5, s6, s7, s8⟩ := hS
  have hFiL : isL r nb nx l (g Fi l) := by rw [s4 l hl]; exact mRk_isL hOB 8 0 (by omega)
  have h5 : (-nI 5 : Int32) < nI 0 := by decide
  by_cases c : mSold r nB L l (g Fi l)
  · rcases hFiL with z | ⟨f, f1, f2, f3, f4⟩
    · exact absurd (by rw [z]; exact h5) c.1
    · refine Or.inr ⟨byN r f, f4, ?_⟩
      rw [s7 l hl, cif_t c, f2, nI_clamp (by omega), (hM.2.2 f f1).2.2]
  · exact Or.inl ⟨by rw [s7 l hl, cif_f c], by rw [s8 l hl, cif_f c]⟩
theorem SaI_pr (hC : Cx A F r nB nl nb nx) (hS : SaI r nB nl nb nx L B Fi Se Mn Bu Pr nl) {l : Nat} (hl : l < nl) : rg (g Pr l) 0 1000000 := by
  have hM := hC.1
  have hnb : nb ≤ 8 := hM.1.2.2.2.2.2.2.2.2.1
  rcases SaI_bu hM hS hl with ⟨-, z⟩ | ⟨b, hb, z⟩
  · rw [z]; exact ⟨0, by omega, by omega, rfl⟩
  · obtain ⟨f, f1, f2, f3, f4, f5, f6⟩ := SaI_fi hM hS hl (by omega) z
    have hSeL : isL r nb nx l (g Se l) := by rw [hS.2.2.2.2.1 l hl]; exact mRk_isL (SaI_bs hM hS hl) 8 0 (by omega)
    obtain ⟨w, p, h1, h2, h3, h4⟩ := mPr_N (v := g Se l) hC hl f1 f3 hSeL (SaI_left hC hS l (by omega))
    rw [f6, h4]
    exact ⟨p, by omega, by omega, rfl⟩
/-- a withdrawn lot isn't sold -/
theorem SaI_aw (hM : Mwf r nB nl nb nx) (hS : SaI r nB nl nb nx L B Fi Se Mn Bu Pr nl) {l : Nat} (hl : l < nl) (h : g r (78 + l) = nI 1) : g Bu l = -nI 5 := by
  have hnb : nb ≤ 8 := hM.1.2.2.2.2.2.2.2.2.1
  rcases SaI_bu hM hS hl with ⟨z, -⟩ | ⟨b, hb, z⟩
  · exact z
  · obtain ⟨f, f1, f2, f3, f4, f5, f6⟩ := SaI_fi hM hS hl (by omega) z
    have hOB := SaI_bs hM hS hl
    have h5 : (-nI 5 : Int32) < nI 0 := by decide
    exfalso
    have hall : ∀ b, b < 8 → g B (8 * l + b) < nI 0 := fun b hb => by
      rw [hS.2.2.1 l hl b hb]
      rcases mBs_spec r nB L Bu Fi l b nx with z | ⟨y, y1, y2, y3, y4⟩
      · rw [z]; exact h5
      · rw [h] at y3
        exact absurd y3 (by decide)
    have e : mRk r nB L B l (nI 0) 8 0 = -nI 5 := mRk_none 8 0 (fun j _ hj hc => absurd (hall j (by omega)) hc)
    rw [← hS.2.2.2.1 l hl, f2] at e
    exact nI_nm5 (by have := hM.1.2.2.2.2.2.2.2.2.2; omega) e
theorem cl_bid (hC : Cx A F r nB nl nb nx) (hW : LenW A) (hS : SaI r nB nl nb nx L B Fi Se Mn Bu Pr nl) (hK : ClS A r nB nl nx L B Fi Se Mn Bu Pr nl) {k p : Nat} (hk : k < nl) (hp : p < 2 ^ 31) : am_cl m_Sale_bidAt [.ref 164, .int (nI k), .int (nI p)] (heap A F P) = some (some (.int (mRk r nB L B k (nI p) 8 0)), heap A F P) := by
  obtain ⟨d1, d2, d3, d4, d5, d6⟩ := hK.1 k hk
  have e := hS.2.2.2.2.2.1 k hk
  have hm8 := mMn_le8 (B := B) (l := k)
  refine cs_bidAt hC hW hk (fun b hb => (SaI_bs hC.1 hS hk b hb).isB) (by rw [d4, e]) (fun p hp => d6 p (by rw [e, nI_lt' (by omega) (by omega)]; exact hp) (by omega)) hp
theorem hold2 (hI : InvN A F P nB nl nb nx q t) : ∃ (A' A2 : Nat → List Int32) (L B Fi Se Mn Bu Pr : List Int32), (A' 193 = A 193 ∧ A2 193 = A 193 ∧ A2 199 = L ∧ A2 200 = B ∧ A2 201 = Fi ∧ A2 202 = Se ∧ A2 203 = Mn ∧ A2 204 = Bu ∧ A2 205 = Pr) ∧ (L.length = 168 ∧ B.length = 160 ∧ Fi.length = 20 ∧ Se.length = 20 ∧ Mn.length = 20 ∧ Bu.length = 20 ∧ Pr.length = 20) ∧ ((A2 199).length = 168 ∧ (A2 200).length = 160 ∧ (A2 201).length = 20 ∧ (A2 202).length = 20 ∧ (A2 203).length = 20 ∧ (A2 204).length = 20 ∧ (A2 205).length = 20) ∧ LenW A' ∧ SaI (A 193) nB nl nb nx L B Fi Se Mn Bu Pr nl ∧ ClS A' (A 193) nB nl nx L B Fi Se Mn Bu Pr nl ∧ Cx A' (up F 16410 (nI 1)) (A 193) nB nl nb nx ∧ am_cl m_Sale_hold [.ref 164] (heap A F P) = some (none, heap A' (up F 16410 (nI 1)) P) ∧ am_cl m_Mod_hold [.ref 192] (heap A' (up F 16410 (nI 1)) P) = some (none, heap A2 (up F 16410 (nI 1)) P) ∧ InvN A' (up F 16410 (nI 1)) P nB nl nb nx q t ∧ InvN A2 (up F 16410 (nI 1)) P nB nl nb nx q t := by
  obtain ⟨A', L, B, Fi, Se, Mn, Bu, Pr, hA, hW, hL, hS, hK, hC, hcl, hmd, hI1, hI2⟩ := hold_both hI
  have a199 : up7 A' L B Fi Se Mn Bu Pr 199 = L := by unfold up7; simp (disch := (first | omega | fail)) only [st_e, sf_e, Nat.reduceAdd, Nat.reduceMul, up_eq, up_ne, cpA_o, cpF_o]
  have a200 : up7 A' L B Fi Se Mn Bu Pr 200 = B := by unfold up7; simp (disch := (first | omega | fail)) only [st_e, sf_e, Nat.reduceAdd, Nat.reduceMul, up_eq, up_ne, cpA_o, cpF_o]
  have a201 : up7 A' L B Fi Se Mn Bu Pr 201 = Fi := by unfold up7; simp (disch := (first | omega | fail)) only [st_e, sf_e, Nat.reduceAdd, Nat.reduceMul, up_eq, up_ne, cpA_o, cpF_o]
  have a202 : up7 A' L B Fi Se Mn Bu Pr 202 = Se := by unfold up7; simp (disch := (first | omega | fail)) only [st_e, sf_e, Nat.reduceAdd, Nat.reduceMul, up_eq, up_ne, cpA_o, cpF_o]
  have a203 : up7 A' L B Fi Se Mn Bu Pr 203 = Mn := by unfold up7; simp (disch := (first | omega | fail)) only [st_e, sf_e, Nat.reduceAdd, Nat.reduceMul, up_eq, up_ne, cpA_o, cpF_o]
  have a204 : up7 A' L B Fi Se Mn Bu Pr 204 = Bu := by unfold up7; simp (disch := (first | omega | fail)) only [st_e, sf_e, Nat.reduceAdd, Nat.reduceMul, up_eq, up_ne, cpA_o, cpF_o]
  have a205 : up7 A' L B Fi Se Mn Bu Pr 205 = Pr := by unfold up7; simp (disch := (first | omega | fail)) only [st_e, sf_e, Nat.reduceAdd, Nat.reduceMul, up_eq, up_ne, cpA_o, cpF_o]
  refine ⟨A', up7 A' L B Fi Se Mn Bu Pr, L, B, Fi, Se, Mn, Bu, Pr, ⟨hA 193 (by omega), (up7_o (by omega)).trans (hA 193 (by omega)), a199, a200, a201, a202, a203, a204, a205⟩, hL, ?_, hW, hS, hK, hC, hcl, hmd, hI1, hI2⟩
  rw [a199, a200, a201, a202, a203, a204, a205]
  exact hL
end H
section X
variable {A : Nat → List Int32} {F : Nat → Int32} {P : Nat → Nat} {nB nl nb nx q t : Nat}
theorem k_sale (hI : InvN A F P nB nl nb nx q t) (x v : Int32) : Step m_Pa_sale m_Mod_sale [.int x, .int v] A F P := by
  classical
  have hC0 := Cx_of hI
  obtain ⟨-, -, ⟨n1, n2, n3, n4⟩, l0, hAL, hAM, hAX, hAS, -⟩ := id hC0
  obtain ⟨c5, c7, c10, c12, c14, c16, c18, c21, c23, c25, c27, c29, c31, c33⟩ := LenS2 l0
  obtain ⟨A', A2, L, B, Fi, Se, Mn, Bu, Pr, ⟨b193, a193, a199, a200, a201, a202, a203, a204, a205⟩, ⟨m199, m200, m201, m202, m203, m204, m205⟩, ⟨k199, k200, k201, k202, k203, k204, k205⟩, hW, hS, hK, hC', hcl, hmd, hI1, hI2⟩ := hold2 hI
  obtain ⟨hM, hB, -, l1, hCL, hCM, hCX, hCS, hS0, hS1, hS2, hS3⟩ := id hC'
  obtain ⟨d5, d7, d10, d12, d14, d16, d18, d21, d23, d25, d27, d29, d31, d33⟩ := LenS2 l1
  obtain ⟨w166, w168, w170, w172, w174, w176, w178, w180, w182⟩ := id hW
  have hr0 : (A 193).length = 472 := hM.1.1
  have hr1 : (A' 193).length = 472 := by rw [b193]; exact hr0
  have hr2 : (A2 193).length = 472 := by rw [a193]; exact hr0
  have hnl : nl ≤ 20 := hM.1.2.2.2.2.2.2.2.1
  have hnb : nb ≤ 8 := hM.1.2.2.2.2.2.2.2.2.1
  have hnx : nx ≤ 60 := hM.1.2.2.2.2.2.2.2.2.2
  have iL := fun x => s_isLot (A := A) (F := F) (P := P) n2 (by omega) x
  have iB := fun x => s_isBidder (A := A) (F := F) (P := P) n3 (by omega) x
  have iX := fun x => s_isBid (A := A) (F := F) (P := P) n4 (by omega) x
  have nL := fun x => s_Mod_noLot (A := A) (F := F) (P := P) hM.1 x
  have nBd := fun x => s_Mod_noBidder (A := A) (F := F) (P := P) hM.1 x
  have nX := fun x => s_Mod_noBid (A := A) (F := F) (P := P) hM.1 x
  have nL' := fun x => s_Mod_noLot (A := A') (F := up F 16410 (nI 1)) (P := P) (by rw [b193]; exact hM.1) x
  have nBd' := fun x => s_Mod_noBidder (A := A') (F := up F 16410 (nI 1)) (P := P) (by rw [b193]; exact hM.1) x
  have nX' := fun x => s_Mod_noBid (A := A') (F := up F 16410 (nI 1)) (P := P) (by rw [b193]; exact hM.1) x
  by_cases g0 : ix x nl
  · obtain ⟨k, hk, rfl⟩ := g0
    have g0 : ix (nI k) nl := ⟨k, hk, rfl⟩
    obtain ⟨d1, d2, d3, d4, d5', d6⟩ := hK.1 k hk
    have hb0 := cl_bid (P := P) hC' hW hS hK hk (p := 0) (by omega)
    have hb1 := cl_bid (P := P) hC' hW hS hK hk (p := 1) (by omega)
    rw [← hS.2.2.2.1 k hk] at hb0
    rw [← hS.2.2.2.2.1 k hk] at hb1
    by_cases e0 : v = nI 0
    · subst e0
      refine ⟨.int (g Bu k), A', up F 16410 (nI 1), P, A2, up F 16410 (nI 1), P, ?_, ?_, nB, nl, nb, nx, q, t, hI2⟩
      · rw [e_Pa_sale 1 _ _ _ rfl]
        simp (maxSteps := 2000000) (disch := (first | omega | (simp (disch := omega) only [up_eq, up_ne, cpA_o, cpF_o, List.length_set] <;> omega) | fail)) only [ob_s, am_bi_s, am_bv_s, am_bl_s, ↓bif_d, lits, nI_addS, nI_mulS, nI_subS, nI_lt', nI_le', nI_eq', ↓rd_nI, ↓wrH, up_eq, up_ne, up_up, up_sw, List.set_set, g_seq, g_sne, Nat.reduceEqDiff, ↓reduceIte, List.length_set, Nat.add_sub_cancel_left, Nat.add_sub_cancel, ite_true, ite_false, if_true, if_false, not_true_eq_false, not_false_eq_true, Bool.and_true, Bool.true_and, true_or, or_true, false_or, or_false, and_true, true_and, and_false, false_and, Nat.not_lt_zero, hpRX, hpIX, hpFX, hpLX, hpSX, ↓rgX, ↓rpX, Nat.reduceLeDiff, Nat.reduceLT, Nat.reduceAdd, Nat.reduceMul, Nat.reduceSub, iL, b01_0, g0, hcl, d1]
      · rw [e_Mod_sale 192 _ _ _ rfl]
        simp (maxSteps := 2000000) (disch := (first | omega | (simp (disch := omega) only [up_eq, up_ne, cpA_o, cpF_o, List.length_set] <;> omega) | fail)) only [ob_s, am_bi_s, am_bv_s, am_bl_s, ↓bif_d, lits, nI_addS, nI_mulS, nI_subS, nI_lt', nI_le', nI_eq', ↓rd_nI, ↓wrH, up_eq, up_ne, up_up, up_sw, List.set_set, g_seq, g_sne, Nat.reduceEqDiff, ↓reduceIte, List.length_set, Nat.add_sub_cancel_left, Nat.add_sub_cancel, ite_true, ite_false, if_true, if_false, not_true_eq_false, not_false_eq_true, Bool.and_true, Bool.true_and, true_or, or_true, false_or, or_false, and_true, true_and, and_false, false_and, Nat.not_lt_zero, hpRM, hpIM, hpFM, hpLM, hpSM, nL', b01_0, g0, hmd, a204]
    by_cases e1 : v = nI 1
    · subst e1
      refine ⟨.int (g Pr k), A', up F 16410 (nI 1), P, A2, up F 16410 (nI 1), P, ?_, ?_, nB, nl, nb, nx, q, t, hI2⟩
      · rw [e_Pa_sale 1 _ _ _ rfl]
        simp (maxSteps := 2000000) (disch := (first | omega | (simp (disch := omega) only [up_eq, up_ne, cpA_o, cpF_o, List.length_set] <;> omega) | fail)) only [ob_s, am_bi_s, am_bv_s, am_bl_s, ↓bif_d, lits, nI_addS, nI_mulS, nI_subS, nI_lt', nI_le', nI_eq', ↓rd_nI, ↓wrH, up_eq, up_ne, up_up, up_sw, List.set_set, g_seq, g_sne, Nat.reduceEqDiff, ↓reduceIte, List.length_set, Nat.add_sub_cancel_left, Nat.add_sub_cancel, ite_true, ite_false, if_true, if_false, not_true_eq_false, not_false_eq_true, Bool.and_true, Bool.true_and, true_or, or_true, false_or, or_false, and_true, true_and, and_false, false_and, Nat.not_lt_zero, hpRX, hpIX, hpFX, hpLX, hpSX, ↓rgX, ↓rpX, Nat.reduceLeDiff, Nat.reduceLT, Nat.reduceAdd, Nat.reduceMul, Nat.reduceSub, iL, b01_0, g0, hcl, d2]
      · rw [e_Mod_sale 192 _ _ _ rfl]
        simp (maxSteps := 2000000) (disch := (first | omega | (simp (disch := omega) only [up_eq, up_ne, cpA_o, cpF_o, List.length_set] <;> omega) | fail)) only [ob_s, am_bi_s, am_bv_s, am_bl_s, ↓bif_d, lits, nI_addS, nI_mulS, nI_subS, nI_lt', nI_le', nI_eq', ↓rd_nI, ↓wrH, up_eq, up_ne, up_up, up_sw, List.set_set, g_seq, g_sne, Nat.reduceEqDiff, ↓reduceIte, List.length_set, Nat.add_sub_cancel_left, Nat.add_sub_cancel, ite_true, ite_false, if_true, if_false, not_true_eq_false, not_false_eq_true, Bool.and_true, Bool.true_and, true_or, or_true, false_or, or_false, and_true, true_and, and_false, false_and, Nat.not_lt_zero, hpRM, hpIM, hpFM, hpLM, hpSM, nL', b01_0, g0, hmd, a205]
    by_cases e2 : v = nI 2
    · subst e2
      by_cases z1 : g (A 193) (78 + k) = nI 1
      · have e : mSt (A 193) Mn Bu k = nI 3 := by unfold mSt; rw [cif_t z1]
        rw [e] at d3
        refine ⟨.int (nI 3), A', up F 16410 (nI 1), P, A2, up F 16410 (nI 1), P, ?_, ?_, nB, nl, nb, nx, q, t, hI2⟩
        · rw [e_Pa_sale 1 _ _ _ rfl]
          simp (maxSteps := 2000000) (disch := (first | omega | (simp (disch := omega) only [up_eq, up_ne, cpA_o, cpF_o, List.length_set] <;> omega) | fail)) only [ob_s, am_bi_s, am_bv_s, am_bl_s, ↓bif_d, lits, nI_addS, nI_mulS, nI_subS, nI_lt', nI_le', nI_eq', ↓rd_nI, ↓wrH, up_eq, up_ne, up_up, up_sw, List.set_set, g_seq, g_sne, Nat.reduceEqDiff, ↓reduceIte, List.length_set, Nat.add_sub_cancel_left, Nat.add_sub_cancel, ite_true, ite_false, if_true, if_false, not_true_eq_false, not_false_eq_true, Bool.and_true, Bool.true_and, true_or, or_true, false_or, or_false, and_true, true_and, and_false, false_and, Nat.not_lt_zero, hpRX, hpIX, hpFX, hpLX, hpSX, ↓rgX, ↓rpX, Nat.reduceLeDiff, Nat.reduceLT, Nat.reduceAdd, Nat.reduceMul, Nat.reduceSub, iL, b01_0, g0, hcl, d3]
        · rw [e_Mod_sale 192 _ _ _ rfl]
          simp (maxSteps := 2000000) (disch := (first | omega | (simp (disch := omega) only [up_eq, up_ne, cpA_o, cpF_o, List.length_set] <;> omega) | fail)) only [ob_s, am_bi_s, am_bv_s, am_bl_s, ↓bif_d, lits, nI_addS, nI_mulS, nI_subS, nI_lt', nI_le', nI_eq', ↓rd_nI, ↓wrH, up_eq, up_ne, up_up, up_sw, List.set_set, g_seq, g_sne, Nat.reduceEqDiff, ↓reduceIte, List.length_set, Nat.add_sub_cancel_left, Nat.add_sub_cancel, ite_true, ite_false, if_true, if_false, not_true_eq_false, not_false_eq_true, Bool.and_true, Bool.true_and, true_or, or_true, false_or, or_false, and_true, true_and, and_false, false_and, Nat.not_lt_zero, hpRM, hpIM, hpFM, hpLM, hpSM, nL', b01_0, g0, hmd, a193, z1]
      · by_cases z2 : g Bu k < nI 0
        · by_cases z3 : g Mn k = nI 0
          · have e : mSt (A 193) Mn Bu k = nI 1 := by unfold mSt; rw [cif_f z1, cif_f (fun w => w z2), cif_t z3]
            rw [e] at d3
            refine ⟨.int (nI 1), A', up F 16410 (nI 1), P, A2, up F 16410 (nI 1), P, ?_, ?_, nB, nl, nb, nx, q, t, hI2⟩
            · rw [e_Pa_sale 1 _ _ _ rfl]
              simp (maxSteps := 2000000) (disch := (first | omega | (simp (disch := omega) only [up_eq, up_ne, cpA_o, cpF_o, List.length_set] <;> omega) | fail)) only [ob_s, am_bi_s, am_bv_s, am_bl_s, ↓bif_d, lits, nI_addS, nI_mulS, nI_subS, nI_lt', nI_le', nI_eq', ↓rd_nI, ↓wrH, up_eq, up_ne, up_up, up_sw, List.set_set, g_seq, g_sne, Nat.reduceEqDiff, ↓reduceIte, List.length_set, Nat.add_sub_cancel_left, Nat.add_sub_cancel, ite_true, ite_false, if_true, if_false, not_true_eq_false, not_false_eq_true, Bool.and_true, Bool.true_and, true_or, or_true, false_or, or_false, and_true, true_and, and_false, false_and, Nat.not_lt_zero, hpRX, hpIX, hpFX, hpLX, hpSX, ↓rgX, ↓rpX, Nat.reduceLeDiff, Nat.reduceLT, Nat.reduceAdd, Nat.reduceMul, Nat.reduceSub, iL, b01_0, g0, hcl, d3]
            · rw [e_Mod_sale 192 _ _ _ rfl]
              simp (maxSteps := 2000000) (disch := (first | omega | (simp (disch := omega) only [up_eq, up_ne, cpA_o, cpF_o, List.length_set] <;> omega) | fail)) only [ob_s, am_bi_s, am_bv_s, am_bl_s, ↓bif_d, lits, nI_addS, nI_mulS, nI_subS, nI_lt', nI_le', nI_eq', ↓rd_nI, ↓wrH, up_eq, up_ne, up_up, up_sw, List.set_set, g_seq, g_sne, Nat.reduceEqDiff, ↓reduceIte, List.length_set, Nat.add_sub_cancel_left, Nat.add_sub_cancel, ite_true, ite_false, if_true, if_false, not_true_eq_false, not_false_eq_true, Bool.and_true, Bool.true_and, true_or, or_true, false_or, or_false, and_true, true_and, and_false, false_and, Nat.not_lt_zero, hpRM, hpIM, hpFM, hpLM, hpSM, nL', b01_0, g0, hmd, a193, a203, a204, z1, z2, z3]
          · have e : mSt (A 193) Mn Bu k = nI 2 := by unfold mSt; rw [cif_f z1, cif_f (fun w => w z2), cif_f z3]
            rw [e] at d3
            refine ⟨.int (nI 2), A', up F 16410 (nI 1), P, A2, up F 16410 (nI 1), P, ?_, ?_, nB, nl, nb, nx, q, t, hI2⟩
            · rw [e_Pa_sale 1 _ _ _ rfl]
              simp (maxSteps := 2000000) (disch := (first | omega | (simp (disch := omega) only [up_eq, up_ne, cpA_o, cpF_o, List.length_set] <;> omega) | fail)) only [ob_s, am_bi_s, am_bv_s, am_bl_s, ↓bif_d, lits, nI_addS, nI_mulS, nI_subS, nI_lt', nI_le', nI_eq', ↓rd_nI, ↓wrH, up_eq, up_ne, up_up, up_sw, List.set_set, g_seq, g_sne, Nat.reduceEqDiff, ↓reduceIte, List.length_set, Nat.add_sub_cancel_left, Nat.add_sub_cancel, ite_true, ite_false, if_true, if_false, not_true_eq_false, not_false_eq_true, Bool.and_true, Bool.true_and, true_or, or_true, false_or, or_false, and_true, true_and, and_false, false_and, Nat.not_lt_zero, hpRX, hpIX, hpFX, hpLX, hpSX, ↓rgX, ↓rpX, Nat.reduceLeDiff, Nat.reduceLT, Nat.reduceAdd, Nat.reduceMul, Nat.reduceSub, iL, b01_0, g0, hcl, d3]
            · rw [e_Mod_sale 192 _ _ _ rfl]
              simp (maxSteps := 2000000) (disch := (first | omega | (simp (disch := omega) only [up_eq, up_ne, cpA_o, cpF_o, List.length_set] <;> omega) | fail)) only [ob_s, am_bi_s, am_bv_s, am_bl_s, ↓bif_d, lits, nI_addS, nI_mulS, nI_subS, nI_lt', nI_le', nI_eq', ↓rd_nI, ↓wrH, up_eq, up_ne, up_up, up_sw, List.set_set, g_seq, g_sne, Nat.reduceEqDiff, ↓reduceIte, List.length_set, Nat.add_sub_cancel_left, Nat.add_sub_cancel, ite_true, ite_false, if_true, if_false, not_true_eq_false, not_false_eq_true, Bool.and_true, Bool.true_and, true_or, or_true, false_or, or_false, and_true, true_and, and_false, false_and, Nat.not_lt_zero, hpRM, hpIM, hpFM, hpLM, hpSM, nL', b01_0, g0, hmd, a193, a203, a204, z1, z2, z3]
        · have e : mSt (A 193) Mn Bu k = nI 0 := by unfold mSt; rw [cif_f z1, cif_t z2]
          rw [e] at d3
          refine ⟨.int (nI 0), A', up F 16410 (nI 1), P, A2, up F 16410 (nI 1), P, ?_, ?_, nB, nl, nb, nx, q, t, hI2⟩
          · rw [e_Pa_sale 1 _ _ _ rfl]
            simp (maxSteps := 2000000) (disch := (first | omega | (simp (disch := omega) only [up_eq, up_ne, cpA_o, cpF_o, List.length_set] <;> omega) | fail)) only [ob_s, am_bi_s, am_bv_s, am_bl_s, ↓bif_d, lits, nI_addS, nI_mulS, nI_subS, nI_lt', nI_le', nI_eq', ↓rd_nI, ↓wrH, up_eq, up_ne, up_up, up_sw, List.set_set, g_seq, g_sne, Nat.reduceEqDiff, ↓reduceIte, List.length_set, Nat.add_sub_cancel_left, Nat.add_sub_cancel, ite_true, ite_false, if_true, if_false, not_true_eq_false, not_false_eq_true, Bool.and_true, Bool.true_and, true_or, or_true, false_or, or_false, and_true, true_and, and_false, false_and, Nat.not_lt_zero, hpRX, hpIX, hpFX, hpLX, hpSX, ↓rgX, ↓rpX, Nat.reduceLeDiff, Nat.reduceLT, Nat.reduceAdd, Nat.reduceMul, Nat.reduceSub, iL, b01_0, g0, hcl, d3]
          · rw [e_Mod_sale 192 _ _ _ rfl]
            simp (maxSteps := 2000000) (disch := (first | omega | (simp (disch := omega) only [up_eq, up_ne, cpA_o, cpF_o, List.length_set] <;> omega) | fail)) only [ob_s, am_bi_s, am_bv_s, am_bl_s, ↓bif_d, lits, nI_addS, nI_mulS, nI_subS, nI_lt', nI_le', nI_eq', ↓rd_nI, ↓wrH, up_eq, up_ne, up_up, up_sw, List.set_set, g_seq, g_sne, Nat.reduceEqDiff, ↓reduceIte, List.length_set, Nat.add_sub_cancel_left, Nat.add_sub_cancel, ite_true, ite_false, if_true, if_false, not_true_eq_false, not_false_eq_true, Bool.and_true, Bool.true_and, true_or, or_true, false_or, or_false, and_true, true_and, and_false, false_and, Nat.not_lt_zero, hpRM, hpIM, hpFM, hpLM, hpSM, nL', b01_0, g0, hmd, a193, a204, z1, z2]
    by_cases e3 : v = nI 3
    · subst e3
      refine ⟨.int (g Mn k), A', up F 16410 (nI 1), P, A2, up F 16410 (nI 1), P, ?_, ?_, nB, nl, nb, nx, q, t, hI2⟩
      · rw [e_Pa_sale 1 _ _ _ rfl]
        simp (maxSteps := 2000000) (disch := (first | omega | (simp (disch := omega) only [up_eq, up_ne, cpA_o, cpF_o, List.length_set] <;> omega) | fail)) only [ob_s, am_bi_s, am_bv_s, am_bl_s, ↓bif_d, lits, nI_addS, nI_mulS, nI_subS, nI_lt', nI_le', nI_eq', ↓rd_nI, ↓wrH, up_eq, up_ne, up_up, up_sw, List.set_set, g_seq, g_sne, Nat.reduceEqDiff, ↓reduceIte, List.length_set, Nat.add_sub_cancel_left, Nat.add_sub_cancel, ite_true, ite_false, if_true, if_false, not_true_eq_false, not_false_eq_true, Bool.and_true, Bool.true_and, true_or, or_true, false_or, or_false, and_true, true_and, and_false, false_and, Nat.not_lt_zero, hpRX, hpIX, hpFX, hpLX, hpSX, ↓rgX, ↓rpX, Nat.reduceLeDiff, Nat.reduceLT, Nat.reduceAdd, Nat.reduceMul, Nat.reduceSub, iL, b01_0, g0, hcl, d4]
      · rw [e_Mod_sale 192 _ _ _ rfl]
        simp (maxSteps := 2000000) (disch := (first | omega | (simp (disch := omega) only [up_eq, up_ne, cpA_o, cpF_o, List.length_set] <;> omega) | fail)) only [ob_s, am_bi_s, am_bv_s, am_bl_s, ↓bif_d, lits, nI_addS, nI_mulS, nI_subS, nI_lt', nI_le', nI_eq', ↓rd_nI, ↓wrH, up_eq, up_ne, up_up, up_sw, List.set_set, g_seq, g_sne, Nat.reduceEqDiff, ↓reduceIte, List.length_set, Nat.add_sub_cancel_left, Nat.add_sub_cancel, ite_true, ite_false, if_true, if_false, not_true_eq_false, not_false_eq_true, Bool.and_true, Bool.true_and, true_or, or_true, false_or, or_false, and_true, true_and, and_false, false_and, Nat.not_lt_zero, hpRM, hpIM, hpFM, hpLM, hpSM, nL', b01_0, g0, hmd, a203]
    by_cases e4 : v = nI 4
    · subst e4
      refine ⟨.int (g Fi k), A', up F 16410 (nI 1), P, A2, up F 16410 (nI 1), P, ?_, ?_, nB, nl, nb, nx, q, t, hI2⟩
      · rw [e_Pa_sale 1 _ _ _ rfl]
        simp (maxSteps := 2000000) (disch := (first | omega | (simp (disch := omega) only [up_eq, up_ne, cpA_o, cpF_o, List.length_set] <;> omega) | fail)) only [ob_s, am_bi_s, am_bv_s, am_bl_s, ↓bif_d, lits, nI_addS, nI_mulS, nI_subS, nI_lt', nI_le', nI_eq', ↓rd_nI, ↓wrH, up_eq, up_ne, up_up, up_sw, List.set_set, g_seq, g_sne, Nat.reduceEqDiff, ↓reduceIte, List.length_set, Nat.add_sub_cancel_left, Nat.add_sub_cancel, ite_true, ite_false, if_true, if_false, not_true_eq_false, not_false_eq_true, Bool.and_true, Bool.true_and, true_or, or_true, false_or, or_false, and_true, true_and, and_false, false_and, Nat.not_lt_zero, hpRX, hpIX, hpFX, hpLX, hpSX, ↓rgX, ↓rpX, Nat.reduceLeDiff, Nat.reduceLT, Nat.reduceAdd, Nat.reduceMul, Nat.reduceSub, iL, b01_0, g0, hcl, hb0]
      · rw [e_Mod_sale 192 _ _ _ rfl]
        simp (maxSteps := 2000000) (disch := (first | omega | (simp (disch := omega) only [up_eq, up_ne, cpA_o, cpF_o, List.length_set] <;> omega) | fail)) only [ob_s, am_bi_s, am_bv_s, am_bl_s, ↓bif_d, lits, nI_addS, nI_mulS, nI_subS, nI_lt', nI_le', nI_eq', ↓rd_nI, ↓wrH, up_eq, up_ne, up_up, up_sw, List.set_set, g_seq, g_sne, Nat.reduceEqDiff, ↓reduceIte, List.length_set, Nat.add_sub_cancel_left, Nat.add_sub_cancel, ite_true, ite_false, if_true, if_false, not_true_eq_false, not_false_eq_true, Bool.and_true, Bool.true_and, true_or, or_true, false_or, or_false, and_true, true_and, and_false, false_and, Nat.not_lt_zero, hpRM, hpIM, hpFM, hpLM, hpSM, nL', b01_0, g0, hmd, a201]
    by_cases e5 : v = nI 5
    · subst e5
      refine ⟨.int (g Se k), A', up F 16410 (nI 1), P, A2, up F 16410 (nI 1), P, ?_, ?_, nB, nl, nb, nx, q, t, hI2⟩
      · rw [e_Pa_sale 1 _ _ _ rfl]
        simp (maxSteps := 2000000) (disch := (first | omega | (simp (disch := omega) only [up_eq, up_ne, cpA_o, cpF_o, List.length_set] <;> omega) | fail)) only [ob_s, am_bi_s, am_bv_s, am_bl_s, ↓bif_d, lits, nI_addS, nI_mulS, nI_subS, nI_lt', nI_le', nI_eq', ↓rd_nI, ↓wrH, up_eq, up_ne, up_up, up_sw, List.set_set, g_seq, g_sne, Nat.reduceEqDiff, ↓reduceIte, List.length_set, Nat.add_sub_cancel_left, Nat.add_sub_cancel, ite_true, ite_false, if_true, if_false, not_true_eq_false, not_false_eq_true, Bool.and_true, Bool.true_and, true_or, or_true, false_or, or_false, and_true, true_and, and_false, false_and, Nat.not_lt_zero, hpRX, hpIX, hpFX, hpLX, hpSX, ↓rgX, ↓rpX, Nat.reduceLeDiff, Nat.reduceLT, Nat.reduceAdd, Nat.reduceMul, Nat.reduceSub, iL, b01_0, g0, hcl, hb1]
      · rw [e_Mod_sale 192 _ _ _ rfl]
        simp (maxSteps := 2000000) (disch := (first | omega | (simp (disch := omega) only [up_eq, up_ne, cpA_o, cpF_o, List.length_set] <;> omega) | fail)) only [ob_s, am_bi_s, am_bv_s, am_bl_s, ↓bif_d, lits, nI_addS, nI_mulS, nI_subS, nI_lt', nI_le', nI_eq', ↓rd_nI, ↓wrH, up_eq, up_ne, up_up, up_sw, List.set_set, g_seq, g_sne, Nat.reduceEqDiff, ↓reduceIte, List.length_set, Nat.add_sub_cancel_left, Nat.add_sub_cancel, ite_true, ite_false, if_true, if_false, not_true_eq_false, not_false_eq_true, Bool.and_true, Bool.true_and, true_or, or_true, false_or, or_false, and_true, true_and, and_false, false_and, Nat.not_lt_zero, hpRM, hpIM, hpFM, hpLM, hpSM, nL', b01_0, g0, hmd, a202]
    refine ⟨.int (-nI 2), A', up F 16410 (nI 1), P, A2, up F 16410 (nI 1), P, ?_, ?_, nB, nl, nb, nx, q, t, hI2⟩
    · rw [e_Pa_sale 1 _ _ _ rfl]
      simp (maxSteps := 2000000) (disch := (first | omega | (simp (disch := omega) only [up_eq, up_ne, cpA_o, cpF_o, List.length_set] <;> omega) | fail)) only [ob_s, am_bi_s, am_bv_s, am_bl_s, ↓bif_d, lits, nI_addS, nI_mulS, nI_subS, nI_lt', nI_le', nI_eq', ↓rd_nI, ↓wrH, up_eq, up_ne, up_up, up_sw, List.set_set, g_seq, g_sne, Nat.reduceEqDiff, ↓reduceIte, List.length_set, Nat.add_sub_cancel_left, Nat.add_sub_cancel, ite_true, ite_false, if_true, if_false, not_true_eq_false, not_false_eq_true, Bool.and_true, Bool.true_and, true_or, or_true, false_or, or_false, and_true, true_and, and_false, false_and, Nat.not_lt_zero, hpRX, hpIX, hpFX, hpLX, hpSX, ↓rgX, ↓rpX, Nat.reduceLeDiff, Nat.reduceLT, Nat.reduceAdd, Nat.reduceMul, Nat.reduceSub, iL, b01_0, g0, hcl, e0, e1, e2, e3, e4, e5]
    · rw [e_Mod_sale 192 _ _ _ rfl]
      simp (maxSteps := 2000000) (disch := (first | omega | (simp (disch := omega) only [up_eq, up_ne, cpA_o, cpF_o, List.length_set] <;> omega) | fail)) only [ob_s, am_bi_s, am_bv_s, am_bl_s, ↓bif_d, lits, nI_addS, nI_mulS, nI_subS, nI_lt', nI_le', nI_eq', ↓rd_nI, ↓wrH, up_eq, up_ne, up_up, up_sw, List.set_set, g_seq, g_sne, Nat.reduceEqDiff, ↓reduceIte, List.length_set, Nat.add_sub_cancel_left, Nat.add_sub_cancel, ite_true, ite_false, if_true, if_false, not_true_eq_false, not_false_eq_true, Bool.and_true, Bool.true_and, true_or, or_true, false_or, or_false, and_true, true_and, and_false, false_and, Nat.not_lt_zero, hpRM, hpIM, hpFM, hpLM, hpSM, nL', b01_0, g0, hmd, e0, e1, e2, e3, e4, e5]
  · refine ⟨.int (-nI 1), A, F, P, A, F, P, ?_, ?_, nB, nl, nb, nx, q, t, hI⟩
    · rw [e_Pa_sale 1 _ _ _ rfl]
      simp (maxSteps := 2000000) (disch := (first | omega | (simp (disch := omega) only [up_eq, up_ne, cpA_o, cpF_o, List.length_set] <;> omega) | fail)) only [ob_s, am_bi_s, am_bv_s, am_bl_s, ↓bif_d, lits, nI_addS, nI_mulS, nI_subS, nI_lt', nI_le', nI_eq', ↓rd_nI, ↓wrH, up_eq, up_ne, up_up, up_sw, List.set_set, g_seq, g_sne, Nat.reduceEqDiff, ↓reduceIte, List.length_set, Nat.add_sub_cancel_left, Nat.add_sub_cancel, ite_true, ite_false, if_true, if_false, not_true_eq_false, not_false_eq_true, Bool.and_true, Bool.true_and, true_or, or_true, false_or, or_false, and_true, true_and, and_false, false_and, Nat.not_lt_zero, hpRX, hpIX, hpFX, hpLX, hpSX, ↓rgX, ↓rpX, Nat.reduceLeDiff, Nat.reduceLT, Nat.reduceAdd, Nat.reduceMul, Nat.reduceSub, iL, b01_0, g0]
    · rw [e_Mod_sale 192 _ _ _ rfl]
      simp (maxSteps := 2000000) (disch := (first | omega | (simp (disch := omega) only [up_eq, up_ne, cpA_o, cpF_o, List.length_set] <;> omega) | fail)) only [ob_s, am_bi_s, am_bv_s, am_bl_s, ↓bif_d, lits, nI_addS, nI_mulS, nI_subS, nI_lt', nI_le', nI_eq', ↓rd_nI, ↓wrH, up_eq, up_ne, up_up, up_sw, List.set_set, g_seq, g_sne, Nat.reduceEqDiff, ↓reduceIte, List.length_set, Nat.add_sub_cancel_left, Nat.add_sub_cancel, ite_true, ite_false, if_true, if_false, not_true_eq_false, not_false_eq_true, Bool.and_true, Bool.true_and, true_or, or_true, false_or, or_false, and_true, true_and, and_false, false_and, Nat.not_lt_zero, hpRM, hpIM, hpFM, hpLM, hpSM, nL, b01_0, g0]
theorem k_bidOf (hI : InvN A F P nB nl nb nx q t) (x v : Int32) : Step m_Pa_bidOf m_Mod_bidOf [.int x, .int v] A F P := by
  classical
  have hC0 := Cx_of hI
  obtain ⟨-, -, ⟨n1, n2, n3, n4⟩, l0, hAL, hAM, hAX, hAS, -⟩ := id hC0
  obtain ⟨c5, c7, c10, c12, c14, c16, c18, c21, c23, c25, c27, c29, c31, c33⟩ := LenS2 l0
  obtain ⟨A', A2, L, B, Fi, Se, Mn, Bu, Pr, ⟨b193, a193, a199, a200, a201, a202, a203, a204, a205⟩, ⟨m199, m200, m201, m202, m203, m204, m205⟩, ⟨k199, k200, k201, k202, k203, k204, k205⟩, hW, hS, hK, hC', hcl, hmd, hI1, hI2⟩ := hold2 hI
  obtain ⟨hM, hB, -, l1, hCL, hCM, hCX, hCS, hS0, hS1, hS2, hS3⟩ := id hC'
  obtain ⟨d5, d7, d10, d12, d14, d16, d18, d21, d23, d25, d27, d29, d31, d33⟩ := LenS2 l1
  obtain ⟨w166, w168, w170, w172, w174, w176, w178, w180, w182⟩ := id hW
  have hr0 : (A 193).length = 472 := hM.1.1
  have hr1 : (A' 193).length = 472 := by rw [b193]; exact hr0
  have hr2 : (A2 193).length = 472 := by rw [a193]; exact hr0
  have hnl : nl ≤ 20 := hM.1.2.2.2.2.2.2.2.1
  have hnb : nb ≤ 8 := hM.1.2.2.2.2.2.2.2.2.1
  have hnx : nx ≤ 60 := hM.1.2.2.2.2.2.2.2.2.2
  have iL := fun x => s_isLot (A := A) (F := F) (P := P) n2 (by omega) x
  have iB := fun x => s_isBidder (A := A) (F := F) (P := P) n3 (by omega) x
  have iX := fun x => s_isBid (A := A) (F := F) (P := P) n4 (by omega) x
  have nL := fun x => s_Mod_noLot (A := A) (F := F) (P := P) hM.1 x
  have nBd := fun x => s_Mod_noBidder (A := A) (F := F) (P := P) hM.1 x
  have nX := fun x => s_Mod_noBid (A := A) (F := F) (P := P) hM.1 x
  have nL' := fun x => s_Mod_noLot (A := A') (F := up F 16410 (nI 1)) (P := P) (by rw [b193]; exact hM.1) x
  have nBd' := fun x => s_Mod_noBidder (A := A') (F := up F 16410 (nI 1)) (P := P) (by rw [b193]; exact hM.1) x
  have nX' := fun x => s_Mod_noBid (A := A') (F := up F 16410 (nI 1)) (P := P) (by rw [b193]; exact hM.1) x
  by_cases g0 : ix x nx
  · obtain ⟨k, hk, rfl⟩ := g0
    have g0 : ix (nI k) nx := ⟨k, hk, rfl⟩
    obtain ⟨p0, p1, p2, p3, p4, p5, -⟩ := hCX k hk
    obtain ⟨⟨x1, x2⟩, x3, x4⟩ := hM.2.2 k hk
    by_cases e0 : v = nI 0
    · subst e0
      refine ⟨.int (nI (lotN (A 193) k)), A', up F 16410 (nI 1), P, A', up F 16410 (nI 1), P, ?_, ?_, nB, nl, nb, nx, q, t, hI1⟩
      · rw [e_Pa_bidOf 1 _ _ _ rfl]
        simp (maxSteps := 2000000) (disch := (first | omega | (simp (disch := omega) only [up_eq, up_ne, cpA_o, cpF_o, List.length_set] <;> omega) | fail)) only [ob_s, am_bi_s, am_bv_s, am_bl_s, ↓bif_d, lits, nI_addS, nI_mulS, nI_subS, nI_lt', nI_le', nI_eq', ↓rd_nI, ↓wrH, up_eq, up_ne, up_up, up_sw, List.set_set, g_seq, g_sne, Nat.reduceEqDiff, ↓reduceIte, List.length_set, Nat.add_sub_cancel_left, Nat.add_sub_cancel, ite_true, ite_false, if_true, if_false, not_true_eq_false, not_false_eq_true, Bool.and_true, Bool.true_and, true_or, or_true, false_or, or_false, and_true, true_and, and_false, false_and, Nat.not_lt_zero, hpRX, hpIX, hpFX, hpLX, hpSX, ↓rgX, ↓rpX, Nat.reduceLeDiff, Nat.reduceLT, Nat.reduceAdd, Nat.reduceMul, Nat.reduceSub, iX, b01_0, g0, hcl, p1]
      · rw [e_Mod_bidOf 192 _ _ _ rfl]
        simp (maxSteps := 2000000) (disch := (first | omega | (simp (disch := omega) only [up_eq, up_ne, cpA_o, cpF_o, List.length_set] <;> omega) | fail)) only [ob_s, am_bi_s, am_bv_s, am_bl_s, ↓bif_d, lits, nI_addS, nI_mulS, nI_subS, nI_lt', nI_le', nI_eq', ↓rd_nI, ↓wrH, up_eq, up_ne, up_up, up_sw, List.set_set, g_seq, g_sne, Nat.reduceEqDiff, ↓reduceIte, List.length_set, Nat.add_sub_cancel_left, Nat.add_sub_cancel, ite_true, ite_false, if_true, if_false, not_true_eq_false, not_false_eq_true, Bool.and_true, Bool.true_and, true_or, or_true, false_or, or_false, and_true, true_and, and_false, false_and, Nat.not_lt_zero, hpRM, hpIM, hpFM, hpLM, hpSM, nX', b01_0, g0, b193, x2]
    by_cases e1 : v = nI 1
    · subst e1
      refine ⟨.int (nI (byN (A 193) k)), A', up F 16410 (nI 1), P, A', up F 16410 (nI 1), P, ?_, ?_, nB, nl, nb, nx, q, t, hI1⟩
      · rw [e_Pa_bidOf 1 _ _ _ rfl]
        simp (maxSteps := 2000000) (disch := (first | omega | (simp (disch := omega) only [up_eq, up_ne, cpA_o, cpF_o, List.length_set] <;> omega) | fail)) only [ob_s, am_bi_s, am_bv_s, am_bl_s, ↓bif_d, lits, nI_addS, nI_mulS, nI_subS, nI_lt', nI_le', nI_eq', ↓rd_nI, ↓wrH, up_eq, up_ne, up_up, up_sw, List.set_set, g_seq, g_sne, Nat.reduceEqDiff, ↓reduceIte, List.length_set, Nat.add_sub_cancel_left, Nat.add_sub_cancel, ite_true, ite_false, if_true, if_false, not_true_eq_false, not_false_eq_true, Bool.and_true, Bool.true_and, true_or, or_true, false_or, or_false, and_true, true_and, and_false, false_and, Nat.not_lt_zero, hpRX, hpIX, hpFX, hpLX, hpSX, ↓rgX, ↓rpX, Nat.reduceLeDiff, Nat.reduceLT, Nat.reduceAdd, Nat.reduceMul, Nat.reduceSub, iX, b01_0, g0, hcl, p0]
      · rw [e_Mod_bidOf 192 _ _ _ rfl]
        simp (maxSteps := 2000000) (disch := (first | omega | (simp (disch := omega) only [up_eq, up_ne, cpA_o, cpF_o, List.length_set] <;> omega) | fail)) only [ob_s, am_bi_s, am_bv_s, am_bl_s, ↓bif_d, lits, nI_addS, nI_mulS, nI_subS, nI_lt', nI_le', nI_eq', ↓rd_nI, ↓wrH, up_eq, up_ne, up_up, up_sw, List.set_set, g_seq, g_sne, Nat.reduceEqDiff, ↓reduceIte, List.length_set, Nat.add_sub_cancel_left, Nat.add_sub_cancel, ite_true, ite_false, if_true, if_false, not_true_eq_false, not_false_eq_true, Bool.and_true, Bool.true_and, true_or, or_true, false_or, or_false, and_true, true_and, and_false, false_and, Nat.not_lt_zero, hpRM, hpIM, hpFM, hpLM, hpSM, nX', b01_0, g0, b193, x4]
    by_cases e2 : v = nI 2
    · subst e2
      refine ⟨.int (g (A 193) (228 + k)), A', up F 16410 (nI 1), P, A', up F 16410 (nI 1), P, ?_, ?_, nB, nl, nb, nx, q, t, hI1⟩
      · rw [e_Pa_bidOf 1 _ _ _ rfl]
        simp (maxSteps := 2000000) (disch := (first | omega | (simp (disch := omega) only [up_eq, up_ne, cpA_o, cpF_o, List.length_set] <;> omega) | fail)) only [ob_s, am_bi_s, am_bv_s, am_bl_s, ↓bif_d, lits, nI_addS, nI_mulS, nI_subS, nI_lt', nI_le', nI_eq', ↓rd_nI, ↓wrH, up_eq, up_ne, up_up, up_sw, List.set_set, g_seq, g_sne, Nat.reduceEqDiff, ↓reduceIte, List.length_set, Nat.add_sub_cancel_left, Nat.add_sub_cancel, ite_true, ite_false, if_true, if_false, not_true_eq_false, not_false_eq_true, Bool.and_true, Bool.true_and, true_or, or_true, false_or, or_false, and_true, true_and, and_false, false_and, Nat.not_lt_zero, hpRX, hpIX, hpFX, hpLX, hpSX, ↓rgX, ↓rpX, Nat.reduceLeDiff, Nat.reduceLT, Nat.reduceAdd, Nat.reduceMul, Nat.reduceSub, iX, b01_0, g0, hcl, p2]
      · rw [e_Mod_bidOf 192 _ _ _ rfl]
        simp (maxSteps := 2000000) (disch := (first | omega | (simp (disch := omega) only [up_eq, up_ne, cpA_o, cpF_o, List.length_set] <;> omega) | fail)) only [ob_s, am_bi_s, am_bv_s, am_bl_s, ↓bif_d, lits, nI_addS, nI_mulS, nI_subS, nI_lt', nI_le', nI_eq', ↓rd_nI, ↓wrH, up_eq, up_ne, up_up, up_sw, List.set_set, g_seq, g_sne, Nat.reduceEqDiff, ↓reduceIte, List.length_set, Nat.add_sub_cancel_left, Nat.add_sub_cancel, ite_true, ite_false, if_true, if_false, not_true_eq_false, not_false_eq_true, Bool.and_true, Bool.true_and, true_or, or_true, false_or, or_false, and_true, true_and, and_false, false_and, Nat.not_lt_zero, hpRM, hpIM, hpFM, hpLM, hpSM, nX', b01_0, g0, b193]
    by_cases e3 : v = nI 3
    · subst e3
      refine ⟨.int (g (A 193) (288 + k)), A', up F 16410 (nI 1), P, A', up F 16410 (nI 1), P, ?_, ?_, nB, nl, nb, nx, q, t, hI1⟩
      · rw [e_Pa_bidOf 1 _ _ _ rfl]
        simp (maxSteps := 2000000) (disch := (first | omega | (simp (disch := omega) only [up_eq, up_ne, cpA_o, cpF_o, List.length_set] <;> omega) | fail)) only [ob_s, am_bi_s, am_bv_s, am_bl_s, ↓bif_d, lits, nI_addS, nI_mulS, nI_subS, nI_lt', nI_le', nI_eq', ↓rd_nI, ↓wrH, up_eq, up_ne, up_up, up_sw, List.set_set, g_seq, g_sne, Nat.reduceEqDiff, ↓reduceIte, List.length_set, Nat.add_sub_cancel_left, Nat.add_sub_cancel, ite_true, ite_false, if_true, if_false, not_true_eq_false, not_false_eq_true, Bool.and_true, Bool.true_and, true_or, or_true, false_or, or_false, and_true, true_and, and_false, false_and, Nat.not_lt_zero, hpRX, hpIX, hpFX, hpLX, hpSX, ↓rgX, ↓rpX, Nat.reduceLeDiff, Nat.reduceLT, Nat.reduceAdd, Nat.reduceMul, Nat.reduceSub, iX, b01_0, g0, hcl, p3]
      · rw [e_Mod_bidOf 192 _ _ _ rfl]
        simp (maxSteps := 2000000) (disch := (first | omega | (simp (disch := omega) only [up_eq, up_ne, cpA_o, cpF_o, List.length_set] <;> omega) | fail)) only [ob_s, am_bi_s, am_bv_s, am_bl_s, ↓bif_d, lits, nI_addS, nI_mulS, nI_subS, nI_lt', nI_le', nI_eq', ↓rd_nI, ↓wrH, up_eq, up_ne, up_up, up_sw, List.set_set, g_seq, g_sne, Nat.reduceEqDiff, ↓reduceIte, List.length_set, Nat.add_sub_cancel_left, Nat.add_sub_cancel, ite_true, ite_false, if_true, if_false, not_true_eq_false, not_false_eq_true, Bool.and_true, Bool.true_and, true_or, or_true, false_or, or_false, and_true, true_and, and_false, false_and, Nat.not_lt_zero, hpRM, hpIM, hpFM, hpLM, hpSM, nX', b01_0, g0, b193]
    by_cases e4 : v = nI 4
    · subst e4
      refine ⟨.int (g (A 193) (348 + k)), A', up F 16410 (nI 1), P, A', up F 16410 (nI 1), P, ?_, ?_, nB, nl, nb, nx, q, t, hI1⟩
      · rw [e_Pa_bidOf 1 _ _ _ rfl]
        simp (maxSteps := 2000000) (disch := (first | omega | (simp (disch := omega) only [up_eq, up_ne, cpA_o, cpF_o, List.length_set] <;> omega) | fail)) only [ob_s, am_bi_s, am_bv_s, am_bl_s, ↓bif_d, lits, nI_addS, nI_mulS, nI_subS, nI_lt', nI_le', nI_eq', ↓rd_nI, ↓wrH, up_eq, up_ne, up_up, up_sw, List.set_set, g_seq, g_sne, Nat.reduceEqDiff, ↓reduceIte, List.length_set, Nat.add_sub_cancel_left, Nat.add_sub_cancel, ite_true, ite_false, if_true, if_false, not_true_eq_false, not_false_eq_true, Bool.and_true, Bool.true_and, true_or, or_true, false_or, or_false, and_true, true_and, and_false, false_and, Nat.not_lt_zero, hpRX, hpIX, hpFX, hpLX, hpSX, ↓rgX, ↓rpX, Nat.reduceLeDiff, Nat.reduceLT, Nat.reduceAdd, Nat.reduceMul, Nat.reduceSub, iX, b01_0, g0, hcl, p4]
      · rw [e_Mod_bidOf 192 _ _ _ rfl]
        simp (maxSteps := 2000000) (disch := (first | omega | (simp (disch := omega) only [up_eq, up_ne, cpA_o, cpF_o, List.length_set] <;> omega) | fail)) only [ob_s, am_bi_s, am_bv_s, am_bl_s, ↓bif_d, lits, nI_addS, nI_mulS, nI_subS, nI_lt', nI_le', nI_eq', ↓rd_nI, ↓wrH, up_eq, up_ne, up_up, up_sw, List.set_set, g_seq, g_sne, Nat.reduceEqDiff, ↓reduceIte, List.length_set, Nat.add_sub_cancel_left, Nat.add_sub_cancel, ite_true, ite_false, if_true, if_false, not_true_eq_false, not_false_eq_true, Bool.and_true, Bool.true_and, true_or, or_true, false_or, or_false, and_true, true_and, and_false, false_and, Nat.not_lt_zero, hpRM, hpIM, hpFM, hpLM, hpSM, nX', b01_0, g0, b193]
    by_cases e5 : v = nI 5
    · subst e5
      refine ⟨.int (g (A 193) (408 + k)), A', up F 16410 (nI 1), P, A', up F 16410 (nI 1), P, ?_, ?_, nB, nl, nb, nx, q, t, hI1⟩
      · rw [e_Pa_bidOf 1 _ _ _ rfl]
        simp (maxSteps := 2000000) (disch := (first | omega | (simp (disch := omega) only [up_eq, up_ne, cpA_o, cpF_o, List.length_set] <;> omega) | fail)) only [ob_s, am_bi_s, am_bv_s, am_bl_s, ↓bif_d, lits, nI_addS, nI_mulS, nI_subS, nI_lt', nI_le', nI_eq', ↓rd_nI, ↓wrH, up_eq, up_ne, up_up, up_sw, List.set_set, g_seq, g_sne, Nat.reduceEqDiff, ↓reduceIte, List.length_set, Nat.add_sub_cancel_left, Nat.add_sub_cancel, ite_true, ite_false, if_true, if_false, not_true_eq_false, not_false_eq_true, Bool.and_true, Bool.true_and, true_or, or_true, false_or, or_false, and_true, true_and, and_false, false_and, Nat.not_lt_zero, hpRX, hpIX, hpFX, hpLX, hpSX, ↓rgX, ↓rpX, Nat.reduceLeDiff, Nat.reduceLT, Nat.reduceAdd, Nat.reduceMul, Nat.reduceSub, iX, b01_0, g0, hcl, p5]
      · rw [e_Mod_bidOf 192 _ _ _ rfl]
        simp (maxSteps := 2000000) (disch := (first | omega | (simp (disch := omega) only [up_eq, up_ne, cpA_o, cpF_o, List.length_set] <;> omega) | fail)) only [ob_s, am_bi_s, am_bv_s, am_bl_s, ↓bif_d, lits, nI_addS, nI_mulS, nI_subS, nI_lt', nI_le', nI_eq', ↓rd_nI, ↓wrH, up_eq, up_ne, up_up, up_sw, List.set_set, g_seq, g_sne, Nat.reduceEqDiff, ↓reduceIte, List.length_set, Nat.add_sub_cancel_left, Nat.add_sub_cancel, ite_true, ite_false, if_true, if_false, not_true_eq_false, not_false_eq_true, Bool.and_true, Bool.true_and, true_or, or_true, false_or, or_false, and_true, true_and, and_false, false_and, Nat.not_lt_zero, hpRM, hpIM, hpFM, hpLM, hpSM, nX', b01_0, g0, b193]
    by_cases e6 : v = nI 6
    · subst e6
      have hwo : am_cl m_Mod_worthOf [.ref 192, .int (nI k)] (heap A2 (up F 16410 (nI 1)) P) = some (some (.int (mWo (A 193) nB L k)), heap A2 (up F 16410 (nI 1)) P) := by
        have := s_Mod_worthOf (A := A2) (F := up F 16410 (nI 1)) (P := P) (nB := nB) (nl := nl) (nb := nb) (nx := nx) (by rw [a193]; exact hM) k199 hk
        rw [a193, a199] at this
        exact this
      have e178 := (hK.2 k hk x1).1
      refine ⟨.int (mWo (A 193) nB L k), A', up F 16410 (nI 1), P, A2, up F 16410 (nI 1), P, ?_, ?_, nB, nl, nb, nx, q, t, hI2⟩
      · rw [e_Pa_bidOf 1 _ _ _ rfl]
        simp (maxSteps := 2000000) (disch := (first | omega | (simp (disch := omega) only [up_eq, up_ne, cpA_o, cpF_o, List.length_set] <;> omega) | fail)) only [ob_s, am_bi_s, am_bv_s, am_bl_s, ↓bif_d, lits, nI_addS, nI_mulS, nI_subS, nI_lt', nI_le', nI_eq', ↓rd_nI, ↓wrH, up_eq, up_ne, up_up, up_sw, List.set_set, g_seq, g_sne, Nat.reduceEqDiff, ↓reduceIte, List.length_set, Nat.add_sub_cancel_left, Nat.add_sub_cancel, ite_true, ite_false, if_true, if_false, not_true_eq_false, not_false_eq_true, Bool.and_true, Bool.true_and, true_or, or_true, false_or, or_false, and_true, true_and, and_false, false_and, Nat.not_lt_zero, hpRX, hpIX, hpFX, hpLX, hpSX, ↓rgX, ↓rpX, Nat.reduceLeDiff, Nat.reduceLT, Nat.reduceAdd, Nat.reduceMul, Nat.reduceSub, iX, b01_0, g0, hcl, e178]
      · rw [e_Mod_bidOf 192 _ _ _ rfl]
        simp (maxSteps := 2000000) (disch := (first | omega | (simp (disch := omega) only [up_eq, up_ne, cpA_o, cpF_o, List.length_set] <;> omega) | fail)) only [ob_s, am_bi_s, am_bv_s, am_bl_s, ↓bif_d, lits, nI_addS, nI_mulS, nI_subS, nI_lt', nI_le', nI_eq', ↓rd_nI, ↓wrH, up_eq, up_ne, up_up, up_sw, List.set_set, g_seq, g_sne, Nat.reduceEqDiff, ↓reduceIte, List.length_set, Nat.add_sub_cancel_left, Nat.add_sub_cancel, ite_true, ite_false, if_true, if_false, not_true_eq_false, not_false_eq_true, Bool.and_true, Bool.true_and, true_or, or_true, false_or, or_false, and_true, true_and, and_false, false_and, Nat.not_lt_zero, hpRM, hpIM, hpFM, hpLM, hpSM, nX', b01_0, g0, hmd, hwo]
    refine ⟨.int (-nI 2), A', up F 16410 (nI 1), P, A', up F 16410 (nI 1), P, ?_, ?_, nB, nl, nb, nx, q, t, hI1⟩
    · rw [e_Pa_bidOf 1 _ _ _ rfl]
      simp (maxSteps := 2000000) (disch := (first | omega | (simp (disch := omega) only [up_eq, up_ne, cpA_o, cpF_o, List.length_set] <;> omega) | fail)) only [ob_s, am_bi_s, am_bv_s, am_bl_s, ↓bif_d, lits, nI_addS, nI_mulS, nI_subS, nI_lt', nI_le', nI_eq', ↓rd_nI, ↓wrH, up_eq, up_ne, up_up, up_sw, List.set_set, g_seq, g_sne, Nat.reduceEqDiff, ↓reduceIte, List.length_set, Nat.add_sub_cancel_left, Nat.add_sub_cancel, ite_true, ite_false, if_true, if_false, not_true_eq_false, not_false_eq_true, Bool.and_true, Bool.true_and, true_or, or_true, false_or, or_false, and_true, true_and, and_false, false_and, Nat.not_lt_zero, hpRX, hpIX, hpFX, hpLX, hpSX, ↓rgX, ↓rpX, Nat.reduceLeDiff, Nat.reduceLT, Nat.reduceAdd, Nat.reduceMul, Nat.reduceSub, iX, b01_0, g0, hcl, e0, e1, e2, e3, e4, e5, e6]
    · rw [e_Mod_bidOf 192 _ _ _ rfl]
      simp (maxSteps := 2000000) (disch := (first | omega | (simp (disch := omega) only [up_eq, up_ne, cpA_o, cpF_o, List.length_set] <;> omega) | fail)) only [ob_s, am_bi_s, am_bv_s, am_bl_s, ↓bif_d, lits, nI_addS, nI_mulS, nI_subS, nI_lt', nI_le', nI_eq', ↓rd_nI, ↓wrH, up_eq, up_ne, up_up, up_sw, List.set_set, g_seq, g_sne, Nat.reduceEqDiff, ↓reduceIte, List.length_set, Nat.add_sub_cancel_left, Nat.add_sub_cancel, ite_true, ite_false, if_true, if_false, not_true_eq_false, not_false_eq_true, Bool.and_true, Bool.true_and, true_or, or_true, false_or, or_false, and_true, true_and, and_false, false_and, Nat.not_lt_zero, hpRM, hpIM, hpFM, hpLM, hpSM, nX', b01_0, g0, e0, e1, e2, e3, e4, e5, e6]
  · refine ⟨.int (-nI 1), A, F, P, A, F, P, ?_, ?_, nB, nl, nb, nx, q, t, hI⟩
    · rw [e_Pa_bidOf 1 _ _ _ rfl]
      simp (maxSteps := 2000000) (disch := (first | omega | (simp (disch := omega) only [up_eq, up_ne, cpA_o, cpF_o, List.length_set] <;> omega) | fail)) only [ob_s, am_bi_s, am_bv_s, am_bl_s, ↓bif_d, lits, nI_addS, nI_mulS, nI_subS, nI_lt', nI_le', nI_eq', ↓rd_nI, ↓wrH, up_eq, up_ne, up_up, up_sw, List.set_set, g_seq, g_sne, Nat.reduceEqDiff, ↓reduceIte, List.length_set, Nat.add_sub_cancel_left, Nat.add_sub_cancel, ite_true, ite_false, if_true, if_false, not_true_eq_false, not_false_eq_true, Bool.and_true, Bool.true_and, true_or, or_true, false_or, or_false, and_true, true_and, and_false, false_and, Nat.not_lt_zero, hpRX, hpIX, hpFX, hpLX, hpSX, ↓rgX, ↓rpX, Nat.reduceLeDiff, Nat.reduceLT, Nat.reduceAdd, Nat.reduceMul, Nat.reduceSub, iX, b01_0, g0]
    · rw [e_Mod_bidOf 192 _ _ _ rfl]
      simp (maxSteps := 2000000) (disch := (first | omega | (simp (disch := omega) only [up_eq, up_ne, cpA_o, cpF_o, List.length_set] <;> omega) | fail)) only [ob_s, am_bi_s, am_bv_s, am_bl_s, ↓bif_d, lits, nI_addS, nI_mulS, nI_subS, nI_lt', nI_le', nI_eq', ↓rd_nI, ↓wrH, up_eq, up_ne, up_up, up_sw, List.set_set, g_seq, g_sne, Nat.reduceEqDiff, ↓reduceIte, List.length_set, Nat.add_sub_cancel_left, Nat.add_sub_cancel, ite_true, ite_false, if_true, if_false, not_true_eq_false, not_false_eq_true, Bool.and_true, Bool.true_and, true_or, or_true, false_or, or_false, and_true, true_and, and_false, false_and, Nat.not_lt_zero, hpRM, hpIM, hpFM, hpLM, hpSM, nX, b01_0, g0]
theorem k_ranked (hI : InvN A F P nB nl nb nx q t) (x v : Int32) : Step m_Pa_ranked m_Mod_ranked [.int x, .int v] A F P := by
  classical
  have hC0 := Cx_of hI
  obtain ⟨-, -, ⟨n1, n2, n3, n4⟩, l0, hAL, hAM, hAX, hAS, -⟩ := id hC0
  obtain ⟨c5, c7, c10, c12, c14, c16, c18, c21, c23, c25, c27, c29, c31, c33⟩ := LenS2 l0
  obtain ⟨A', A2, L, B, Fi, Se, Mn, Bu, Pr, ⟨b193, a193, a199, a200, a201, a202, a203, a204, a205⟩, ⟨m199, m200, m201, m202, m203, m204, m205⟩, ⟨k199, k200, k201, k202, k203, k204, k205⟩, hW, hS, hK, hC', hcl, hmd, hI1, hI2⟩ := hold2 hI
  obtain ⟨hM, hB, -, l1, hCL, hCM, hCX, hCS, hS0, hS1, hS2, hS3⟩ := id hC'
  obtain ⟨d5, d7, d10, d12, d14, d16, d18, d21, d23, d25, d27, d29, d31, d33⟩ := LenS2 l1
  obtain ⟨w166, w168, w170, w172, w174, w176, w178, w180, w182⟩ := id hW
  have hr0 : (A 193).length = 472 := hM.1.1
  have hr1 : (A' 193).length = 472 := by rw [b193]; exact hr0
  have hr2 : (A2 193).length = 472 := by rw [a193]; exact hr0
  have hnl : nl ≤ 20 := hM.1.2.2.2.2.2.2.2.1
  have hnb : nb ≤ 8 := hM.1.2.2.2.2.2.2.2.2.1
  have hnx : nx ≤ 60 := hM.1.2.2.2.2.2.2.2.2.2
  have iL := fun x => s_isLot (A := A) (F := F) (P := P) n2 (by omega) x
  have iB := fun x => s_isBidder (A := A) (F := F) (P := P) n3 (by omega) x
  have iX := fun x => s_isBid (A := A) (F := F) (P := P) n4 (by omega) x
  have nL := fun x => s_Mod_noLot (A := A) (F := F) (P := P) hM.1 x
  have nBd := fun x => s_Mod_noBidder (A := A) (F := F) (P := P) hM.1 x
  have nX := fun x => s_Mod_noBid (A := A) (F := F) (P := P) hM.1 x
  have nL' := fun x => s_Mod_noLot (A := A') (F := up F 16410 (nI 1)) (P := P) (by rw [b193]; exact hM.1) x
  have nBd' := fun x => s_Mod_noBidder (A := A') (F := up F 16410 (nI 1)) (P := P) (by rw [b193]; exact hM.1) x
  have nX' := fun x => s_Mod_noBid (A := A') (F := up F 16410 (nI 1)) (P := P) (by rw [b193]; exact hM.1) x
  by_cases g0 : ix x nl
  · obtain ⟨k, hk, rfl⟩ := g0
    have g0 : ix (nI k) nl := ⟨k, hk, rfl⟩
    by_cases e0 : nI 0 ≤ v
    · obtain ⟨p, hp, rfl⟩ := nI_of (show ¬ v < 0 from Int32.not_lt.mpr e0)
      have hb := cl_bid (P := P) hC' hW hS hK hk hp
      have hrk : am_cl m_Mod_rankedAt [.ref 192, .int (nI k), .int (nI p)] (heap A2 (up F 16410 (nI 1)) P) = some (some (.int (mRk (A 193) nB L B k (nI p) 8 0)), heap A2 (up F 16410 (nI 1)) P) := by
        have := s_Mod_rankedAt (A := A2) (F := up F 16410 (nI 1)) (P := P) (nB := nB) (nl := nl) (nb := nb) (nx := nx) (by rw [a193]; exact hM) k199 k200 hk (by rw [a200]; exact fun b hb => (SaI_bs hM hS hk b hb).isB) (nI p)
        rw [a193, a199, a200] at this
        exact this
      refine ⟨.int (mRk (A 193) nB L B k (nI p) 8 0), A', up F 16410 (nI 1), P, A2, up F 16410 (nI 1), P, ?_, ?_, nB, nl, nb, nx, q, t, hI2⟩
      · rw [e_Pa_ranked 1 _ _ _ rfl]
        simp (maxSteps := 2000000) (disch := (first | omega | (simp (disch := omega) only [up_eq, up_ne, cpA_o, cpF_o, List.length_set] <;> omega) | fail)) only [ob_s, am_bi_s, am_bv_s, am_bl_s, ↓bif_d, lits, nI_addS, nI_mulS, nI_subS, nI_lt', nI_le', nI_eq', ↓rd_nI, ↓wrH, up_eq, up_ne, up_up, up_sw, List.set_set, g_seq, g_sne, Nat.reduceEqDiff, ↓reduceIte, List.length_set, Nat.add_sub_cancel_left, Nat.add_sub_cancel, ite_true, ite_false, if_true, if_false, not_true_eq_false, not_false_eq_true, Bool.and_true, Bool.true_and, true_or, or_true, false_or, or_false, and_true, true_and, and_false, false_and, Nat.not_lt_zero, hpRX, hpIX, hpFX, hpLX, hpSX, ↓rgX, ↓rpX, Nat.reduceLeDiff, Nat.reduceLT, Nat.reduceAdd, Nat.reduceMul, Nat.reduceSub, iL, b01_0, g0, hcl, e0, Nat.zero_le, hb]
      · rw [e_Mod_ranked 192 _ _ _ rfl]
        simp (maxSteps := 2000000) (disch := (first | omega | (simp (disch := omega) only [up_eq, up_ne, cpA_o, cpF_o, List.length_set] <;> omega) | fail)) only [ob_s, am_bi_s, am_bv_s, am_bl_s, ↓bif_d, lits, nI_addS, nI_mulS, nI_subS, nI_lt', nI_le', nI_eq', ↓rd_nI, ↓wrH, up_eq, up_ne, up_up, up_sw, List.set_set, g_seq, g_sne, Nat.reduceEqDiff, ↓reduceIte, List.length_set, Nat.add_sub_cancel_left, Nat.add_sub_cancel, ite_true, ite_false, if_true, if_false, not_true_eq_false, not_false_eq_true, Bool.and_true, Bool.true_and, true_or, or_true, false_or, or_false, and_true, true_and, and_false, false_and, Nat.not_lt_zero, hpRM, hpIM, hpFM, hpLM, hpSM, nL', b01_0, g0, hmd, e0, Nat.zero_le, hrk]
    · refine ⟨.int (-nI 2), A, F, P, A, F, P, ?_, ?_, nB, nl, nb, nx, q, t, hI⟩
      · rw [e_Pa_ranked 1 _ _ _ rfl]
        simp (maxSteps := 2000000) (disch := (first | omega | (simp (disch := omega) only [up_eq, up_ne, cpA_o, cpF_o, List.length_set] <;> omega) | fail)) only [ob_s, am_bi_s, am_bv_s, am_bl_s, ↓bif_d, lits, nI_addS, nI_mulS, nI_subS, nI_lt', nI_le', nI_eq', ↓rd_nI, ↓wrH, up_eq, up_ne, up_up, up_sw, List.set_set, g_seq, g_sne, Nat.reduceEqDiff, ↓reduceIte, List.length_set, Nat.add_sub_cancel_left, Nat.add_sub_cancel, ite_true, ite_false, if_true, if_false, not_true_eq_false, not_false_eq_true, Bool.and_true, Bool.true_and, true_or, or_true, false_or, or_false, and_true, true_and, and_false, false_and, Nat.not_lt_zero, hpRX, hpIX, hpFX, hpLX, hpSX, ↓rgX, ↓rpX, Nat.reduceLeDiff, Nat.reduceLT, Nat.reduceAdd, Nat.reduceMul, Nat.reduceSub, iL, b01_0, g0, e0]
      · rw [e_Mod_ranked 192 _ _ _ rfl]
        simp (maxSteps := 2000000) (disch := (first | omega | (simp (disch := omega) only [up_eq, up_ne, cpA_o, cpF_o, List.length_set] <;> omega) | fail)) only [ob_s, am_bi_s, am_bv_s, am_bl_s, ↓bif_d, lits, nI_addS, nI_mulS, nI_subS, nI_lt', nI_le', nI_eq', ↓rd_nI, ↓wrH, up_eq, up_ne, up_up, up_sw, List.set_set, g_seq, g_sne, Nat.reduceEqDiff, ↓reduceIte, List.length_set, Nat.add_sub_cancel_left, Nat.add_sub_cancel, ite_true, ite_false, if_true, if_false, not_true_eq_false, not_false_eq_true, Bool.and_true, Bool.true_and, true_or, or_true, false_or, or_false, and_true, true_and, and_false, false_and, Nat.not_lt_zero, hpRM, hpIM, hpFM, hpLM, hpSM, nL, b01_0, g0, e0]
  · refine ⟨.int (-nI 1), A, F, P, A, F, P, ?_, ?_, nB, nl, nb, nx, q, t, hI⟩
    · rw [e_Pa_ranked 1 _ _ _ rfl]
      simp (maxSteps := 2000000) (disch := (first | omega | (simp (disch := omega) only [up_eq, up_ne, cpA_o, cpF_o, List.length_set] <;> omega) | fail)) only [ob_s, am_bi_s, am_bv_s, am_bl_s, ↓bif_d, lits, nI_addS, nI_mulS, nI_subS, nI_lt', nI_le', nI_eq', ↓rd_nI, ↓wrH, up_eq, up_ne, up_up, up_sw, List.set_set, g_seq, g_sne, Nat.reduceEqDiff, ↓reduceIte, List.length_set, Nat.add_sub_cancel_left, Nat.add_sub_cancel, ite_true, ite_false, if_true, if_false, not_true_eq_false, not_false_eq_true, Bool.and_true, Bool.true_and, true_or, or_true, false_or, or_false, and_true, true_and, and_false, false_and, Nat.not_lt_zero, hpRX, hpIX, hpFX, hpLX, hpSX, ↓rgX, ↓rpX, Nat.reduceLeDiff, Nat.reduceLT, Nat.reduceAdd, Nat.reduceMul, Nat.reduceSub, iL, b01_0, g0]
    · rw [e_Mod_ranked 192 _ _ _ rfl]
      simp (maxSteps := 2000000) (disch := (first | omega | (simp (disch := omega) only [up_eq, up_ne, cpA_o, cpF_o, List.length_set] <;> omega) | fail)) only [ob_s, am_bi_s, am_bv_s, am_bl_s, ↓bif_d, lits, nI_addS, nI_mulS, nI_subS, nI_lt', nI_le', nI_eq', ↓rd_nI, ↓wrH, up_eq, up_ne, up_up, up_sw, List.set_set, g_seq, g_sne, Nat.reduceEqDiff, ↓reduceIte, List.length_set, Nat.add_sub_cancel_left, Nat.add_sub_cancel, ite_true, ite_false, if_true, if_false, not_true_eq_false, not_false_eq_true, Bool.and_true, Bool.true_and, true_or, or_true, false_or, or_false, and_true, true_and, and_false, false_and, Nat.not_lt_zero, hpRM, hpIM, hpFM, hpLM, hpSM, nL, b01_0, g0]
theorem k_fate (hI : InvN A F P nB nl nb nx q t) (x : Int32) : Step m_Pa_fate m_Mod_fate [.int x] A F P := by
  classical
  have hC0 := Cx_of hI
  obtain ⟨-, -, ⟨n1, n2, n3, n4⟩, l0, hAL, hAM, hAX, hAS, -⟩ := id hC0
  obtain ⟨c5, c7, c10, c12, c14, c16, c18, c21, c23, c25, c27, c29, c31, c33⟩ := LenS2 l0
  obtain ⟨A', A2, L, B, Fi, Se, Mn, Bu, Pr, ⟨b193, a193, a199, a200, a201, a202, a203, a204, a205⟩, ⟨m199, m200, m201, m202, m203, m204, m205⟩, ⟨k199, k200, k201, k202, k203, k204, k205⟩, hW, hS, hK, hC', hcl, hmd, hI1, hI2⟩ := hold2 hI
  obtain ⟨hM, hB, -, l1, hCL, hCM, hCX, hCS, hS0, hS1, hS2, hS3⟩ := id hC'
  obtain ⟨d5, d7, d10, d12, d14, d16, d18, d21, d23, d25, d27, d29, d31, d33⟩ := LenS2 l1
  obtain ⟨w166, w168, w170, w172, w174, w176, w178, w180, w182⟩ := id hW
  have hr0 : (A 193).length = 472 := hM.1.1
  have hr1 : (A' 193).length = 472 := by rw [b193]; exact hr0
  have hr2 : (A2 193).length = 472 := by rw [a193]; exact hr0
  have hnl : nl ≤ 20 := hM.1.2.2.2.2.2.2.2.1
  have hnb : nb ≤ 8 := hM.1.2.2.2.2.2.2.2.2.1
  have hnx : nx ≤ 60 := hM.1.2.2.2.2.2.2.2.2.2
  have iL := fun x => s_isLot (A := A) (F := F) (P := P) n2 (by omega) x
  have iB := fun x => s_isBidder (A := A) (F := F) (P := P) n3 (by omega) x
  have iX := fun x => s_isBid (A := A) (F := F) (P := P) n4 (by omega) x
  have nL := fun x => s_Mod_noLot (A := A) (F := F) (P := P) hM.1 x
  have nBd := fun x => s_Mod_noBidder (A := A) (F := F) (P := P) hM.1 x
  have nX := fun x => s_Mod_noBid (A := A) (F := F) (P := P) hM.1 x
  have nL' := fun x => s_Mod_noLot (A := A') (F := up F 16410 (nI 1)) (P := P) (by rw [b193]; exact hM.1) x
  have nBd' := fun x => s_Mod_noBidder (A := A') (F := up F 16410 (nI 1)) (P := P) (by rw [b193]; exact hM.1) x
  have nX' := fun x => s_Mod_noBid (A := A') (F := up F 16410 (nI 1)) (P := P) (by rw [b193]; exact hM.1) x
  by_cases g0 : ix x nx
  · obtain ⟨k, hk, rfl⟩ := g0
    have g0 : ix (nI k) nx := ⟨k, hk, rfl⟩
    obtain ⟨⟨x1, x2⟩, x3, x4⟩ := hM.2.2 k hk
    have e180 := (hK.2 k hk x1).2
    have hrr : ∀ l, l < lotN (A2 193) k → g (A2 204) l = g (A2 193) (168 + k) → ∃ f, f < nx ∧ g (A2 201) l = nI f := by
      rw [a193, a204, a201, x4]
      intro l hl hb
      obtain ⟨f, f1, f2, -⟩ := SaI_fi hM hS (show l < nl by omega) (by omega) hb
      exact ⟨f, f1, f2⟩
    have hla := s_Mod_isLate (A := A2) (F := up F 16410 (nI 1)) (P := P) (nB := nB) (nl := nl) (nb := nb) (nx := nx) (by rw [a193]; exact hM) hk
    have hsv := s_Mod_isServed (A := A2) (F := up F 16410 (nI 1)) (P := P) (nB := nB) (nl := nl) (nb := nb) (nx := nx) (by rw [a193]; exact hM) k204 k201 hk hrr
    have hco := s_Mod_counts (A := A2) (F := up F 16410 (nI 1)) (P := P) (nB := nB) (nl := nl) (nb := nb) (nx := nx) (by rw [a193]; exact hM) k199 k204 k201 hk hrr
    rw [a193] at hla
    rw [a193, a204, a201] at hsv
    rw [a193, a199, a204, a201] at hco
    by_cases z1 : g (A 193) (408 + k) = nI 1
    · have e : mFa (A 193) nB L B Fi Bu k = nI 1 := by unfold mFa; rw [cif_t z1]
      rw [e] at e180
      refine ⟨.int (nI 1), A', up F 16410 (nI 1), P, A2, up F 16410 (nI 1), P, ?_, ?_, nB, nl, nb, nx, q, t, hI2⟩
      · rw [e_Pa_fate 1 _ _ rfl]
        simp (maxSteps := 2000000) (disch := (first | omega | (simp (disch := omega) only [up_eq, up_ne, cpA_o, cpF_o, List.length_set] <;> omega) | fail)) only [ob_s, am_bi_s, am_bv_s, am_bl_s, ↓bif_d, lits, nI_addS, nI_mulS, nI_subS, nI_lt', nI_le', nI_eq', ↓rd_nI, ↓wrH, up_eq, up_ne, up_up, up_sw, List.set_set, g_seq, g_sne, Nat.reduceEqDiff, ↓reduceIte, List.length_set, Nat.add_sub_cancel_left, Nat.add_sub_cancel, ite_true, ite_false, if_true, if_false, not_true_eq_false, not_false_eq_true, Bool.and_true, Bool.true_and, true_or, or_true, false_or, or_false, and_true, true_and, and_false, false_and, Nat.not_lt_zero, hpRX, hpIX, hpFX, hpLX, hpSX, ↓rgX, ↓rpX, Nat.reduceLeDiff, Nat.reduceLT, Nat.reduceAdd, Nat.reduceMul, Nat.reduceSub, iX, b01_0, g0, hcl, e180]
      · rw [e_Mod_fate 192 _ _ rfl]
        simp (maxSteps := 2000000) (disch := (first | omega | (simp (disch := omega) only [up_eq, up_ne, cpA_o, cpF_o, List.length_set] <;> omega) | fail)) only [ob_s, am_bi_s, am_bv_s, am_bl_s, ↓bif_d, lits, nI_addS, nI_mulS, nI_subS, nI_lt', nI_le', nI_eq', ↓rd_nI, ↓wrH, up_eq, up_ne, up_up, up_sw, List.set_set, g_seq, g_sne, Nat.reduceEqDiff, ↓reduceIte, List.length_set, Nat.add_sub_cancel_left, Nat.add_sub_cancel, ite_true, ite_false, if_true, if_false, not_true_eq_false, not_false_eq_true, Bool.and_true, Bool.true_and, true_or, or_true, false_or, or_false, and_true, true_and, and_false, false_and, Nat.not_lt_zero, hpRM, hpIM, hpFM, hpLM, hpSM, nX', b01_0, g0, hmd, a193, a200, a201, a204, x2, x4, hla, hsv, hco, z1]
    by_cases z2 : mLa (A 193) k
    · have e : mFa (A 193) nB L B Fi Bu k = nI 2 := by unfold mFa; rw [cif_f z1, cif_t z2]
      rw [e] at e180
      refine ⟨.int (nI 2), A', up F 16410 (nI 1), P, A2, up F 16410 (nI 1), P, ?_, ?_, nB, nl, nb, nx, q, t, hI2⟩
      · rw [e_Pa_fate 1 _ _ rfl]
        simp (maxSteps := 2000000) (disch := (first | omega | (simp (disch := omega) only [up_eq, up_ne, cpA_o, cpF_o, List.length_set] <;> omega) | fail)) only [ob_s, am_bi_s, am_bv_s, am_bl_s, ↓bif_d, lits, nI_addS, nI_mulS, nI_subS, nI_lt', nI_le', nI_eq', ↓rd_nI, ↓wrH, up_eq, up_ne, up_up, up_sw, List.set_set, g_seq, g_sne, Nat.reduceEqDiff, ↓reduceIte, List.length_set, Nat.add_sub_cancel_left, Nat.add_sub_cancel, ite_true, ite_false, if_true, if_false, not_true_eq_false, not_false_eq_true, Bool.and_true, Bool.true_and, true_or, or_true, false_or, or_false, and_true, true_and, and_false, false_and, Nat.not_lt_zero, hpRX, hpIX, hpFX, hpLX, hpSX, ↓rgX, ↓rpX, Nat.reduceLeDiff, Nat.reduceLT, Nat.reduceAdd, Nat.reduceMul, Nat.reduceSub, iX, b01_0, g0, hcl, e180]
      · rw [e_Mod_fate 192 _ _ rfl]
        simp (maxSteps := 2000000) (disch := (first | omega | (simp (disch := omega) only [up_eq, up_ne, cpA_o, cpF_o, List.length_set] <;> omega) | fail)) only [ob_s, am_bi_s, am_bv_s, am_bl_s, ↓bif_d, lits, nI_addS, nI_mulS, nI_subS, nI_lt', nI_le', nI_eq', ↓rd_nI, ↓wrH, up_eq, up_ne, up_up, up_sw, List.set_set, g_seq, g_sne, Nat.reduceEqDiff, ↓reduceIte, List.length_set, Nat.add_sub_cancel_left, Nat.add_sub_cancel, ite_true, ite_false, if_true, if_false, not_true_eq_false, not_false_eq_true, Bool.and_true, Bool.true_and, true_or, or_true, false_or, or_false, and_true, true_and, and_false, false_and, Nat.not_lt_zero, hpRM, hpIM, hpFM, hpLM, hpSM, nX', b01_0, g0, hmd, a193, a200, a201, a204, x2, x4, hla, hsv, hco, z1, z2]
    by_cases z3 : g (A 193) (78 + lotN (A 193) k) = nI 1
    · have e : mFa (A 193) nB L B Fi Bu k = nI 3 := by unfold mFa; rw [cif_f z1, cif_f z2, cif_t z3]
      rw [e] at e180
      refine ⟨.int (nI 3), A', up F 16410 (nI 1), P, A2, up F 16410 (nI 1), P, ?_, ?_, nB, nl, nb, nx, q, t, hI2⟩
      · rw [e_Pa_fate 1 _ _ rfl]
        simp (maxSteps := 2000000) (disch := (first | omega | (simp (disch := omega) only [up_eq, up_ne, cpA_o, cpF_o, List.length_set] <;> omega) | fail)) only [ob_s, am_bi_s, am_bv_s, am_bl_s, ↓bif_d, lits, nI_addS, nI_mulS, nI_subS, nI_lt', nI_le', nI_eq', ↓rd_nI, ↓wrH, up_eq, up_ne, up_up, up_sw, List.set_set, g_seq, g_sne, Nat.reduceEqDiff, ↓reduceIte, List.length_set, Nat.add_sub_cancel_left, Nat.add_sub_cancel, ite_true, ite_false, if_true, if_false, not_true_eq_false, not_false_eq_true, Bool.and_true, Bool.true_and, true_or, or_true, false_or, or_false, and_true, true_and, and_false, false_and, Nat.not_lt_zero, hpRX, hpIX, hpFX, hpLX, hpSX, ↓rgX, ↓rpX, Nat.reduceLeDiff, Nat.reduceLT, Nat.reduceAdd, Nat.reduceMul, Nat.reduceSub, iX, b01_0, g0, hcl, e180]
      · rw [e_Mod_fate 192 _ _ rfl]
        simp (maxSteps := 2000000) (disch := (first | omega | (simp (disch := omega) only [up_eq, up_ne, cpA_o, cpF_o, List.length_set] <;> omega) | fail)) only [ob_s, am_bi_s, am_bv_s, am_bl_s, ↓bif_d, lits, nI_addS, nI_mulS, nI_subS, nI_lt', nI_le', nI_eq', ↓rd_nI, ↓wrH, up_eq, up_ne, up_up, up_sw, List.set_set, g_seq, g_sne, Nat.reduceEqDiff, ↓reduceIte, List.length_set, Nat.add_sub_cancel_left, Nat.add_sub_cancel, ite_true, ite_false, if_true, if_false, not_true_eq_false, not_false_eq_true, Bool.and_true, Bool.true_and, true_or, or_true, false_or, or_false, and_true, true_and, and_false, false_and, Nat.not_lt_zero, hpRM, hpIM, hpFM, hpLM, hpSM, nX', b01_0, g0, hmd, a193, a200, a201, a204, x2, x4, hla, hsv, hco, z1, z2, z3]
    by_cases z4 : mSv (A 193) Bu Fi k
    · have e : mFa (A 193) nB L B Fi Bu k = nI 4 := by unfold mFa; rw [cif_f z1, cif_f z2, cif_f z3, cif_t z4]
      rw [e] at e180
      refine ⟨.int (nI 4), A', up F 16410 (nI 1), P, A2, up F 16410 (nI 1), P, ?_, ?_, nB, nl, nb, nx, q, t, hI2⟩
      · rw [e_Pa_fate 1 _ _ rfl]
        simp (maxSteps := 2000000) (disch := (first | omega | (simp (disch := omega) only [up_eq, up_ne, cpA_o, cpF_o, List.length_set] <;> omega) | fail)) only [ob_s, am_bi_s, am_bv_s, am_bl_s, ↓bif_d, lits, nI_addS, nI_mulS, nI_subS, nI_lt', nI_le', nI_eq', ↓rd_nI, ↓wrH, up_eq, up_ne, up_up, up_sw, List.set_set, g_seq, g_sne, Nat.reduceEqDiff, ↓reduceIte, List.length_set, Nat.add_sub_cancel_left, Nat.add_sub_cancel, ite_true, ite_false, if_true, if_false, not_true_eq_false, not_false_eq_true, Bool.and_true, Bool.true_and, true_or, or_true, false_or, or_false, and_true, true_and, and_false, false_and, Nat.not_lt_zero, hpRX, hpIX, hpFX, hpLX, hpSX, ↓rgX, ↓rpX, Nat.reduceLeDiff, Nat.reduceLT, Nat.reduceAdd, Nat.reduceMul, Nat.reduceSub, iX, b01_0, g0, hcl, e180]
      · rw [e_Mod_fate 192 _ _ rfl]
        simp (maxSteps := 2000000) (disch := (first | omega | (simp (disch := omega) only [up_eq, up_ne, cpA_o, cpF_o, List.length_set] <;> omega) | fail)) only [ob_s, am_bi_s, am_bv_s, am_bl_s, ↓bif_d, lits, nI_addS, nI_mulS, nI_subS, nI_lt', nI_le', nI_eq', ↓rd_nI, ↓wrH, up_eq, up_ne, up_up, up_sw, List.set_set, g_seq, g_sne, Nat.reduceEqDiff, ↓reduceIte, List.length_set, Nat.add_sub_cancel_left, Nat.add_sub_cancel, ite_true, ite_false, if_true, if_false, not_true_eq_false, not_false_eq_true, Bool.and_true, Bool.true_and, true_or, or_true, false_or, or_false, and_true, true_and, and_false, false_and, Nat.not_lt_zero, hpRM, hpIM, hpFM, hpLM, hpSM, nX', b01_0, g0, hmd, a193, a200, a201, a204, x2, x4, hla, hsv, hco, z1, z2, z3, z4]
    by_cases z5 : ¬ mCo (A 193) nB L Bu Fi k
    · have e : mFa (A 193) nB L B Fi Bu k = nI 5 := by unfold mFa; rw [cif_f z1, cif_f z2, cif_f z3, cif_f z4, cif_t z5]
      rw [e] at e180
      refine ⟨.int (nI 5), A', up F 16410 (nI 1), P, A2, up F 16410 (nI 1), P, ?_, ?_, nB, nl, nb, nx, q, t, hI2⟩
      · rw [e_Pa_fate 1 _ _ rfl]
        simp (maxSteps := 2000000) (disch := (first | omega | (simp (disch := omega) only [up_eq, up_ne, cpA_o, cpF_o, List.length_set] <;> omega) | fail)) only [ob_s, am_bi_s, am_bv_s, am_bl_s, ↓bif_d, lits, nI_addS, nI_mulS, nI_subS, nI_lt', nI_le', nI_eq', ↓rd_nI, ↓wrH, up_eq, up_ne, up_up, up_sw, List.set_set, g_seq, g_sne, Nat.reduceEqDiff, ↓reduceIte, List.length_set, Nat.add_sub_cancel_left, Nat.add_sub_cancel, ite_true, ite_false, if_true, if_false, not_true_eq_false, not_false_eq_true, Bool.and_true, Bool.true_and, true_or, or_true, false_or, or_false, and_true, true_and, and_false, false_and, Nat.not_lt_zero, hpRX, hpIX, hpFX, hpLX, hpSX, ↓rgX, ↓rpX, Nat.reduceLeDiff, Nat.reduceLT, Nat.reduceAdd, Nat.reduceMul, Nat.reduceSub, iX, b01_0, g0, hcl, e180]
      · rw [e_Mod_fate 192 _ _ rfl]
        simp (maxSteps := 2000000) (disch := (first | omega | (simp (disch := omega) only [up_eq, up_ne, cpA_o, cpF_o, List.length_set] <;> omega) | fail)) only [ob_s, am_bi_s, am_bv_s, am_bl_s, ↓bif_d, lits, nI_addS, nI_mulS, nI_subS, nI_lt', nI_le', nI_eq', ↓rd_nI, ↓wrH, up_eq, up_ne, up_up, up_sw, List.set_set, g_seq, g_sne, Nat.reduceEqDiff, ↓reduceIte, List.length_set, Nat.add_sub_cancel_left, Nat.add_sub_cancel, ite_true, ite_false, if_true, if_false, not_true_eq_false, not_false_eq_true, Bool.and_true, Bool.true_and, true_or, or_true, false_or, or_false, and_true, true_and, and_false, false_and, Nat.not_lt_zero, hpRM, hpIM, hpFM, hpLM, hpSM, nX', b01_0, g0, hmd, a193, a200, a201, a204, x2, x4, hla, hsv, hco, z1, z2, z3, z4, z5]
    have z5' := Classical.not_not.mp z5
    by_cases z6 : ¬ g B (8 * lotN (A 193) k + byN (A 193) k) = nI k
    · have e : mFa (A 193) nB L B Fi Bu k = nI 6 := by unfold mFa; rw [cif_f z1, cif_f z2, cif_f z3, cif_f z4, cif_f z5, cif_t z6]
      rw [e] at e180
      refine ⟨.int (nI 6), A', up F 16410 (nI 1), P, A2, up F 16410 (nI 1), P, ?_, ?_, nB, nl, nb, nx, q, t, hI2⟩
      · rw [e_Pa_fate 1 _ _ rfl]
        simp (maxSteps := 2000000) (disch := (first | omega | (simp (disch := omega) only [up_eq, up_ne, cpA_o, cpF_o, List.length_set] <;> omega) | fail)) only [ob_s, am_bi_s, am_bv_s, am_bl_s, ↓bif_d, lits, nI_addS, nI_mulS, nI_subS, nI_lt', nI_le', nI_eq', ↓rd_nI, ↓wrH, up_eq, up_ne, up_up, up_sw, List.set_set, g_seq, g_sne, Nat.reduceEqDiff, ↓reduceIte, List.length_set, Nat.add_sub_cancel_left, Nat.add_sub_cancel, ite_true, ite_false, if_true, if_false, not_true_eq_false, not_false_eq_true, Bool.and_true, Bool.true_and, true_or, or_true, false_or, or_false, and_true, true_and, and_false, false_and, Nat.not_lt_zero, hpRX, hpIX, hpFX, hpLX, hpSX, ↓rgX, ↓rpX, Nat.reduceLeDiff, Nat.reduceLT, Nat.reduceAdd, Nat.reduceMul, Nat.reduceSub, iX, b01_0, g0, hcl, e180]
      · rw [e_Mod_fate 192 _ _ rfl]
        simp (maxSteps := 2000000) (disch := (first | omega | (simp (disch := omega) only [up_eq, up_ne, cpA_o, cpF_o, List.length_set] <;> omega) | fail)) only [ob_s, am_bi_s, am_bv_s, am_bl_s, ↓bif_d, lits, nI_addS, nI_mulS, nI_subS, nI_lt', nI_le', nI_eq', ↓rd_nI, ↓wrH, up_eq, up_ne, up_up, up_sw, List.set_set, g_seq, g_sne, Nat.reduceEqDiff, ↓reduceIte, List.length_set, Nat.add_sub_cancel_left, Nat.add_sub_cancel, ite_true, ite_false, if_true, if_false, not_true_eq_false, not_false_eq_true, Bool.and_true, Bool.true_and, true_or, or_true, false_or, or_false, and_true, true_and, and_false, false_and, Nat.not_lt_zero, hpRM, hpIM, hpFM, hpLM, hpSM, nX', b01_0, g0, hmd, a193, a200, a201, a204, x2, x4, hla, hsv, hco, z1, z2, z3, z4, z5', z6]
    have z6' := Classical.not_not.mp z6
    by_cases z7 : ¬ g Fi (lotN (A 193) k) = nI k
    · have e : mFa (A 193) nB L B Fi Bu k = nI 7 := by unfold mFa; rw [cif_f z1, cif_f z2, cif_f z3, cif_f z4, cif_f z5, cif_f z6, cif_t z7]
      rw [e] at e180
      refine ⟨.int (nI 7), A', up F 16410 (nI 1), P, A2, up F 16410 (nI 1), P, ?_, ?_, nB, nl, nb, nx, q, t, hI2⟩
      · rw [e_Pa_fate 1 _ _ rfl]
        simp (maxSteps := 2000000) (disch := (first | omega | (simp (disch := omega) only [up_eq, up_ne, cpA_o, cpF_o, List.length_set] <;> omega) | fail)) only [ob_s, am_bi_s, am_bv_s, am_bl_s, ↓bif_d, lits, nI_addS, nI_mulS, nI_subS, nI_lt', nI_le', nI_eq', ↓rd_nI, ↓wrH, up_eq, up_ne, up_up, up_sw, List.set_set, g_seq, g_sne, Nat.reduceEqDiff, ↓reduceIte, List.length_set, Nat.add_sub_cancel_left, Nat.add_sub_cancel, ite_true, ite_false, if_true, if_false, not_true_eq_false, not_false_eq_true, Bool.and_true, Bool.true_and, true_or, or_true, false_or, or_false, and_true, true_and, and_false, false_and, Nat.not_lt_zero, hpRX, hpIX, hpFX, hpLX, hpSX, ↓rgX, ↓rpX, Nat.reduceLeDiff, Nat.reduceLT, Nat.reduceAdd, Nat.reduceMul, Nat.reduceSub, iX, b01_0, g0, hcl, e180]
      · rw [e_Mod_fate 192 _ _ rfl]
        simp (maxSteps := 2000000) (disch := (first | omega | (simp (disch := omega) only [up_eq, up_ne, cpA_o, cpF_o, List.length_set] <;> omega) | fail)) only [ob_s, am_bi_s, am_bv_s, am_bl_s, ↓bif_d, lits, nI_addS, nI_mulS, nI_subS, nI_lt', nI_le', nI_eq', ↓rd_nI, ↓wrH, up_eq, up_ne, up_up, up_sw, List.set_set, g_seq, g_sne, Nat.reduceEqDiff, ↓reduceIte, List.length_set, Nat.add_sub_cancel_left, Nat.add_sub_cancel, ite_true, ite_false, if_true, if_false, not_true_eq_false, not_false_eq_true, Bool.and_true, Bool.true_and, true_or, or_true, false_or, or_false, and_true, true_and, and_false, false_and, Nat.not_lt_zero, hpRM, hpIM, hpFM, hpLM, hpSM, nX', b01_0, g0, hmd, a193, a200, a201, a204, x2, x4, hla, hsv, hco, z1, z2, z3, z4, z5', z6', z7]
    have z7' := Classical.not_not.mp z7
    by_cases z8 : g Bu (lotN (A 193) k) < nI 0
    · have z8' : ¬ nI 0 ≤ g Bu (lotN (A 193) k) := Int32.not_le.mpr z8
      have e : mFa (A 193) nB L B Fi Bu k = nI 8 := by unfold mFa; rw [cif_f z1, cif_f z2, cif_f z3, cif_f z4, cif_f z5, cif_f z6, cif_f z7, cif_t z8]
      rw [e] at e180
      refine ⟨.int (nI 8), A', up F 16410 (nI 1), P, A2, up F 16410 (nI 1), P, ?_, ?_, nB, nl, nb, nx, q, t, hI2⟩
      · rw [e_Pa_fate 1 _ _ rfl]
        simp (maxSteps := 2000000) (disch := (first | omega | (simp (disch := omega) only [up_eq, up_ne, cpA_o, cpF_o, List.length_set] <;> omega) | fail)) only [ob_s, am_bi_s, am_bv_s, am_bl_s, ↓bif_d, lits, nI_addS, nI_mulS, nI_subS, nI_lt', nI_le', nI_eq', ↓rd_nI, ↓wrH, up_eq, up_ne, up_up, up_sw, List.set_set, g_seq, g_sne, Nat.reduceEqDiff, ↓reduceIte, List.length_set, Nat.add_sub_cancel_left, Nat.add_sub_cancel, ite_true, ite_false, if_true, if_false, not_true_eq_false, not_false_eq_true, Bool.and_true, Bool.true_and, true_or, or_true, false_or, or_false, and_true, true_and, and_false, false_and, Nat.not_lt_zero, hpRX, hpIX, hpFX, hpLX, hpSX, ↓rgX, ↓rpX, Nat.reduceLeDiff, Nat.reduceLT, Nat.reduceAdd, Nat.reduceMul, Nat.reduceSub, iX, b01_0, g0, hcl, e180]
      · rw [e_Mod_fate 192 _ _ rfl]
        simp (maxSteps := 2000000) (disch := (first | omega | (simp (disch := omega) only [up_eq, up_ne, cpA_o, cpF_o, List.length_set] <;> omega) | fail)) only [ob_s, am_bi_s, am_bv_s, am_bl_s, ↓bif_d, lits, nI_addS, nI_mulS, nI_subS, nI_lt', nI_le', nI_eq', ↓rd_nI, ↓wrH, up_eq, up_ne, up_up, up_sw, List.set_set, g_seq, g_sne, Nat.reduceEqDiff, ↓reduceIte, List.length_set, Nat.add_sub_cancel_left, Nat.add_sub_cancel, ite_true, ite_false, if_true, if_false, not_true_eq_false, not_false_eq_true, Bool.and_true, Bool.true_and, true_or, or_true, false_or, or_false, and_true, true_and, and_false, false_and, Nat.not_lt_zero, hpRM, hpIM, hpFM, hpLM, hpSM, nX', b01_0, g0, hmd, a193, a200, a201, a204, x2, x4, hla, hsv, hco, z1, z2, z3, z4, z5', z6', z7', z8']
    have z8' : nI 0 ≤ g Bu (lotN (A 193) k) := Int32.not_lt.mp z8
    have e : mFa (A 193) nB L B Fi Bu k = nI 0 := by unfold mFa; rw [cif_f z1, cif_f z2, cif_f z3, cif_f z4, cif_f z5, cif_f z6, cif_f z7, cif_f z8]
    rw [e] at e180
    refine ⟨.int (nI 0), A', up F 16410 (nI 1), P, A2, up F 16410 (nI 1), P, ?_, ?_, nB, nl, nb, nx, q, t, hI2⟩
    · rw [e_Pa_fate 1 _ _ rfl]
      simp (maxSteps := 2000000) (disch := (first | omega | (simp (disch := omega) only [up_eq, up_ne, cpA_o, cpF_o, List.length_set] <;> omega) | fail)) only [ob_s, am_bi_s, am_bv_s, am_bl_s, ↓bif_d, lits, nI_addS, nI_mulS, nI_subS, nI_lt', nI_le', nI_eq', ↓rd_nI, ↓wrH, up_eq, up_ne, up_up, up_sw, List.set_set, g_seq, g_sne, Nat.reduceEqDiff, ↓reduceIte, List.length_set, Nat.add_sub_cancel_left, Nat.add_sub_cancel, ite_true, ite_false, if_true, if_false, not_true_eq_false, not_false_eq_true, Bool.and_true, Bool.true_and, true_or, or_true, false_or, or_false, and_true, true_and, and_false, false_and, Nat.not_lt_zero, hpRX, hpIX, hpFX, hpLX, hpSX, ↓rgX, ↓rpX, Nat.reduceLeDiff, Nat.reduceLT, Nat.reduceAdd, Nat.reduceMul, Nat.reduceSub, iX, b01_0, g0, hcl, e180]
    · rw [e_Mod_fate 192 _ _ rfl]
      simp (maxSteps := 2000000) (disch := (first | omega | (simp (disch := omega) only [up_eq, up_ne, cpA_o, cpF_o, List.length_set] <;> omega) | fail)) only [ob_s, am_bi_s, am_bv_s, am_bl_s, ↓bif_d, lits, nI_addS, nI_mulS, nI_subS, nI_lt', nI_le', nI_eq', ↓rd_nI, ↓wrH, up_eq, up_ne, up_up, up_sw, List.set_set, g_seq, g_sne, Nat.reduceEqDiff, ↓reduceIte, List.length_set, Nat.add_sub_cancel_left, Nat.add_sub_cancel, ite_true, ite_false, if_true, if_false, not_true_eq_false, not_false_eq_true, Bool.and_true, Bool.true_and, true_or, or_true, false_or, or_false, and_true, true_and, and_false, false_and, Nat.not_lt_zero, hpRM, hpIM, hpFM, hpLM, hpSM, nX', b01_0, g0, hmd, a193, a200, a201, a204, x2, x4, hla, hsv, hco, z1, z2, z3, z4, z5', z6', z7', z8']
  · refine ⟨.int (-nI 1), A, F, P, A, F, P, ?_, ?_, nB, nl, nb, nx, q, t, hI⟩
    · rw [e_Pa_fate 1 _ _ rfl]
      simp (maxSteps := 2000000) (disch := (first | omega | (simp (disch := omega) only [up_eq, up_ne, cpA_o, cpF_o, List.length_set] <;> omega) | fail)) only [ob_s, am_bi_s, am_bv_s, am_bl_s, ↓bif_d, lits, nI_addS, nI_mulS, nI_subS, nI_lt', nI_le', nI_eq', ↓rd_nI, ↓wrH, up_eq, up_ne, up_up, up_sw, List.set_set, g_seq, g_sne, Nat.reduceEqDiff, ↓reduceIte, List.length_set, Nat.add_sub_cancel_left, Nat.add_sub_cancel, ite_true, ite_false, if_true, if_false, not_true_eq_false, not_false_eq_true, Bool.and_true, Bool.true_and, true_or, or_true, false_or, or_false, and_true, true_and, and_false, false_and, Nat.not_lt_zero, hpRX, hpIX, hpFX, hpLX, hpSX, ↓rgX, ↓rpX, Nat.reduceLeDiff, Nat.reduceLT, Nat.reduceAdd, Nat.reduceMul, Nat.reduceSub, iX, b01_0, g0]
    · rw [e_Mod_fate 192 _ _ rfl]
      simp (maxSteps := 2000000) (disch := (first | omega | (simp (disch := omega) only [up_eq, up_ne, cpA_o, cpF_o, List.length_set] <;> omega) | fail)) only [ob_s, am_bi_s, am_bv_s, am_bl_s, ↓bif_d, lits, nI_addS, nI_mulS, nI_subS, nI_lt', nI_le', nI_eq', ↓rd_nI, ↓wrH, up_eq, up_ne, up_up, up_sw, List.set_set, g_seq, g_sne, Nat.reduceEqDiff, ↓reduceIte, List.length_set, Nat.add_sub_cancel_left, Nat.add_sub_cancel, ite_true, ite_false, if_true, if_false, not_true_eq_false, not_false_eq_true, Bool.and_true, Bool.true_and, true_or, or_true, false_or, or_false, and_true, true_and, and_false, false_and, Nat.not_lt_zero, hpRM, hpIM, hpFM, hpLM, hpSM, nX, b01_0, g0]
end X
