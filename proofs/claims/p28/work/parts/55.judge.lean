/-! THE CLASS'S SALE: the bids of a lot are judged -/
noncomputable def mRe (r : List Int32) (nB : Nat) (L Bu Fi : List Int32) (x : Nat) : Int32 := cif (g r (408 + x) = nI 1) (nI 1) (cif (mLa r x) (nI 2) (cif (g r (78 + lotN r x) = nI 1) (nI 3) (cif (mSv r Bu Fi x) (nI 4) (cif (mWo r nB L x < g r (38 + lotN r x)) (nI 5) (nI 0)))))
/-- the fate of a bid while the first n are judged -/
noncomputable def mF0 (r : List Int32) (nB : Nat) (L Bu Fi : List Int32) (x n : Nat) : Int32 := cif (mRe r nB L Bu Fi x = nI 0) (cif (mBs r nB L Bu Fi (lotN r x) (byN r x) n = nI x) (nI 0) (nI 6)) (mRe r nB L Bu Fi x)
theorem nI_ne {a b : Nat} (ha : a < 2 ^ 31) (hb : b < 2 ^ 31) (h : ¬ a = b) : ¬ nI a = nI b := fun z => h ((nI_eq ha hb).mp z)
theorem nI_nm5 {a : Nat} (ha : a < 2 ^ 31) : ¬ nI a = -nI 5 := fun z => by
  have h5 : (-nI 5 : Int32) < nI 0 := by decide
  rw [← z] at h5
  exact nI_pos ha h5
theorem mBs_no {r : List Int32} {nB : Nat} {L Bu Fi : List Int32} {l b k : Nat} (h : ¬ (g r (78 + l) = nI 0 ∧ lotN r k = l ∧ byN r k = b ∧ mCo r nB L Bu Fi k)) : mBs r nB L Bu Fi l b (k + 1) = mBs r nB L Bu Fi l b k := by
  rw [mBs_s, cif_f h]
def JI (r : List Int32) (nB nb nx : Nat) (L Bu Fi : List Int32) (k : Nat) (A0 A : Nat → List Int32) (x : Nat) : Prop :=
  (∀ j, j ≠ 178 → j ≠ 180 → j ≠ 182 → A j = A0 j) ∧ LenW A ∧ (∀ b, b < nb → g (A 182) b = mBs r nB L Bu Fi k b x) ∧
  (∀ y, y < x → lotN r y = k → g (A 178) y = mWo r nB L y ∧ g (A 180) y = mF0 r nB L Bu Fi y x) ∧
  (∀ y, y < nx → lotN r y ≠ k → g (A 178) y = g (A0 178) y ∧ g (A 180) y = g (A0 180) y)
/-- the lots below k are sold -/
def Dn (nb nx : Nat) (A : Nat → List Int32) (Fi Bu Pr : List Int32) (k : Nat) : Prop :=
  ∀ l, l < k → g (A 166) l = g Bu l ∧ g (A 168) l = g Pr l ∧ (∀ b, b < nb → g Bu l = nI b → ∃ f, f < nx ∧ g Fi l = nI f ∧ g (A 176) (l * 8) = nI f)
section X
variable {A : Nat → List Int32} {F : Nat → Int32} {P : Nat → Nat} {r : List Int32} {nB nl nb nx : Nat} {L B Fi Se Mn Bu Pr : List Int32}
theorem mRe_0 (hC : Cx A F r nB nl nb nx) {x : Nat} (hx : x < nx) (hL : rg (g L (8 * lotN r x + byN r x)) 0 10000000) : mRe r nB L Bu Fi x = nI 0 ↔ g r (78 + lotN r x) = nI 0 ∧ mCo r nB L Bu Fi x := by
  obtain ⟨hM, hB, ⟨n1, n2, n3, n4⟩, l1, hCL, hCM, hCX, hCS, hS0, hS1, hS2, hS3⟩ := id hC
  obtain ⟨c5, c7, c10, c12, c14, c16, c18, c21, c23, c25, c27, c29, c31, c33⟩ := LenS2 l1
  have hnl : nl ≤ 20 := hM.1.2.2.2.2.2.2.2.1
  have hnb : nb ≤ 8 := hM.1.2.2.2.2.2.2.2.2.1
  have hnx : nx ≤ 60 := hM.1.2.2.2.2.2.2.2.2.2
  have hnB : nB ≤ 8 := hM.1.2.2.2.2.2.2.1
  obtain ⟨p, q, a, p1, p2, q1, p3, q3, ea, hw, hwa⟩ := mWo_N hC hx hL
  have ha1 : a ≤ 1000000 := by rw [ea]; split <;> omega
  have hlx := (hM.2.2 x hx).1.1
  obtain ⟨-, -, -, -, ⟨s, s1, s2, s3⟩, -, ⟨w, w1, w2, w3⟩⟩ := hCL _ hlx
  obtain ⟨v, v1, v2, v3⟩ := (hCX x hx).2.2.2.2.2.2.2.2.2
  have n10 : ¬ nI 1 = nI 0 := by decide
  have n20 : ¬ nI 2 = nI 0 := by decide
  have n30 : ¬ nI 3 = nI 0 := by decide
  have n40 : ¬ nI 4 = nI 0 := by decide
  have n50 : ¬ nI 5 = nI 0 := by decide
  have hce := ceN_ge hB (s := s) (by omega)
  have hcl := ceN_le hB (a := s) (by omega)
  have hcw : mCe r nB (g r (38 + lotN r x)) ≤ mWo r nB L x ↔ ¬ mWo r nB L x < g r (38 + lotN r x) := by
    rw [s3, hw, mCe_N hB (by omega)]
    simp only [nI_le' (show ceN r nB s < 2 ^ 31 by omega) (show flN r nB a < 2 ^ 31 by omega), nI_lt' (show flN r nB a < 2 ^ 31 by omega) (show s < 2 ^ 31 by omega)]
    rw [worth_ceil hB (by omega) (by omega)]
    omega
  unfold mRe mCo
  rw [hcw]
  by_cases c1 : g r (408 + x) = nI 1
  · rw [cif_t c1]
    exact ⟨fun z => absurd z n10, fun z => absurd (c1.symm.trans z.2.1) n10⟩
  · rw [cif_f c1]
    have c1' : g r (408 + x) = nI 0 := by
      have : v = 0 ∨ v = 1 := by omega
      rcases this with z | z
      · rw [v3, z]
      · exact absurd (by rw [v3, z]) c1
    by_cases c2 : mLa r x
    · rw [cif_t c2]
      exact ⟨fun z => absurd z n20, fun z => absurd c2 z.2.2.1⟩
    · rw [cif_f c2]
      by_cases c3 : g r (78 + lotN r x) = nI 1
      · rw [cif_t c3]
        exact ⟨fun z => absurd z n30, fun z => absurd (c3.symm.trans z.1) n10⟩
      · rw [cif_f c3]
        have c3' : g r (78 + lotN r x) = nI 0 := by
          have : w = 0 ∨ w = 1 := by omega
          rcases this with z | z
          · rw [w3, z]
          · exact absurd (by rw [w3, z]) c3
        by_cases c4 : mSv r Bu Fi x
        · rw [cif_t c4]
          exact ⟨fun z => absurd z n40, fun z => absurd c4 z.2.2.2.1⟩
        · rw [cif_f c4]
          by_cases c5 : mWo r nB L x < g r (38 + lotN r x)
          · rw [cif_t c5]
            exact ⟨fun z => absurd z n50, fun z => absurd c5 z.2.2.2.2⟩
          · rw [cif_f c5]
            exact ⟨fun _ => ⟨c3', c1', c2, c4, c5⟩, fun _ => rfl⟩
theorem cs_reason (hC : Cx A F r nB nl nb nx) (hW : LenW A) {x : Nat} (hx : x < nx) (hc : ∀ l, l < lotN r x → g (A 166) l = g Bu l ∧ (g Bu l = nI (byN r x) → ∃ f, f < nx ∧ g Fi l = nI f ∧ g (A 176) (l * 8) = nI f)) (hw : g (A 178) x = mWo r nB L x) : am_cl m_Sale_reasonAgainst [.ref 164, .int (nI x), .int (nI (lotN r x))] (heap A F P) = some (some (.int (mRe r nB L Bu Fi x)), heap A F P) := by
  classical
  have hla := cs_late (P := P) hC hx
  have hal := cs_alt (P := P) hC hW hx hc
  obtain ⟨hM, hB, ⟨n1, n2, n3, n4⟩, l1, hCL, hCM, hCX, hCS, hS0, hS1, hS2, hS3⟩ := id hC
  obtain ⟨c5, c7, c10, c12, c14, c16, c18, c21, c23, c25, c27, c29, c31, c33⟩ := LenS2 l1
  have hnl : nl ≤ 20 := hM.1.2.2.2.2.2.2.2.1
  have hnb : nb ≤ 8 := hM.1.2.2.2.2.2.2.2.2.1
  have hnx : nx ≤ 60 := hM.1.2.2.2.2.2.2.2.2.2
  have hnB : nB ≤ 8 := hM.1.2.2.2.2.2.2.1
  obtain ⟨w166, w168, w170, w172, w174, w176, w178, w180, w182⟩ := id hW
  have hlx := (hM.2.2 x hx).1.1
  have e31 := (hCX x hx).2.2.2.2.2.1
  have e16 := (hCL _ hlx).2.2.2.1
  have e12 := (hCL _ hlx).2.1
  unfold mRe
  rw [e_Sale_reasonAgainst 164 _ _ _ rfl]
  by_cases c1 : g r (408 + x) = nI 1
  · rw [cif_t c1]
    simp (maxSteps := 2000000) (disch := (first | omega | (simp (disch := omega) only [up_eq, up_ne, cpA_o, cpF_o, List.length_set] <;> omega) | fail)) only [ob_s, am_bi_s, am_bv_s, am_bl_s, ↓bif_d, lits, nI_addS, nI_mulS, nI_subS, nI_lt', nI_le', nI_eq', ↓rd_nI, ↓wrH, up_eq, up_ne, up_up, up_sw, List.set_set, g_seq, g_sne, Nat.reduceEqDiff, ↓reduceIte, List.length_set, Nat.add_sub_cancel_left, Nat.add_sub_cancel, ite_true, ite_false, if_true, if_false, not_true_eq_false, not_false_eq_true, Bool.and_true, Bool.true_and, true_or, or_true, false_or, or_false, and_true, true_and, and_false, false_and, Nat.not_lt_zero, hpRX, hpIX, hpFX, hpLX, hpSX, ↓rgX, ↓rpX, Nat.reduceLeDiff, Nat.reduceLT, Nat.reduceAdd, Nat.reduceMul, Nat.reduceSub, e31, c1]
  · rw [cif_f c1]
    by_cases c2 : mLa r x
    · rw [cif_t c2]
      simp (maxSteps := 2000000) (disch := (first | omega | (simp (disch := omega) only [up_eq, up_ne, cpA_o, cpF_o, List.length_set] <;> omega) | fail)) only [ob_s, am_bi_s, am_bv_s, am_bl_s, ↓bif_d, lits, nI_addS, nI_mulS, nI_subS, nI_lt', nI_le', nI_eq', ↓rd_nI, ↓wrH, up_eq, up_ne, up_up, up_sw, List.set_set, g_seq, g_sne, Nat.reduceEqDiff, ↓reduceIte, List.length_set, Nat.add_sub_cancel_left, Nat.add_sub_cancel, ite_true, ite_false, if_true, if_false, not_true_eq_false, not_false_eq_true, Bool.and_true, Bool.true_and, true_or, or_true, false_or, or_false, and_true, true_and, and_false, false_and, Nat.not_lt_zero, hpRX, hpIX, hpFX, hpLX, hpSX, ↓rgX, ↓rpX, Nat.reduceLeDiff, Nat.reduceLT, Nat.reduceAdd, Nat.reduceMul, Nat.reduceSub, e31, c1, hla, b01_0, c2]
    · rw [cif_f c2]
      by_cases c3 : g r (78 + lotN r x) = nI 1
      · rw [cif_t c3]
        simp (maxSteps := 2000000) (disch := (first | omega | (simp (disch := omega) only [up_eq, up_ne, cpA_o, cpF_o, List.length_set] <;> omega) | fail)) only [ob_s, am_bi_s, am_bv_s, am_bl_s, ↓bif_d, lits, nI_addS, nI_mulS, nI_subS, nI_lt', nI_le', nI_eq', ↓rd_nI, ↓wrH, up_eq, up_ne, up_up, up_sw, List.set_set, g_seq, g_sne, Nat.reduceEqDiff, ↓reduceIte, List.length_set, Nat.add_sub_cancel_left, Nat.add_sub_cancel, ite_true, ite_false, if_true, if_false, not_true_eq_false, not_false_eq_true, Bool.and_true, Bool.true_and, true_or, or_true, false_or, or_false, and_true, true_and, and_false, false_and, Nat.not_lt_zero, hpRX, hpIX, hpFX, hpLX, hpSX, ↓rgX, ↓rpX, Nat.reduceLeDiff, Nat.reduceLT, Nat.reduceAdd, Nat.reduceMul, Nat.reduceSub, e31, c1, hla, b01_0, c2, e16, c3]
      · rw [cif_f c3]
        by_cases c4 : mSv r Bu Fi x
        · rw [cif_t c4]
          simp (maxSteps := 2000000) (disch := (first | omega | (simp (disch := omega) only [up_eq, up_ne, cpA_o, cpF_o, List.length_set] <;> omega) | fail)) only [ob_s, am_bi_s, am_bv_s, am_bl_s, ↓bif_d, lits, nI_addS, nI_mulS, nI_subS, nI_lt', nI_le', nI_eq', ↓rd_nI, ↓wrH, up_eq, up_ne, up_up, up_sw, List.set_set, g_seq, g_sne, Nat.reduceEqDiff, ↓reduceIte, List.length_set, Nat.add_sub_cancel_left, Nat.add_sub_cancel, ite_true, ite_false, if_true, if_false, not_true_eq_false, not_false_eq_true, Bool.and_true, Bool.true_and, true_or, or_true, false_or, or_false, and_true, true_and, and_false, false_and, Nat.not_lt_zero, hpRX, hpIX, hpFX, hpLX, hpSX, ↓rgX, ↓rpX, Nat.reduceLeDiff, Nat.reduceLT, Nat.reduceAdd, Nat.reduceMul, Nat.reduceSub, e31, c1, hla, b01_0, c2, e16, c3, hal, c4]
        · rw [cif_f c4]
          by_cases c5 : mWo r nB L x < g r (38 + lotN r x)
          · rw [cif_t c5]
            have c6 : ¬ g r (38 + lotN r x) ≤ mWo r nB L x := Int32.not_le.mpr c5
            simp (maxSteps := 2000000) (disch := (first | omega | (simp (disch := omega) only [up_eq, up_ne, cpA_o, cpF_o, List.length_set] <;> omega) | fail)) only [ob_s, am_bi_s, am_bv_s, am_bl_s, ↓bif_d, lits, nI_addS, nI_mulS, nI_subS, nI_lt', nI_le', nI_eq', ↓rd_nI, ↓wrH, up_eq, up_ne, up_up, up_sw, List.set_set, g_seq, g_sne, Nat.reduceEqDiff, ↓reduceIte, List.length_set, Nat.add_sub_cancel_left, Nat.add_sub_cancel, ite_true, ite_false, if_true, if_false, not_true_eq_false, not_false_eq_true, Bool.and_true, Bool.true_and, true_or, or_true, false_or, or_false, and_true, true_and, and_false, false_and, Nat.not_lt_zero, hpRX, hpIX, hpFX, hpLX, hpSX, ↓rgX, ↓rpX, Nat.reduceLeDiff, Nat.reduceLT, Nat.reduceAdd, Nat.reduceMul, Nat.reduceSub, e31, c1, hla, b01_0, c2, e16, c3, hal, c4, hw, e12, c6]
          · rw [cif_f c5]
            have c6 : g r (38 + lotN r x) ≤ mWo r nB L x := Int32.not_lt.mp c5
            simp (maxSteps := 2000000) (disch := (first | omega | (simp (disch := omega) only [up_eq, up_ne, cpA_o, cpF_o, List.length_set] <;> omega) | fail)) only [ob_s, am_bi_s, am_bv_s, am_bl_s, ↓bif_d, lits, nI_addS, nI_mulS, nI_subS, nI_lt', nI_le', nI_eq', ↓rd_nI, ↓wrH, up_eq, up_ne, up_up, up_sw, List.set_set, g_seq, g_sne, Nat.reduceEqDiff, ↓reduceIte, List.length_set, Nat.add_sub_cancel_left, Nat.add_sub_cancel, ite_true, ite_false, if_true, if_false, not_true_eq_false, not_false_eq_true, Bool.and_true, Bool.true_and, true_or, or_true, false_or, or_false, and_true, true_and, and_false, false_and, Nat.not_lt_zero, hpRX, hpIX, hpFX, hpLX, hpSX, ↓rgX, ↓rpX, Nat.reduceLeDiff, Nat.reduceLT, Nat.reduceAdd, Nat.reduceMul, Nat.reduceSub, e31, c1, hla, b01_0, c2, e16, c3, hal, c4, hw, e12, c6]
theorem JI_step {A0 A' : Nat → List Int32} {k x : Nat} (hJ : JI r nB nb nx L Bu Fi k A0 A x) (hx : x < nx) (hx60 : nx ≤ 60) (hF : ∀ j, j ≠ 178 → j ≠ 180 → j ≠ 182 → A' j = A j) (hW' : LenW A') (hxk : lotN r x = k) (h178 : A' 178 = (A 178).set x (mWo r nB L x)) (hb' : ∀ b, b < nb → g (A' 182) b = mBs r nB L Bu Fi k b (x + 1)) (hfx : g (A' 180) x = mF0 r nB L Bu Fi x (x + 1)) (hfy : ∀ y, y < x → lotN r y = k → g (A' 180) y = mF0 r nB L Bu Fi y (x + 1)) (hfo : ∀ y, y < nx → lotN r y ≠ k → g (A' 180) y = g (A 180) y) : JI r nB nb nx L Bu Fi k A0 A' (x + 1) := by
  obtain ⟨j1, hW, j3, j4, j5⟩ := hJ
  obtain ⟨w166, w168, w170, w172, w174, w176, w178, w180, w182⟩ := id hW
  refine ⟨fun j z1 z2 z3 => (hF j z1 z2 z3).trans (j1 j z1 z2 z3), hW', hb', fun y hy hyk => ?_, fun y hy hyk => ?_⟩
  · rw [h178]
    by_cases c : y = x
    · subst c
      exact ⟨g_seq (by omega), hfx⟩
    · exact ⟨(g_sne (by omega) c).trans (j4 y (by omega) hyk).1, hfy y (by omega) hyk⟩
  · rw [h178, hfo y hy hyk]
    exact ⟨(g_sne (by omega) (fun z => hyk (by rw [z]; exact hxk))).trans (j5 y hy hyk).1, (j5 y hy hyk).2⟩
theorem cs_judge {A0 : Nat → List Int32} {k x : Nat} (hC0 : Cx A0 F r nB nl nb nx) (hS : SaI r nB nl nb nx L B Fi Se Mn Bu Pr nl) (hD : Dn nb nx A0 Fi Bu Pr k) (hJ : JI r nB nb nx L Bu Fi k A0 A x) (hx : x < nx) (hxk : lotN r x = k) : ∃ A', JI r nB nb nx L Bu Fi k A0 A' (x + 1) ∧ am_cl m_Sale_judge [.ref 164, .int (nI x), .int (nI k)] (heap A F P) = some (none, heap A' F P) := by
  classical
  subst hxk
  obtain ⟨j1, hW, j3, j4, j5⟩ := id hJ
  have hC : Cx A F r nB nl nb nx := Cx_c (fun j hj => j1 j (by omega) (by omega) (by omega)) (fun _ _ => rfl) hC0
  have hDA : ∀ l, l < lotN r x → g (A 166) l = g Bu l ∧ g (A 168) l = g Pr l ∧ (∀ b, b < nb → g Bu l = nI b → ∃ f, f < nx ∧ g Fi l = nI f ∧ g (A 176) (l * 8) = nI f) := by
    rw [j1 166 (by omega) (by omega) (by omega), j1 168 (by omega) (by omega) (by omega), j1 176 (by omega) (by omega) (by omega)]
    exact hD
  obtain ⟨hM, hB, ⟨n1, n2, n3, n4⟩, l1, hCL, hCM, hCX, hCS, hS0, hS1, hS2, hS3⟩ := id hC
  obtain ⟨c5, c7, c10, c12, c14, c16, c18, c21, c23, c25, c27, c29, c31, c33⟩ := LenS2 l1
  have hnl : nl ≤ 20 := hM.1.2.2.2.2.2.2.2.1
  have hnb : nb ≤ 8 := hM.1.2.2.2.2.2.2.2.2.1
  have hnx : nx ≤ 60 := hM.1.2.2.2.2.2.2.2.2.2
  have hnB : nB ≤ 8 := hM.1.2.2.2.2.2.2.1
  obtain ⟨w166, w168, w170, w172, w174, w176, w178, w180, w182⟩ := id hW
  obtain ⟨⟨x1, x2⟩, x3, x4⟩ := hM.2.2 x hx
  have hLr := SaI_left hC hS (lotN r x) (by omega) (byN r x) x3
  obtain ⟨p, q, a, p1, p2, q1, p3, q3, ea, hw, hwa⟩ := mWo_N hC hx hLr
  have ha1 : a ≤ 1000000 := by rw [ea]; split <;> omega
  have hl := cs_left (P := P) hC hW hS (k := lotN r x) (b := byN r x) (by omega) x3 (fun l hl => ⟨(hDA l hl).1, (hDA l hl).2.1⟩)
  have hmn : am_min (g r (228 + x)) (g L (8 * lotN r x + byN r x)) = nI a := by rw [p3, q3, am_min_N (by omega) (by omega), ea]
  have hfl : am_cl m_Steps_floor [.ref 3, .int (nI a)] (heap A F P) = some (some (.int (mWo r nB L x)), heap A F P) := by
    rw [hw]; exact s_Steps_floor hB c5 c7 n1 (by omega)
  have hre : am_cl m_Sale_reasonAgainst [.ref 164, .int (nI x), .int (nI (lotN r x))] (heap (up A 178 ((A 178).set x (mWo r nB L x))) F P) = some (some (.int (mRe r nB L Bu Fi x)), heap (up A 178 ((A 178).set x (mWo r nB L x))) F P) :=
    cs_reason (A := up A 178 ((A 178).set x (mWo r nB L x))) (Cx_c (fun j hj => up_ne _ _ (by omega)) (fun _ _ => rfl) hC) (by unfold LenW; simp (disch := (first | omega | (simp (disch := omega) only [up_eq, up_ne, cpA_o, List.length_set] <;> omega) | fail)) only [st_e, sf_e, Nat.reduceAdd, Nat.reduceMul, up_eq, up_ne, cpA_o, cpF_o, g_seq, g_sne, List.length_set]; exact hW) hx (by simp (disch := (first | omega | fail)) only [st_e, sf_e, Nat.reduceAdd, Nat.reduceMul, up_eq, up_ne, cpA_o, cpF_o]; exact fun l hl => ⟨(hDA l hl).1, (hDA l hl).2.2 _ x3⟩) (by rw [up_eq, g_seq (by omega)])
  have e21 := (hCX x hx).1
  have e25 := (hCX x hx).2.2.1
  have hR0 := mRe_0 (Bu := Bu) (Fi := Fi) hC hx hLr
  rw [e_Sale_judge 164 _ _ _ rfl]
  have lenJ : ∀ (W Fa Be : List Int32), W.length = 60 → Fa.length = 60 → Be.length = 8 → LenW (up (up (up A 178 W) 180 Fa) 182 Be) := by
    intro W Fa Be z1 z2 z3
    unfold LenW
    simp (disch := (first | omega | fail)) only [st_e, sf_e, Nat.reduceAdd, Nat.reduceMul, up_eq, up_ne, cpA_o, cpF_o]
    exact ⟨w166, w168, w170, w172, w174, w176, z1, z2, z3⟩
  have frJ : ∀ (W Fa Be : List Int32) (j : Nat), j ≠ 178 → j ≠ 180 → j ≠ 182 → up (up (up A 178 W) 180 Fa) 182 Be j = A j := by
    intro W Fa Be j z1 z2 z3
    rw [up_ne _ _ z3, up_ne _ _ z2, up_ne _ _ z1]
  have v178 : ∀ (W Fa Be : List Int32), up (up (up A 178 W) 180 Fa) 182 Be 178 = W := by intro W Fa Be; simp (disch := (first | omega | fail)) only [st_e, sf_e, Nat.reduceAdd, Nat.reduceMul, up_eq, up_ne, cpA_o, cpF_o]
  have v180 : ∀ (W Fa Be : List Int32), up (up (up A 178 W) 180 Fa) 182 Be 180 = Fa := by intro W Fa Be; simp (disch := (first | omega | fail)) only [st_e, sf_e, Nat.reduceAdd, Nat.reduceMul, up_eq, up_ne, cpA_o, cpF_o]
  have v182 : ∀ (W Fa Be : List Int32), up (up (up A 178 W) 180 Fa) 182 Be 182 = Be := by intro W Fa Be; simp (disch := (first | omega | fail)) only [st_e, sf_e, Nat.reduceAdd, Nat.reduceMul, up_eq, up_ne, cpA_o, cpF_o]
  by_cases c0 : mRe r nB L Bu Fi x = nI 0
  · obtain ⟨hz1, hz2⟩ := hR0.mp c0
    have hoth : ∀ b, ¬ b = byN r x → mBs r nB L Bu Fi (lotN r x) b (x + 1) = mBs r nB L Bu Fi (lotN r x) b x := fun b hb => mBs_no (fun z => hb z.2.2.1.symm)
    have hstep : mBs r nB L Bu Fi (lotN r x) (byN r x) (x + 1) = cif (mBs r nB L Bu Fi (lotN r x) (byN r x) x < nI 0 ∨ mWo r nB L (mBs r nB L Bu Fi (lotN r x) (byN r x) x).toNatClampNeg < mWo r nB L x) (nI x) (mBs r nB L Bu Fi (lotN r x) (byN r x) x) := by
      rw [mBs_s, cif_t ⟨hz1, rfl, rfl, hz2⟩]
    have e182 := j3 (byN r x) x3
    have eC := fun x1 x2 A F P => e_Sale_chooseBetween 164 x1 x2 (heap A F P) rfl
    have b36 := fun x1 x2 h => b_Sale_chooseBetween_36 164 x1 x2 h
    rcases mBs_spec r nB L Bu Fi (lotN r x) (byN r x) x with hv | ⟨z, hz, hv, -, hzl, hzb, hzc⟩
    · rw [hv] at e182
      have hnew : mBs r nB L Bu Fi (lotN r x) (byN r x) (x + 1) = nI x := by rw [hstep, hv, cif_t (Or.inl (by decide))]
      refine ⟨up (up (up A 178 ((A 178).set x (mWo r nB L x))) 180 ((A 180).set x (nI 0))) 182 ((A 182).set (byN r x) (nI x)), JI_step hJ hx hnx (frJ _ _ _) (lenJ _ _ _ (by rw [List.length_set]; exact w178) (by rw [List.length_set]; exact w180) (by rw [List.length_set]; exact w182)) rfl (v178 _ _ _) (fun b hb => ?_) ?_ (fun y hy hyk => ?_) (fun y hy hyk => ?_), ?_⟩
      · rw [v182]
        by_cases cb : b = byN r x
        · subst cb; rw [g_seq (by omega), hnew]
        · rw [g_sne (by omega) cb, j3 b hb, hoth b cb]
      · rw [v180, g_seq (by omega)]
        unfold mF0
        rw [cif_t c0, cif_t hnew]
      · rw [v180, g_sne (by omega) (by omega), (j4 y hy hyk).2]
        unfold mF0
        by_cases cy : mRe r nB L Bu Fi y = nI 0
        · rw [cif_t cy, cif_t cy, hyk]
          by_cases cb : byN r y = byN r x
          · rw [cb, hnew, hv, cif_f (fun z => nI_nm5 (by omega) z.symm), cif_f (nI_ne (by omega) (by omega) (by omega))]
          · rw [hoth _ cb]
        · rw [cif_f cy, cif_f cy]
      · rw [v180, g_sne (by omega) (fun z => hyk (by rw [z]))]
      · simp (maxSteps := 2000000) (disch := (first | omega | (simp (disch := omega) only [up_eq, up_ne, cpA_o, cpF_o, List.length_set] <;> omega) | fail)) only [ob_s, am_bi_s, am_bv_s, am_bl_s, ↓bif_d, lits, nI_addS, nI_mulS, nI_subS, nI_lt', nI_le', nI_eq', ↓rd_nI, ↓wrH, up_eq, up_ne, up_up, up_sw, List.set_set, g_seq, g_sne, Nat.reduceEqDiff, ↓reduceIte, List.length_set, Nat.add_sub_cancel_left, Nat.add_sub_cancel, ite_true, ite_false, if_true, if_false, not_true_eq_false, not_false_eq_true, Bool.and_true, Bool.true_and, true_or, or_true, false_or, or_false, and_true, true_and, and_false, false_and, Nat.not_lt_zero, hpRX, hpIX, hpFX, hpLX, hpSX, ↓rgX, ↓rpX, Nat.reduceLeDiff, Nat.reduceLT, Nat.reduceAdd, Nat.reduceMul, Nat.reduceSub, e21, e25, hl, hmn, hfl, hre, c0, e182, eC, b36]
    · have ez := (j4 z hz hzl).1
      have hz5 : ¬ nI z = -nI 5 := nI_nm5 (by omega)
      have hzx : ¬ z = x := by omega
      have hzr : mRe r nB L Bu Fi z = nI 0 := (mRe_0 hC (by omega) (by rw [hzl, hzb]; exact hLr)).mpr ⟨by rw [hzl]; exact hz1, hzc⟩
      rw [hv] at e182
      by_cases cw : mWo r nB L z < mWo r nB L x
      · have hnew : mBs r nB L Bu Fi (lotN r x) (byN r x) (x + 1) = nI x := by rw [hstep, hv, cif_t (Or.inr (by rw [nI_clamp (by omega)]; exact cw))]
        refine ⟨up (up (up A 178 ((A 178).set x (mWo r nB L x))) 180 (((A 180).set x (nI 0)).set z (nI 6))) 182 ((A 182).set (byN r x) (nI x)), JI_step hJ hx hnx (frJ _ _ _) (lenJ _ _ _ (by rw [List.length_set]; exact w178) (by rw [List.length_set, List.length_set]; exact w180) (by rw [List.length_set]; exact w182)) rfl (v178 _ _ _) (fun b hb => ?_) ?_ (fun y hy hyk => ?_) (fun y hy hyk => ?_), ?_⟩
        · rw [v182]
          by_cases cb : b = byN r x
          · subst cb; rw [g_seq (by omega), hnew]
          · rw [g_sne (by omega) cb, j3 b hb, hoth b cb]
        · rw [v180, g_sne (by rw [List.length_set]; omega) (by omega), g_seq (by omega)]
          unfold mF0
          rw [cif_t c0, cif_t hnew]
        · rw [v180]
          by_cases cyz : y = z
          · subst cyz
            rw [g_seq (by rw [List.length_set]; omega)]
            unfold mF0
            rw [cif_t hzr, hzl, hzb, hnew, cif_f (nI_ne (by omega) (by omega) (by omega))]
          · rw [g_sne (by rw [List.length_set]; omega) cyz, g_sne (by omega) (by omega), (j4 y hy hyk).2]
            unfold mF0
            by_cases cy : mRe r nB L Bu Fi y = nI 0
            · rw [cif_t cy, cif_t cy, hyk]
              by_cases cb : byN r y = byN r x
              · rw [cb, hnew, hv, cif_f (nI_ne (by omega) (by omega) (by omega)), cif_f (nI_ne (by omega) (by omega) (by omega))]
              · rw [hoth _ cb]
            · rw [cif_f cy, cif_f cy]
        · rw [v180, g_sne (by rw [List.length_set]; omega) (fun w => hyk (by rw [w]; exact hzl)), g_sne (by omega) (fun z => hyk (by rw [z]))]
        · simp (maxSteps := 2000000) (disch := (first | omega | (simp (disch := omega) only [up_eq, up_ne, cpA_o, cpF_o, List.length_set] <;> omega) | fail)) only [ob_s, am_bi_s, am_bv_s, am_bl_s, ↓bif_d, lits, nI_addS, nI_mulS, nI_subS, nI_lt', nI_le', nI_eq', ↓rd_nI, ↓wrH, up_eq, up_ne, up_up, up_sw, List.set_set, g_seq, g_sne, Nat.reduceEqDiff, ↓reduceIte, List.length_set, Nat.add_sub_cancel_left, Nat.add_sub_cancel, ite_true, ite_false, if_true, if_false, not_true_eq_false, not_false_eq_true, Bool.and_true, Bool.true_and, true_or, or_true, false_or, or_false, and_true, true_and, and_false, false_and, Nat.not_lt_zero, hpRX, hpIX, hpFX, hpLX, hpSX, ↓rgX, ↓rpX, Nat.reduceLeDiff, Nat.reduceLT, Nat.reduceAdd, Nat.reduceMul, Nat.reduceSub, e21, e25, hl, hmn, hfl, hre, c0, e182, eC, b36, hz5, ez, cw]
      · have hnew : mBs r nB L Bu Fi (lotN r x) (byN r x) (x + 1) = mBs r nB L Bu Fi (lotN r x) (byN r x) x := by
          rw [hstep, cif_f]
          rintro (w | w)
          · rw [hv] at w; exact nI_pos (by omega) w
          · rw [hv, nI_clamp (by omega)] at w; exact cw w
        have hall : ∀ b, mBs r nB L Bu Fi (lotN r x) b (x + 1) = mBs r nB L Bu Fi (lotN r x) b x := fun b => by
          by_cases cb : b = byN r x
          · rw [cb]; exact hnew
          · exact hoth b cb
        refine ⟨up (up (up A 178 ((A 178).set x (mWo r nB L x))) 180 ((A 180).set x (nI 6))) 182 (A 182), JI_step hJ hx hnx (frJ _ _ _) (lenJ _ _ _ (by rw [List.length_set]; exact w178) (by rw [List.length_set]; exact w180) w182) rfl (v178 _ _ _) (fun b hb => ?_) ?_ (fun y hy hyk => ?_) (fun y hy hyk => ?_), ?_⟩
        · rw [v182, hall]; exact j3 b hb
        · rw [v180, g_seq (by omega)]
          unfold mF0
          rw [cif_t c0, hall, hv, cif_f (nI_ne (by omega) (by omega) (by omega))]
        · rw [v180, g_sne (by omega) (by omega), (j4 y hy hyk).2]
          unfold mF0
          rw [hyk, hall]
        · rw [v180, g_sne (by omega) (fun z => hyk (by rw [z]))]
        · have e182' : up (up (up A 178 ((A 178).set x (mWo r nB L x))) 180 ((A 180).set x (nI 6))) 182 (A 182) = up (up A 178 ((A 178).set x (mWo r nB L x))) 180 ((A 180).set x (nI 6)) := by
            have := up_id (up (up A 178 ((A 178).set x (mWo r nB L x))) 180 ((A 180).set x (nI 6))) 182
            rw [up_ne _ _ (by omega), up_ne _ _ (by omega)] at this
            exact this
          rw [e182']
          simp (maxSteps := 2000000) (disch := (first | omega | (simp (disch := omega) only [up_eq, up_ne, cpA_o, cpF_o, List.length_set] <;> omega) | fail)) only [ob_s, am_bi_s, am_bv_s, am_bl_s, ↓bif_d, lits, nI_addS, nI_mulS, nI_subS, nI_lt', nI_le', nI_eq', ↓rd_nI, ↓wrH, up_eq, up_ne, up_up, up_sw, List.set_set, g_seq, g_sne, Nat.reduceEqDiff, ↓reduceIte, List.length_set, Nat.add_sub_cancel_left, Nat.add_sub_cancel, ite_true, ite_false, if_true, if_false, not_true_eq_false, not_false_eq_true, Bool.and_true, Bool.true_and, true_or, or_true, false_or, or_false, and_true, true_and, and_false, false_and, Nat.not_lt_zero, hpRX, hpIX, hpFX, hpLX, hpSX, ↓rgX, ↓rpX, Nat.reduceLeDiff, Nat.reduceLT, Nat.reduceAdd, Nat.reduceMul, Nat.reduceSub, e21, e25, hl, hmn, hfl, hre, c0, e182, eC, b36, hz5, ez, cw]
  · have hall : ∀ b, mBs r nB L Bu Fi (lotN r x) b (x + 1) = mBs r nB L Bu Fi (lotN r x) b x := fun b => mBs_no (fun z => c0 (hR0.mpr ⟨z.1, z.2.2.2⟩))
    refine ⟨up (up (up A 178 ((A 178).set x (mWo r nB L x))) 180 ((A 180).set x (mRe r nB L Bu Fi x))) 182 (A 182), JI_step hJ hx hnx (frJ _ _ _) (lenJ _ _ _ (by rw [List.length_set]; exact w178) (by rw [List.length_set]; exact w180) w182) rfl (v178 _ _ _) (fun b hb => ?_) ?_ (fun y hy hyk => ?_) (fun y hy hyk => ?_), ?_⟩
    · rw [v182, hall]; exact j3 b hb
    · rw [v180, g_seq (by omega)]
      unfold mF0
      rw [cif_f c0]
    · rw [v180, g_sne (by omega) (by omega), (j4 y hy hyk).2]
      unfold mF0
      rw [hyk, hall]
    · rw [v180, g_sne (by omega) (fun z => hyk (by rw [z]))]
    · have e182' : up (up (up A 178 ((A 178).set x (mWo r nB L x))) 180 ((A 180).set x (mRe r nB L Bu Fi x))) 182 (A 182) = up (up A 178 ((A 178).set x (mWo r nB L x))) 180 ((A 180).set x (mRe r nB L Bu Fi x)) := by
        have := up_id (up (up A 178 ((A 178).set x (mWo r nB L x))) 180 ((A 180).set x (mRe r nB L Bu Fi x))) 182
        rw [up_ne _ _ (by omega), up_ne _ _ (by omega)] at this
        exact this
      rw [e182']
      simp (maxSteps := 2000000) (disch := (first | omega | (simp (disch := omega) only [up_eq, up_ne, cpA_o, cpF_o, List.length_set] <;> omega) | fail)) only [ob_s, am_bi_s, am_bv_s, am_bl_s, ↓bif_d, lits, nI_addS, nI_mulS, nI_subS, nI_lt', nI_le', nI_eq', ↓rd_nI, ↓wrH, up_eq, up_ne, up_up, up_sw, List.set_set, g_seq, g_sne, Nat.reduceEqDiff, ↓reduceIte, List.length_set, Nat.add_sub_cancel_left, Nat.add_sub_cancel, ite_true, ite_false, if_true, if_false, not_true_eq_false, not_false_eq_true, Bool.and_true, Bool.true_and, true_or, or_true, false_or, or_false, and_true, true_and, and_false, false_and, Nat.not_lt_zero, hpRX, hpIX, hpFX, hpLX, hpSX, ↓rgX, ↓rpX, Nat.reduceLeDiff, Nat.reduceLT, Nat.reduceAdd, Nat.reduceMul, Nat.reduceSub, e21, e25, hl, hmn, hfl, hre, c0]
theorem lc_jb2 (hC : Cx A F r nB nl nb nx) {k : Nat} : ∀ n b (Be : List Int32), b + n = nb → Be.length = 8 → (∀ j, j < b → g Be j = -nI 5) → ∃ Be' : List Int32, Be'.length = 8 ∧ (∀ j, j < nb → g Be' j = -nI 5) ∧ am_ev m_Sale_judgeBids (2, [.ref 164, .int (nI k), .int (nI b)], [], heap (up A 182 Be) F P) = am_ev m_Sale_judgeBids (31, [.ref 164, .int (nI k), .int (nI 0)], [], heap (up A 182 Be') F P) := by
  obtain ⟨hM, hB, ⟨n1, n2, n3, n4⟩, l1, hCL, hCM, hCX, hCS, hS0, hS1, hS2, hS3⟩ := id hC
  obtain ⟨c5, c7, c10, c12, c14, c16, c18, c21, c23, c25, c27, c29, c31, c33⟩ := LenS2 l1
  have hnl : nl ≤ 20 := hM.1.2.2.2.2.2.2.2.1
  have hnb : nb ≤ 8 := hM.1.2.2.2.2.2.2.2.2.1
  have hnx : nx ≤ 60 := hM.1.2.2.2.2.2.2.2.2.2
  have hnB : nB ≤ 8 := hM.1.2.2.2.2.2.2.1
  intro n
  induction n with
  | zero =>
    intro b Be hb hBe hj
    have hle : nb ≤ b := by omega
    refine ⟨Be, hBe, fun j hj' => hj j (by omega), ?_⟩
    rw [b_Sale_judgeBids_2]
    simp (maxSteps := 2000000) (disch := (first | omega | (simp (disch := omega) only [up_eq, up_ne, cpA_o, cpF_o, List.length_set] <;> omega) | fail)) only [ob_s, am_bi_s, am_bv_s, am_bl_s, ↓bif_d, lits, nI_addS, nI_mulS, nI_subS, nI_lt', nI_le', nI_eq', ↓rd_nI, ↓wrH, up_eq, up_ne, up_up, up_sw, List.set_set, g_seq, g_sne, Nat.reduceEqDiff, ↓reduceIte, List.length_set, Nat.add_sub_cancel_left, Nat.add_sub_cancel, ite_true, ite_false, if_true, if_false, not_true_eq_false, not_false_eq_true, Bool.and_true, Bool.true_and, true_or, or_true, false_or, or_false, and_true, true_and, and_false, false_and, Nat.not_lt_zero, hpRX, hpIX, hpFX, hpLX, hpSX, ↓rgX, ↓rpX, Nat.reduceLeDiff, Nat.reduceLT, Nat.reduceAdd, Nat.reduceMul, Nat.reduceSub, n3, hle]
  | succ n ih =>
    intro b Be hb hBe hj
    have hle : ¬ nb ≤ b := by omega
    obtain ⟨Be', q1, q2, q3⟩ := ih (b + 1) (Be.set b (-nI 5)) (by omega) (by rw [List.length_set]; exact hBe) (fun j hj' => by
      by_cases c : j = b
      · subst c; exact g_seq (by omega)
      · rw [g_sne (by omega) c]; exact hj j (by omega))
    refine ⟨Be', q1, q2, ?_⟩
    rw [b_Sale_judgeBids_2]
    simp (maxSteps := 2000000) (disch := (first | omega | (simp (disch := omega) only [up_eq, up_ne, cpA_o, cpF_o, List.length_set] <;> omega) | fail)) only [ob_s, am_bi_s, am_bv_s, am_bl_s, ↓bif_d, lits, nI_addS, nI_mulS, nI_subS, nI_lt', nI_le', nI_eq', ↓rd_nI, ↓wrH, up_eq, up_ne, up_up, up_sw, List.set_set, g_seq, g_sne, Nat.reduceEqDiff, ↓reduceIte, List.length_set, Nat.add_sub_cancel_left, Nat.add_sub_cancel, ite_true, ite_false, if_true, if_false, not_true_eq_false, not_false_eq_true, Bool.and_true, Bool.true_and, true_or, or_true, false_or, or_false, and_true, true_and, and_false, false_and, Nat.not_lt_zero, hpRX, hpIX, hpFX, hpLX, hpSX, ↓rgX, ↓rpX, Nat.reduceLeDiff, Nat.reduceLT, Nat.reduceAdd, Nat.reduceMul, Nat.reduceSub, n3, hle, q3]
theorem lc_jb31 {A0 : Nat → List Int32} {k : Nat} (hC0 : Cx A0 F r nB nl nb nx) (hS : SaI r nB nl nb nx L B Fi Se Mn Bu Pr nl) (hk : k < nl) (hD : Dn nb nx A0 Fi Bu Pr k) : ∀ n x (A : Nat → List Int32), x + n = nx → JI r nB nb nx L Bu Fi k A0 A x → ∃ A', JI r nB nb nx L Bu Fi k A0 A' nx ∧ am_ev m_Sale_judgeBids (31, [.ref 164, .int (nI k), .int (nI x)], [], heap A F P) = some (none, heap A' F P) := by
  intro n
  induction n with
  | zero =>
    intro x A hx hJ
    have hC : Cx A F r nB nl nb nx := Cx_c (fun j hj => hJ.1 j (by omega) (by omega) (by omega)) (fun _ _ => rfl) hC0
    obtain ⟨hM, hB, ⟨n1, n2, n3, n4⟩, l1, hCL, hCM, hCX, hCS, hS0, hS1, hS2, hS3⟩ := id hC
    obtain ⟨c5, c7, c10, c12, c14, c16, c18, c21, c23, c25, c27, c29, c31, c33⟩ := LenS2 l1
    have hnl : nl ≤ 20 := hM.1.2.2.2.2.2.2.2.1
    have hnb : nb ≤ 8 := hM.1.2.2.2.2.2.2.2.2.1
    have hnx : nx ≤ 60 := hM.1.2.2.2.2.2.2.2.2.2
    have hnB : nB ≤ 8 := hM.1.2.2.2.2.2.2.1
    have e : x = nx := by omega
    subst e
    have hle : x ≤ x := Nat.le_refl _
    refine ⟨A, hJ, ?_⟩
    rw [b_Sale_judgeBids_31]
    simp (maxSteps := 2000000) (disch := (first | omega | (simp (disch := omega) only [up_eq, up_ne, cpA_o, cpF_o, List.length_set] <;> omega) | fail)) only [ob_s, am_bi_s, am_bv_s, am_bl_s, ↓bif_d, lits, nI_addS, nI_mulS, nI_subS, nI_lt', nI_le', nI_eq', ↓rd_nI, ↓wrH, up_eq, up_ne, up_up, up_sw, List.set_set, g_seq, g_sne, Nat.reduceEqDiff, ↓reduceIte, List.length_set, Nat.add_sub_cancel_left, Nat.add_sub_cancel, ite_true, ite_false, if_true, if_false, not_true_eq_false, not_false_eq_true, Bool.and_true, Bool.true_and, true_or, or_true, false_or, or_false, and_true, true_and, and_false, false_and, Nat.not_lt_zero, hpRX, hpIX, hpFX, hpLX, hpSX, ↓rgX, ↓rpX, Nat.reduceLeDiff, Nat.reduceLT, Nat.reduceAdd, Nat.reduceMul, Nat.reduceSub, n4, hle]
  | succ n ih =>
    intro x A hx hJ
    have hC : Cx A F r nB nl nb nx := Cx_c (fun j hj => hJ.1 j (by omega) (by omega) (by omega)) (fun _ _ => rfl) hC0
    obtain ⟨hM, hB, ⟨n1, n2, n3, n4⟩, l1, hCL, hCM, hCX, hCS, hS0, hS1, hS2, hS3⟩ := id hC
    obtain ⟨c5, c7, c10, c12, c14, c16, c18, c21, c23, c25, c27, c29, c31, c33⟩ := LenS2 l1
    have hnl : nl ≤ 20 := hM.1.2.2.2.2.2.2.2.1
    have hnb : nb ≤ 8 := hM.1.2.2.2.2.2.2.2.2.1
    have hnx : nx ≤ 60 := hM.1.2.2.2.2.2.2.2.2.2
    have hnB : nB ≤ 8 := hM.1.2.2.2.2.2.2.1
    have hxx : x < nx := by omega
    have hle : ¬ nx ≤ x := by omega
    have e23 := (hCX x hxx).2.1
    have hlx := (hM.2.2 x hxx).1.1
    by_cases c : lotN r x = k
    · obtain ⟨A1, hJ1, h1⟩ := cs_judge (P := P) hC0 hS hD hJ hxx c
      obtain ⟨A', hJ', h2⟩ := ih (x + 1) A1 (by omega) hJ1
      refine ⟨A', hJ', ?_⟩
      rw [b_Sale_judgeBids_31]
      simp (maxSteps := 2000000) (disch := (first | omega | (simp (disch := omega) only [up_eq, up_ne, cpA_o, cpF_o, List.length_set] <;> omega) | fail)) only [ob_s, am_bi_s, am_bv_s, am_bl_s, ↓bif_d, lits, nI_addS, nI_mulS, nI_subS, nI_lt', nI_le', nI_eq', ↓rd_nI, ↓wrH, up_eq, up_ne, up_up, up_sw, List.set_set, g_seq, g_sne, Nat.reduceEqDiff, ↓reduceIte, List.length_set, Nat.add_sub_cancel_left, Nat.add_sub_cancel, ite_true, ite_false, if_true, if_false, not_true_eq_false, not_false_eq_true, Bool.and_true, Bool.true_and, true_or, or_true, false_or, or_false, and_true, true_and, and_false, false_and, Nat.not_lt_zero, hpRX, hpIX, hpFX, hpLX, hpSX, ↓rgX, ↓rpX, Nat.reduceLeDiff, Nat.reduceLT, Nat.reduceAdd, Nat.reduceMul, Nat.reduceSub, n4, hle, e23, c, h1, h2]
    · have hJ1 : JI r nB nb nx L Bu Fi k A0 A (x + 1) := by
        obtain ⟨j1, hW, j3, j4, j5⟩ := hJ
        have hn : ∀ l b, l = k → mBs r nB L Bu Fi l b (x + 1) = mBs r nB L Bu Fi l b x := fun l b hl => mBs_no (fun z => c (by rw [← hl]; exact z.2.1))
        refine ⟨j1, hW, fun b hb => by rw [hn k b rfl]; exact j3 b hb, fun y hy hyk => ?_, j5⟩
        have hyx : y < x := by
          rcases Nat.lt_or_ge y x with z | z
          · exact z
          · have : y = x := by omega
            exact absurd (by rw [← this]; exact hyk) c
        refine ⟨(j4 y hyx hyk).1, (j4 y hyx hyk).2.trans ?_⟩
        unfold mF0
        rw [hn _ _ hyk]
      obtain ⟨A', hJ', h2⟩ := ih (x + 1) A (by omega) hJ1
      refine ⟨A', hJ', ?_⟩
      rw [b_Sale_judgeBids_31]
      simp (maxSteps := 2000000) (disch := (first | omega | (simp (disch := omega) only [up_eq, up_ne, cpA_o, cpF_o, List.length_set] <;> omega) | fail)) only [ob_s, am_bi_s, am_bv_s, am_bl_s, ↓bif_d, lits, nI_addS, nI_mulS, nI_subS, nI_lt', nI_le', nI_eq', ↓rd_nI, ↓wrH, up_eq, up_ne, up_up, up_sw, List.set_set, g_seq, g_sne, Nat.reduceEqDiff, ↓reduceIte, List.length_set, Nat.add_sub_cancel_left, Nat.add_sub_cancel, ite_true, ite_false, if_true, if_false, not_true_eq_false, not_false_eq_true, Bool.and_true, Bool.true_and, true_or, or_true, false_or, or_false, and_true, true_and, and_false, false_and, Nat.not_lt_zero, hpRX, hpIX, hpFX, hpLX, hpSX, ↓rgX, ↓rpX, Nat.reduceLeDiff, Nat.reduceLT, Nat.reduceAdd, Nat.reduceMul, Nat.reduceSub, n4, hle, e23, c, h2]
theorem cs_judgeBids {k : Nat} (hC : Cx A F r nB nl nb nx) (hW : LenW A) (hS : SaI r nB nl nb nx L B Fi Se Mn Bu Pr nl) (hk : k < nl) (hD : Dn nb nx A Fi Bu Pr k) : ∃ A', JI r nB nb nx L Bu Fi k A A' nx ∧ am_cl m_Sale_judgeBids [.ref 164, .int (nI k)] (heap A F P) = some (none, heap A' F P) := by
  obtain ⟨w166, w168, w170, w172, w174, w176, w178, w180, w182⟩ := id hW
  obtain ⟨Be', q1, q2, q3⟩ := lc_jb2 (P := P) (k := k) hC nb 0 (A 182) (by omega) w182 (fun j hj => by omega)
  rw [up_id] at q3
  have hJ0 : JI r nB nb nx L Bu Fi k A (up A 182 Be') 0 := by
    refine ⟨fun j z1 z2 z3 => up_ne _ _ z3, by unfold LenW; simp (disch := (first | omega | fail)) only [st_e, sf_e, Nat.reduceAdd, Nat.reduceMul, up_eq, up_ne, cpA_o, cpF_o]; exact ⟨w166, w168, w170, w172, w174, w176, w178, w180, q1⟩, fun b hb => by rw [up_eq]; exact q2 b hb, fun y hy => absurd hy (Nat.not_lt_zero _), fun y hy hyk => by simp (disch := (first | omega | fail)) only [st_e, sf_e, Nat.reduceAdd, Nat.reduceMul, up_eq, up_ne, cpA_o, cpF_o]; exact ⟨trivial, trivial⟩⟩
  obtain ⟨A', hJ', h2⟩ := lc_jb31 (P := P) hC hS hk hD nx 0 (up A 182 Be') (by omega) hJ0
  refine ⟨A', hJ', ?_⟩
  rw [e_Sale_judgeBids 164 _ _ rfl]
  simp only [lits]
  rw [q3, h2]
end X
