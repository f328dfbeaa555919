/-! THE CLASS'S SALE IS HELD -/
section U
variable {r : List Int32} {nB nl nb nx : Nat} {L B Fi Se Mn Bu Pr L' B' Fi' Se' Mn' Bu' Pr' : List Int32}
/-- the reference's arrays are determined on the places that count -/
theorem SaI_u (hM : Mwf r nB nl nb nx) (h : SaI r nB nl nb nx L B Fi Se Mn Bu Pr nl) (h' : SaI r nB nl nb nx L' B' Fi' Se' Mn' Bu' Pr' nl) : ∀ k, k ≤ nl → (∀ l, l ≤ k → ∀ b, b < nb → g L' (8 * l + b) = g L (8 * l + b)) ∧ (∀ l, l < k → (∀ b, b < 8 → g B' (8 * l + b) = g B (8 * l + b)) ∧ g Fi' l = g Fi l ∧ g Se' l = g Se l ∧ g Mn' l = g Mn l ∧ g Bu' l = g Bu l ∧ g Pr' l = g Pr l) := by
  have hnx : nx ≤ 60 := hM.1.2.2.2.2.2.2.2.2.2
  have hby : ∀ x, x < nx → byN r x < nb := fun x hx => (hM.2.2 x hx).2.1
  obtain ⟨s1, s2, s3, s4, s5, s6, s7, s8⟩ := h
  obtain ⟨t1, t2, t3, t4, t5, t6, t7, t8⟩ := h'
  intro k
  induction k with
  | zero =>
    intro _
    refine ⟨fun l hl b hb => ?_, fun l hl => absurd hl (Nat.not_lt_zero _)⟩
    have : l = 0 := by omega
    subst this
    rw [Nat.mul_zero, Nat.zero_add, s1 b hb, t1 b hb]
  | succ k ih =>
    intro hk
    obtain ⟨i1, i2⟩ := ih (by omega)
    have oL := i1 k (Nat.le_refl _)
    have hB : ∀ b, b < 8 → g B' (8 * k + b) = g B (8 * k + b) := fun b hb => by
      rw [s3 k (by omega) b hb, t3 k (by omega) b hb]
      exact mBs_c hnx hby oL (fun j hj => (i2 j hj).2.2.2.2.1) (fun j hj => (i2 j hj).2.1) b nx (Nat.le_refl _)
    have hOB : ∀ b, b < 8 → isL r nb nx k (g B (8 * k + b)) := fun b hb => by rw [s3 k (by omega) b hb]; exact mBs_isL hM _ _ _ _ _
    have hFi : g Fi' k = g Fi k := by rw [s4 k (by omega), t4 k (by omega)]; exact mRk_c hnx oL hB hOB _ 8 0 (by omega)
    have hSe : g Se' k = g Se k := by rw [s5 k (by omega), t5 k (by omega)]; exact mRk_c hnx oL hB hOB _ 8 0 (by omega)
    have hMn : g Mn' k = g Mn k := by rw [s6 k (by omega), t6 k (by omega), mMn_c hB 8 0 (by omega)]
    have hFiL : isL r nb nx k (g Fi k) := by rw [s4 k (by omega)]; exact mRk_isL hOB 8 0 (by omega)
    have hSeL : isL r nb nx k (g Se k) := by rw [s5 k (by omega)]; exact mRk_isL hOB 8 0 (by omega)
    have hsd := propext (mSold_c (nB := nB) hnx oL hFiL)
    have hBu : g Bu' k = g Bu k := by rw [s7 k (by omega), t7 k (by omega), hFi, hsd]
    have hPr : g Pr' k = g Pr k := by
      rw [s8 k (by omega), t8 k (by omega), hFi, hSe, hsd]
      by_cases c : mSold r nB L k (g Fi k)
      · rw [cif_t c, cif_t c, mPr_c hnx oL hFiL c.1 hSeL]
      · rw [cif_f c, cif_f c]
    refine ⟨fun l hl b hb => ?_, fun l hl => ?_⟩
    · rcases Nat.lt_or_ge l (k + 1) with z | z
      · exact i1 l (by omega) b hb
      · have : l = k + 1 := by omega
        subst this
        rw [s2 k (by omega) b hb, t2 k (by omega) b hb, oL b hb, hBu, hPr]
    · rcases Nat.lt_or_ge l k with z | z
      · exact i2 l z
      · have : l = k := by omega
        subst this
        exact ⟨hB, hFi, hSe, hMn, hBu, hPr⟩
theorem ClS_u {A : Nat → List Int32} (hM : Mwf r nB nl nb nx) (h : SaI r nB nl nb nx L B Fi Se Mn Bu Pr nl) (h' : SaI r nB nl nb nx L' B' Fi' Se' Mn' Bu' Pr' nl) (hc : ClS A r nB nl nx L B Fi Se Mn Bu Pr nl) : ClS A r nB nl nx L' B' Fi' Se' Mn' Bu' Pr' nl := by
  have hnx : nx ≤ 60 := hM.1.2.2.2.2.2.2.2.2.2
  have hnb : nb ≤ 8 := hM.1.2.2.2.2.2.2.2.2.1
  obtain ⟨u1, u2⟩ := SaI_u hM h h' nl (Nat.le_refl _)
  have hOB : ∀ l, l < nl → ∀ b, b < 8 → isL r nb nx l (g B (8 * l + b)) := fun l hl b hb => by rw [h.2.2.1 l hl b hb]; exact mBs_isL hM _ _ _ _ _
  obtain ⟨c1, c2⟩ := hc
  refine ⟨fun l hl => ?_, fun x hx hxl => ?_⟩
  · obtain ⟨d1, d2, d3, d4, d5, d6⟩ := c1 l hl
    obtain ⟨e1, e2, e3, e4, e5, e6⟩ := u2 l hl
    refine ⟨d1.trans e5.symm, d2.trans e6.symm, ?_, d4.trans e4.symm, d5, fun p hp hp8 => ?_⟩
    · rw [d3]
      unfold mSt
      rw [e5, e4]
    · rw [e4] at hp
      rw [d6 p hp hp8]
      exact (mRk_c hnx (u1 l (by omega)) e1 (hOB l hl) _ 8 0 (by omega)).symm
  · obtain ⟨d1, d2⟩ := c2 x hx hxl
    obtain ⟨e1, e2, e3, e4, e5, e6⟩ := u2 _ hxl
    have hxb := (hM.2.2 x hx).2.1
    have eL := u1 (lotN r x) (by omega) _ hxb
    have w1 : ∀ l, l < lotN r x → g Bu' l = g Bu l := fun l hl => (u2 l (by omega)).2.2.2.2.1
    have w2 : ∀ l, l < lotN r x → g Fi' l = g Fi l := fun l hl => (u2 l (by omega)).2.1
    refine ⟨d1.trans (mWo_c eL).symm, ?_⟩
    rw [d2]
    unfold mFa
    rw [propext (mSv_c w1 w2), propext (mCo_c eL w1 w2), e1 _ (by omega), e2, e5]
end U
section X
variable {A : Nat → List Int32} {F : Nat → Int32} {P : Nat → Nat} {r : List Int32} {nB nl nb nx : Nat} {L B Fi Se Mn Bu Pr : List Int32}
theorem cs_ask {k : Nat} (hC : Cx A F r nB nl nb nx) (hk : k < nl) : am_cl m_State_askingPrice [.ref 2, .int (nI k)] (heap A F P) = some (some (.int (mAs r nB k)), heap A F P) := by
  obtain ⟨hM, hB, ⟨n1, n2, n3, n4⟩, l1, hCL, hCM, hCX, hCS, hS0, hS1, hS2, hS3⟩ := id hC
  obtain ⟨c5, c7, c10, c12, c14, c16, c18, c21, c23, c25, c27, c29, c31, c33⟩ := LenS2 l1
  have hnl : nl ≤ 20 := hM.1.2.2.2.2.2.2.2.1
  have hnb : nb ≤ 8 := hM.1.2.2.2.2.2.2.2.2.1
  have hnx : nx ≤ 60 := hM.1.2.2.2.2.2.2.2.2.2
  have hnB : nB ≤ 8 := hM.1.2.2.2.2.2.2.1
  obtain ⟨s, e, s1, e1, s2, e2, ha, ha2⟩ := mAs_N hC hk
  have e12 := (hCL k hk).2.1
  have e14 := (hCL k hk).2.2.1
  rw [s2] at e12
  rw [e2] at e14
  have hm : am_max (nI s) (nI e) = nI (if s < e then e else s) := am_max_N (by omega) (by omega)
  have hle : (if s < e then e else s) ≤ 1000000 := by split <;> omega
  generalize hv : (if s < e then e else s) = v at *
  have hce := s_Steps_ceiling (F := F) (P := P) hB c5 c7 n1 (a := v) (by omega)
  rw [← ha] at hce
  rw [e_State_askingPrice 2 _ _ rfl]
  simp (maxSteps := 2000000) (disch := (first | omega | (simp (disch := omega) only [up_eq, up_ne, cpA_o, cpF_o, List.length_set] <;> omega) | fail)) only [ob_s, am_bi_s, am_bv_s, am_bl_s, ↓bif_d, lits, nI_addS, nI_mulS, nI_subS, nI_lt', nI_le', nI_eq', ↓rd_nI, ↓wrH, up_eq, up_ne, up_up, up_sw, List.set_set, g_seq, g_sne, Nat.reduceEqDiff, ↓reduceIte, List.length_set, Nat.add_sub_cancel_left, Nat.add_sub_cancel, ite_true, ite_false, if_true, if_false, not_true_eq_false, not_false_eq_true, Bool.and_true, Bool.true_and, true_or, or_true, false_or, or_false, and_true, true_and, and_false, false_and, Nat.not_lt_zero, hpRX, hpIX, hpFX, hpLX, hpSX, ↓rgX, ↓rpX, Nat.reduceLeDiff, Nat.reduceLT, Nat.reduceAdd, Nat.reduceMul, Nat.reduceSub, e12, e14, hm, hce]
theorem Dn_of {k : Nat} (hC : Cx A F r nB nl nb nx) (hS : SaI r nB nl nb nx L B Fi Se Mn Bu Pr nl) (hk : k ≤ nl) (hK : ClS A r nB nl nx L B Fi Se Mn Bu Pr k) : Dn nb nx A Fi Bu Pr k := by
  obtain ⟨hM, hB, ⟨n1, n2, n3, n4⟩, l1, hCL, hCM, hCX, hCS, hS0, hS1, hS2, hS3⟩ := id hC
  obtain ⟨c5, c7, c10, c12, c14, c16, c18, c21, c23, c25, c27, c29, c31, c33⟩ := LenS2 l1
  have hnl : nl ≤ 20 := hM.1.2.2.2.2.2.2.2.1
  have hnb : nb ≤ 8 := hM.1.2.2.2.2.2.2.2.2.1
  have hnx : nx ≤ 60 := hM.1.2.2.2.2.2.2.2.2.2
  have hnB : nB ≤ 8 := hM.1.2.2.2.2.2.2.1
  obtain ⟨s1, s2, s3, s4, s5, s6, s7, s8⟩ := hS
  intro l hl
  obtain ⟨d1, d2, d3, d4, d5, d6⟩ := hK.1 l hl
  refine ⟨d1, d2, fun b hb hbu => ?_⟩
  have hOB : ∀ b, b < 8 → isL r nb nx l (g B (8 * l + b)) := fun b hb => by rw [s3 l (by omega) b hb]; exact mBs_isL hM _ _ _ _ _
  have h5 : (-nI 5 : Int32) < nI 0 := by decide
  by_cases c : mSold r nB L l (g Fi l)
  · have hFiL : isL r nb nx l (g Fi l) := by rw [s4 l (by omega)]; exact mRk_isL hOB 8 0 (by omega)
    rcases hFiL with z | ⟨f, f1, f2, f3, f4⟩
    · exact absurd (by rw [z]; exact h5) c.1
    · have hm : 0 < mMn B l 8 0 := by
        rcases Nat.eq_zero_or_pos (mMn B l 8 0) with z | z
        · have e := mRk_far (r := r) (nB := nB) (L := L) (B := B) (l := l) (p := nI 0) hnx (fun b hb => (hOB b hb).isB) (fun j hj => by omega)
          rw [← s4 l (by omega), f2] at e
          exact absurd e (nI_nm5 (by omega))
        · exact z
      have hm8 := mMn_le8 (B := B) (l := l)
      have e := d6 0 (by rw [s6 l (by omega), nI_lt' (by omega) (by omega)]; exact hm) (by omega)
      refine ⟨f, f1, f2, ?_⟩
      rw [Nat.mul_comm l 8, ← f2, s4 l (by omega)]
      exact e
  · rw [s7 l (by omega), cif_f c] at hbu
    rw [hbu] at h5
    exact absurd h5 (nI_pos (by omega))
theorem cs_lot {k : Nat} (hC : Cx A F r nB nl nb nx) (hW : LenW A) (hS : SaI r nB nl nb nx L B Fi Se Mn Bu Pr nl) (hk : k < nl) (hK : ClS A r nB nl nx L B Fi Se Mn Bu Pr k) : ∃ A' : Nat → List Int32, (∀ j, (j < 166 ∨ 182 < j) → A' j = A j) ∧ LenW A' ∧ ClS A' r nB nl nx L B Fi Se Mn Bu Pr (k + 1) ∧ am_ev m_Sale_hold (10, [.ref 164, .int (nI k)], [], heap A F P) = am_ev m_Sale_hold (10, [.ref 164, .int (nI (k + 1))], [], heap A' F P) := by
  have hask := cs_ask (P := P) hC hk
  have hD := Dn_of hC hS (by omega) hK
  obtain ⟨hM, hB, ⟨n1, n2, n3, n4⟩, l1, hCL, hCM, hCX, hCS, hS0, hS1, hS2, hS3⟩ := id hC
  obtain ⟨c5, c7, c10, c12, c14, c16, c18, c21, c23, c25, c27, c29, c31, c33⟩ := LenS2 l1
  have hnl : nl ≤ 20 := hM.1.2.2.2.2.2.2.2.1
  have hnb : nb ≤ 8 := hM.1.2.2.2.2.2.2.2.2.1
  have hnx : nx ≤ 60 := hM.1.2.2.2.2.2.2.2.2.2
  have hnB : nB ≤ 8 := hM.1.2.2.2.2.2.2.1
  obtain ⟨w166, w168, w170, w172, w174, w176, w178, w180, w182⟩ := id hW
  obtain ⟨s1, s2, s3, s4, s5, s6, s7, s8⟩ := id hS
  have hOB : ∀ b, b < 8 → isL r nb nx k (g B (8 * k + b)) := fun b hb => by rw [s3 k hk b hb]; exact mBs_isL hM _ _ _ _ _
  -- asked
  have hC1 : Cx (up A 174 ((A 174).set k (mAs r nB k))) F r nB nl nb nx := Cx_c (fun j hj => up_ne _ _ (by omega)) (fun _ _ => rfl) hC
  have hW1 : LenW (up A 174 ((A 174).set k (mAs r nB k))) := by unfold LenW; simp (disch := (first | omega | (simp (disch := omega) only [up_eq, up_ne, cpA_o, List.length_set] <;> omega) | fail)) only [st_e, sf_e, Nat.reduceAdd, Nat.reduceMul, up_eq, up_ne, cpA_o, cpF_o, g_seq, g_sne, List.length_set]; exact hW
  have hD1 : Dn nb nx (up A 174 ((A 174).set k (mAs r nB k))) Fi Bu Pr k := by unfold Dn; simp (disch := (first | omega | fail)) only [st_e, sf_e, Nat.reduceAdd, Nat.reduceMul, up_eq, up_ne, cpA_o, cpF_o]; exact hD
  -- judged
  obtain ⟨A2, hJ, hj⟩ := cs_judgeBids (P := P) hC1 hW1 hS hk hD1
  obtain ⟨j1, hW2, j3, j4, j5⟩ := id hJ
  have hC2 : Cx A2 F r nB nl nb nx := Cx_c (fun j hj => j1 j (by omega) (by omega) (by omega)) (fun _ _ => rfl) hC1
  -- in order
  obtain ⟨A3, O, hO, ho⟩ := cs_orderBids (P := P) (L := L) hC2 hW2 hk (fun b hb => by
    rw [j3 b hb]
    rcases mBs_spec r nB L Bu Fi k b nx with z | ⟨y, y1, y2, y3, y4, y5, y6⟩
    · exact Or.inl z
    · exact Or.inr ⟨y, y1, y2, y5, (j4 y y1 y4).1⟩)
  obtain ⟨o1, hW3, o3, o4, o5, o6, o7, o8⟩ := id hO
  have hC3 : Cx A3 F r nB nl nb nx := Cx_c (fun j hj => o1 j (by omega) (by omega)) (fun _ _ => rfl) hC2
  have hbl : bl (fun j => g (A2 182) j) nb = bl (fun j => g B (8 * k + j)) 8 := by
    have e1 : bl (fun j => g (A2 182) j) nb = bl (fun j => g B (8 * k + j)) nb := bl_c nb (fun j hj => by
      show g (A2 182) j = g B (8 * k + j)
      rw [j3 j hj, s3 k hk j (by omega)])
    have e2 := bl_ext (f := fun j => g B (8 * k + j)) (m := nb) (8 - nb) (fun j z1 z2 => by
      show g B (8 * k + j) < nI 0
      rw [s3 k hk j (by omega)]
      rcases mBs_spec r nB L Bu Fi k j nx with z | ⟨y, y1, y2, y3, y4, y5, y6⟩
      · rw [z]; decide
      · have := (hM.2.2 y y1).2.1
        omega)
    have e3 : nb + (8 - nb) = 8 := by omega
    rw [e3] at e2
    rw [e1, e2]
  have hOp : O.Perm (bl (fun j => g B (8 * k + j)) 8) := by rw [← hbl]; exact o3
  have hO8 : O.length ≤ 8 := by rw [hOp.length_eq]; exact bl_le _ 8
  have hmn : mMn B k 8 0 = O.length := by rw [mMn_bl, hOp.length_eq]
  have e178 : A3 178 = A2 178 := o1 178 (by omega) (by omega)
  have e180 : A3 180 = A2 180 := o1 180 (by omega) (by omega)
  have e174 : A3 174 = (A 174).set k (mAs r nB k) := by rw [o1 174 (by omega) (by omega), j1 174 (by omega) (by omega) (by omega), up_eq]
  have low : ∀ j, j ≠ 172 → j ≠ 174 → j ≠ 176 → j ≠ 178 → j ≠ 180 → j ≠ 182 → A3 j = A j := fun j z1 z2 z3 z4 z5 z6 => by
    rw [o1 j z1 z3, j1 j z4 z5 z6, up_ne _ _ z2]
  have e172 : A2 172 = A 172 := by rw [j1 172 (by omega) (by omega) (by omega), up_ne _ _ (by omega)]
  have e176 : A2 176 = A 176 := by rw [j1 176 (by omega) (by omega) (by omega), up_ne _ _ (by omega)]
  -- sold
  obtain ⟨Fa', q1, q2, q3, hs⟩ := cs_sell (P := P) hC3 hW3 hS hk hOp o4 o5 o6 (by rw [e174, g_seq (by omega)]) (fun y hy hyk => by rw [e178]; exact (j4 y hy hyk).1) (fun y hy hyk => by rw [e180]; exact (j4 y hy hyk).2)
  have v166 : (A3 166).length = 20 := hW3.1
  have v168 : (A3 168).length = 20 := hW3.2.1
  have v170 : (A3 170).length = 20 := hW3.2.2.1
  have f166 : A3 166 = A 166 := low 166 (by omega) (by omega) (by omega) (by omega) (by omega) (by omega)
  have f168 : A3 168 = A 168 := low 168 (by omega) (by omega) (by omega) (by omega) (by omega) (by omega)
  have f170 : A3 170 = A 170 := low 170 (by omega) (by omega) (by omega) (by omega) (by omega) (by omega)
  refine ⟨up (up (up (up A3 166 ((A3 166).set k (g Bu k))) 168 ((A3 168).set k (g Pr k))) 170 ((A3 170).set k (mSt r Mn Bu k))) 180 Fa', fun j hj => ?_, ?_, ⟨fun l hl => ?_, fun x hx hxl => ?_⟩, ?_⟩
  · rw [up_ne _ _ (by omega), up_ne _ _ (by omega), up_ne _ _ (by omega), up_ne _ _ (by omega)]
    exact low j (by omega) (by omega) (by omega) (by omega) (by omega) (by omega)
  · obtain ⟨z166, z168, z170, z172, z174, z176, z178, z180, z182⟩ := hW3
    unfold LenW
    simp (disch := (first | omega | (simp (disch := omega) only [up_eq, up_ne, cpA_o, List.length_set] <;> omega) | fail)) only [st_e, sf_e, Nat.reduceAdd, Nat.reduceMul, up_eq, up_ne, cpA_o, cpF_o, g_seq, g_sne, List.length_set]
    exact ⟨z166, z168, z170, z172, z174, z176, z178, q1, z182⟩
  · simp (disch := (first | omega | fail)) only [st_e, sf_e, Nat.reduceAdd, Nat.reduceMul, up_eq, up_ne, cpA_o, cpF_o]
    by_cases c : l = k
    · subst c
      refine ⟨g_seq (by omega), g_seq (by omega), g_seq (by omega), by rw [o5, s6 l hk, hmn], by rw [e174, g_seq (by omega)], fun p hp hp8 => ?_⟩
      rw [s6 l hk, hmn, nI_lt' (by omega) (by omega)] at hp
      rw [o6 p hp]
      exact (mRk_od hnx (fun b hb => (hOB b hb).isB) hOp o4 hp).symm
    · obtain ⟨d1, d2, d3, d4, d5, d6⟩ := hK.1 l (by omega)
      refine ⟨by rw [g_sne (by omega) c, f166]; exact d1, by rw [g_sne (by omega) c, f168]; exact d2, by rw [g_sne (by omega) c, f170]; exact d3, by rw [o8 l c, e172]; exact d4, by rw [e174, g_sne (by omega) c]; exact d5, fun p hp hp8 => ?_⟩
      rw [o7 _ (by omega), e176]
      exact d6 p hp hp8
  · simp (disch := (first | omega | fail)) only [st_e, sf_e, Nat.reduceAdd, Nat.reduceMul, up_eq, up_ne, cpA_o, cpF_o]
    by_cases c : lotN r x = k
    · exact ⟨by rw [e178]; exact (j4 x hx c).1, q2 x hx c⟩
    · obtain ⟨d1, d2⟩ := hK.2 x hx (by omega)
      refine ⟨by rw [e178, (j5 x hx c).1, up_ne _ _ (by omega)]; exact d1, by rw [q3 x hx c, e180, (j5 x hx c).2, up_ne _ _ (by omega)]; exact d2⟩
  · have hle : ¬ nl ≤ k := by omega
    rw [b_Sale_hold_10]
    simp (maxSteps := 2000000) (disch := (first | omega | (simp (disch := omega) only [up_eq, up_ne, cpA_o, cpF_o, List.length_set] <;> omega) | fail)) only [ob_s, am_bi_s, am_bv_s, am_bl_s, ↓bif_d, lits, nI_addS, nI_mulS, nI_subS, nI_lt', nI_le', nI_eq', ↓rd_nI, ↓wrH, up_eq, up_ne, up_up, up_sw, List.set_set, g_seq, g_sne, Nat.reduceEqDiff, ↓reduceIte, List.length_set, Nat.add_sub_cancel_left, Nat.add_sub_cancel, ite_true, ite_false, if_true, if_false, not_true_eq_false, not_false_eq_true, Bool.and_true, Bool.true_and, true_or, or_true, false_or, or_false, and_true, true_and, and_false, false_and, Nat.not_lt_zero, hpRX, hpIX, hpFX, hpLX, hpSX, ↓rgX, ↓rpX, Nat.reduceLeDiff, Nat.reduceLT, Nat.reduceAdd, Nat.reduceMul, Nat.reduceSub, n2, hle, hask, hj, ho, hs]
theorem lc_hold10 (hS : SaI r nB nl nb nx L B Fi Se Mn Bu Pr nl) : ∀ n k (A : Nat → List Int32), k + n = nl → Cx A F r nB nl nb nx → LenW A → ClS A r nB nl nx L B Fi Se Mn Bu Pr k → ∃ A' : Nat → List Int32, (∀ j, (j < 166 ∨ 182 < j) → A' j = A j) ∧ LenW A' ∧ ClS A' r nB nl nx L B Fi Se Mn Bu Pr nl ∧ am_ev m_Sale_hold (10, [.ref 164, .int (nI k)], [], heap A F P) = some (none, heap A' (up F 16410 (nI 1)) P) := by
  intro n
  induction n with
  | zero =>
    intro k A hk hC hW hK
    obtain ⟨hM, hB, ⟨n1, n2, n3, n4⟩, l1, hCL, hCM, hCX, hCS, hS0, hS1, hS2, hS3⟩ := id hC
    obtain ⟨c5, c7, c10, c12, c14, c16, c18, c21, c23, c25, c27, c29, c31, c33⟩ := LenS2 l1
    have hnl : nl ≤ 20 := hM.1.2.2.2.2.2.2.2.1
    have hnb : nb ≤ 8 := hM.1.2.2.2.2.2.2.2.2.1
    have hnx : nx ≤ 60 := hM.1.2.2.2.2.2.2.2.2.2
    have hnB : nB ≤ 8 := hM.1.2.2.2.2.2.2.1
    have e : k = nl := by omega
    subst e
    have hle : k ≤ k := Nat.le_refl _
    refine ⟨A, fun _ _ => rfl, hW, hK, ?_⟩
    rw [b_Sale_hold_10]
    simp (maxSteps := 2000000) (disch := (first | omega | (simp (disch := omega) only [up_eq, up_ne, cpA_o, cpF_o, List.length_set] <;> omega) | fail)) only [ob_s, am_bi_s, am_bv_s, am_bl_s, ↓bif_d, lits, nI_addS, nI_mulS, nI_subS, nI_lt', nI_le', nI_eq', ↓rd_nI, ↓wrH, up_eq, up_ne, up_up, up_sw, List.set_set, g_seq, g_sne, Nat.reduceEqDiff, ↓reduceIte, List.length_set, Nat.add_sub_cancel_left, Nat.add_sub_cancel, ite_true, ite_false, if_true, if_false, not_true_eq_false, not_false_eq_true, Bool.and_true, Bool.true_and, true_or, or_true, false_or, or_false, and_true, true_and, and_false, false_and, Nat.not_lt_zero, hpRX, hpIX, hpFX, hpLX, hpSX, ↓rgX, ↓rpX, Nat.reduceLeDiff, Nat.reduceLT, Nat.reduceAdd, Nat.reduceMul, Nat.reduceSub, n2, hle]
  | succ n ih =>
    intro k A hk hC hW hK
    obtain ⟨A1, h1, h2, h3, h4⟩ := cs_lot (P := P) hC hW hS (by omega) hK
    obtain ⟨A', g1, g2, g3, g4⟩ := ih (k + 1) A1 (by omega) (Cx_c (fun j hj => h1 j (by omega)) (fun _ _ => rfl) hC) h2 h3
    exact ⟨A', fun j hj => (g1 j hj).trans (h1 j hj), g2, g3, h4.trans g4⟩
end X
section I
variable {A : Nat → List Int32} {F : Nat → Int32} {P : Nat → Nat} {nB nl nb nx q t : Nat}
theorem LenW_of (h : LenO A) : LenW A := h.2.2.2.2.2.2
theorem up7_o {L B Fi Se Mn Bu Pr : List Int32} {j : Nat} (h : j < 199 ∨ 205 < j) : up7 A L B Fi Se Mn Bu Pr j = A j := by
  unfold up7
  rw [up_ne _ _ (by omega), up_ne _ _ (by omega), up_ne _ _ (by omega), up_ne _ _ (by omega), up_ne _ _ (by omega), up_ne _ _ (by omega), up_ne _ _ (by omega)]
/-- the relation, where the sale's rows have changed -/
theorem InvN_w {A' : Nat → List Int32} (hI : InvN A F P nB nl nb nx q t) (hA : ∀ j, (j < 166 ∨ 182 < j) → A' j = A j) (hW : LenW A') {L B Fi Se Mn Bu Pr : List Int32} (hL : SaL L B Fi Se Mn Bu Pr) (hS : SaI (A 193) nB nl nb nx L B Fi Se Mn Bu Pr nl) (hK : ClS A' (A 193) nB nl nx L B Fi Se Mn Bu Pr nl) : InvN A' (up F 16410 (nI 1)) P nB nl nb nx q t := by
  obtain ⟨hs, ⟨l1, l2, l3⟩, ⟨q1, q2, q3, q4, q5, q6⟩, ⟨t1, t2, t3, t4⟩, -⟩ := hI
  have eA : ∀ b, b ≤ 132 → st A' b = st A b := fun b hb => st_c (fun j hj => hA _ (by omega))
  have eF : ∀ b, b ≤ 132 → sf (up F 16410 (nI 1)) b = sf F b := fun b hb => sf_c (fun j hj => up_ne _ _ (by omega))
  have e193 : A' 193 = A 193 := hA 193 (by omega)
  refine ⟨by rw [eA 2 (by omega), eF 2 (by omega), e193]; exact hs, ⟨LenS_c (fun j hj => hA _ (by omega)) l1, fun b hb => LenS_c (fun j hj => hA _ (by have := (hsP_b hb).2; omega)) (l2 b hb), ?_⟩, ⟨q1, by rw [up_ne _ _ (by omega)]; exact q2, by rw [up_ne _ _ (by omega)]; exact q3, q4, q5, fun s hs' => ?_⟩, ⟨t1, by rw [up_ne _ _ (by omega)]; exact t2, by rw [up_ne _ _ (by omega)]; exact t3, fun j hj => by rw [hA 185 (by omega), hA 195 (by omega)]; exact t4 j hj⟩, Or.inr ⟨up_eq _ _ _, L, B, Fi, Se, Mn, Bu, Pr, hL, by rw [e193]; exact hS, by rw [e193]; exact hK⟩⟩
  · obtain ⟨o1, o2, o3, o4, o5, o6, o7⟩ := l3
    refine ⟨by rw [hA 194 (by omega)]; exact o1, by rw [hA 185 (by omega)]; exact o2, by rw [hA 195 (by omega)]; exact o3, ?_, ?_, ?_, hW⟩
    · rw [hA 187 (by omega), hA 189 (by omega), hA 191 (by omega)]; exact o4
    · rw [hA 196 (by omega), hA 197 (by omega), hA 198 (by omega)]; exact o5
    · rw [hA 199 (by omega), hA 200 (by omega), hA 201 (by omega), hA 202 (by omega), hA 203 (by omega), hA 204 (by omega), hA 205 (by omega)]; exact o6
  · obtain ⟨mB, ml, mb, mx, hm⟩ := q6 s hs'
    have hb := (hsP_b (q4 s (by omega))).2
    refine ⟨mB, ml, mb, mx, ?_⟩
    rw [eA _ hb, eF _ hb, hA 194 (by omega)]
    exact hm
/-- the class holds its sale -/
theorem cls_hold (hI : InvN A F P nB nl nb nx q t) : ∃ (A' : Nat → List Int32) (L B Fi Se Mn Bu Pr : List Int32), (∀ j, (j < 166 ∨ 182 < j) → A' j = A j) ∧ LenW A' ∧ SaL L B Fi Se Mn Bu Pr ∧ SaI (A 193) nB nl nb nx L B Fi Se Mn Bu Pr nl ∧ ClS A' (A 193) nB nl nx L B Fi Se Mn Bu Pr nl ∧ am_cl m_Sale_hold [.ref 164] (heap A F P) = some (none, heap A' (up F 16410 (nI 1)) P) := by
  have hC := Cx_of hI
  have hW := LenW_of hI.2.1.2.2
  rcases hI.2.2.2.2 with z | ⟨z, L, B, Fi, Se, Mn, Bu, Pr, h1, h2, h3⟩
  · obtain ⟨L, B, Fi, Se, Mn, Bu, Pr, h1, h2⟩ := SaI_ex hC.1
    obtain ⟨A', g1, g2, g3, g4⟩ := lc_hold10 (P := P) h2 nl 0 A (by omega) hC hW ⟨fun l hl => absurd hl (Nat.not_lt_zero _), fun x hx hl => absurd hl (Nat.not_lt_zero _)⟩
    refine ⟨A', L, B, Fi, Se, Mn, Bu, Pr, g1, g2, h1, h2, g3, ?_⟩
    rw [e_Sale_hold 164 _ rfl]
    simp (maxSteps := 2000000) (disch := (first | omega | (simp (disch := omega) only [up_eq, up_ne, cpA_o, cpF_o, List.length_set] <;> omega) | fail)) only [ob_s, am_bi_s, am_bv_s, am_bl_s, ↓bif_d, lits, nI_addS, nI_mulS, nI_subS, nI_lt', nI_le', nI_eq', ↓rd_nI, ↓wrH, up_eq, up_ne, up_up, up_sw, List.set_set, g_seq, g_sne, Nat.reduceEqDiff, ↓reduceIte, List.length_set, Nat.add_sub_cancel_left, Nat.add_sub_cancel, ite_true, ite_false, if_true, if_false, not_true_eq_false, not_false_eq_true, Bool.and_true, Bool.true_and, true_or, or_true, false_or, or_false, and_true, true_and, and_false, false_and, Nat.not_lt_zero, hpRX, hpIX, hpFX, hpLX, hpSX, ↓rgX, ↓rpX, Nat.reduceLeDiff, Nat.reduceLT, Nat.reduceAdd, Nat.reduceMul, Nat.reduceSub, z, g4]
  · refine ⟨A, L, B, Fi, Se, Mn, Bu, Pr, fun _ _ => rfl, hW, h1, h2, h3, ?_⟩
    have e : up F 16410 (nI 1) = F := by rw [← z]; exact up_id _ _
    have n10 : ¬ nI 1 = nI 0 := by decide
    rw [e, e_Sale_hold 164 _ rfl]
    simp (maxSteps := 2000000) (disch := (first | omega | (simp (disch := omega) only [up_eq, up_ne, cpA_o, cpF_o, List.length_set] <;> omega) | fail)) only [ob_s, am_bi_s, am_bv_s, am_bl_s, ↓bif_d, lits, nI_addS, nI_mulS, nI_subS, nI_lt', nI_le', nI_eq', ↓rd_nI, ↓wrH, up_eq, up_ne, up_up, up_sw, List.set_set, g_seq, g_sne, Nat.reduceEqDiff, ↓reduceIte, List.length_set, Nat.add_sub_cancel_left, Nat.add_sub_cancel, ite_true, ite_false, if_true, if_false, not_true_eq_false, not_false_eq_true, Bool.and_true, Bool.true_and, true_or, or_true, false_or, or_false, and_true, true_and, and_false, false_and, Nat.not_lt_zero, hpRX, hpIX, hpFX, hpLX, hpSX, ↓rgX, ↓rpX, Nat.reduceLeDiff, Nat.reduceLT, Nat.reduceAdd, Nat.reduceMul, Nat.reduceSub, z, n10]
end I
