/-! needed -/
section Q
variable {A A' : Nat → List Int32} {F F' : Nat → Int32} {P : Nat → Nat} {r : List Int32} {nB nl nb nx q t : Nat} {L B Fi Se Mn Bu Pr : List Int32}
theorem k_needed_e (hC : Cx A F r nB nl nb nx) (x y v : Int32) (g0 : ¬ ix x nb ∨ (ix x nb ∧ ¬ ix y nl)) : am_cl m_Pa_needed (.ref 1 :: [.int x, .int y, .int v]) (heap A F P) = some (some (.int (-nI 1)), heap A F P) := by
  classical
  obtain ⟨hM, hB, ⟨n1, n2, n3, n4⟩, l1, hCL, hCM, hCX, hCS, hS0, hS1, hS2, hS3⟩ := id hC
  obtain ⟨c5, c7, c10, c12, c14, c16, c18, c21, c23, c25, c27, c29, c31, c33⟩ := LenS2 l1
  have hnl : nl ≤ 20 := hM.1.2.2.2.2.2.2.2.1
  have hnb : nb ≤ 8 := hM.1.2.2.2.2.2.2.2.2.1
  have hnx : nx ≤ 60 := hM.1.2.2.2.2.2.2.2.2.2
  have hnB : nB ≤ 8 := hM.1.2.2.2.2.2.2.1
  have iL := fun x => s_isLot (A := A) (F := F) (P := P) n2 (by omega) x
  have iB := fun x => s_isBidder (A := A) (F := F) (P := P) n3 (by omega) x
  rw [e_Pa_needed 1 _ _ _ _ rfl]
  rcases g0 with g0 | ⟨g0, g1⟩
  · simp (maxSteps := 2000000) (disch := (first | omega | (simp (disch := omega) only [up_eq, up_ne, cpA_o, cpF_o, List.length_set] <;> omega) | fail)) only [ob_s, am_bi_s, am_bv_s, am_bl_s, ↓bif_d, lits, nI_addS, nI_mulS, nI_subS, nI_lt', nI_le', nI_eq', ↓rd_nI, ↓wrH, up_eq, up_ne, up_up, up_sw, List.set_set, g_seq, g_sne, Nat.reduceEqDiff, ↓reduceIte, List.length_set, Nat.add_sub_cancel_left, Nat.add_sub_cancel, ite_true, ite_false, if_true, if_false, not_true_eq_false, not_false_eq_true, Bool.and_true, Bool.true_and, true_or, or_true, false_or, or_false, and_true, true_and, and_false, false_and, Nat.not_lt_zero, hpRX, hpIX, hpFX, hpLX, hpSX, ↓rgX, ↓rpX, Nat.reduceLeDiff, Nat.reduceLT, Nat.reduceAdd, Nat.reduceMul, Nat.reduceSub, iB, iL, b01_0, g0]
  · simp (maxSteps := 2000000) (disch := (first | omega | (simp (disch := omega) only [up_eq, up_ne, cpA_o, cpF_o, List.length_set] <;> omega) | fail)) only [ob_s, am_bi_s, am_bv_s, am_bl_s, ↓bif_d, lits, nI_addS, nI_mulS, nI_subS, nI_lt', nI_le', nI_eq', ↓rd_nI, ↓wrH, up_eq, up_ne, up_up, up_sw, List.set_set, g_seq, g_sne, Nat.reduceEqDiff, ↓reduceIte, List.length_set, Nat.add_sub_cancel_left, Nat.add_sub_cancel, ite_true, ite_false, if_true, if_false, not_true_eq_false, not_false_eq_true, Bool.and_true, Bool.true_and, true_or, or_true, false_or, or_false, and_true, true_and, and_false, false_and, Nat.not_lt_zero, hpRX, hpIX, hpFX, hpLX, hpSX, ↓rgX, ↓rpX, Nat.reduceLeDiff, Nat.reduceLT, Nat.reduceAdd, Nat.reduceMul, Nat.reduceSub, iB, iL, b01_0, g0, g1]
theorem k_needed_v (hC : Cx A F r nB nl nb nx) (x y v : Int32) (g0 : ix x nb) (g1 : ix y nl) (g2 : v < nI 0 ∨ nI 100000 < v) : am_cl m_Pa_needed (.ref 1 :: [.int x, .int y, .int v]) (heap A F P) = some (some (.int (-nI 2)), heap A F P) := by
  classical
  obtain ⟨hM, hB, ⟨n1, n2, n3, n4⟩, l1, hCL, hCM, hCX, hCS, hS0, hS1, hS2, hS3⟩ := id hC
  obtain ⟨c5, c7, c10, c12, c14, c16, c18, c21, c23, c25, c27, c29, c31, c33⟩ := LenS2 l1
  have hnl : nl ≤ 20 := hM.1.2.2.2.2.2.2.2.1
  have hnb : nb ≤ 8 := hM.1.2.2.2.2.2.2.2.2.1
  have hnx : nx ≤ 60 := hM.1.2.2.2.2.2.2.2.2.2
  have hnB : nB ≤ 8 := hM.1.2.2.2.2.2.2.1
  have iL := fun x => s_isLot (A := A) (F := F) (P := P) n2 (by omega) x
  have iB := fun x => s_isBidder (A := A) (F := F) (P := P) n3 (by omega) x
  rw [e_Pa_needed 1 _ _ _ _ rfl]
  simp (maxSteps := 2000000) (disch := (first | omega | (simp (disch := omega) only [up_eq, up_ne, cpA_o, cpF_o, List.length_set] <;> omega) | fail)) only [ob_s, am_bi_s, am_bv_s, am_bl_s, ↓bif_d, lits, nI_addS, nI_mulS, nI_subS, nI_lt', nI_le', nI_eq', ↓rd_nI, ↓wrH, up_eq, up_ne, up_up, up_sw, List.set_set, g_seq, g_sne, Nat.reduceEqDiff, ↓reduceIte, List.length_set, Nat.add_sub_cancel_left, Nat.add_sub_cancel, ite_true, ite_false, if_true, if_false, not_true_eq_false, not_false_eq_true, Bool.and_true, Bool.true_and, true_or, or_true, false_or, or_false, and_true, true_and, and_false, false_and, Nat.not_lt_zero, hpRX, hpIX, hpFX, hpLX, hpSX, ↓rgX, ↓rpX, Nat.reduceLeDiff, Nat.reduceLT, Nat.reduceAdd, Nat.reduceMul, Nat.reduceSub, iB, iL, s_out, b01_0, g0, g1, g2]
theorem k_needed0 (hC : Cx A F r nB nl nb nx) {b k : Nat} {v : Int32} (hb : b < nb) (hk : k < nl) (g2 : ¬ (v < nI 0 ∨ nI 100000 < v)) (hx : nx < 60) (h : g r 468 < v ∨ g r (78 + k) = nI 1) : am_cl m_Pa_needed (.ref 1 :: [.int (nI b), .int (nI k), .int v]) (heap A F P) = some (some (.int (-nI 5)), heap A F P) := by
  classical
  obtain ⟨hM, hB, ⟨n1, n2, n3, n4⟩, l1, hCL, hCM, hCX, hCS, hS0, hS1, hS2, hS3⟩ := id hC
  obtain ⟨c5, c7, c10, c12, c14, c16, c18, c21, c23, c25, c27, c29, c31, c33⟩ := LenS2 l1
  have hnl : nl ≤ 20 := hM.1.2.2.2.2.2.2.2.1
  have hnb : nb ≤ 8 := hM.1.2.2.2.2.2.2.2.2.1
  have hnx : nx ≤ 60 := hM.1.2.2.2.2.2.2.2.2.2
  have hnB : nB ≤ 8 := hM.1.2.2.2.2.2.2.1
  have iL := fun x => s_isLot (A := A) (F := F) (P := P) n2 (by omega) x
  have iB := fun x => s_isBidder (A := A) (F := F) (P := P) n3 (by omega) x
  have g0 : ix (nI b) nb := ⟨b, hb, rfl⟩
  have g1 : ix (nI k) nl := ⟨k, hk, rfl⟩
  have e16 := (hCL k hk).2.2.2.1
  have e33 : g (A 33) 0 = g r 468 := hCS 0 (by omega)
  have g3' : ¬ 60 ≤ nx := by omega
  rw [e_Pa_needed 1 _ _ _ _ rfl]
  by_cases g4 : g r (78 + k) = nI 1
  · simp (maxSteps := 2000000) (disch := (first | omega | (simp (disch := omega) only [up_eq, up_ne, cpA_o, cpF_o, List.length_set] <;> omega) | fail)) only [ob_s, am_bi_s, am_bv_s, am_bl_s, ↓bif_d, lits, nI_addS, nI_mulS, nI_subS, nI_lt', nI_le', nI_eq', ↓rd_nI, ↓wrH, up_eq, up_ne, up_up, up_sw, List.set_set, g_seq, g_sne, Nat.reduceEqDiff, ↓reduceIte, List.length_set, Nat.add_sub_cancel_left, Nat.add_sub_cancel, ite_true, ite_false, if_true, if_false, not_true_eq_false, not_false_eq_true, Bool.and_true, Bool.true_and, true_or, or_true, false_or, or_false, and_true, true_and, and_false, false_and, Nat.not_lt_zero, hpRX, hpIX, hpFX, hpLX, hpSX, ↓rgX, ↓rpX, Nat.reduceLeDiff, Nat.reduceLT, Nat.reduceAdd, Nat.reduceMul, Nat.reduceSub, iB, iL, s_out, b01_0, g0, g1, g2, n4, g3', e16, g4]
  · have g5 := h.resolve_right g4
    have g5' : ¬ v ≤ g r 468 := Int32.not_le.mpr g5
    simp (maxSteps := 2000000) (disch := (first | omega | (simp (disch := omega) only [up_eq, up_ne, cpA_o, cpF_o, List.length_set] <;> omega) | fail)) only [ob_s, am_bi_s, am_bv_s, am_bl_s, ↓bif_d, lits, nI_addS, nI_mulS, nI_subS, nI_lt', nI_le', nI_eq', ↓rd_nI, ↓wrH, up_eq, up_ne, up_up, up_sw, List.set_set, g_seq, g_sne, Nat.reduceEqDiff, ↓reduceIte, List.length_set, Nat.add_sub_cancel_left, Nat.add_sub_cancel, ite_true, ite_false, if_true, if_false, not_true_eq_false, not_false_eq_true, Bool.and_true, Bool.true_and, true_or, or_true, false_or, or_false, and_true, true_and, and_false, false_and, Nat.not_lt_zero, hpRX, hpIX, hpFX, hpLX, hpSX, ↓rgX, ↓rpX, Nat.reduceLeDiff, Nat.reduceLT, Nat.reduceAdd, Nat.reduceMul, Nat.reduceSub, iB, iL, s_out, b01_0, g0, g1, g2, n4, g3', e16, g4, e33, g5']
/-- what the others ask of the new bid -/
def Asks (r : List Int32) (nB nx : Nat) (L B Bu Fi : List Int32) (b k : Nat) (v : Int32) (O : List Nat) (q s e m1 : Nat) : Prop := Ord r nB L B Bu Fi nx k O ∧ g r (38 + k) = nI s ∧ g r (58 + k) = nI e ∧ s ≤ 1000000 ∧ e ≤ 1000000 ∧ g L (8 * k + b) = nI q ∧ q ≤ 10000000 ∧ MaxOf (fun y => y ∈ O) (vB r nB L b v) (ceN r nB (if s < e then e else s)) m1 ∧ vld r nB m1
theorem k_needed (hI : HQ A F P A' F' r nB nl nb nx L B Fi Se Mn Bu Pr) {b k : Nat} {v : Int32} (hb : b < nb) (hk : k < nl) (g2 : ¬ (v < nI 0 ∨ nI 100000 < v)) (hx : nx < 60) (g4 : ¬ g r (78 + k) = nI 1) (g5 : ¬ g r 468 < v) : ∃ O q s e m1, Asks r nB nx L B Bu Fi b k v O q s e m1 ∧ am_cl m_Pa_needed (.ref 1 :: [.int (nI b), .int (nI k), .int v]) (heap A F P) = some (some (.int (if m1 ≤ q ∧ m1 ≤ 1000000 then nI (if m1 = 0 then nxN r nB 0 else m1) else -nI 5)), heap A' F' P) := by
  classical
  obtain ⟨hW, hK, hC', hC0, hS, hcl⟩ := id hI
  obtain ⟨-, -, ⟨n1, n2, n3, n4⟩, l0, hAL, hAM, hAX, hAS, -⟩ := id hC0
  obtain ⟨c5, c7, c10, c12, c14, c16, c18, c21, c23, c25, c27, c29, c31, c33⟩ := LenS2 l0
  obtain ⟨hM, hB, ⟨m1', m2', m3', m4'⟩, l1, hCL, hCM, hCX, hCS, hS0, hS1, hS2, hS3⟩ := id hC'
  obtain ⟨d5, d7, d10, d12, d14, d16, d18, d21, d23, d25, d27, d29, d31, d33⟩ := LenS2 l1
  obtain ⟨w166, w168, w170, w172, w174, w176, w178, w180, w182⟩ := id hW
  have hnl : nl ≤ 20 := hM.1.2.2.2.2.2.2.2.1
  have hnb : nb ≤ 8 := hM.1.2.2.2.2.2.2.2.2.1
  have hnx : nx ≤ 60 := hM.1.2.2.2.2.2.2.2.2.2
  have iL := fun x => s_isLot (A := A) (F := F) (P := P) n2 (by omega) x
  have iB := fun x => s_isBidder (A := A) (F := F) (P := P) n3 (by omega) x
  have g0 : ix (nI b) nb := ⟨b, hb, rfl⟩
  have g1 : ix (nI k) nl := ⟨k, hk, rfl⟩
  have e16 := (hAL k hk).2.2.2.1
  have e33 : g (A 33) 0 = g r 468 := hAS 0 (by omega)
  have g3' : ¬ 60 ≤ nx := by omega
  have g5' : v ≤ g r 468 := Int32.not_lt.mp g5
  obtain ⟨O, hO⟩ := ord_ex hC' hS hk
  obtain ⟨s, e, s1, e1, s2, e2, ha, ha2⟩ := mAs_N hC' hk
  have hva : vld r nB (ceN r nB (if s < e then e else s)) := vld_ce hB (by split <;> omega)
  obtain ⟨m1, q1, r1⟩ := c_lw13 (P := P) (b := b) (v := v) (a0 := ceN r nB (if s < e then e else s)) hC' hW hS hK hk hb hO.1 hO.2.1 O.length 0 (ceN r nB (if s < e then e else s)) (.float 0) (.float 0) (.float 0) (by omega) ⟨by omega, Nat.le_refl _, fun y ⟨j, j1, _⟩ => absurd j1 (Nat.not_lt_zero _), Or.inl rfl⟩
  have hvm : vld r nB m1 := by
    obtain ⟨q11, q12, q13, q14⟩ := q1
    rcases q14 with z | ⟨y, y1, y2⟩
    · rw [z]; exact hva
    · obtain ⟨w, n, f1, f2, f3, f4, f5, f6, f7⟩ := vB_N (b := b) (v := v) hC' hS ((hO.2.2.2 y).mp y1).1
      rw [f6, nI_eq' (by omega) (by omega)] at y2
      rw [← y2]; exact f7
  have hm12 := q1.1
  obtain ⟨q', p1, p2, p3⟩ := SaI_left hC' hS k (by omega) b hb
  have hlf := cs_left (P := P) hC' hW hS (k := k) (b := b) (by omega) hb (fun l hl => ⟨(hK.1 l (by omega)).1, (hK.1 l (by omega)).2.1⟩)
  rw [p3] at hlf
  have hz := nxN_le hB (a := 0) (by omega)
  have d5'' := (hK.1 k hk).2.2.2.2.1
  rw [ha] at d5''
  refine ⟨O, q', s, e, m1, ⟨hO, s2, e2, s1, e1, p3, p2, q1, hvm⟩, ?_⟩
  generalize ceN r nB (if s < e then e else s) = a0 at d5'' r1
  have hlw : am_cl m_Sale_leastWorth [.ref 164, .int (nI b), .int (nI k), .int v] (heap A' F' P) = some (some (.int (nI m1)), heap A' F' P) := by
    rw [e_Sale_leastWorth 164 _ _ _ _ rfl]
    simp (maxSteps := 2000000) (disch := (first | omega | (simp (disch := omega) only [up_eq, up_ne, cpA_o, cpF_o, List.length_set] <;> omega) | fail)) only [ob_s, am_bi_s, am_bv_s, am_bl_s, ↓bif_d, lits, nI_addS, nI_mulS, nI_subS, nI_lt', nI_le', nI_eq', ↓rd_nI, ↓wrH, up_eq, up_ne, up_up, up_sw, List.set_set, g_seq, g_sne, Nat.reduceEqDiff, ↓reduceIte, List.length_set, Nat.add_sub_cancel_left, Nat.add_sub_cancel, ite_true, ite_false, if_true, if_false, not_true_eq_false, not_false_eq_true, Bool.and_true, Bool.true_and, true_or, or_true, false_or, or_false, and_true, true_and, and_false, false_and, Nat.not_lt_zero, hpRX, hpIX, hpFX, hpLX, hpSX, ↓rgX, ↓rpX, Nat.reduceLeDiff, Nat.reduceLT, Nat.reduceAdd, Nat.reduceMul, Nat.reduceSub, d5'', r1]
  have hnx0 := s_Steps_next (A := A') (F := F') (P := P) hB d5 d7 m1' (a := 0) (by omega)
  have hla := fun x y z A F P => e_Sale_leastAmount 164 x y z (heap A F P) rfl
  rw [e_Pa_needed 1 _ _ _ _ rfl]
  by_cases z0 : m1 = 0
  · have h1 : ¬ 1000000 < nxN r nB 0 := by omega
    subst z0
    rw [if_pos ⟨Nat.zero_le _, Nat.zero_le _⟩, if_pos rfl]
    simp (maxSteps := 2000000) (disch := (first | omega | (simp (disch := omega) only [up_eq, up_ne, cpA_o, cpF_o, List.length_set] <;> omega) | fail)) only [ob_s, am_bi_s, am_bv_s, am_bl_s, ↓bif_d, lits, nI_addS, nI_mulS, nI_subS, nI_lt', nI_le', nI_eq', ↓rd_nI, ↓wrH, up_eq, up_ne, up_up, up_sw, List.set_set, g_seq, g_sne, Nat.reduceEqDiff, ↓reduceIte, List.length_set, Nat.add_sub_cancel_left, Nat.add_sub_cancel, ite_true, ite_false, if_true, if_false, not_true_eq_false, not_false_eq_true, Bool.and_true, Bool.true_and, true_or, or_true, false_or, or_false, and_true, true_and, and_false, false_and, Nat.not_lt_zero, hpRX, hpIX, hpFX, hpLX, hpSX, ↓rgX, ↓rpX, Nat.reduceLeDiff, Nat.reduceLT, Nat.reduceAdd, Nat.reduceMul, Nat.reduceSub, iB, iL, s_out, b01_0, g0, g1, g2, n4, g3', e16, g4, e33, g5', hcl, hla, hlw, hnx0, hlf, Nat.le_refl, h1]
  · have z1 : ¬ m1 ≤ 0 := by omega
    by_cases z2 : 1000000 < m1
    · rw [if_neg (fun z => by omega)]
      simp (maxSteps := 2000000) (disch := (first | omega | (simp (disch := omega) only [up_eq, up_ne, cpA_o, cpF_o, List.length_set] <;> omega) | fail)) only [ob_s, am_bi_s, am_bv_s, am_bl_s, ↓bif_d, lits, nI_addS, nI_mulS, nI_subS, nI_lt', nI_le', nI_eq', ↓rd_nI, ↓wrH, up_eq, up_ne, up_up, up_sw, List.set_set, g_seq, g_sne, Nat.reduceEqDiff, ↓reduceIte, List.length_set, Nat.add_sub_cancel_left, Nat.add_sub_cancel, ite_true, ite_false, if_true, if_false, not_true_eq_false, not_false_eq_true, Bool.and_true, Bool.true_and, true_or, or_true, false_or, or_false, and_true, true_and, and_false, false_and, Nat.not_lt_zero, hpRX, hpIX, hpFX, hpLX, hpSX, ↓rgX, ↓rpX, Nat.reduceLeDiff, Nat.reduceLT, Nat.reduceAdd, Nat.reduceMul, Nat.reduceSub, iB, iL, s_out, b01_0, g0, g1, g2, n4, g3', e16, g4, e33, g5', hcl, hla, hlw, hnx0, hlf, z1, z2]
    · by_cases z4 : q' < m1
      · rw [if_neg (fun z => by omega)]
        simp (maxSteps := 2000000) (disch := (first | omega | (simp (disch := omega) only [up_eq, up_ne, cpA_o, cpF_o, List.length_set] <;> omega) | fail)) only [ob_s, am_bi_s, am_bv_s, am_bl_s, ↓bif_d, lits, nI_addS, nI_mulS, nI_subS, nI_lt', nI_le', nI_eq', ↓rd_nI, ↓wrH, up_eq, up_ne, up_up, up_sw, List.set_set, g_seq, g_sne, Nat.reduceEqDiff, ↓reduceIte, List.length_set, Nat.add_sub_cancel_left, Nat.add_sub_cancel, ite_true, ite_false, if_true, if_false, not_true_eq_false, not_false_eq_true, Bool.and_true, Bool.true_and, true_or, or_true, false_or, or_false, and_true, true_and, and_false, false_and, Nat.not_lt_zero, hpRX, hpIX, hpFX, hpLX, hpSX, ↓rgX, ↓rpX, Nat.reduceLeDiff, Nat.reduceLT, Nat.reduceAdd, Nat.reduceMul, Nat.reduceSub, iB, iL, s_out, b01_0, g0, g1, g2, n4, g3', e16, g4, e33, g5', hcl, hla, hlw, hnx0, hlf, z1, z2, z4]
      · rw [if_pos ⟨by omega, by omega⟩, if_neg z0]
        simp (maxSteps := 2000000) (disch := (first | omega | (simp (disch := omega) only [up_eq, up_ne, cpA_o, cpF_o, List.length_set] <;> omega) | fail)) only [ob_s, am_bi_s, am_bv_s, am_bl_s, ↓bif_d, lits, nI_addS, nI_mulS, nI_subS, nI_lt', nI_le', nI_eq', ↓rd_nI, ↓wrH, up_eq, up_ne, up_up, up_sw, List.set_set, g_seq, g_sne, Nat.reduceEqDiff, ↓reduceIte, List.length_set, Nat.add_sub_cancel_left, Nat.add_sub_cancel, ite_true, ite_false, if_true, if_false, not_true_eq_false, not_false_eq_true, Bool.and_true, Bool.true_and, true_or, or_true, false_or, or_false, and_true, true_and, and_false, false_and, Nat.not_lt_zero, hpRX, hpIX, hpFX, hpLX, hpSX, ↓rgX, ↓rpX, Nat.reduceLeDiff, Nat.reduceLT, Nat.reduceAdd, Nat.reduceMul, Nat.reduceSub, iB, iL, s_out, b01_0, g0, g1, g2, n4, g3', e16, g4, e33, g5', hcl, hla, hlw, hnx0, hlf, z1, z2, z4]
end Q
