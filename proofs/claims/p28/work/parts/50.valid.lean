/-! VALID AMOUNTS; A WORTH IS ONE -/
section B
variable {X Y r : List Int32} {nB : Nat}
theorem ceN_ge (hB : Bnd X Y r nB) {s : Nat} (hs : s < 2 ^ 31) : s ≤ ceN r nB s := by
  obtain ⟨h1, h2, h3⟩ := mBand_spec hB hs
  obtain ⟨w1, w2, w3, -⟩ := hB.2.2.2.2.1 _ h1
  unfold ceN
  split
  · exact Nat.le_refl _
  · have hf : s < flN r nB s + sN r (mBand r nB (nI s)) := by
      unfold flN
      have := Nat.lt_div_mul_add (a := s - bN r (mBand r nB (nI s))) (b := sN r (mBand r nB (nI s))) (by omega)
      omega
    unfold nxN
    split
    · rename_i c
      have := h3 c
      split <;> omega
    · omega
theorem worth_ceil (hB : Bnd X Y r nB) {a s : Nat} (ha : a < 2 ^ 31) (hs : s < 2 ^ 31) : ceN r nB s ≤ flN r nB a ↔ s ≤ flN r nB a := by
  constructor
  · intro h
    exact Nat.le_trans (ceN_ge hB hs) h
  · intro h
    have hfa := flN_le hB ha
    unfold ceN
    split
    · exact h
    · rename_i hne
      obtain ⟨h1, h2, h3⟩ := mBand_spec hB ha
      obtain ⟨k1, k2, k3⟩ := mBand_spec hB hs
      obtain ⟨w1, w2, w3, -⟩ := hB.2.2.2.2.1 _ k1
      have hfs := flN_le hB hs
      have c6 := hB.2.2.2.2.2.1
      have hb : bN r (mBand r nB (nI a)) ≤ flN r nB a := by unfold flN; omega
      rcases Nat.lt_trichotomy (mBand r nB (nI s)) (mBand r nB (nI a)) with z | z | z
      · have hle : nxN r nB s ≤ bN r (mBand r nB (nI s) + 1) := by
          unfold nxN
          rw [if_pos (by omega)]
          split <;> omega
        have : bN r (mBand r nB (nI s) + 1) ≤ bN r (mBand r nB (nI a)) := by
          rcases Nat.eq_or_lt_of_le (show mBand r nB (nI s) + 1 ≤ mBand r nB (nI a) from z) with y | y
          · rw [y]; exact Nat.le_refl _
          · exact Nat.le_of_lt (c6 _ _ y h1)
        omega
      · have hle : nxN r nB s ≤ flN r nB s + sN r (mBand r nB (nI s)) := by
          unfold nxN
          split
          · split <;> omega
          · omega
        refine Nat.le_trans hle ?_
        unfold flN at h hfs hne ⊢
        rw [← z] at h ⊢
        generalize bN r (mBand r nB (nI s)) = b at *
        generalize sN r (mBand r nB (nI s)) = e at *
        generalize (a - b) / e = m at *
        generalize (s - b) / e = j at *
        have hjm : j < m := by
          apply Nat.lt_of_not_le
          intro hmj
          have : m * e ≤ j * e := Nat.mul_le_mul_right e hmj
          omega
        have : (j + 1) * e ≤ m * e := Nat.mul_le_mul_right e hjm
        rw [Nat.add_mul, Nat.one_mul] at this
        omega
      · have := k2
        have h4 := h3 (by omega)
        have : bN r (mBand r nB (nI a) + 1) ≤ bN r (mBand r nB (nI s)) := by
          rcases Nat.eq_or_lt_of_le (show mBand r nB (nI a) + 1 ≤ mBand r nB (nI s) from z) with y | y
          · rw [y]; exact Nat.le_refl _
          · exact Nat.le_of_lt (c6 _ _ y k1)
        omega
end B
section X
variable {A : Nat → List Int32} {F : Nat → Int32} {P : Nat → Nat} {nB nl nb nx q t : Nat}
theorem InvN_bnd (hI : InvN A F P nB nl nb nx q t) : Bnd (A 5) (A 7) (A 193) nB := by
  have h := Bnd_of hI.1.2.2.1 hI.1.1.2.2.2.2.2.1 hI.1.1.2.2.2.2.2.2.1
  exact h
theorem Bnd_st {X Y r : List Int32} {nB : Nat} (hB : Bnd X Y r nB) : Mst r nB := by
  intro k hk
  obtain ⟨w1, w2, w3, w4, w5⟩ := hB.2.2.2.2.1 k hk
  rw [w5]
  exact nI_ne0 (by omega) (by omega)
theorem k_valid_e (hI : InvN A F P nB nl nb nx q t) (x v : Int32) (g0 : x < nI 0 ∨ nI 2000000 < x) : am_cl m_Pa_valid (.ref 1 :: [.int x, .int v]) (heap A F P) = some (some (.int (-nI 2)), heap A F P) := by
  rw [e_Pa_valid 1 _ _ _ rfl]
  simp (maxSteps := 2000000) (disch := (first | omega | (simp (disch := omega) only [up_eq, up_ne, cpA_o, List.length_set] <;> omega) | fail)) only [ob_s, am_bi_s, am_bv_s, am_bl_s, ↓bif_d, lits, nI_addS, nI_mulS, nI_subS, nI_lt', nI_le', nI_eq', ↓rd_nI, ↓wrH, up_eq, up_ne, up_up, up_sw, List.set_set, g_seq, g_sne, Nat.reduceEqDiff, ↓reduceIte, List.length_set, Nat.add_sub_cancel_left, Nat.add_sub_cancel, ite_true, ite_false, if_true, if_false, not_true_eq_false, not_false_eq_true, Bool.and_true, Bool.true_and, true_or, or_true, false_or, or_false, and_true, true_and, and_false, false_and, Nat.not_lt_zero, hpRX, hpIX, hpFX, hpLX, hpSX, ↓rgX, ↓rpX, Nat.reduceLeDiff, Nat.reduceLT, Nat.reduceAdd, Nat.reduceMul, Nat.reduceSub, s_out, b01_0, g0]
theorem k_valid (hI : InvN A F P nB nl nb nx q t) {a : Nat} (a2 : a ≤ 2000000) :
    am_cl m_Pa_valid (.ref 1 :: [.int (nI a), .int (nI 0)]) (heap A F P) = some (some (.int (nI (flN (A 193) nB a))), heap A F P) ∧
    am_cl m_Pa_valid (.ref 1 :: [.int (nI a), .int (nI 1)]) (heap A F P) = some (some (.int (nI (ceN (A 193) nB a))), heap A F P) ∧
    am_cl m_Pa_valid (.ref 1 :: [.int (nI a), .int (nI 2)]) (heap A F P) = some (some (.int (nI (nxN (A 193) nB a))), heap A F P) ∧
    am_cl m_Pa_valid (.ref 1 :: [.int (nI a), .int (nI 3)]) (heap A F P) = some (some (.int (-nI 2)), heap A F P) := by
  have hB := InvN_bnd hI
  have hI0 := hI
  obtain ⟨⟨hM, ⟨n1, n2, n3, n4⟩, hSB, hSL, hSM, hSX, hSS⟩, ⟨l1, l2, l3⟩, hH, hT, -⟩ := hI0
  simp (disch := (first | omega | fail)) only [sf_e, Nat.reduceMul, Nat.reduceAdd] at n1 n2 n3 n4
  have c5 : (A 5).length = 8 := l1.1
  have c7 : (A 7).length = 8 := l1.2.1
  have ga : ¬ 2000000 < a := by omega
  have f1 := s_Steps_floor (F := F) (P := P) hB c5 c7 n1 (a := a) (by omega)
  have f2 := s_Steps_next (F := F) (P := P) hB c5 c7 n1 (a := a) (by omega)
  have f3 := s_Steps_ceiling (F := F) (P := P) hB c5 c7 n1 (a := a) (by omega)
  refine ⟨?_, ?_, ?_, ?_⟩
  · rw [e_Pa_valid 1 _ _ _ rfl]
    simp (maxSteps := 2000000) (disch := (first | omega | (simp (disch := omega) only [up_eq, up_ne, cpA_o, List.length_set] <;> omega) | fail)) only [ob_s, am_bi_s, am_bv_s, am_bl_s, ↓bif_d, lits, nI_addS, nI_mulS, nI_subS, nI_lt', nI_le', nI_eq', ↓rd_nI, ↓wrH, up_eq, up_ne, up_up, up_sw, List.set_set, g_seq, g_sne, Nat.reduceEqDiff, ↓reduceIte, List.length_set, Nat.add_sub_cancel_left, Nat.add_sub_cancel, ite_true, ite_false, if_true, if_false, not_true_eq_false, not_false_eq_true, Bool.and_true, Bool.true_and, true_or, or_true, false_or, or_false, and_true, true_and, and_false, false_and, Nat.not_lt_zero, hpRX, hpIX, hpFX, hpLX, hpSX, ↓rgX, ↓rpX, Nat.reduceLeDiff, Nat.reduceLT, Nat.reduceAdd, Nat.reduceMul, Nat.reduceSub, s_out, b01_0, ga, f1]
  · rw [e_Pa_valid 1 _ _ _ rfl]
    simp (maxSteps := 2000000) (disch := (first | omega | (simp (disch := omega) only [up_eq, up_ne, cpA_o, List.length_set] <;> omega) | fail)) only [ob_s, am_bi_s, am_bv_s, am_bl_s, ↓bif_d, lits, nI_addS, nI_mulS, nI_subS, nI_lt', nI_le', nI_eq', ↓rd_nI, ↓wrH, up_eq, up_ne, up_up, up_sw, List.set_set, g_seq, g_sne, Nat.reduceEqDiff, ↓reduceIte, List.length_set, Nat.add_sub_cancel_left, Nat.add_sub_cancel, ite_true, ite_false, if_true, if_false, not_true_eq_false, not_false_eq_true, Bool.and_true, Bool.true_and, true_or, or_true, false_or, or_false, and_true, true_and, and_false, false_and, Nat.not_lt_zero, hpRX, hpIX, hpFX, hpLX, hpSX, ↓rgX, ↓rpX, Nat.reduceLeDiff, Nat.reduceLT, Nat.reduceAdd, Nat.reduceMul, Nat.reduceSub, s_out, b01_0, ga, f3]
  · rw [e_Pa_valid 1 _ _ _ rfl]
    simp (maxSteps := 2000000) (disch := (first | omega | (simp (disch := omega) only [up_eq, up_ne, cpA_o, List.length_set] <;> omega) | fail)) only [ob_s, am_bi_s, am_bv_s, am_bl_s, ↓bif_d, lits, nI_addS, nI_mulS, nI_subS, nI_lt', nI_le', nI_eq', ↓rd_nI, ↓wrH, up_eq, up_ne, up_up, up_sw, List.set_set, g_seq, g_sne, Nat.reduceEqDiff, ↓reduceIte, List.length_set, Nat.add_sub_cancel_left, Nat.add_sub_cancel, ite_true, ite_false, if_true, if_false, not_true_eq_false, not_false_eq_true, Bool.and_true, Bool.true_and, true_or, or_true, false_or, or_false, and_true, true_and, and_false, false_and, Nat.not_lt_zero, hpRX, hpIX, hpFX, hpLX, hpSX, ↓rgX, ↓rpX, Nat.reduceLeDiff, Nat.reduceLT, Nat.reduceAdd, Nat.reduceMul, Nat.reduceSub, s_out, b01_0, ga, f2]
  · rw [e_Pa_valid 1 _ _ _ rfl]
    simp (maxSteps := 2000000) (disch := (first | omega | (simp (disch := omega) only [up_eq, up_ne, cpA_o, List.length_set] <;> omega) | fail)) only [ob_s, am_bi_s, am_bv_s, am_bl_s, ↓bif_d, lits, nI_addS, nI_mulS, nI_subS, nI_lt', nI_le', nI_eq', ↓rd_nI, ↓wrH, up_eq, up_ne, up_up, up_sw, List.set_set, g_seq, g_sne, Nat.reduceEqDiff, ↓reduceIte, List.length_set, Nat.add_sub_cancel_left, Nat.add_sub_cancel, ite_true, ite_false, if_true, if_false, not_true_eq_false, not_false_eq_true, Bool.and_true, Bool.true_and, true_or, or_true, false_or, or_false, and_true, true_and, and_false, false_and, Nat.not_lt_zero, hpRX, hpIX, hpFX, hpLX, hpSX, ↓rgX, ↓rpX, Nat.reduceLeDiff, Nat.reduceLT, Nat.reduceAdd, Nat.reduceMul, Nat.reduceSub, s_out, b01_0, ga]
theorem k_setE (hI : InvN A F P nB nl nb nx q t) (x v : Int32) (g0 : x < nI 0 ∨ nI 3 < x) : am_cl m_Pa_set (.ref 1 :: [.int x, .int v]) (heap A F P) = some (some (.int (-nI 1)), heap A F P) := by
  rw [e_Pa_set 1 _ _ _ rfl]
  simp (maxSteps := 2000000) (disch := (first | omega | (simp (disch := omega) only [up_eq, up_ne, cpA_o, List.length_set] <;> omega) | fail)) only [ob_s, am_bi_s, am_bv_s, am_bl_s, ↓bif_d, lits, nI_addS, nI_mulS, nI_subS, nI_lt', nI_le', nI_eq', ↓rd_nI, ↓wrH, up_eq, up_ne, up_up, up_sw, List.set_set, g_seq, g_sne, Nat.reduceEqDiff, ↓reduceIte, List.length_set, Nat.add_sub_cancel_left, Nat.add_sub_cancel, ite_true, ite_false, if_true, if_false, not_true_eq_false, not_false_eq_true, Bool.and_true, Bool.true_and, true_or, or_true, false_or, or_false, and_true, true_and, and_false, false_and, Nat.not_lt_zero, hpRX, hpIX, hpFX, hpLX, hpSX, ↓rgX, ↓rpX, Nat.reduceLeDiff, Nat.reduceLT, Nat.reduceAdd, Nat.reduceMul, Nat.reduceSub, s_out, b01_0, g0]
end X
