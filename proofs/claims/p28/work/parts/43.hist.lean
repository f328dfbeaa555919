section X
variable {A : Nat → List Int32} {F : Nat → Int32} {P : Nat → Nat}
theorem cpF_o {s d k : Nat} (h : k < 100 * d ∨ 100 * d + 3200 ≤ k) : cpF F s d k = F k := by
  unfold cpF
  split
  · split
    · omega
    · rfl
  · rfl
theorem cpF_up {s d k : Nat} {v : Int32} (h : k < 100 * d ∨ 100 * d + 3200 ≤ k) (hs : k < 100 * s ∨ 100 * s + 3200 ≤ k) : cpF (up F k v) s d = up (cpF F s d) k v := by
  funext j
  by_cases c1 : j = k
  · subst c1; rw [up_eq, cpF_o h, up_eq]
  · rw [up_ne _ _ c1]
    show (if 100 * d ≤ j then (if j < 100 * d + 3200 then up F k v (100 * s + (j - 100 * d)) else up F k v j) else up F k v j) = (if 100 * d ≤ j then (if j < 100 * d + 3200 then F (100 * s + (j - 100 * d)) else F j) else F j)
    rw [up_ne F v c1]
    split
    · split
      · rw [up_ne F v (by omega)]
      · rfl
    · rfl
theorem cpA_o {s d k : Nat} (h : k < d ∨ d + 32 ≤ k) : cpA A s d k = A k := by
  unfold cpA
  split
  · split
    · omega
    · rfl
  · rfl
theorem hq_l {k : Nat} (h : k < 4) : am_ql (heap A F P) 35 (nI k) = some (P k) := by
  have : k = 0 ∨ k = 1 ∨ k = 2 ∨ k = 3 := by omega
  rcases this with rfl | rfl | rfl | rfl <;> rfl
theorem hq_s {k v : Nat} (h : k < 4) (hv : hsP v) : am_qs (heap A F P) 35 (nI k) v = some (heap A F (up P k v)) := by
  have : k = 0 ∨ k = 1 ∨ k = 2 ∨ k = 3 := by omega
  rcases this with rfl | rfl | rfl | rfl <;> rcases hv with rfl | rfl | rfl | rfl <;> rfl
theorem hq_n : am_len (heap A F P) 35 = some (nI 4) := rfl
def rot (P : Nat → Nat) : Nat → Nat := up (up (up (up P 0 (P 1)) 1 (P 2)) 2 (P 3)) 3 (P 0)
theorem s_dropOldest (hP : ∀ i, i < 4 → hsP (P i)) : am_cl m_History_dropOldest [.ref 34] (heap A F P) = some (none, heap A (up F 3401 (nI 3)) (rot P)) := by
  have p0 := hP 0 (by omega)
  have p1 := hP 1 (by omega)
  have p2 := hP 2 (by omega)
  have p3 := hP 3 (by omega)
  have n4 : ¬ (4 : Nat) = 0 := by omega
  rw [e_History_dropOldest 34 _ rfl]
  simp (maxSteps := 2000000) (disch := (first | omega | (simp (disch := omega) only [up_eq, up_ne, List.length_set] <;> omega) | fail)) only [ob_s, am_bi_s, am_bv_s, am_bl_s, ↓bif_d, lits, nI_addS, nI_mulS, nI_subS, nI_lt', nI_le', nI_eq', ↓rd_nI, ↓wrH, up_eq, up_ne, up_up, up_sw, List.set_set, g_seq, g_sne, Nat.reduceEqDiff, ↓reduceIte, List.length_set, Nat.add_sub_cancel_left, Nat.add_sub_cancel, ite_true, ite_false, if_true, if_false, not_true_eq_false, not_false_eq_true, Bool.and_true, Bool.true_and, true_or, or_true, false_or, or_false, and_true, true_and, and_false, false_and, Nat.not_lt_zero, hpRX, hpIX, hpFX, hpLX, hpSX, ↓rgX, ↓rpX, Nat.reduceLeDiff, Nat.reduceLT, Nat.reduceAdd, Nat.reduceMul, Nat.reduceSub, hq_l, hq_s, hq_n, n4]
  rw [b_History_dropOldest_18]
  simp (maxSteps := 2000000) (disch := (first | omega | (simp (disch := omega) only [up_eq, up_ne, List.length_set] <;> omega) | fail)) only [ob_s, am_bi_s, am_bv_s, am_bl_s, ↓bif_d, lits, nI_addS, nI_mulS, nI_subS, nI_lt', nI_le', nI_eq', ↓rd_nI, ↓wrH, up_eq, up_ne, up_up, up_sw, List.set_set, g_seq, g_sne, Nat.reduceEqDiff, ↓reduceIte, List.length_set, Nat.add_sub_cancel_left, Nat.add_sub_cancel, ite_true, ite_false, if_true, if_false, not_true_eq_false, not_false_eq_true, Bool.and_true, Bool.true_and, true_or, or_true, false_or, or_false, and_true, true_and, and_false, false_and, Nat.not_lt_zero, hpRX, hpIX, hpFX, hpLX, hpSX, ↓rgX, ↓rpX, Nat.reduceLeDiff, Nat.reduceLT, Nat.reduceAdd, Nat.reduceMul, Nat.reduceSub, hq_l, hq_s, hq_n]
  rw [b_History_dropOldest_18]
  simp (maxSteps := 2000000) (disch := (first | omega | (simp (disch := omega) only [up_eq, up_ne, List.length_set] <;> omega) | fail)) only [ob_s, am_bi_s, am_bv_s, am_bl_s, ↓bif_d, lits, nI_addS, nI_mulS, nI_subS, nI_lt', nI_le', nI_eq', ↓rd_nI, ↓wrH, up_eq, up_ne, up_up, up_sw, List.set_set, g_seq, g_sne, Nat.reduceEqDiff, ↓reduceIte, List.length_set, Nat.add_sub_cancel_left, Nat.add_sub_cancel, ite_true, ite_false, if_true, if_false, not_true_eq_false, not_false_eq_true, Bool.and_true, Bool.true_and, true_or, or_true, false_or, or_false, and_true, true_and, and_false, false_and, Nat.not_lt_zero, hpRX, hpIX, hpFX, hpLX, hpSX, ↓rgX, ↓rpX, Nat.reduceLeDiff, Nat.reduceLT, Nat.reduceAdd, Nat.reduceMul, Nat.reduceSub, hq_l, hq_s, hq_n]
  rw [b_History_dropOldest_18]
  simp (maxSteps := 2000000) (disch := (first | omega | (simp (disch := omega) only [up_eq, up_ne, List.length_set] <;> omega) | fail)) only [ob_s, am_bi_s, am_bv_s, am_bl_s, ↓bif_d, lits, nI_addS, nI_mulS, nI_subS, nI_lt', nI_le', nI_eq', ↓rd_nI, ↓wrH, up_eq, up_ne, up_up, up_sw, List.set_set, g_seq, g_sne, Nat.reduceEqDiff, ↓reduceIte, List.length_set, Nat.add_sub_cancel_left, Nat.add_sub_cancel, ite_true, ite_false, if_true, if_false, not_true_eq_false, not_false_eq_true, Bool.and_true, Bool.true_and, true_or, or_true, false_or, or_false, and_true, true_and, and_false, false_and, Nat.not_lt_zero, hpRX, hpIX, hpFX, hpLX, hpSX, ↓rgX, ↓rpX, Nat.reduceLeDiff, Nat.reduceLT, Nat.reduceAdd, Nat.reduceMul, Nat.reduceSub, hq_l, hq_s, hq_n]
  rw [b_History_dropOldest_18]
  simp (maxSteps := 2000000) (disch := (first | omega | (simp (disch := omega) only [up_eq, up_ne, List.length_set] <;> omega) | fail)) only [ob_s, am_bi_s, am_bv_s, am_bl_s, ↓bif_d, lits, nI_addS, nI_mulS, nI_subS, nI_lt', nI_le', nI_eq', ↓rd_nI, ↓wrH, up_eq, up_ne, up_up, up_sw, List.set_set, g_seq, g_sne, Nat.reduceEqDiff, ↓reduceIte, List.length_set, Nat.add_sub_cancel_left, Nat.add_sub_cancel, ite_true, ite_false, if_true, if_false, not_true_eq_false, not_false_eq_true, Bool.and_true, Bool.true_and, true_or, or_true, false_or, or_false, and_true, true_and, and_false, false_and, Nat.not_lt_zero, hpRX, hpIX, hpFX, hpLX, hpSX, ↓rgX, ↓rpX, Nat.reduceLeDiff, Nat.reduceLT, Nat.reduceAdd, Nat.reduceMul, Nat.reduceSub, hq_l, hq_s, hq_n]
  rfl
/-- the order of the history's states behind an act -/
def Pk (q : Nat) (P : Nat → Nat) : Nat → Nat := if q = 4 then rot P else P
theorem rot_hs (hP : ∀ i, i < 4 → hsP (P i)) : ∀ i, i < 4 → hsP (rot P i) := by
  intro i hi
  have : i = 0 ∨ i = 1 ∨ i = 2 ∨ i = 3 := by omega
  rcases this with rfl | rfl | rfl | rfl
  · exact hP 1 (by omega)
  · exact hP 2 (by omega)
  · exact hP 3 (by omega)
  · exact hP 0 (by omega)
theorem Pk_hs {q : Nat} (hP : ∀ i, i < 4 → hsP (P i)) : ∀ i, i < 4 → hsP (Pk q P i) := by
  unfold Pk
  split
  · exact rot_hs hP
  · exact hP
theorem kp_lt {q : Nat} (h : q ≤ 4) : kp q < 4 := by
  unfold kp
  split <;> omega
theorem s_keep {q : Nat} (hq : q ≤ 4) (hF : F 3401 = nI q) (hP : ∀ i, i < 4 → hsP (P i)) (h2 : LenS A 2) (hL : ∀ b, hsP b → LenS A b) : am_cl m_History_keep [.ref 34, .ref 2] (heap A F P) = some (none, heap (cpA A 2 (Pk q P (kp q))) (up (cpF F 2 (Pk q P (kp q))) 3401 (nI (kp q + 1))) (Pk q P)) := by
  have n0 : ∀ k : Nat, k < 4 → ¬ (4 : Nat) ≤ k := by omega
  have hb : ∀ b, hsP b → 36 ≤ b := by
    intro b hb
    rcases hb with rfl | rfl | rfl | rfl <;> omega
  rw [e_History_keep 34 2 _ rfl]
  by_cases c : q = 4
  · subst c
    have e1 : Pk 4 P = rot P := if_pos rfl
    have e2 : kp 4 = 3 := rfl
    rw [e1, e2]
    have hr := rot_hs hP 3 (by omega)
    have hr36 := hb _ hr
    have hc := fun F' : Nat → Int32 => s_copy_out (A := A) (F := F') (P := rot P) hr (hL _ hr) h2
    have hcF : cpF (up F 3401 (nI 3)) 2 (rot P 3) = up (cpF F 2 (rot P 3)) 3401 (nI 3) := cpF_up (by omega) (by omega)
    have hd := s_dropOldest (A := A) (F := F) (P := P) hP
    simp (maxSteps := 2000000) (disch := (first | omega | (simp (disch := omega) only [up_eq, up_ne, List.length_set] <;> omega) | fail)) only [ob_s, am_bi_s, am_bv_s, am_bl_s, ↓bif_d, lits, nI_addS, nI_mulS, nI_subS, nI_lt', nI_le', nI_eq', ↓rd_nI, ↓wrH, up_eq, up_ne, up_up, up_sw, List.set_set, g_seq, g_sne, Nat.reduceEqDiff, ↓reduceIte, List.length_set, Nat.add_sub_cancel_left, Nat.add_sub_cancel, ite_true, ite_false, if_true, if_false, not_true_eq_false, not_false_eq_true, Bool.and_true, Bool.true_and, true_or, or_true, false_or, or_false, and_true, true_and, and_false, false_and, Nat.not_lt_zero, hpRX, hpIX, hpFX, hpLX, hpSX, ↓rgX, ↓rpX, Nat.reduceLeDiff, Nat.reduceLT, Nat.reduceAdd, Nat.reduceMul, Nat.reduceSub, hF, hq_n, hd]
    rw [b_History_keep_16]
    simp (maxSteps := 2000000) (disch := (first | omega | (simp (disch := omega) only [up_eq, up_ne, List.length_set] <;> omega) | fail)) only [ob_s, am_bi_s, am_bv_s, am_bl_s, ↓bif_d, lits, nI_addS, nI_mulS, nI_subS, nI_lt', nI_le', nI_eq', ↓rd_nI, ↓wrH, up_eq, up_ne, up_up, up_sw, List.set_set, g_seq, g_sne, Nat.reduceEqDiff, ↓reduceIte, List.length_set, Nat.add_sub_cancel_left, Nat.add_sub_cancel, ite_true, ite_false, if_true, if_false, not_true_eq_false, not_false_eq_true, Bool.and_true, Bool.true_and, true_or, or_true, false_or, or_false, and_true, true_and, and_false, false_and, Nat.not_lt_zero, hpRX, hpIX, hpFX, hpLX, hpSX, ↓rgX, ↓rpX, Nat.reduceLeDiff, Nat.reduceLT, Nat.reduceAdd, Nat.reduceMul, Nat.reduceSub, hq_n, hq_l, hc, hcF, nI_nlt0]
  · have e1 : Pk q P = P := if_neg c
    have e2 : kp q = q := if_neg c
    have hq4 : q < 4 := by omega
    rw [e1, e2]
    have hr := hP q hq4
    have hr36 := hb _ hr
    have hc := s_copy_out (A := A) (F := F) (P := P) hr (hL _ hr) h2
    have hcF : cpF F 2 (P q) 3401 = nI q := by rw [cpF_o (by omega), hF]
    have hn := n0 q hq4
    simp (maxSteps := 2000000) (disch := (first | omega | (simp (disch := omega) only [up_eq, up_ne, List.length_set] <;> omega) | fail)) only [ob_s, am_bi_s, am_bv_s, am_bl_s, ↓bif_d, lits, nI_addS, nI_mulS, nI_subS, nI_lt', nI_le', nI_eq', ↓rd_nI, ↓wrH, up_eq, up_ne, up_up, up_sw, List.set_set, g_seq, g_sne, Nat.reduceEqDiff, ↓reduceIte, List.length_set, Nat.add_sub_cancel_left, Nat.add_sub_cancel, ite_true, ite_false, if_true, if_false, not_true_eq_false, not_false_eq_true, Bool.and_true, Bool.true_and, true_or, or_true, false_or, or_false, and_true, true_and, and_false, false_and, Nat.not_lt_zero, hpRX, hpIX, hpFX, hpLX, hpSX, ↓rgX, ↓rpX, Nat.reduceLeDiff, Nat.reduceLT, Nat.reduceAdd, Nat.reduceMul, Nat.reduceSub, hF, hq_n, hq4]
    rw [b_History_keep_16]
    simp (maxSteps := 2000000) (disch := (first | omega | (simp (disch := omega) only [up_eq, up_ne, List.length_set] <;> omega) | fail)) only [ob_s, am_bi_s, am_bv_s, am_bl_s, ↓bif_d, lits, nI_addS, nI_mulS, nI_subS, nI_lt', nI_le', nI_eq', ↓rd_nI, ↓wrH, up_eq, up_ne, up_up, up_sw, List.set_set, g_seq, g_sne, Nat.reduceEqDiff, ↓reduceIte, List.length_set, Nat.add_sub_cancel_left, Nat.add_sub_cancel, ite_true, ite_false, if_true, if_false, not_true_eq_false, not_false_eq_true, Bool.and_true, Bool.true_and, true_or, or_true, false_or, or_false, and_true, true_and, and_false, false_and, Nat.not_lt_zero, hpRX, hpIX, hpFX, hpLX, hpSX, ↓rgX, ↓rpX, Nat.reduceLeDiff, Nat.reduceLT, Nat.reduceAdd, Nat.reduceMul, Nat.reduceSub, hF, hq_n, hq_l, hc, hcF, hn, nI_nlt0]
theorem s_beginAct {q : Nat} (hq : q ≤ 4) (hF : F 3401 = nI q) (hP : ∀ i, i < 4 → hsP (P i)) (h2 : LenS A 2) (hL : ∀ b, hsP b → LenS A b) : am_cl m_Pa_beginAct [.ref 1] (heap A F P) = some (none, heap (cpA A 2 (Pk q P (kp q))) (up (up (cpF F 2 (Pk q P (kp q))) 3401 (nI (kp q + 1))) 16410 (nI 0)) (Pk q P)) := by
  have hk := s_keep (A := A) (P := P) hq hF hP h2 hL
  rw [e_Pa_beginAct 1 _ rfl]
  simp (maxSteps := 2000000) (disch := (first | omega | (simp (disch := omega) only [up_eq, up_ne, List.length_set] <;> omega) | fail)) only [ob_s, am_bi_s, am_bv_s, am_bl_s, ↓bif_d, lits, nI_addS, nI_mulS, nI_subS, nI_lt', nI_le', nI_eq', ↓rd_nI, ↓wrH, up_eq, up_ne, up_up, up_sw, List.set_set, g_seq, g_sne, Nat.reduceEqDiff, ↓reduceIte, List.length_set, Nat.add_sub_cancel_left, Nat.add_sub_cancel, ite_true, ite_false, if_true, if_false, not_true_eq_false, not_false_eq_true, Bool.and_true, Bool.true_and, true_or, or_true, false_or, or_false, and_true, true_and, and_false, false_and, Nat.not_lt_zero, hpRX, hpIX, hpFX, hpLX, hpSX, ↓rgX, ↓rpX, Nat.reduceLeDiff, Nat.reduceLT, Nat.reduceAdd, Nat.reduceMul, Nat.reduceSub, hk]
theorem s_restore0 (hF : F 3401 = nI 0) : am_cl m_History_restore [.ref 34, .ref 2] (heap A F P) = some (none, heap A F P) := by
  rw [e_History_restore 34 2 _ rfl]
  simp (maxSteps := 2000000) (disch := (first | omega | (simp (disch := omega) only [up_eq, up_ne, List.length_set] <;> omega) | fail)) only [ob_s, am_bi_s, am_bv_s, am_bl_s, ↓bif_d, lits, nI_addS, nI_mulS, nI_subS, nI_lt', nI_le', nI_eq', ↓rd_nI, ↓wrH, up_eq, up_ne, up_up, up_sw, List.set_set, g_seq, g_sne, Nat.reduceEqDiff, ↓reduceIte, List.length_set, Nat.add_sub_cancel_left, Nat.add_sub_cancel, ite_true, ite_false, if_true, if_false, not_true_eq_false, not_false_eq_true, Bool.and_true, Bool.true_and, true_or, or_true, false_or, or_false, and_true, true_and, and_false, false_and, Nat.not_lt_zero, hpRX, hpIX, hpFX, hpLX, hpSX, ↓rgX, ↓rpX, Nat.reduceLeDiff, Nat.reduceLT, Nat.reduceAdd, Nat.reduceMul, Nat.reduceSub, hF]
  rw [b_History_restore_33]
theorem s_restore1 {q : Nat} (hq : q < 4) (hF : F 3401 = nI (q + 1)) (hP : ∀ i, i < 4 → hsP (P i)) (h2 : LenS A 2) (hL : ∀ b, hsP b → LenS A b) : am_cl m_History_restore [.ref 34, .ref 2] (heap A F P) = some (none, heap (cpA A (P q) 2) (up (cpF F (P q) 2) 3401 (nI q)) P) := by
  have hr := hP q hq
  have hc := s_copy_in (A := A) (F := F) (P := P) hr (hL _ hr) h2
  have hcF : cpF F (P q) 2 3401 = nI (q + 1) := by rw [cpF_o (by omega), hF]
  have n0 : ¬ q + 1 ≤ 0 := by omega
  have n1 : ¬ 4 < q + 1 := by omega
  rw [e_History_restore 34 2 _ rfl]
  simp (maxSteps := 2000000) (disch := (first | omega | (simp (disch := omega) only [up_eq, up_ne, List.length_set] <;> omega) | fail)) only [ob_s, am_bi_s, am_bv_s, am_bl_s, ↓bif_d, lits, nI_addS, nI_mulS, nI_subS, nI_lt', nI_le', nI_eq', ↓rd_nI, ↓wrH, up_eq, up_ne, up_up, up_sw, List.set_set, g_seq, g_sne, Nat.reduceEqDiff, ↓reduceIte, List.length_set, Nat.add_sub_cancel_left, Nat.add_sub_cancel, ite_true, ite_false, if_true, if_false, not_true_eq_false, not_false_eq_true, Bool.and_true, Bool.true_and, true_or, or_true, false_or, or_false, and_true, true_and, and_false, false_and, Nat.not_lt_zero, hpRX, hpIX, hpFX, hpLX, hpSX, ↓rgX, ↓rpX, Nat.reduceLeDiff, Nat.reduceLT, Nat.reduceAdd, Nat.reduceMul, Nat.reduceSub, hF, n0, n1, hq_n, hq_l, hc, hcF]
end X
