/-! THE REFERENCE'S HISTORY -/
theorem g_ext {l l' : List Int32} (h : l.length = l'.length) (he : ∀ j, j < l.length → g l j = g l' j) : l = l' := by
  apply List.ext_getElem h
  intro i h1 h2
  have := he i h1
  unfold g at this
  rw [List.getD_eq_getElem?_getD, List.getD_eq_getElem?_getD, List.getElem?_eq_getElem h1, List.getElem?_eq_getElem h2] at this
  exact this
/-- the row at a place of the history -/
def sl (H : List Int32) (s : Nat) : List Int32 := (H.drop (472 * s)).take 472
theorem sl_len {H : List Int32} {s : Nat} (hH : H.length = 1888) (hs : s < 4) : (sl H s).length = 472 := by
  unfold sl
  rw [List.length_take, List.length_drop]
  omega
theorem sl_g {H : List Int32} {s j : Nat} (hj : j < 472) : g (sl H s) j = g H (472 * s + j) := by
  unfold sl g
  rw [List.getD_eq_getElem?_getD, List.getD_eq_getElem?_getD, List.getElem?_take, if_pos hj, List.getElem?_drop]
section M
variable {A : Nat → List Int32} {F : Nat → Int32} {P : Nat → Nat} {nB nl nb nx : Nat}
theorem l_Mod_record20 (hF : F 19202 = nI 3) : ∀ n k (H : List Int32), k + n = 1416 → H.length = 1888 → ∃ H' : List Int32, H'.length = 1888 ∧ (∀ j, k ≤ j → j < 1416 → g H' j = g H (j + 472)) ∧ (∀ j, j < k → g H' j = g H j) ∧ am_ev m_Mod_record (20, [.ref 192, .int (nI k)], [], heap (up A 194 H) F P) = am_ev m_Mod_record (56, [.ref 192, .int (nI 0)], [], heap (up A 194 H') F P) := by
  intro n
  induction n with
  | zero =>
    intro k H hk hH
    refine ⟨H, hH, fun j h1 h2 => by omega, fun _ _ => rfl, ?_⟩
    have hle : 1416 ≤ k := by omega
    rw [b_Mod_record_20]
    simp (maxSteps := 2000000) (disch := (first | omega | (simp (disch := omega) only [up_eq, up_ne, List.length_set] <;> omega) | fail)) only [ob_s, am_bi_s, am_bv_s, am_bl_s, ↓bif_d, lits, nI_addS, nI_mulS, nI_subS, nI_lt', nI_le', nI_eq', ↓rd_nI, ↓wrH, up_eq, up_ne, up_up, up_sw, List.set_set, g_seq, g_sne, Nat.reduceEqDiff, ↓reduceIte, List.length_set, Nat.add_sub_cancel_left, Nat.add_sub_cancel, ite_true, ite_false, if_true, if_false, not_true_eq_false, not_false_eq_true, Bool.and_true, Bool.true_and, true_or, or_true, false_or, or_false, and_true, true_and, and_false, false_and, Nat.not_lt_zero, hpRM, hpIM, hpFM, hpLM, hpSM, hF, hle, Nat.reduceMul]
  | succ n ih =>
    intro k H hk hH
    obtain ⟨H', q1, q2, q3, q4⟩ := ih (k + 1) (H.set k (g H (k + 472))) (by omega) (by rw [List.length_set]; exact hH)
    have hle : ¬ 1416 ≤ k := by omega
    refine ⟨H', q1, fun j h1 h2 => ?_, fun j h1 => ?_, ?_⟩
    · rcases Nat.eq_or_lt_of_le h1 with z | z
      · subst z
        rw [q3 _ (by omega), g_seq (by omega)]
      · rw [q2 j (by omega) h2, g_sne (by omega) (by omega)]
    · rw [q3 j (by omega), g_sne (by omega) (by omega)]
    · rw [b_Mod_record_20]
      simp (maxSteps := 2000000) (disch := (first | omega | (simp (disch := omega) only [up_eq, up_ne, List.length_set] <;> omega) | fail)) only [ob_s, am_bi_s, am_bv_s, am_bl_s, ↓bif_d, lits, nI_addS, nI_mulS, nI_subS, nI_lt', nI_le', nI_eq', ↓rd_nI, ↓wrH, up_eq, up_ne, up_up, up_sw, List.set_set, g_seq, g_sne, Nat.reduceEqDiff, ↓reduceIte, List.length_set, Nat.add_sub_cancel_left, Nat.add_sub_cancel, ite_true, ite_false, if_true, if_false, not_true_eq_false, not_false_eq_true, Bool.and_true, Bool.true_and, true_or, or_true, false_or, or_false, and_true, true_and, and_false, false_and, Nat.not_lt_zero, hpRM, hpIM, hpFM, hpLM, hpSM, hF, hle, Nat.reduceMul, q4]
theorem l_Mod_record56 (hr : (A 193).length = 472) {q : Nat} (hq : q < 4) (hF : F 19202 = nI q) : ∀ n k (H : List Int32), k + n = 472 → H.length = 1888 → ∃ H' : List Int32, H'.length = 1888 ∧ (∀ j, k ≤ j → j < 472 → g H' (472 * q + j) = g (A 193) j) ∧ (∀ j, j < 472 * q + k ∨ 472 * q + 472 ≤ j → g H' j = g H j) ∧ am_ev m_Mod_record (56, [.ref 192, .int (nI k)], [], heap (up A 194 H) F P) = some (none, heap (up A 194 H') (up F 19202 (nI (q + 1))) P) := by
  intro n
  induction n with
  | zero =>
    intro k H hk hH
    refine ⟨H, hH, fun j h1 h2 => by omega, fun _ _ => rfl, ?_⟩
    have hle : 472 ≤ k := by omega
    rw [b_Mod_record_56]
    simp (maxSteps := 2000000) (disch := (first | omega | (simp (disch := omega) only [up_eq, up_ne, List.length_set] <;> omega) | fail)) only [ob_s, am_bi_s, am_bv_s, am_bl_s, ↓bif_d, lits, nI_addS, nI_mulS, nI_subS, nI_lt', nI_le', nI_eq', ↓rd_nI, ↓wrH, up_eq, up_ne, up_up, up_sw, List.set_set, g_seq, g_sne, Nat.reduceEqDiff, ↓reduceIte, List.length_set, Nat.add_sub_cancel_left, Nat.add_sub_cancel, ite_true, ite_false, if_true, if_false, not_true_eq_false, not_false_eq_true, Bool.and_true, Bool.true_and, true_or, or_true, false_or, or_false, and_true, true_and, and_false, false_and, Nat.not_lt_zero, hpRM, hpIM, hpFM, hpLM, hpSM, hF, hle]
  | succ n ih =>
    intro k H hk hH
    obtain ⟨H', q1, q2, q3, q4⟩ := ih (k + 1) (H.set (472 * q + k) (g (A 193) k)) (by omega) (by rw [List.length_set]; exact hH)
    have hle : ¬ 472 ≤ k := by omega
    refine ⟨H', q1, fun j h1 h2 => ?_, fun j h1 => ?_, ?_⟩
    · rcases Nat.eq_or_lt_of_le h1 with z | z
      · subst z
        rw [q3 _ (by omega), g_seq (by omega)]
      · exact q2 j (by omega) h2
    · rw [q3 j (by omega), g_sne (by omega) (by omega)]
    · rw [b_Mod_record_56]
      simp (maxSteps := 2000000) (disch := (first | omega | (simp (disch := omega) only [up_eq, up_ne, List.length_set] <;> omega) | fail)) only [ob_s, am_bi_s, am_bv_s, am_bl_s, ↓bif_d, lits, nI_addS, nI_mulS, nI_subS, nI_lt', nI_le', nI_eq', ↓rd_nI, ↓wrH, up_eq, up_ne, up_up, up_sw, List.set_set, g_seq, g_sne, Nat.reduceEqDiff, ↓reduceIte, List.length_set, Nat.add_sub_cancel_left, Nat.add_sub_cancel, ite_true, ite_false, if_true, if_false, not_true_eq_false, not_false_eq_true, Bool.and_true, Bool.true_and, true_or, or_true, false_or, or_false, and_true, true_and, and_false, false_and, Nat.not_lt_zero, hpRM, hpIM, hpFM, hpLM, hpSM, hF, hle, q4]
/-- the history behind a record: how many rows, and which -/
def kp (q : Nat) : Nat := if q = 4 then 3 else q
def of4 (q s : Nat) : Nat := if q = 4 then s + 1 else s
theorem s_Mod_record (hr : (A 193).length = 472) (hH : (A 194).length = 1888) {q : Nat} (hq : q ≤ 4) (hF : F 19202 = nI q) : ∃ H' : List Int32, H'.length = 1888 ∧ sl H' (kp q) = A 193 ∧ (∀ s, s < kp q → sl H' s = sl (A 194) (of4 q s)) ∧ am_cl m_Mod_record [.ref 192] (heap A F P) = some (none, heap (up A 194 H') (up F 19202 (nI (kp q + 1))) P) := by
  have up194 : up A 194 (A 194) = A := up_id _ _
  rw [e_Mod_record 192 _ rfl]
  by_cases c : q = 4
  · subst c
    obtain ⟨H1, q1, q2, q3, q4⟩ := l_Mod_record20 (A := A) (F := up F 19202 (nI 3)) (P := P) (up_eq _ _ _) 1416 0 (A 194) (by omega) hH
    obtain ⟨H2, r1, r2, r3, r4⟩ := l_Mod_record56 (A := A) (F := up F 19202 (nI 3)) (P := P) hr (q := 3) (by omega) (up_eq _ _ _) 472 0 H1 (by omega) q1
    rw [up194] at q4
    refine ⟨H2, r1, ?_, fun s hs => ?_, ?_⟩
    · refine g_ext ((sl_len r1 (show kp 4 < 4 by decide)).trans hr.symm) (fun j hj => ?_)
      rw [sl_len r1 (show kp 4 < 4 by decide)] at hj
      rw [sl_g hj]
      exact r2 j (by omega) hj
    · have hs3 : s < 3 := hs
      refine g_ext ((sl_len r1 (by omega)).trans (sl_len hH (show of4 4 s < 4 by unfold of4; rw [if_pos rfl]; omega)).symm) (fun j hj => ?_)
      rw [sl_len r1 (by omega)] at hj
      rw [sl_g hj, sl_g hj, r3 _ (by omega), q2 _ (by omega) (by omega)]
      unfold of4
      rw [if_pos rfl]
      congr 1
      omega
    · simp (maxSteps := 2000000) (disch := (first | omega | (simp (disch := omega) only [up_eq, up_ne, List.length_set] <;> omega) | fail)) only [ob_s, am_bi_s, am_bv_s, am_bl_s, ↓bif_d, lits, nI_addS, nI_mulS, nI_subS, nI_lt', nI_le', nI_eq', ↓rd_nI, ↓wrH, up_eq, up_ne, up_up, up_sw, List.set_set, g_seq, g_sne, Nat.reduceEqDiff, ↓reduceIte, List.length_set, Nat.add_sub_cancel_left, Nat.add_sub_cancel, ite_true, ite_false, if_true, if_false, not_true_eq_false, not_false_eq_true, Bool.and_true, Bool.true_and, true_or, or_true, false_or, or_false, and_true, true_and, and_false, false_and, Nat.not_lt_zero, hpRM, hpIM, hpFM, hpLM, hpSM, hF, q4, r4]
      rfl
  · obtain ⟨H2, r1, r2, r3, r4⟩ := l_Mod_record56 (A := A) (F := F) (P := P) hr (q := q) (by omega) hF 472 0 (A 194) (by omega) hH
    rw [up194] at r4
    have ek : kp q = q := by unfold kp; rw [if_neg c]
    rw [ek]
    refine ⟨H2, r1, ?_, fun s hs => ?_, ?_⟩
    · refine g_ext ((sl_len r1 (by omega)).trans hr.symm) (fun j hj => ?_)
      rw [sl_len r1 (by omega)] at hj
      rw [sl_g hj]
      exact r2 j (by omega) hj
    · have e4 : of4 q s = s := by unfold of4; rw [if_neg c]
      rw [e4]
      refine g_ext ((sl_len r1 (by omega)).trans (sl_len hH (by omega)).symm) (fun j hj => ?_)
      rw [sl_len r1 (by omega)] at hj
      rw [sl_g hj, sl_g hj, r3 _ (by omega)]
    · simp (maxSteps := 2000000) (disch := (first | omega | (simp (disch := omega) only [up_eq, up_ne, List.length_set] <;> omega) | fail)) only [ob_s, am_bi_s, am_bv_s, am_bl_s, ↓bif_d, lits, nI_addS, nI_mulS, nI_subS, nI_lt', nI_le', nI_eq', ↓rd_nI, ↓wrH, up_eq, up_ne, up_up, up_sw, List.set_set, g_seq, g_sne, Nat.reduceEqDiff, ↓reduceIte, List.length_set, Nat.add_sub_cancel_left, Nat.add_sub_cancel, ite_true, ite_false, if_true, if_false, not_true_eq_false, not_false_eq_true, Bool.and_true, Bool.true_and, true_or, or_true, false_or, or_false, and_true, true_and, and_false, false_and, Nat.not_lt_zero, hpRM, hpIM, hpFM, hpLM, hpSM, hF, c, r4]
theorem l_Mod_undo (hH : (A 194).length = 1888) {q : Nat} (hq : q < 4) (hF : F 19202 = nI q) : ∀ n k (R : List Int32), k + n = 472 → R.length = 472 → ∃ R' : List Int32, R'.length = 472 ∧ (∀ j, k ≤ j → j < 472 → g R' j = g (A 194) (472 * q + j)) ∧ (∀ j, j < k → g R' j = g R j) ∧ am_ev m_Mod_undo (22, [.ref 192, .int (nI k)], [], heap (up A 193 R) F P) = some (some (.int (nI q)), heap (up A 193 R') F P) := by
  intro n
  induction n with
  | zero =>
    intro k R hk hR
    refine ⟨R, hR, fun j h1 h2 => by omega, fun _ _ => rfl, ?_⟩
    have hle : 472 ≤ k := by omega
    rw [b_Mod_undo_22]
    simp (maxSteps := 2000000) (disch := (first | omega | (simp (disch := omega) only [up_eq, up_ne, List.length_set] <;> omega) | fail)) only [ob_s, am_bi_s, am_bv_s, am_bl_s, ↓bif_d, lits, nI_addS, nI_mulS, nI_subS, nI_lt', nI_le', nI_eq', ↓rd_nI, ↓wrH, up_eq, up_ne, up_up, up_sw, List.set_set, g_seq, g_sne, Nat.reduceEqDiff, ↓reduceIte, List.length_set, Nat.add_sub_cancel_left, Nat.add_sub_cancel, ite_true, ite_false, if_true, if_false, not_true_eq_false, not_false_eq_true, Bool.and_true, Bool.true_and, true_or, or_true, false_or, or_false, and_true, true_and, and_false, false_and, Nat.not_lt_zero, hpRM, hpIM, hpFM, hpLM, hpSM, hF, hle]
  | succ n ih =>
    intro k R hk hR
    obtain ⟨R', q1, q2, q3, q4⟩ := ih (k + 1) (R.set k (g (A 194) (472 * q + k))) (by omega) (by rw [List.length_set]; exact hR)
    have hle : ¬ 472 ≤ k := by omega
    refine ⟨R', q1, fun j h1 h2 => ?_, fun j h1 => ?_, ?_⟩
    · rcases Nat.eq_or_lt_of_le h1 with z | z
      · subst z
        rw [q3 _ (by omega), g_seq (by omega)]
      · exact q2 j (by omega) h2
    · rw [q3 j (by omega), g_sne (by omega) (by omega)]
    · rw [b_Mod_undo_22]
      simp (maxSteps := 2000000) (disch := (first | omega | (simp (disch := omega) only [up_eq, up_ne, List.length_set] <;> omega) | fail)) only [ob_s, am_bi_s, am_bv_s, am_bl_s, ↓bif_d, lits, nI_addS, nI_mulS, nI_subS, nI_lt', nI_le', nI_eq', ↓rd_nI, ↓wrH, up_eq, up_ne, up_up, up_sw, List.set_set, g_seq, g_sne, Nat.reduceEqDiff, ↓reduceIte, List.length_set, Nat.add_sub_cancel_left, Nat.add_sub_cancel, ite_true, ite_false, if_true, if_false, not_true_eq_false, not_false_eq_true, Bool.and_true, Bool.true_and, true_or, or_true, false_or, or_false, and_true, true_and, and_false, false_and, Nat.not_lt_zero, hpRM, hpIM, hpFM, hpLM, hpSM, hF, hle, q4]
theorem s_Mod_undo0 (hF : F 19202 = nI 0) : am_cl m_Mod_undo [.ref 192] (heap A F P) = some (some (.int (-nI 5)), heap A F P) := by
  rw [e_Mod_undo 192 _ rfl]
  simp (maxSteps := 2000000) (disch := (first | omega | (simp (disch := omega) only [up_eq, up_ne, List.length_set] <;> omega) | fail)) only [ob_s, am_bi_s, am_bv_s, am_bl_s, ↓bif_d, lits, nI_addS, nI_mulS, nI_subS, nI_lt', nI_le', nI_eq', ↓rd_nI, ↓wrH, up_eq, up_ne, up_up, up_sw, List.set_set, g_seq, g_sne, Nat.reduceEqDiff, ↓reduceIte, List.length_set, Nat.add_sub_cancel_left, Nat.add_sub_cancel, ite_true, ite_false, if_true, if_false, not_true_eq_false, not_false_eq_true, Bool.and_true, Bool.true_and, true_or, or_true, false_or, or_false, and_true, true_and, and_false, false_and, Nat.not_lt_zero, hpRM, hpIM, hpFM, hpLM, hpSM, hF]
theorem s_Mod_undo1 (hr : (A 193).length = 472) (hH : (A 194).length = 1888) {q : Nat} (hq : q < 4) (hF : F 19202 = nI (q + 1)) : am_cl m_Mod_undo [.ref 192] (heap A F P) = some (some (.int (nI q)), heap (up A 193 (sl (A 194) q)) (up F 19202 (nI q)) P) := by
  obtain ⟨R', q1, q2, q3, q4⟩ := l_Mod_undo (A := A) (F := up F 19202 (nI q)) (P := P) hH hq (up_eq _ _ _) 472 0 (A 193) (by omega) hr
  have e : R' = sl (A 194) q := by
    refine g_ext (q1.trans (sl_len hH hq).symm) (fun j hj => ?_)
    rw [sl_g (by omega)]
    exact q2 j (by omega) (by omega)
  rw [up_id, e] at q4
  have hne : ¬ q + 1 = 0 := by omega
  rw [e_Mod_undo 192 _ rfl]
  simp (maxSteps := 2000000) (disch := (first | omega | (simp (disch := omega) only [up_eq, up_ne, List.length_set] <;> omega) | fail)) only [ob_s, am_bi_s, am_bv_s, am_bl_s, ↓bif_d, lits, nI_addS, nI_mulS, nI_subS, nI_lt', nI_le', nI_eq', ↓rd_nI, ↓wrH, up_eq, up_ne, up_up, up_sw, List.set_set, g_seq, g_sne, Nat.reduceEqDiff, ↓reduceIte, List.length_set, Nat.add_sub_cancel_left, Nat.add_sub_cancel, ite_true, ite_false, if_true, if_false, not_true_eq_false, not_false_eq_true, Bool.and_true, Bool.true_and, true_or, or_true, false_or, or_false, and_true, true_and, and_false, false_and, Nat.not_lt_zero, hpRM, hpIM, hpFM, hpLM, hpSM, hF, hne, q4]
end M
