/-! WHAT SELLERS GET, AND THE ACCOUNT -/
section X
variable {A : Nat → List Int32} {F : Nat → Int32} {P : Nat → Nat} {r : List Int32} {nB nl nb nx q t : Nat} {L B Fi Se Mn Bu Pr : List Int32}
theorem m_sel0 (hX : Mx A r Bu Pr nB nl nb nx) (x : Int32) : ∀ n k m, k + n = nl → am_ev m_Mod_seller (31, [.ref 192, .int x, .int (nI 0), .long (lN m), .float 0, .int (nI k)], [], heap A F P) = some (some (.long (lN (m + cN (fun l => g r (18 + l) = x) n k))), heap A F P) := by
  obtain ⟨x1, x2, x3, x4, x5, hM, x7, x8, x9, x10⟩ := hX
  have hlt := s_Mod_lots (A := A) (F := F) (P := P) (nB := nB) (nl := nl) (nb := nb) (nx := nx) (by rw [x1]; exact hM.1)
  have hnl : nl ≤ 20 := hM.1.2.2.2.2.2.2.2.1
  have hr0 : r.length = 472 := hM.1.1
  have hr1 : (A 193).length = 472 := by rw [x1]; exact hr0
  intro n
  induction n with
  | zero =>
    intro k m hk
    have hle : nl ≤ k := by omega
    rw [b_Mod_seller_31]
    simp (maxSteps := 2000000) (disch := (first | omega | (simp (disch := omega) only [up_eq, up_ne, cpA_o, cpF_o, List.length_set] <;> omega) | fail)) only [ob_s, am_bi_s, am_bv_s, am_bl_s, ↓bif_d, lits, nI_addS, nI_mulS, nI_subS, nI_lt', nI_le', nI_eq', ↓rd_nI, ↓wrH, up_eq, up_ne, up_up, up_sw, List.set_set, g_seq, g_sne, Nat.reduceEqDiff, ↓reduceIte, List.length_set, Nat.add_sub_cancel_left, Nat.add_sub_cancel, ite_true, ite_false, if_true, if_false, not_true_eq_false, not_false_eq_true, Bool.and_true, Bool.true_and, true_or, or_true, false_or, or_false, and_true, true_and, and_false, false_and, Nat.not_lt_zero, hpRM, hpIM, hpFM, hpLM, hpSM, hlt, hle]
    rfl
  | succ n ih =>
    intro k m hk
    have hle : ¬ nl ≤ k := by omega
    rw [b_Mod_seller_31, hlt, cN_s]
    simp only [am_bi_s, ↓bif_d, nI_le' (show nl < 2 ^ 31 by omega) (show k < 2 ^ 31 by omega), hle, if_false]
    by_cases c : g r (18 + k) = x
    · have ih := ih (k + 1) (m + 1) (by omega)
      rw [cif_t c, ← Nat.add_assoc, ← ih]
      simp (maxSteps := 2000000) (disch := (first | omega | (simp (disch := omega) only [up_eq, up_ne, cpA_o, cpF_o, List.length_set] <;> omega) | fail)) only [ob_s, am_bi_s, am_bv_s, am_bl_s, ↓bif_d, lits, nI_addS, nI_mulS, nI_subS, nI_lt', nI_le', nI_eq', ↓rd_nI, ↓wrH, up_eq, up_ne, up_up, up_sw, List.set_set, g_seq, g_sne, Nat.reduceEqDiff, ↓reduceIte, List.length_set, Nat.add_sub_cancel_left, Nat.add_sub_cancel, ite_true, ite_false, if_true, if_false, not_true_eq_false, not_false_eq_true, Bool.and_true, Bool.true_and, true_or, or_true, false_or, or_false, and_true, true_and, and_false, false_and, Nat.not_lt_zero, hpRM, hpIM, hpFM, hpLM, hpSM, x1, c, lN_1]
    · have ih := ih (k + 1) m (by omega)
      rw [cif_f c, Nat.zero_add, ← ih]
      simp (maxSteps := 2000000) (disch := (first | omega | (simp (disch := omega) only [up_eq, up_ne, cpA_o, cpF_o, List.length_set] <;> omega) | fail)) only [ob_s, am_bi_s, am_bv_s, am_bl_s, ↓bif_d, lits, nI_addS, nI_mulS, nI_subS, nI_lt', nI_le', nI_eq', ↓rd_nI, ↓wrH, up_eq, up_ne, up_up, up_sw, List.set_set, g_seq, g_sne, Nat.reduceEqDiff, ↓reduceIte, List.length_set, Nat.add_sub_cancel_left, Nat.add_sub_cancel, ite_true, ite_false, if_true, if_false, not_true_eq_false, not_false_eq_true, Bool.and_true, Bool.true_and, true_or, or_true, false_or, or_false, and_true, true_and, and_false, false_and, Nat.not_lt_zero, hpRM, hpIM, hpFM, hpLM, hpSM, x1, c]
theorem m_sel1 (hX : Mx A r Bu Pr nB nl nb nx) (x : Int32) : ∀ n k m, k + n = nl → am_ev m_Mod_seller (31, [.ref 192, .int x, .int (nI 1), .long (lN m), .float 0, .int (nI k)], [], heap A F P) = some (some (.long (lN (m + cN (fun l => g r (18 + l) = x ∧ ¬ g Bu l < nI 0) n k))), heap A F P) := by
  classical
  obtain ⟨x1, x2, x3, x4, x5, hM, x7, x8, x9, x10⟩ := hX
  have hlt := s_Mod_lots (A := A) (F := F) (P := P) (nB := nB) (nl := nl) (nb := nb) (nx := nx) (by rw [x1]; exact hM.1)
  have hnl : nl ≤ 20 := hM.1.2.2.2.2.2.2.2.1
  have hr0 : r.length = 472 := hM.1.1
  have hr1 : (A 193).length = 472 := by rw [x1]; exact hr0
  have h4 : (A 204).length = 20 := by rw [x2]; exact x4
  intro n
  induction n with
  | zero =>
    intro k m hk
    have hle : nl ≤ k := by omega
    rw [b_Mod_seller_31]
    simp (maxSteps := 2000000) (disch := (first | omega | (simp (disch := omega) only [up_eq, up_ne, cpA_o, cpF_o, List.length_set] <;> omega) | fail)) only [ob_s, am_bi_s, am_bv_s, am_bl_s, ↓bif_d, lits, nI_addS, nI_mulS, nI_subS, nI_lt', nI_le', nI_eq', ↓rd_nI, ↓wrH, up_eq, up_ne, up_up, up_sw, List.set_set, g_seq, g_sne, Nat.reduceEqDiff, ↓reduceIte, List.length_set, Nat.add_sub_cancel_left, Nat.add_sub_cancel, ite_true, ite_false, if_true, if_false, not_true_eq_false, not_false_eq_true, Bool.and_true, Bool.true_and, true_or, or_true, false_or, or_false, and_true, true_and, and_false, false_and, Nat.not_lt_zero, hpRM, hpIM, hpFM, hpLM, hpSM, hlt, hle]
    rfl
  | succ n ih =>
    intro k m hk
    have hle : ¬ nl ≤ k := by omega
    have hsd := s_isSold (F := F) (P := P) (l := k) h4 (by omega)
    rw [x2] at hsd
    have l1 : Int32.toInt64 (nI 1) = lN 1 := nI_l (by omega)
    have l0 : Int32.toInt64 (nI 0) = lN 0 := nI_l (by omega)
    rw [b_Mod_seller_31, hlt, cN_s]
    simp only [am_bi_s, ↓bif_d, nI_le' (show nl < 2 ^ 31 by omega) (show k < 2 ^ 31 by omega), hle, if_false]
    by_cases c : g r (18 + k) = x
    · by_cases d : g Bu k < nI 0
      · have ih := ih (k + 1) m (by omega)
        rw [cif_f (p := g r (18 + k) = x ∧ ¬ g Bu k < nI 0) (fun z => z.2 d), Nat.zero_add, ← ih]
        simp (maxSteps := 2000000) (disch := (first | omega | (simp (disch := omega) only [up_eq, up_ne, cpA_o, cpF_o, List.length_set] <;> omega) | fail)) only [ob_s, am_bi_s, am_bv_s, am_bl_s, ↓bif_d, lits, nI_addS, nI_mulS, nI_subS, nI_lt', nI_le', nI_eq', ↓rd_nI, ↓wrH, up_eq, up_ne, up_up, up_sw, List.set_set, g_seq, g_sne, Nat.reduceEqDiff, ↓reduceIte, List.length_set, Nat.add_sub_cancel_left, Nat.add_sub_cancel, ite_true, ite_false, if_true, if_false, not_true_eq_false, not_false_eq_true, Bool.and_true, Bool.true_and, true_or, or_true, false_or, or_false, and_true, true_and, and_false, false_and, Nat.not_lt_zero, hpRM, hpIM, hpFM, hpLM, hpSM, x1, c, hsd, b01_0, d, l0, l1, lN_add, Nat.add_zero]
      · have ih := ih (k + 1) (m + 1) (by omega)
        rw [cif_t (p := g r (18 + k) = x ∧ ¬ g Bu k < nI 0) ⟨c, d⟩, ← Nat.add_assoc, ← ih]
        simp (maxSteps := 2000000) (disch := (first | omega | (simp (disch := omega) only [up_eq, up_ne, cpA_o, cpF_o, List.length_set] <;> omega) | fail)) only [ob_s, am_bi_s, am_bv_s, am_bl_s, ↓bif_d, lits, nI_addS, nI_mulS, nI_subS, nI_lt', nI_le', nI_eq', ↓rd_nI, ↓wrH, up_eq, up_ne, up_up, up_sw, List.set_set, g_seq, g_sne, Nat.reduceEqDiff, ↓reduceIte, List.length_set, Nat.add_sub_cancel_left, Nat.add_sub_cancel, ite_true, ite_false, if_true, if_false, not_true_eq_false, not_false_eq_true, Bool.and_true, Bool.true_and, true_or, or_true, false_or, or_false, and_true, true_and, and_false, false_and, Nat.not_lt_zero, hpRM, hpIM, hpFM, hpLM, hpSM, x1, c, hsd, b01_0, d, l0, l1, lN_add, Nat.add_zero]
    · have ih := ih (k + 1) m (by omega)
      rw [cif_f (p := g r (18 + k) = x ∧ ¬ g Bu k < nI 0) (fun z => c z.1), Nat.zero_add, ← ih]
      simp (maxSteps := 2000000) (disch := (first | omega | (simp (disch := omega) only [up_eq, up_ne, cpA_o, cpF_o, List.length_set] <;> omega) | fail)) only [ob_s, am_bi_s, am_bv_s, am_bl_s, ↓bif_d, lits, nI_addS, nI_mulS, nI_subS, nI_lt', nI_le', nI_eq', ↓rd_nI, ↓wrH, up_eq, up_ne, up_up, up_sw, List.set_set, g_seq, g_sne, Nat.reduceEqDiff, ↓reduceIte, List.length_set, Nat.add_sub_cancel_left, Nat.add_sub_cancel, ite_true, ite_false, if_true, if_false, not_true_eq_false, not_false_eq_true, Bool.and_true, Bool.true_and, true_or, or_true, false_or, or_false, and_true, true_and, and_false, false_and, Nat.not_lt_zero, hpRM, hpIM, hpFM, hpLM, hpSM, x1, c]
theorem m_sel2 (hX : Mx A r Bu Pr nB nl nb nx) (x : Int32) : ∀ n k s, k + n = nl → am_ev m_Mod_seller (31, [.ref 192, .int x, .int (nI 2), .long s, .float 0, .int (nI k)], [], heap A F P) = some (some (.long (fL (fun l => g r (18 + l) = x) (mPart r Bu Pr 0) n k s)), heap A F P) := by
  obtain ⟨x1, x2, x3, x4, x5, hM, x7, x8, x9, x10⟩ := hX
  have hlt := s_Mod_lots (A := A) (F := F) (P := P) (nB := nB) (nl := nl) (nb := nb) (nx := nx) (by rw [x1]; exact hM.1)
  have hnl : nl ≤ 20 := hM.1.2.2.2.2.2.2.2.1
  have hr0 : r.length = 472 := hM.1.1
  have hr1 : (A 193).length = 472 := by rw [x1]; exact hr0
  have h5 : (A 205).length = 20 := by rw [x3]; exact x5
  intro n
  induction n with
  | zero =>
    intro k s hk
    have hle : nl ≤ k := by omega
    rw [b_Mod_seller_31]
    simp (maxSteps := 2000000) (disch := (first | omega | (simp (disch := omega) only [up_eq, up_ne, cpA_o, cpF_o, List.length_set] <;> omega) | fail)) only [ob_s, am_bi_s, am_bv_s, am_bl_s, ↓bif_d, lits, nI_addS, nI_mulS, nI_subS, nI_lt', nI_le', nI_eq', ↓rd_nI, ↓wrH, up_eq, up_ne, up_up, up_sw, List.set_set, g_seq, g_sne, Nat.reduceEqDiff, ↓reduceIte, List.length_set, Nat.add_sub_cancel_left, Nat.add_sub_cancel, ite_true, ite_false, if_true, if_false, not_true_eq_false, not_false_eq_true, Bool.and_true, Bool.true_and, true_or, or_true, false_or, or_false, and_true, true_and, and_false, false_and, Nat.not_lt_zero, hpRM, hpIM, hpFM, hpLM, hpSM, hlt, hle]
    rfl
  | succ n ih =>
    intro k s hk
    have hle : ¬ nl ≤ k := by omega
    rw [b_Mod_seller_31, hlt, fL_s]
    simp only [am_bi_s, ↓bif_d, nI_le' (show nl < 2 ^ 31 by omega) (show k < 2 ^ 31 by omega), hle, if_false]
    show _ = some (some (Value.long (fL (fun l => g r (18 + l) = x) (mPart r Bu Pr 0) n (k + 1) (cif (g r (18 + k) = x) (s + (g Pr k).toInt64) s))), heap A F P)
    by_cases c : g r (18 + k) = x
    · have ih := ih (k + 1) (s + (g Pr k).toInt64) (by omega)
      rw [cif_t c, ← ih]
      simp (maxSteps := 2000000) (disch := (first | omega | (simp (disch := omega) only [up_eq, up_ne, cpA_o, cpF_o, List.length_set] <;> omega) | fail)) only [ob_s, am_bi_s, am_bv_s, am_bl_s, ↓bif_d, lits, nI_addS, nI_mulS, nI_subS, nI_lt', nI_le', nI_eq', ↓rd_nI, ↓wrH, up_eq, up_ne, up_up, up_sw, List.set_set, g_seq, g_sne, Nat.reduceEqDiff, ↓reduceIte, List.length_set, Nat.add_sub_cancel_left, Nat.add_sub_cancel, ite_true, ite_false, if_true, if_false, not_true_eq_false, not_false_eq_true, Bool.and_true, Bool.true_and, true_or, or_true, false_or, or_false, and_true, true_and, and_false, false_and, Nat.not_lt_zero, hpRM, hpIM, hpFM, hpLM, hpSM, x1, x3, c]
    · have ih := ih (k + 1) s (by omega)
      rw [cif_f c, ← ih]
      simp (maxSteps := 2000000) (disch := (first | omega | (simp (disch := omega) only [up_eq, up_ne, cpA_o, cpF_o, List.length_set] <;> omega) | fail)) only [ob_s, am_bi_s, am_bv_s, am_bl_s, ↓bif_d, lits, nI_addS, nI_mulS, nI_subS, nI_lt', nI_le', nI_eq', ↓rd_nI, ↓wrH, up_eq, up_ne, up_up, up_sw, List.set_set, g_seq, g_sne, Nat.reduceEqDiff, ↓reduceIte, List.length_set, Nat.add_sub_cancel_left, Nat.add_sub_cancel, ite_true, ite_false, if_true, if_false, not_true_eq_false, not_false_eq_true, Bool.and_true, Bool.true_and, true_or, or_true, false_or, or_false, and_true, true_and, and_false, false_and, Nat.not_lt_zero, hpRM, hpIM, hpFM, hpLM, hpSM, x1, c]
theorem m_sel3 (hX : Mx A r Bu Pr nB nl nb nx) (x : Int32) : ∀ n k s, k + n = nl → am_ev m_Mod_seller (31, [.ref 192, .int x, .int (nI 3), .long s, .float 0, .int (nI k)], [], heap A F P) = some (some (.long (fL (fun l => g r (18 + l) = x) (fun l => g Pr l - mPt (g Pr l) (g r 470) - mFe r Bu l) n k s)), heap A F P) := by
  have hpt := fun l hl => (m_part (F := F) (P := P) (l := l) hX hl).2
  have hfe := fun l hl => m_fee (F := F) (P := P) (l := l) hX hl
  obtain ⟨x1, x2, x3, x4, x5, hM, x7, x8, x9, x10⟩ := hX
  have hlt := s_Mod_lots (A := A) (F := F) (P := P) (nB := nB) (nl := nl) (nb := nb) (nx := nx) (by rw [x1]; exact hM.1)
  have hnl : nl ≤ 20 := hM.1.2.2.2.2.2.2.2.1
  have hr0 : r.length = 472 := hM.1.1
  have hr1 : (A 193).length = 472 := by rw [x1]; exact hr0
  have h5 : (A 205).length = 20 := by rw [x3]; exact x5
  intro n
  induction n with
  | zero =>
    intro k s hk
    have hle : nl ≤ k := by omega
    rw [b_Mod_seller_31]
    simp (maxSteps := 2000000) (disch := (first | omega | (simp (disch := omega) only [up_eq, up_ne, cpA_o, cpF_o, List.length_set] <;> omega) | fail)) only [ob_s, am_bi_s, am_bv_s, am_bl_s, ↓bif_d, lits, nI_addS, nI_mulS, nI_subS, nI_lt', nI_le', nI_eq', ↓rd_nI, ↓wrH, up_eq, up_ne, up_up, up_sw, List.set_set, g_seq, g_sne, Nat.reduceEqDiff, ↓reduceIte, List.length_set, Nat.add_sub_cancel_left, Nat.add_sub_cancel, ite_true, ite_false, if_true, if_false, not_true_eq_false, not_false_eq_true, Bool.and_true, Bool.true_and, true_or, or_true, false_or, or_false, and_true, true_and, and_false, false_and, Nat.not_lt_zero, hpRM, hpIM, hpFM, hpLM, hpSM, hlt, hle]
    rfl
  | succ n ih =>
    intro k s hk
    have hle : ¬ nl ≤ k := by omega
    have hp := hpt k (by omega)
    have hf := hfe k (by omega)
    rw [b_Mod_seller_31, hlt, fL_s]
    simp only [am_bi_s, ↓bif_d, nI_le' (show nl < 2 ^ 31 by omega) (show k < 2 ^ 31 by omega), hle, if_false]
    by_cases c : g r (18 + k) = x
    · have ih := ih (k + 1) (s + (g Pr k - mPt (g Pr k) (g r 470) - mFe r Bu k).toInt64) (by omega)
      rw [cif_t c, ← ih]
      simp (maxSteps := 2000000) (disch := (first | omega | (simp (disch := omega) only [up_eq, up_ne, cpA_o, cpF_o, List.length_set] <;> omega) | fail)) only [ob_s, am_bi_s, am_bv_s, am_bl_s, ↓bif_d, lits, nI_addS, nI_mulS, nI_subS, nI_lt', nI_le', nI_eq', ↓rd_nI, ↓wrH, up_eq, up_ne, up_up, up_sw, List.set_set, g_seq, g_sne, Nat.reduceEqDiff, ↓reduceIte, List.length_set, Nat.add_sub_cancel_left, Nat.add_sub_cancel, ite_true, ite_false, if_true, if_false, not_true_eq_false, not_false_eq_true, Bool.and_true, Bool.true_and, true_or, or_true, false_or, or_false, and_true, true_and, and_false, false_and, Nat.not_lt_zero, hpRM, hpIM, hpFM, hpLM, hpSM, x1, x3, c, hp, hf]
    · have ih := ih (k + 1) s (by omega)
      rw [cif_f c, ← ih]
      simp (maxSteps := 2000000) (disch := (first | omega | (simp (disch := omega) only [up_eq, up_ne, cpA_o, cpF_o, List.length_set] <;> omega) | fail)) only [ob_s, am_bi_s, am_bv_s, am_bl_s, ↓bif_d, lits, nI_addS, nI_mulS, nI_subS, nI_lt', nI_le', nI_eq', ↓rd_nI, ↓wrH, up_eq, up_ne, up_up, up_sw, List.set_set, g_seq, g_sne, Nat.reduceEqDiff, ↓reduceIte, List.length_set, Nat.add_sub_cancel_left, Nat.add_sub_cancel, ite_true, ite_false, if_true, if_false, not_true_eq_false, not_false_eq_true, Bool.and_true, Bool.true_and, true_or, or_true, false_or, or_false, and_true, true_and, and_false, false_and, Nat.not_lt_zero, hpRM, hpIM, hpFM, hpLM, hpSM, x1, c]
theorem m_acc32 (hX : Mx A r Bu Pr nB nl nb nx) (x : Int32) : ∀ n k s0 s1 s2 s3, k + n = nl → am_ev m_Mod_account (32, [.ref 192, .int x, .long s0, .float 0, .long s1, .float 0, .long s2, .float 0, .long s3, .float 0, .int (nI k), .float 0], [], heap A F P) = am_ev m_Mod_account (32, [.ref 192, .int x, .long (fL (fun _ => True) (mPart r Bu Pr 0) n k s0), .float 0, .long (fL (fun _ => True) (mPart r Bu Pr 1) n k s1), .float 0, .long (fL (fun _ => True) (mPart r Bu Pr 2) n k s2), .float 0, .long (fL (fun _ => True) (mPart r Bu Pr 3) n k s3), .float 0, .int (nI nl), .float 0], [], heap A F P) := by
  have hpt := fun l hl => m_part (F := F) (P := P) (l := l) hX hl
  have hfe := fun l hl => m_fee (F := F) (P := P) (l := l) hX hl
  obtain ⟨x1, x2, x3, x4, x5, hM, x7, x8, x9, x10⟩ := hX
  have hlt := s_Mod_lots (A := A) (F := F) (P := P) (nB := nB) (nl := nl) (nb := nb) (nx := nx) (by rw [x1]; exact hM.1)
  have hnl : nl ≤ 20 := hM.1.2.2.2.2.2.2.2.1
  have h5 : (A 205).length = 20 := by rw [x3]; exact x5
  intro n
  induction n with
  | zero =>
    intro k s0 s1 s2 s3 hk
    have e : k = nl := by omega
    rw [e]
    rfl
  | succ n ih =>
    intro k s0 s1 s2 s3 hk
    have hle : ¬ nl ≤ k := by omega
    obtain ⟨hp1, hp2⟩ := hpt k (by omega)
    have hf := hfe k (by omega)
    rw [b_Mod_account_32, hlt, fL_s, fL_s, fL_s, fL_s, cif_t trivial, cif_t trivial, cif_t trivial, cif_t trivial]
    simp only [am_bi_s, ↓bif_d, nI_le' (show nl < 2 ^ 31 by omega) (show k < 2 ^ 31 by omega), hle, if_false]
    have ih := ih (k + 1) (s0 + (mPart r Bu Pr 0 k).toInt64) (s1 + (mPart r Bu Pr 1 k).toInt64) (s2 + (mPart r Bu Pr 2 k).toInt64) (s3 + (mPart r Bu Pr 3 k).toInt64) (by omega)
    rw [← ih]
    have e0 : mPart r Bu Pr 0 k = g Pr k := rfl
    have e1 : mPart r Bu Pr 1 k = mPt (g Pr k) (g r 469) := rfl
    have e2 : mPart r Bu Pr 2 k = mPt (g Pr k) (g r 470) := rfl
    have e3 : mPart r Bu Pr 3 k = mFe r Bu k := rfl
    rw [e0, e1, e2, e3]
    simp (maxSteps := 2000000) (disch := (first | omega | (simp (disch := omega) only [up_eq, up_ne, cpA_o, cpF_o, List.length_set] <;> omega) | fail)) only [ob_s, am_bi_s, am_bv_s, am_bl_s, ↓bif_d, lits, nI_addS, nI_mulS, nI_subS, nI_lt', nI_le', nI_eq', ↓rd_nI, ↓wrH, up_eq, up_ne, up_up, up_sw, List.set_set, g_seq, g_sne, Nat.reduceEqDiff, ↓reduceIte, List.length_set, Nat.add_sub_cancel_left, Nat.add_sub_cancel, ite_true, ite_false, if_true, if_false, not_true_eq_false, not_false_eq_true, Bool.and_true, Bool.true_and, true_or, or_true, false_or, or_false, and_true, true_and, and_false, false_and, Nat.not_lt_zero, hpRM, hpIM, hpFM, hpLM, hpSM, x3, hp1, hp2, hf]
theorem k_seller (hI : InvN A F P nB nl nb nx q t) (x v : Int32) : Step m_Pa_seller m_Mod_seller [.int x, .int v] A F P := by
  classical
  have hC0 := Cx_of hI
  obtain ⟨-, -, ⟨n1, n2, n3, n4⟩, l0, hAL, hAM, hAX, hAS, -⟩ := id hC0
  obtain ⟨c5, c7, c10, c12, c14, c16, c18, c21, c23, c25, c27, c29, c31, c33⟩ := LenS2 l0
  obtain ⟨A', A2, L, B, Fi, Se, Mn, Bu, Pr, ⟨b193, a193, a199, a200, a201, a202, a203, a204, a205⟩, ⟨m199, m200, m201, m202, m203, m204, m205⟩, ⟨k199, k200, k201, k202, k203, k204, k205⟩, hW, hS, hK, hC', hcl, hmd, hI1, hI2⟩ := hold2 hI
  obtain ⟨hM, hB, -, l1, hCL, hCM, hCX, hCS, hS0, hS1, hS2, hS3⟩ := id hC'
  obtain ⟨d5, d7, d10, d12, d14, d16, d18, d21, d23, d25, d27, d29, d31, d33⟩ := LenS2 l1
  obtain ⟨w166, w168, w170, w172, w174, w176, w178, w180, w182⟩ := id hW
  have hr0 : (A 193).length = 472 := hM.1.1
  have hr1 : (A' 193).length = 472 := by rw [b193]; exact hr0
  have hr2 : (A2 193).length = 472 := by rw [a193]; exact hr0
  have hnl : nl ≤ 20 := hM.1.2.2.2.2.2.2.2.1
  have hnb : nb ≤ 8 := hM.1.2.2.2.2.2.2.2.2.1
  have hnx : nx ≤ 60 := hM.1.2.2.2.2.2.2.2.2.2
  have iL := fun x => s_isLot (A := A) (F := F) (P := P) n2 (by omega) x
  have iB := fun x => s_isBidder (A := A) (F := F) (P := P) n3 (by omega) x
  have iX := fun x => s_isBid (A := A) (F := F) (P := P) n4 (by omega) x
  have nL := fun x => s_Mod_noLot (A := A) (F := F) (P := P) hM.1 x
  have nBd := fun x => s_Mod_noBidder (A := A) (F := F) (P := P) hM.1 x
  have nX := fun x => s_Mod_noBid (A := A) (F := F) (P := P) hM.1 x
  have nL' := fun x => s_Mod_noLot (A := A') (F := up F 16410 (nI 1)) (P := P) (by rw [b193]; exact hM.1) x
  have nBd' := fun x => s_Mod_noBidder (A := A') (F := up F 16410 (nI 1)) (P := P) (by rw [b193]; exact hM.1) x
  have nX' := fun x => s_Mod_noBid (A := A') (F := up F 16410 (nI 1)) (P := P) (by rw [b193]; exact hM.1) x
  have hX := Mx_of hC' hS a193 a204 a205 m204 m205
  by_cases g0 : x < nI 0 ∨ nI 4 < x
  · refine ⟨.long (-9223372036854775808), A, F, P, A, F, P, ?_, ?_, nB, nl, nb, nx, q, t, hI⟩
    · rw [e_Pa_seller 1 _ _ _ rfl]
      simp (maxSteps := 2000000) (disch := (first | omega | (simp (disch := omega) only [up_eq, up_ne, cpA_o, cpF_o, List.length_set] <;> omega) | fail)) only [ob_s, am_bi_s, am_bv_s, am_bl_s, ↓bif_d, lits, nI_addS, nI_mulS, nI_subS, nI_lt', nI_le', nI_eq', ↓rd_nI, ↓wrH, up_eq, up_ne, up_up, up_sw, List.set_set, g_seq, g_sne, Nat.reduceEqDiff, ↓reduceIte, List.length_set, Nat.add_sub_cancel_left, Nat.add_sub_cancel, ite_true, ite_false, if_true, if_false, not_true_eq_false, not_false_eq_true, Bool.and_true, Bool.true_and, true_or, or_true, false_or, or_false, and_true, true_and, and_false, false_and, Nat.not_lt_zero, hpRX, hpIX, hpFX, hpLX, hpSX, ↓rgX, ↓rpX, Nat.reduceLeDiff, Nat.reduceLT, Nat.reduceAdd, Nat.reduceMul, Nat.reduceSub, s_out, b01_0, g0]
    · rw [e_Mod_seller 192 _ _ _ rfl]
      simp (maxSteps := 2000000) (disch := (first | omega | (simp (disch := omega) only [up_eq, up_ne, cpA_o, cpF_o, List.length_set] <;> omega) | fail)) only [ob_s, am_bi_s, am_bv_s, am_bl_s, ↓bif_d, lits, nI_addS, nI_mulS, nI_subS, nI_lt', nI_le', nI_eq', ↓rd_nI, ↓wrH, up_eq, up_ne, up_up, up_sw, List.set_set, g_seq, g_sne, Nat.reduceEqDiff, ↓reduceIte, List.length_set, Nat.add_sub_cancel_left, Nat.add_sub_cancel, ite_true, ite_false, if_true, if_false, not_true_eq_false, not_false_eq_true, Bool.and_true, Bool.true_and, true_or, or_true, false_or, or_false, and_true, true_and, and_false, false_and, Nat.not_lt_zero, hpRM, hpIM, hpFM, hpLM, hpSM, s_Mod_in, b01_0, g0, e_Mod_lost]
  · have hxm : ¬ x = -nI 1 := fun z => g0 (Or.inl (by rw [z]; decide))
    have hz0 : (0 : Int64) = lN 0 := rfl
    have hq : ∀ k, (x = -nI 1 ∨ x = g (A 193) (18 + k)) ↔ g (A 193) (18 + k) = x := fun k => ⟨fun z => (z.resolve_left hxm).symm, fun z => Or.inr z.symm⟩
    by_cases e0 : v = nI 0
    · subst e0
      have hcn := s_cnt10 (A := A') (F := up F 16410 (nI 1)) (P := P) (N := nl) (by omega) (by omega) x
      have ecn : cN (fun j => g (A' 10) j = x) nl 0 = cN (fun l => g (A 193) (18 + l) = x) nl 0 := cN_c nl 0 (fun j _ hj => by rw [(hCL j (by omega)).1])
      rw [ecn] at hcn
      have h0 := m_sel0 (F := up F 16410 (nI 1)) (P := P) hX x nl 0 0 (by omega)
      rw [Nat.zero_add, ← hz0, ← nI_l (by have := cN_le (fun l => g (A 193) (18 + l) = x) nl 0; omega)] at h0
      refine ⟨.long (Int32.toInt64 (nI (cN (fun l => g (A 193) (18 + l) = x) nl 0))), A', up F 16410 (nI 1), P, A2, up F 16410 (nI 1), P, ?_, ?_, nB, nl, nb, nx, q, t, hI2⟩
      · rw [e_Pa_seller 1 _ _ _ rfl]
        simp (maxSteps := 2000000) (disch := (first | omega | (simp (disch := omega) only [up_eq, up_ne, cpA_o, cpF_o, List.length_set] <;> omega) | fail)) only [ob_s, am_bi_s, am_bv_s, am_bl_s, ↓bif_d, lits, nI_addS, nI_mulS, nI_subS, nI_lt', nI_le', nI_eq', ↓rd_nI, ↓wrH, up_eq, up_ne, up_up, up_sw, List.set_set, g_seq, g_sne, Nat.reduceEqDiff, ↓reduceIte, List.length_set, Nat.add_sub_cancel_left, Nat.add_sub_cancel, ite_true, ite_false, if_true, if_false, not_true_eq_false, not_false_eq_true, Bool.and_true, Bool.true_and, true_or, or_true, false_or, or_false, and_true, true_and, and_false, false_and, Nat.not_lt_zero, hpRX, hpIX, hpFX, hpLX, hpSX, ↓rgX, ↓rpX, Nat.reduceLeDiff, Nat.reduceLT, Nat.reduceAdd, Nat.reduceMul, Nat.reduceSub, s_out, b01_0, g0, hcl, n2, hcn]
      · rw [e_Mod_seller 192 _ _ _ rfl]
        simp (maxSteps := 2000000) (disch := (first | omega | (simp (disch := omega) only [up_eq, up_ne, cpA_o, cpF_o, List.length_set] <;> omega) | fail)) only [ob_s, am_bi_s, am_bv_s, am_bl_s, ↓bif_d, lits, nI_addS, nI_mulS, nI_subS, nI_lt', nI_le', nI_eq', ↓rd_nI, ↓wrH, up_eq, up_ne, up_up, up_sw, List.set_set, g_seq, g_sne, Nat.reduceEqDiff, ↓reduceIte, List.length_set, Nat.add_sub_cancel_left, Nat.add_sub_cancel, ite_true, ite_false, if_true, if_false, not_true_eq_false, not_false_eq_true, Bool.and_true, Bool.true_and, true_or, or_true, false_or, or_false, and_true, true_and, and_false, false_and, Nat.not_lt_zero, hpRM, hpIM, hpFM, hpLM, hpSM, s_Mod_in, b01_0, g0, hmd, Nat.reduceLT, h0]
    by_cases e1 : v = nI 1
    · subst e1
      have hcn := c_sold (P := P) hC' hW x
      have ecn : cN (fun l => (x = -nI 1 ∨ x = g (A 193) (18 + l)) ∧ g (A' 170) l = nI 0) nl 0 = cN (fun l => g (A 193) (18 + l) = x ∧ ¬ g Bu l < nI 0) nl 0 := cN_c nl 0 (fun j _ hj => by rw [hq, (hK.1 j (by omega)).2.2.1, mSt_0 hM hS (show j < nl by omega)])
      rw [ecn] at hcn
      have h0 := m_sel1 (F := up F 16410 (nI 1)) (P := P) hX x nl 0 0 (by omega)
      rw [Nat.zero_add, ← hz0, ← nI_l (by have := cN_le (fun l => g (A 193) (18 + l) = x ∧ ¬ g Bu l < nI 0) nl 0; omega)] at h0
      refine ⟨.long (Int32.toInt64 (nI (cN (fun l => g (A 193) (18 + l) = x ∧ ¬ g Bu l < nI 0) nl 0))), A', up F 16410 (nI 1), P, A2, up F 16410 (nI 1), P, ?_, ?_, nB, nl, nb, nx, q, t, hI2⟩
      · rw [e_Pa_seller 1 _ _ _ rfl]
        simp (maxSteps := 2000000) (disch := (first | omega | (simp (disch := omega) only [up_eq, up_ne, cpA_o, cpF_o, List.length_set] <;> omega) | fail)) only [ob_s, am_bi_s, am_bv_s, am_bl_s, ↓bif_d, lits, nI_addS, nI_mulS, nI_subS, nI_lt', nI_le', nI_eq', ↓rd_nI, ↓wrH, up_eq, up_ne, up_up, up_sw, List.set_set, g_seq, g_sne, Nat.reduceEqDiff, ↓reduceIte, List.length_set, Nat.add_sub_cancel_left, Nat.add_sub_cancel, ite_true, ite_false, if_true, if_false, not_true_eq_false, not_false_eq_true, Bool.and_true, Bool.true_and, true_or, or_true, false_or, or_false, and_true, true_and, and_false, false_and, Nat.not_lt_zero, hpRX, hpIX, hpFX, hpLX, hpSX, ↓rgX, ↓rpX, Nat.reduceLeDiff, Nat.reduceLT, Nat.reduceAdd, Nat.reduceMul, Nat.reduceSub, s_out, b01_0, g0, hcl, hcn]
      · rw [e_Mod_seller 192 _ _ _ rfl]
        simp (maxSteps := 2000000) (disch := (first | omega | (simp (disch := omega) only [up_eq, up_ne, cpA_o, cpF_o, List.length_set] <;> omega) | fail)) only [ob_s, am_bi_s, am_bv_s, am_bl_s, ↓bif_d, lits, nI_addS, nI_mulS, nI_subS, nI_lt', nI_le', nI_eq', ↓rd_nI, ↓wrH, up_eq, up_ne, up_up, up_sw, List.set_set, g_seq, g_sne, Nat.reduceEqDiff, ↓reduceIte, List.length_set, Nat.add_sub_cancel_left, Nat.add_sub_cancel, ite_true, ite_false, if_true, if_false, not_true_eq_false, not_false_eq_true, Bool.and_true, Bool.true_and, true_or, or_true, false_or, or_false, and_true, true_and, and_false, false_and, Nat.not_lt_zero, hpRM, hpIM, hpFM, hpLM, hpSM, s_Mod_in, b01_0, g0, hmd, Nat.reduceLT, h0]
    by_cases e2 : v = nI 2
    · subst e2
      have hcn := c_total (P := P) (c := 0) hC' hW hS hK (by omega) x
      rw [fL_c (p' := fun l => g (A 193) (18 + l) = x) (f' := mPart (A 193) Bu Pr 0) nl 0 0 (fun j _ _ => hq j) (fun j _ _ => rfl)] at hcn
      have h0 := m_sel2 (F := up F 16410 (nI 1)) (P := P) hX x nl 0 0 (by omega)
      refine ⟨.long (fL (fun l => g (A 193) (18 + l) = x) (mPart (A 193) Bu Pr 0) nl 0 0), A', up F 16410 (nI 1), P, A2, up F 16410 (nI 1), P, ?_, ?_, nB, nl, nb, nx, q, t, hI2⟩
      · rw [e_Pa_seller 1 _ _ _ rfl]
        simp (maxSteps := 2000000) (disch := (first | omega | (simp (disch := omega) only [up_eq, up_ne, cpA_o, cpF_o, List.length_set] <;> omega) | fail)) only [ob_s, am_bi_s, am_bv_s, am_bl_s, ↓bif_d, lits, nI_addS, nI_mulS, nI_subS, nI_lt', nI_le', nI_eq', ↓rd_nI, ↓wrH, up_eq, up_ne, up_up, up_sw, List.set_set, g_seq, g_sne, Nat.reduceEqDiff, ↓reduceIte, List.length_set, Nat.add_sub_cancel_left, Nat.add_sub_cancel, ite_true, ite_false, if_true, if_false, not_true_eq_false, not_false_eq_true, Bool.and_true, Bool.true_and, true_or, or_true, false_or, or_false, and_true, true_and, and_false, false_and, Nat.not_lt_zero, hpRX, hpIX, hpFX, hpLX, hpSX, ↓rgX, ↓rpX, Nat.reduceLeDiff, Nat.reduceLT, Nat.reduceAdd, Nat.reduceMul, Nat.reduceSub, s_out, b01_0, g0, hcl, hcn]
      · rw [e_Mod_seller 192 _ _ _ rfl]
        simp (maxSteps := 2000000) (disch := (first | omega | (simp (disch := omega) only [up_eq, up_ne, cpA_o, cpF_o, List.length_set] <;> omega) | fail)) only [ob_s, am_bi_s, am_bv_s, am_bl_s, ↓bif_d, lits, nI_addS, nI_mulS, nI_subS, nI_lt', nI_le', nI_eq', ↓rd_nI, ↓wrH, up_eq, up_ne, up_up, up_sw, List.set_set, g_seq, g_sne, Nat.reduceEqDiff, ↓reduceIte, List.length_set, Nat.add_sub_cancel_left, Nat.add_sub_cancel, ite_true, ite_false, if_true, if_false, not_true_eq_false, not_false_eq_true, Bool.and_true, Bool.true_and, true_or, or_true, false_or, or_false, and_true, true_and, and_false, false_and, Nat.not_lt_zero, hpRM, hpIM, hpFM, hpLM, hpSM, s_Mod_in, b01_0, g0, hmd, Nat.reduceLT, h0]
    by_cases e3 : v = nI 3
    · subst e3
      have hrc := fun x A F P => e_Money_receipts 183 x (heap A F P) rfl
      have hc0 := c_total (P := P) (c := 0) hC' hW hS hK (by omega) x
      have hc2 := c_total (P := P) (c := 2) hC' hW hS hK (by omega) x
      have hc3 := c_total (P := P) (c := 3) hC' hW hS hK (by omega) x
      rw [fL_c (p' := fun l => g (A 193) (18 + l) = x) (f' := mPart (A 193) Bu Pr 0) nl 0 0 (fun j _ _ => hq j) (fun j _ _ => rfl)] at hc0
      rw [fL_c (p' := fun l => g (A 193) (18 + l) = x) (f' := mPart (A 193) Bu Pr 2) nl 0 0 (fun j _ _ => hq j) (fun j _ _ => rfl)] at hc2
      rw [fL_c (p' := fun l => g (A 193) (18 + l) = x) (f' := mPart (A 193) Bu Pr 3) nl 0 0 (fun j _ _ => hq j) (fun j _ _ => rfl)] at hc3
      have h0 := m_sel3 (F := up F 16410 (nI 1)) (P := P) hX x nl 0 0 (by omega)
      have hsub := fL_sub (p := fun l => g (A 193) (18 + l) = x) (f := fun l => g Pr l - mPt (g Pr l) (g (A 193) 470) - mFe (A 193) Bu l) (f0 := mPart (A 193) Bu Pr 0) (f2 := mPart (A 193) Bu Pr 2) (f3 := mPart (A 193) Bu Pr 3) nl 0 0 0 0 (fun l _ hl => by
        show (g Pr l - mPt (g Pr l) (g (A 193) 470) - mFe (A 193) Bu l).toInt64 = (g Pr l).toInt64 - (mPt (g Pr l) (g (A 193) 470)).toInt64 - (mFe (A 193) Bu l).toInt64
        obtain ⟨p, p1, p2, p3⟩ := hX.2.2.2.2.2.2.1 l (by omega)
        obtain ⟨s, s1, s2, s3⟩ := hS2
        obtain ⟨f, f1, f2, f3⟩ := hS3
        have hfe : ∃ m, m ≤ 1000 ∧ mFe (A 193) Bu l = nI m := by
          unfold mFe
          by_cases z : g Bu l < nI 0 ∧ ¬ g (A 193) (78 + l) = nI 1
          · rw [cif_t z]; exact ⟨f, f2, f3⟩
          · rw [cif_f z]; exact ⟨0, by omega, rfl⟩
        obtain ⟨m, m1, m2⟩ := hfe
        have hle : p * s / 1000 ≤ p := by
          have h1 : p * s ≤ p * 1000 := Nat.mul_le_mul_left p (by omega)
          have h2 := Nat.div_le_div_right (c := 1000) h1
          rw [Nat.mul_div_cancel _ (by omega)] at h2
          exact h2
        rw [p3, s3, (mPt_N p2 s2).2, m2]
        exact sub3_l p2 hle m1)
      rw [show (0 : Int64) - 0 - 0 = 0 from rfl] at hsub
      rw [hsub] at h0
      refine ⟨.long (fL (fun l => g (A 193) (18 + l) = x) (mPart (A 193) Bu Pr 0) nl 0 0 - fL (fun l => g (A 193) (18 + l) = x) (mPart (A 193) Bu Pr 2) nl 0 0 - fL (fun l => g (A 193) (18 + l) = x) (mPart (A 193) Bu Pr 3) nl 0 0), A', up F 16410 (nI 1), P, A2, up F 16410 (nI 1), P, ?_, ?_, nB, nl, nb, nx, q, t, hI2⟩
      · rw [e_Pa_seller 1 _ _ _ rfl]
        simp (maxSteps := 2000000) (disch := (first | omega | (simp (disch := omega) only [up_eq, up_ne, cpA_o, cpF_o, List.length_set] <;> omega) | fail)) only [ob_s, am_bi_s, am_bv_s, am_bl_s, ↓bif_d, lits, nI_addS, nI_mulS, nI_subS, nI_lt', nI_le', nI_eq', ↓rd_nI, ↓wrH, up_eq, up_ne, up_up, up_sw, List.set_set, g_seq, g_sne, Nat.reduceEqDiff, ↓reduceIte, List.length_set, Nat.add_sub_cancel_left, Nat.add_sub_cancel, ite_true, ite_false, if_true, if_false, not_true_eq_false, not_false_eq_true, Bool.and_true, Bool.true_and, true_or, or_true, false_or, or_false, and_true, true_and, and_false, false_and, Nat.not_lt_zero, hpRX, hpIX, hpFX, hpLX, hpSX, ↓rgX, ↓rpX, Nat.reduceLeDiff, Nat.reduceLT, Nat.reduceAdd, Nat.reduceMul, Nat.reduceSub, s_out, b01_0, g0, hcl, hrc, hc0, hc2, hc3]
      · rw [e_Mod_seller 192 _ _ _ rfl]
        simp (maxSteps := 2000000) (disch := (first | omega | (simp (disch := omega) only [up_eq, up_ne, cpA_o, cpF_o, List.length_set] <;> omega) | fail)) only [ob_s, am_bi_s, am_bv_s, am_bl_s, ↓bif_d, lits, nI_addS, nI_mulS, nI_subS, nI_lt', nI_le', nI_eq', ↓rd_nI, ↓wrH, up_eq, up_ne, up_up, up_sw, List.set_set, g_seq, g_sne, Nat.reduceEqDiff, ↓reduceIte, List.length_set, Nat.add_sub_cancel_left, Nat.add_sub_cancel, ite_true, ite_false, if_true, if_false, not_true_eq_false, not_false_eq_true, Bool.and_true, Bool.true_and, true_or, or_true, false_or, or_false, and_true, true_and, and_false, false_and, Nat.not_lt_zero, hpRM, hpIM, hpFM, hpLM, hpSM, s_Mod_in, b01_0, g0, hmd, Nat.reduceLT, h0]
    have hout : v < nI 0 ∨ nI 3 < v := by
      apply Classical.byContradiction
      intro w
      obtain ⟨k, k1, k2, rfl⟩ := (rg_iff (v := v) (lo := 0) (hi := 3) (by omega) (by omega)).mpr w
      have : k = 0 ∨ k = 1 ∨ k = 2 ∨ k = 3 := by omega
      rcases this with rfl | rfl | rfl | rfl
      · exact e0 rfl
      · exact e1 rfl
      · exact e2 rfl
      · exact e3 rfl
    refine ⟨.long (-9223372036854775808), A', up F 16410 (nI 1), P, A', up F 16410 (nI 1), P, ?_, ?_, nB, nl, nb, nx, q, t, hI1⟩
    · rw [e_Pa_seller 1 _ _ _ rfl]
      simp (maxSteps := 2000000) (disch := (first | omega | (simp (disch := omega) only [up_eq, up_ne, cpA_o, cpF_o, List.length_set] <;> omega) | fail)) only [ob_s, am_bi_s, am_bv_s, am_bl_s, ↓bif_d, lits, nI_addS, nI_mulS, nI_subS, nI_lt', nI_le', nI_eq', ↓rd_nI, ↓wrH, up_eq, up_ne, up_up, up_sw, List.set_set, g_seq, g_sne, Nat.reduceEqDiff, ↓reduceIte, List.length_set, Nat.add_sub_cancel_left, Nat.add_sub_cancel, ite_true, ite_false, if_true, if_false, not_true_eq_false, not_false_eq_true, Bool.and_true, Bool.true_and, true_or, or_true, false_or, or_false, and_true, true_and, and_false, false_and, Nat.not_lt_zero, hpRX, hpIX, hpFX, hpLX, hpSX, ↓rgX, ↓rpX, Nat.reduceLeDiff, Nat.reduceLT, Nat.reduceAdd, Nat.reduceMul, Nat.reduceSub, s_out, b01_0, g0, hcl, e0, e1, e2, e3]
    · rw [e_Mod_seller 192 _ _ _ rfl]
      simp (maxSteps := 2000000) (disch := (first | omega | (simp (disch := omega) only [up_eq, up_ne, cpA_o, cpF_o, List.length_set] <;> omega) | fail)) only [ob_s, am_bi_s, am_bv_s, am_bl_s, ↓bif_d, lits, nI_addS, nI_mulS, nI_subS, nI_lt', nI_le', nI_eq', ↓rd_nI, ↓wrH, up_eq, up_ne, up_up, up_sw, List.set_set, g_seq, g_sne, Nat.reduceEqDiff, ↓reduceIte, List.length_set, Nat.add_sub_cancel_left, Nat.add_sub_cancel, ite_true, ite_false, if_true, if_false, not_true_eq_false, not_false_eq_true, Bool.and_true, Bool.true_and, true_or, or_true, false_or, or_false, and_true, true_and, and_false, false_and, Nat.not_lt_zero, hpRM, hpIM, hpFM, hpLM, hpSM, s_Mod_in, b01_0, g0, hout, e_Mod_lost]
theorem k_account (hI : InvN A F P nB nl nb nx q t) (v : Int32) : Step m_Pa_account m_Mod_account [.int v] A F P := by
  classical
  have hC0 := Cx_of hI
  obtain ⟨-, -, ⟨n1, n2, n3, n4⟩, l0, hAL, hAM, hAX, hAS, -⟩ := id hC0
  obtain ⟨c5, c7, c10, c12, c14, c16, c18, c21, c23, c25, c27, c29, c31, c33⟩ := LenS2 l0
  obtain ⟨A', A2, L, B, Fi, Se, Mn, Bu, Pr, ⟨b193, a193, a199, a200, a201, a202, a203, a204, a205⟩, ⟨m199, m200, m201, m202, m203, m204, m205⟩, ⟨k199, k200, k201, k202, k203, k204, k205⟩, hW, hS, hK, hC', hcl, hmd, hI1, hI2⟩ := hold2 hI
  obtain ⟨hM, hB, -, l1, hCL, hCM, hCX, hCS, hS0, hS1, hS2, hS3⟩ := id hC'
  obtain ⟨d5, d7, d10, d12, d14, d16, d18, d21, d23, d25, d27, d29, d31, d33⟩ := LenS2 l1
  obtain ⟨w166, w168, w170, w172, w174, w176, w178, w180, w182⟩ := id hW
  have hr0 : (A 193).length = 472 := hM.1.1
  have hr1 : (A' 193).length = 472 := by rw [b193]; exact hr0
  have hr2 : (A2 193).length = 472 := by rw [a193]; exact hr0
  have hnl : nl ≤ 20 := hM.1.2.2.2.2.2.2.2.1
  have hnb : nb ≤ 8 := hM.1.2.2.2.2.2.2.2.2.1
  have hnx : nx ≤ 60 := hM.1.2.2.2.2.2.2.2.2.2
  have iL := fun x => s_isLot (A := A) (F := F) (P := P) n2 (by omega) x
  have iB := fun x => s_isBidder (A := A) (F := F) (P := P) n3 (by omega) x
  have iX := fun x => s_isBid (A := A) (F := F) (P := P) n4 (by omega) x
  have nL := fun x => s_Mod_noLot (A := A) (F := F) (P := P) hM.1 x
  have nBd := fun x => s_Mod_noBidder (A := A) (F := F) (P := P) hM.1 x
  have nX := fun x => s_Mod_noBid (A := A) (F := F) (P := P) hM.1 x
  have nL' := fun x => s_Mod_noLot (A := A') (F := up F 16410 (nI 1)) (P := P) (by rw [b193]; exact hM.1) x
  have nBd' := fun x => s_Mod_noBidder (A := A') (F := up F 16410 (nI 1)) (P := P) (by rw [b193]; exact hM.1) x
  have nX' := fun x => s_Mod_noBid (A := A') (F := up F 16410 (nI 1)) (P := P) (by rw [b193]; exact hM.1) x
  have hX := Mx_of hC' hS a193 a204 a205 m204 m205
  have hq : ∀ k, (-nI 1 = -nI 1 ∨ -nI 1 = g (A 193) (18 + k)) ↔ True := fun k => ⟨fun _ => trivial, fun _ => Or.inl rfl⟩
  have hrc := fun x A F P => e_Money_receipts 183 x (heap A F P) rfl
  have hpy := fun A F P => e_Money_payments 183 (heap A F P) rfl
  have h32 := fun x => m_acc32 (F := up F 16410 (nI 1)) (P := P) hX x nl 0 0 0 0 0 (by omega)
  have hlt := s_Mod_lots (A := A2) (F := up F 16410 (nI 1)) (P := P) (nB := nB) (nl := nl) (nb := nb) (nx := nx) (by rw [a193]; exact hM.1)
  have hle : nl ≤ nl := Nat.le_refl _
  have hc0 := c_total (P := P) (c := 0) hC' hW hS hK (by omega) (-nI 1)
  rw [fL_c (p' := fun _ => True) (f' := mPart (A 193) Bu Pr 0) nl 0 0 (fun j _ _ => hq j) (fun j _ _ => rfl)] at hc0
  have hc1 := c_total (P := P) (c := 1) hC' hW hS hK (by omega) (-nI 1)
  rw [fL_c (p' := fun _ => True) (f' := mPart (A 193) Bu Pr 1) nl 0 0 (fun j _ _ => hq j) (fun j _ _ => rfl)] at hc1
  have hc2 := c_total (P := P) (c := 2) hC' hW hS hK (by omega) (-nI 1)
  rw [fL_c (p' := fun _ => True) (f' := mPart (A 193) Bu Pr 2) nl 0 0 (fun j _ _ => hq j) (fun j _ _ => rfl)] at hc2
  have hc3 := c_total (P := P) (c := 3) hC' hW hS hK (by omega) (-nI 1)
  rw [fL_c (p' := fun _ => True) (f' := mPart (A 193) Bu Pr 3) nl 0 0 (fun j _ _ => hq j) (fun j _ _ => rfl)] at hc3
  by_cases e0 : v = nI 0
  · subst e0
    refine ⟨.long (fL (fun _ => True) (mPart (A 193) Bu Pr 0) nl 0 0), A', up F 16410 (nI 1), P, A2, up F 16410 (nI 1), P, ?_, ?_, nB, nl, nb, nx, q, t, hI2⟩
    · rw [e_Pa_account 1 _ _ rfl]
      simp (maxSteps := 2000000) (disch := (first | omega | (simp (disch := omega) only [up_eq, up_ne, cpA_o, cpF_o, List.length_set] <;> omega) | fail)) only [ob_s, am_bi_s, am_bv_s, am_bl_s, ↓bif_d, lits, nI_addS, nI_mulS, nI_subS, nI_lt', nI_le', nI_eq', ↓rd_nI, ↓wrH, up_eq, up_ne, up_up, up_sw, List.set_set, g_seq, g_sne, Nat.reduceEqDiff, ↓reduceIte, List.length_set, Nat.add_sub_cancel_left, Nat.add_sub_cancel, ite_true, ite_false, if_true, if_false, not_true_eq_false, not_false_eq_true, Bool.and_true, Bool.true_and, true_or, or_true, false_or, or_false, and_true, true_and, and_false, false_and, Nat.not_lt_zero, hpRX, hpIX, hpFX, hpLX, hpSX, ↓rgX, ↓rpX, Nat.reduceLeDiff, Nat.reduceLT, Nat.reduceAdd, Nat.reduceMul, Nat.reduceSub, hcl, hc0]
    · rw [e_Mod_account 192 _ _ rfl]
      simp (maxSteps := 2000000) (disch := (first | omega | (simp (disch := omega) only [up_eq, up_ne, cpA_o, cpF_o, List.length_set] <;> omega) | fail)) only [ob_s, am_bi_s, am_bv_s, am_bl_s, ↓bif_d, lits, nI_addS, nI_mulS, nI_subS, nI_lt', nI_le', nI_eq', ↓rd_nI, ↓wrH, up_eq, up_ne, up_up, up_sw, List.set_set, g_seq, g_sne, Nat.reduceEqDiff, ↓reduceIte, List.length_set, Nat.add_sub_cancel_left, Nat.add_sub_cancel, ite_true, ite_false, if_true, if_false, not_true_eq_false, not_false_eq_true, Bool.and_true, Bool.true_and, true_or, or_true, false_or, or_false, and_true, true_and, and_false, false_and, Nat.not_lt_zero, hpRM, hpIM, hpFM, hpLM, hpSM, s_Mod_in, b01_0, Nat.reduceLT, hmd]
      rw [h32, b_Mod_account_32]
      simp (maxSteps := 2000000) (disch := (first | omega | (simp (disch := omega) only [up_eq, up_ne, cpA_o, cpF_o, List.length_set] <;> omega) | fail)) only [ob_s, am_bi_s, am_bv_s, am_bl_s, ↓bif_d, lits, nI_addS, nI_mulS, nI_subS, nI_lt', nI_le', nI_eq', ↓rd_nI, ↓wrH, up_eq, up_ne, up_up, up_sw, List.set_set, g_seq, g_sne, Nat.reduceEqDiff, ↓reduceIte, List.length_set, Nat.add_sub_cancel_left, Nat.add_sub_cancel, ite_true, ite_false, if_true, if_false, not_true_eq_false, not_false_eq_true, Bool.and_true, Bool.true_and, true_or, or_true, false_or, or_false, and_true, true_and, and_false, false_and, Nat.not_lt_zero, hpRM, hpIM, hpFM, hpLM, hpSM, hlt, hle]
  by_cases e1 : v = nI 1
  · subst e1
    refine ⟨.long (fL (fun _ => True) (mPart (A 193) Bu Pr 1) nl 0 0), A', up F 16410 (nI 1), P, A2, up F 16410 (nI 1), P, ?_, ?_, nB, nl, nb, nx, q, t, hI2⟩
    · rw [e_Pa_account 1 _ _ rfl]
      simp (maxSteps := 2000000) (disch := (first | omega | (simp (disch := omega) only [up_eq, up_ne, cpA_o, cpF_o, List.length_set] <;> omega) | fail)) only [ob_s, am_bi_s, am_bv_s, am_bl_s, ↓bif_d, lits, nI_addS, nI_mulS, nI_subS, nI_lt', nI_le', nI_eq', ↓rd_nI, ↓wrH, up_eq, up_ne, up_up, up_sw, List.set_set, g_seq, g_sne, Nat.reduceEqDiff, ↓reduceIte, List.length_set, Nat.add_sub_cancel_left, Nat.add_sub_cancel, ite_true, ite_false, if_true, if_false, not_true_eq_false, not_false_eq_true, Bool.and_true, Bool.true_and, true_or, or_true, false_or, or_false, and_true, true_and, and_false, false_and, Nat.not_lt_zero, hpRX, hpIX, hpFX, hpLX, hpSX, ↓rgX, ↓rpX, Nat.reduceLeDiff, Nat.reduceLT, Nat.reduceAdd, Nat.reduceMul, Nat.reduceSub, hcl, hc1]
    · rw [e_Mod_account 192 _ _ rfl]
      simp (maxSteps := 2000000) (disch := (first | omega | (simp (disch := omega) only [up_eq, up_ne, cpA_o, cpF_o, List.length_set] <;> omega) | fail)) only [ob_s, am_bi_s, am_bv_s, am_bl_s, ↓bif_d, lits, nI_addS, nI_mulS, nI_subS, nI_lt', nI_le', nI_eq', ↓rd_nI, ↓wrH, up_eq, up_ne, up_up, up_sw, List.set_set, g_seq, g_sne, Nat.reduceEqDiff, ↓reduceIte, List.length_set, Nat.add_sub_cancel_left, Nat.add_sub_cancel, ite_true, ite_false, if_true, if_false, not_true_eq_false, not_false_eq_true, Bool.and_true, Bool.true_and, true_or, or_true, false_or, or_false, and_true, true_and, and_false, false_and, Nat.not_lt_zero, hpRM, hpIM, hpFM, hpLM, hpSM, s_Mod_in, b01_0, Nat.reduceLT, hmd]
      rw [h32, b_Mod_account_32]
      simp (maxSteps := 2000000) (disch := (first | omega | (simp (disch := omega) only [up_eq, up_ne, cpA_o, cpF_o, List.length_set] <;> omega) | fail)) only [ob_s, am_bi_s, am_bv_s, am_bl_s, ↓bif_d, lits, nI_addS, nI_mulS, nI_subS, nI_lt', nI_le', nI_eq', ↓rd_nI, ↓wrH, up_eq, up_ne, up_up, up_sw, List.set_set, g_seq, g_sne, Nat.reduceEqDiff, ↓reduceIte, List.length_set, Nat.add_sub_cancel_left, Nat.add_sub_cancel, ite_true, ite_false, if_true, if_false, not_true_eq_false, not_false_eq_true, Bool.and_true, Bool.true_and, true_or, or_true, false_or, or_false, and_true, true_and, and_false, false_and, Nat.not_lt_zero, hpRM, hpIM, hpFM, hpLM, hpSM, hlt, hle]
  by_cases e2 : v = nI 2
  · subst e2
    refine ⟨.long (fL (fun _ => True) (mPart (A 193) Bu Pr 2) nl 0 0), A', up F 16410 (nI 1), P, A2, up F 16410 (nI 1), P, ?_, ?_, nB, nl, nb, nx, q, t, hI2⟩
    · rw [e_Pa_account 1 _ _ rfl]
      simp (maxSteps := 2000000) (disch := (first | omega | (simp (disch := omega) only [up_eq, up_ne, cpA_o, cpF_o, List.length_set] <;> omega) | fail)) only [ob_s, am_bi_s, am_bv_s, am_bl_s, ↓bif_d, lits, nI_addS, nI_mulS, nI_subS, nI_lt', nI_le', nI_eq', ↓rd_nI, ↓wrH, up_eq, up_ne, up_up, up_sw, List.set_set, g_seq, g_sne, Nat.reduceEqDiff, ↓reduceIte, List.length_set, Nat.add_sub_cancel_left, Nat.add_sub_cancel, ite_true, ite_false, if_true, if_false, not_true_eq_false, not_false_eq_true, Bool.and_true, Bool.true_and, true_or, or_true, false_or, or_false, and_true, true_and, and_false, false_and, Nat.not_lt_zero, hpRX, hpIX, hpFX, hpLX, hpSX, ↓rgX, ↓rpX, Nat.reduceLeDiff, Nat.reduceLT, Nat.reduceAdd, Nat.reduceMul, Nat.reduceSub, hcl, hc2]
    · rw [e_Mod_account 192 _ _ rfl]
      simp (maxSteps := 2000000) (disch := (first | omega | (simp (disch := omega) only [up_eq, up_ne, cpA_o, cpF_o, List.length_set] <;> omega) | fail)) only [ob_s, am_bi_s, am_bv_s, am_bl_s, ↓bif_d, lits, nI_addS, nI_mulS, nI_subS, nI_lt', nI_le', nI_eq', ↓rd_nI, ↓wrH, up_eq, up_ne, up_up, up_sw, List.set_set, g_seq, g_sne, Nat.reduceEqDiff, ↓reduceIte, List.length_set, Nat.add_sub_cancel_left, Nat.add_sub_cancel, ite_true, ite_false, if_true, if_false, not_true_eq_false, not_false_eq_true, Bool.and_true, Bool.true_and, true_or, or_true, false_or, or_false, and_true, true_and, and_false, false_and, Nat.not_lt_zero, hpRM, hpIM, hpFM, hpLM, hpSM, s_Mod_in, b01_0, Nat.reduceLT, hmd]
      rw [h32, b_Mod_account_32]
      simp (maxSteps := 2000000) (disch := (first | omega | (simp (disch := omega) only [up_eq, up_ne, cpA_o, cpF_o, List.length_set] <;> omega) | fail)) only [ob_s, am_bi_s, am_bv_s, am_bl_s, ↓bif_d, lits, nI_addS, nI_mulS, nI_subS, nI_lt', nI_le', nI_eq', ↓rd_nI, ↓wrH, up_eq, up_ne, up_up, up_sw, List.set_set, g_seq, g_sne, Nat.reduceEqDiff, ↓reduceIte, List.length_set, Nat.add_sub_cancel_left, Nat.add_sub_cancel, ite_true, ite_false, if_true, if_false, not_true_eq_false, not_false_eq_true, Bool.and_true, Bool.true_and, true_or, or_true, false_or, or_false, and_true, true_and, and_false, false_and, Nat.not_lt_zero, hpRM, hpIM, hpFM, hpLM, hpSM, hlt, hle]
  by_cases e3 : v = nI 3
  · subst e3
    refine ⟨.long (fL (fun _ => True) (mPart (A 193) Bu Pr 3) nl 0 0), A', up F 16410 (nI 1), P, A2, up F 16410 (nI 1), P, ?_, ?_, nB, nl, nb, nx, q, t, hI2⟩
    · rw [e_Pa_account 1 _ _ rfl]
      simp (maxSteps := 2000000) (disch := (first | omega | (simp (disch := omega) only [up_eq, up_ne, cpA_o, cpF_o, List.length_set] <;> omega) | fail)) only [ob_s, am_bi_s, am_bv_s, am_bl_s, ↓bif_d, lits, nI_addS, nI_mulS, nI_subS, nI_lt', nI_le', nI_eq', ↓rd_nI, ↓wrH, up_eq, up_ne, up_up, up_sw, List.set_set, g_seq, g_sne, Nat.reduceEqDiff, ↓reduceIte, List.length_set, Nat.add_sub_cancel_left, Nat.add_sub_cancel, ite_true, ite_false, if_true, if_false, not_true_eq_false, not_false_eq_true, Bool.and_true, Bool.true_and, true_or, or_true, false_or, or_false, and_true, true_and, and_false, false_and, Nat.not_lt_zero, hpRX, hpIX, hpFX, hpLX, hpSX, ↓rgX, ↓rpX, Nat.reduceLeDiff, Nat.reduceLT, Nat.reduceAdd, Nat.reduceMul, Nat.reduceSub, hcl, hc3]
    · rw [e_Mod_account 192 _ _ rfl]
      simp (maxSteps := 2000000) (disch := (first | omega | (simp (disch := omega) only [up_eq, up_ne, cpA_o, cpF_o, List.length_set] <;> omega) | fail)) only [ob_s, am_bi_s, am_bv_s, am_bl_s, ↓bif_d, lits, nI_addS, nI_mulS, nI_subS, nI_lt', nI_le', nI_eq', ↓rd_nI, ↓wrH, up_eq, up_ne, up_up, up_sw, List.set_set, g_seq, g_sne, Nat.reduceEqDiff, ↓reduceIte, List.length_set, Nat.add_sub_cancel_left, Nat.add_sub_cancel, ite_true, ite_false, if_true, if_false, not_true_eq_false, not_false_eq_true, Bool.and_true, Bool.true_and, true_or, or_true, false_or, or_false, and_true, true_and, and_false, false_and, Nat.not_lt_zero, hpRM, hpIM, hpFM, hpLM, hpSM, s_Mod_in, b01_0, Nat.reduceLT, hmd]
      rw [h32, b_Mod_account_32]
      simp (maxSteps := 2000000) (disch := (first | omega | (simp (disch := omega) only [up_eq, up_ne, cpA_o, cpF_o, List.length_set] <;> omega) | fail)) only [ob_s, am_bi_s, am_bv_s, am_bl_s, ↓bif_d, lits, nI_addS, nI_mulS, nI_subS, nI_lt', nI_le', nI_eq', ↓rd_nI, ↓wrH, up_eq, up_ne, up_up, up_sw, List.set_set, g_seq, g_sne, Nat.reduceEqDiff, ↓reduceIte, List.length_set, Nat.add_sub_cancel_left, Nat.add_sub_cancel, ite_true, ite_false, if_true, if_false, not_true_eq_false, not_false_eq_true, Bool.and_true, Bool.true_and, true_or, or_true, false_or, or_false, and_true, true_and, and_false, false_and, Nat.not_lt_zero, hpRM, hpIM, hpFM, hpLM, hpSM, hlt, hle]
  by_cases e4 : v = nI 4
  · subst e4
    refine ⟨.long (fL (fun _ => True) (mPart (A 193) Bu Pr 0) nl 0 0 + fL (fun _ => True) (mPart (A 193) Bu Pr 1) nl 0 0), A', up F 16410 (nI 1), P, A2, up F 16410 (nI 1), P, ?_, ?_, nB, nl, nb, nx, q, t, hI2⟩
    · rw [e_Pa_account 1 _ _ rfl]
      simp (maxSteps := 2000000) (disch := (first | omega | (simp (disch := omega) only [up_eq, up_ne, cpA_o, cpF_o, List.length_set] <;> omega) | fail)) only [ob_s, am_bi_s, am_bv_s, am_bl_s, ↓bif_d, lits, nI_addS, nI_mulS, nI_subS, nI_lt', nI_le', nI_eq', ↓rd_nI, ↓wrH, up_eq, up_ne, up_up, up_sw, List.set_set, g_seq, g_sne, Nat.reduceEqDiff, ↓reduceIte, List.length_set, Nat.add_sub_cancel_left, Nat.add_sub_cancel, ite_true, ite_false, if_true, if_false, not_true_eq_false, not_false_eq_true, Bool.and_true, Bool.true_and, true_or, or_true, false_or, or_false, and_true, true_and, and_false, false_and, Nat.not_lt_zero, hpRX, hpIX, hpFX, hpLX, hpSX, ↓rgX, ↓rpX, Nat.reduceLeDiff, Nat.reduceLT, Nat.reduceAdd, Nat.reduceMul, Nat.reduceSub, hcl, hpy, hc0, hc1]
    · rw [e_Mod_account 192 _ _ rfl]
      simp (maxSteps := 2000000) (disch := (first | omega | (simp (disch := omega) only [up_eq, up_ne, cpA_o, cpF_o, List.length_set] <;> omega) | fail)) only [ob_s, am_bi_s, am_bv_s, am_bl_s, ↓bif_d, lits, nI_addS, nI_mulS, nI_subS, nI_lt', nI_le', nI_eq', ↓rd_nI, ↓wrH, up_eq, up_ne, up_up, up_sw, List.set_set, g_seq, g_sne, Nat.reduceEqDiff, ↓reduceIte, List.length_set, Nat.add_sub_cancel_left, Nat.add_sub_cancel, ite_true, ite_false, if_true, if_false, not_true_eq_false, not_false_eq_true, Bool.and_true, Bool.true_and, true_or, or_true, false_or, or_false, and_true, true_and, and_false, false_and, Nat.not_lt_zero, hpRM, hpIM, hpFM, hpLM, hpSM, s_Mod_in, b01_0, Nat.reduceLT, hmd]
      rw [h32, b_Mod_account_32]
      simp (maxSteps := 2000000) (disch := (first | omega | (simp (disch := omega) only [up_eq, up_ne, cpA_o, cpF_o, List.length_set] <;> omega) | fail)) only [ob_s, am_bi_s, am_bv_s, am_bl_s, ↓bif_d, lits, nI_addS, nI_mulS, nI_subS, nI_lt', nI_le', nI_eq', ↓rd_nI, ↓wrH, up_eq, up_ne, up_up, up_sw, List.set_set, g_seq, g_sne, Nat.reduceEqDiff, ↓reduceIte, List.length_set, Nat.add_sub_cancel_left, Nat.add_sub_cancel, ite_true, ite_false, if_true, if_false, not_true_eq_false, not_false_eq_true, Bool.and_true, Bool.true_and, true_or, or_true, false_or, or_false, and_true, true_and, and_false, false_and, Nat.not_lt_zero, hpRM, hpIM, hpFM, hpLM, hpSM, hlt, hle]
  by_cases e5 : v = nI 5
  · subst e5
    refine ⟨.long (fL (fun _ => True) (mPart (A 193) Bu Pr 0) nl 0 0 - fL (fun _ => True) (mPart (A 193) Bu Pr 2) nl 0 0 - fL (fun _ => True) (mPart (A 193) Bu Pr 3) nl 0 0), A', up F 16410 (nI 1), P, A2, up F 16410 (nI 1), P, ?_, ?_, nB, nl, nb, nx, q, t, hI2⟩
    · rw [e_Pa_account 1 _ _ rfl]
      simp (maxSteps := 2000000) (disch := (first | omega | (simp (disch := omega) only [up_eq, up_ne, cpA_o, cpF_o, List.length_set] <;> omega) | fail)) only [ob_s, am_bi_s, am_bv_s, am_bl_s, ↓bif_d, lits, nI_addS, nI_mulS, nI_subS, nI_lt', nI_le', nI_eq', ↓rd_nI, ↓wrH, up_eq, up_ne, up_up, up_sw, List.set_set, g_seq, g_sne, Nat.reduceEqDiff, ↓reduceIte, List.length_set, Nat.add_sub_cancel_left, Nat.add_sub_cancel, ite_true, ite_false, if_true, if_false, not_true_eq_false, not_false_eq_true, Bool.and_true, Bool.true_and, true_or, or_true, false_or, or_false, and_true, true_and, and_false, false_and, Nat.not_lt_zero, hpRX, hpIX, hpFX, hpLX, hpSX, ↓rgX, ↓rpX, Nat.reduceLeDiff, Nat.reduceLT, Nat.reduceAdd, Nat.reduceMul, Nat.reduceSub, hcl, hrc, hc0, hc2, hc3]
    · rw [e_Mod_account 192 _ _ rfl]
      simp (maxSteps := 2000000) (disch := (first | omega | (simp (disch := omega) only [up_eq, up_ne, cpA_o, cpF_o, List.length_set] <;> omega) | fail)) only [ob_s, am_bi_s, am_bv_s, am_bl_s, ↓bif_d, lits, nI_addS, nI_mulS, nI_subS, nI_lt', nI_le', nI_eq', ↓rd_nI, ↓wrH, up_eq, up_ne, up_up, up_sw, List.set_set, g_seq, g_sne, Nat.reduceEqDiff, ↓reduceIte, List.length_set, Nat.add_sub_cancel_left, Nat.add_sub_cancel, ite_true, ite_false, if_true, if_false, not_true_eq_false, not_false_eq_true, Bool.and_true, Bool.true_and, true_or, or_true, false_or, or_false, and_true, true_and, and_false, false_and, Nat.not_lt_zero, hpRM, hpIM, hpFM, hpLM, hpSM, s_Mod_in, b01_0, Nat.reduceLT, hmd]
      rw [h32, b_Mod_account_32]
      simp (maxSteps := 2000000) (disch := (first | omega | (simp (disch := omega) only [up_eq, up_ne, cpA_o, cpF_o, List.length_set] <;> omega) | fail)) only [ob_s, am_bi_s, am_bv_s, am_bl_s, ↓bif_d, lits, nI_addS, nI_mulS, nI_subS, nI_lt', nI_le', nI_eq', ↓rd_nI, ↓wrH, up_eq, up_ne, up_up, up_sw, List.set_set, g_seq, g_sne, Nat.reduceEqDiff, ↓reduceIte, List.length_set, Nat.add_sub_cancel_left, Nat.add_sub_cancel, ite_true, ite_false, if_true, if_false, not_true_eq_false, not_false_eq_true, Bool.and_true, Bool.true_and, true_or, or_true, false_or, or_false, and_true, true_and, and_false, false_and, Nat.not_lt_zero, hpRM, hpIM, hpFM, hpLM, hpSM, hlt, hle]
  by_cases e6 : v = nI 6
  · subst e6
    refine ⟨.long ((fL (fun _ => True) (mPart (A 193) Bu Pr 0) nl 0 0 + fL (fun _ => True) (mPart (A 193) Bu Pr 1) nl 0 0) - (fL (fun _ => True) (mPart (A 193) Bu Pr 0) nl 0 0 - fL (fun _ => True) (mPart (A 193) Bu Pr 2) nl 0 0 - fL (fun _ => True) (mPart (A 193) Bu Pr 3) nl 0 0)), A', up F 16410 (nI 1), P, A2, up F 16410 (nI 1), P, ?_, ?_, nB, nl, nb, nx, q, t, hI2⟩
    · rw [e_Pa_account 1 _ _ rfl]
      simp (maxSteps := 2000000) (disch := (first | omega | (simp (disch := omega) only [up_eq, up_ne, cpA_o, cpF_o, List.length_set] <;> omega) | fail)) only [ob_s, am_bi_s, am_bv_s, am_bl_s, ↓bif_d, lits, nI_addS, nI_mulS, nI_subS, nI_lt', nI_le', nI_eq', ↓rd_nI, ↓wrH, up_eq, up_ne, up_up, up_sw, List.set_set, g_seq, g_sne, Nat.reduceEqDiff, ↓reduceIte, List.length_set, Nat.add_sub_cancel_left, Nat.add_sub_cancel, ite_true, ite_false, if_true, if_false, not_true_eq_false, not_false_eq_true, Bool.and_true, Bool.true_and, true_or, or_true, false_or, or_false, and_true, true_and, and_false, false_and, Nat.not_lt_zero, hpRX, hpIX, hpFX, hpLX, hpSX, ↓rgX, ↓rpX, Nat.reduceLeDiff, Nat.reduceLT, Nat.reduceAdd, Nat.reduceMul, Nat.reduceSub, hcl, hpy, hrc, hc0, hc1, hc2, hc3]
    · rw [e_Mod_account 192 _ _ rfl]
      simp (maxSteps := 2000000) (disch := (first | omega | (simp (disch := omega) only [up_eq, up_ne, cpA_o, cpF_o, List.length_set] <;> omega) | fail)) only [ob_s, am_bi_s, am_bv_s, am_bl_s, ↓bif_d, lits, nI_addS, nI_mulS, nI_subS, nI_lt', nI_le', nI_eq', ↓rd_nI, ↓wrH, up_eq, up_ne, up_up, up_sw, List.set_set, g_seq, g_sne, Nat.reduceEqDiff, ↓reduceIte, List.length_set, Nat.add_sub_cancel_left, Nat.add_sub_cancel, ite_true, ite_false, if_true, if_false, not_true_eq_false, not_false_eq_true, Bool.and_true, Bool.true_and, true_or, or_true, false_or, or_false, and_true, true_and, and_false, false_and, Nat.not_lt_zero, hpRM, hpIM, hpFM, hpLM, hpSM, s_Mod_in, b01_0, Nat.reduceLT, hmd]
      rw [h32, b_Mod_account_32]
      simp (maxSteps := 2000000) (disch := (first | omega | (simp (disch := omega) only [up_eq, up_ne, cpA_o, cpF_o, List.length_set] <;> omega) | fail)) only [ob_s, am_bi_s, am_bv_s, am_bl_s, ↓bif_d, lits, nI_addS, nI_mulS, nI_subS, nI_lt', nI_le', nI_eq', ↓rd_nI, ↓wrH, up_eq, up_ne, up_up, up_sw, List.set_set, g_seq, g_sne, Nat.reduceEqDiff, ↓reduceIte, List.length_set, Nat.add_sub_cancel_left, Nat.add_sub_cancel, ite_true, ite_false, if_true, if_false, not_true_eq_false, not_false_eq_true, Bool.and_true, Bool.true_and, true_or, or_true, false_or, or_false, and_true, true_and, and_false, false_and, Nat.not_lt_zero, hpRM, hpIM, hpFM, hpLM, hpSM, hlt, hle]
  have hout : v < nI 0 ∨ nI 6 < v := by
    apply Classical.byContradiction
    intro w
    obtain ⟨k, k1, k2, rfl⟩ := (rg_iff (v := v) (lo := 0) (hi := 6) (by omega) (by omega)).mpr w
    have : k = 0 ∨ k = 1 ∨ k = 2 ∨ k = 3 ∨ k = 4 ∨ k = 5 ∨ k = 6 := by omega
    rcases this with rfl | rfl | rfl | rfl | rfl | rfl | rfl
    · exact e0 rfl
    · exact e1 rfl
    · exact e2 rfl
    · exact e3 rfl
    · exact e4 rfl
    · exact e5 rfl
    · exact e6 rfl
  refine ⟨.long (-9223372036854775808), A', up F 16410 (nI 1), P, A', up F 16410 (nI 1), P, ?_, ?_, nB, nl, nb, nx, q, t, hI1⟩
  · rw [e_Pa_account 1 _ _ rfl]
    simp (maxSteps := 2000000) (disch := (first | omega | (simp (disch := omega) only [up_eq, up_ne, cpA_o, cpF_o, List.length_set] <;> omega) | fail)) only [ob_s, am_bi_s, am_bv_s, am_bl_s, ↓bif_d, lits, nI_addS, nI_mulS, nI_subS, nI_lt', nI_le', nI_eq', ↓rd_nI, ↓wrH, up_eq, up_ne, up_up, up_sw, List.set_set, g_seq, g_sne, Nat.reduceEqDiff, ↓reduceIte, List.length_set, Nat.add_sub_cancel_left, Nat.add_sub_cancel, ite_true, ite_false, if_true, if_false, not_true_eq_false, not_false_eq_true, Bool.and_true, Bool.true_and, true_or, or_true, false_or, or_false, and_true, true_and, and_false, false_and, Nat.not_lt_zero, hpRX, hpIX, hpFX, hpLX, hpSX, ↓rgX, ↓rpX, Nat.reduceLeDiff, Nat.reduceLT, Nat.reduceAdd, Nat.reduceMul, Nat.reduceSub, hcl, e0, e1, e2, e3, e4, e5, e6]
  · rw [e_Mod_account 192 _ _ rfl]
    simp (maxSteps := 2000000) (disch := (first | omega | (simp (disch := omega) only [up_eq, up_ne, cpA_o, cpF_o, List.length_set] <;> omega) | fail)) only [ob_s, am_bi_s, am_bv_s, am_bl_s, ↓bif_d, lits, nI_addS, nI_mulS, nI_subS, nI_lt', nI_le', nI_eq', ↓rd_nI, ↓wrH, up_eq, up_ne, up_up, up_sw, List.set_set, g_seq, g_sne, Nat.reduceEqDiff, ↓reduceIte, List.length_set, Nat.add_sub_cancel_left, Nat.add_sub_cancel, ite_true, ite_false, if_true, if_false, not_true_eq_false, not_false_eq_true, Bool.and_true, Bool.true_and, true_or, or_true, false_or, or_false, and_true, true_and, and_false, false_and, Nat.not_lt_zero, hpRM, hpIM, hpFM, hpLM, hpSM, s_Mod_in, b01_0, hout, e_Mod_lost]
end X
