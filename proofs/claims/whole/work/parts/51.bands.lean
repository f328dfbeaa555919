/-! BANDS SET AND REMOVED -/
def pO (X : List Int32) (x : Int32) : Nat → Nat → Nat
  | 0, k => k
  | n + 1, k => if g X k = x then k else pO X x n (k + 1)
theorem pO_s (X : List Int32) (x : Int32) (n k : Nat) : pO X x (n + 1) k = if g X k = x then k else pO X x n (k + 1) := rfl
theorem pO_spec (X : List Int32) (x : Int32) : ∀ n k, k ≤ pO X x n k ∧ pO X x n k ≤ k + n ∧ (pO X x n k < k + n → g X (pO X x n k) = x) ∧ ∀ i, k ≤ i → i < pO X x n k → ¬ g X i = x := by
  intro n
  induction n with
  | zero => intro k; exact ⟨Nat.le_refl _, Nat.le_refl _, fun z => absurd z (Nat.lt_irrefl _), fun i h1 h2 => absurd h2 (Nat.not_lt.mpr h1)⟩
  | succ n ih =>
    intro k
    rw [pO_s]
    by_cases c : g X k = x
    · rw [if_pos c]
      exact ⟨Nat.le_refl _, by omega, fun _ => c, fun i h1 h2 => by omega⟩
    · rw [if_neg c]
      obtain ⟨q1, q2, q3, q4⟩ := ih (k + 1)
      refine ⟨by omega, by omega, fun z => q3 (by omega), fun i h1 h2 => ?_⟩
      rcases Nat.eq_or_lt_of_le h1 with z | z
      · rw [← z]; exact c
      · exact q4 i z h2
theorem mAt_spec (r : List Int32) (x : Int32) : ∀ n k, (∃ j, k ≤ j ∧ j < k + n ∧ mAt r x n k = nI j ∧ g r (1 + j) = x) ∨ (mAt r x n k = -nI 5 ∧ ∀ j, k ≤ j → j < k + n → ¬ g r (1 + j) = x) := by
  intro n
  induction n with
  | zero => intro k; exact Or.inr ⟨rfl, fun j h1 h2 => by omega⟩
  | succ n ih =>
    intro k
    rw [mAt_s]
    by_cases c : g r (1 + k) = x
    · rw [if_pos c]
      exact Or.inl ⟨k, Nat.le_refl _, by omega, rfl, c⟩
    · rw [if_neg c]
      rcases ih (k + 1) with ⟨j, j1, j2, j3, j4⟩ | ⟨h1, h2⟩
      · exact Or.inl ⟨j, by omega, by omega, j3, j4⟩
      · refine Or.inr ⟨h1, fun j z1 z2 => ?_⟩
        rcases Nat.eq_or_lt_of_le z1 with z | z
        · rw [← z]; exact c
        · exact h2 j z (by omega)
section X
variable {A : Nat → List Int32} {F : Nat → Int32} {P : Nat → Nat} {r : List Int32} {nB nl nb nx : Nat}
theorem l_placeOf (h5 : (A 5).length = 8) (h8 : nB ≤ 8) (hF : F 302 = nI nB) (x : Int32) : ∀ n k, k + n = nB → am_ev m_Steps_placeOf (2, [.ref 3, .int x, .int (nI k)], [], heap A F P) = some (some (.int (nI (pO (A 5) x n k))), heap A F P) := by
  intro n
  induction n with
  | zero =>
    intro k hk
    have hle : nB ≤ k := by omega
    have e : nB = k := by omega
    rw [b_Steps_placeOf_2]
    simp (maxSteps := 2000000) (disch := (first | omega | (simp (disch := omega) only [up_eq, up_ne, cpA_o, List.length_set] <;> omega) | fail)) only [ob_s, am_bi_s, am_bv_s, am_bl_s, ↓bif_d, lits, nI_addS, nI_mulS, nI_subS, nI_lt', nI_le', nI_eq', ↓rd_nI, ↓wrH, up_eq, up_ne, up_up, up_sw, List.set_set, g_seq, g_sne, Nat.reduceEqDiff, ↓reduceIte, List.length_set, Nat.add_sub_cancel_left, Nat.add_sub_cancel, ite_true, ite_false, if_true, if_false, not_true_eq_false, not_false_eq_true, Bool.and_true, Bool.true_and, true_or, or_true, false_or, or_false, and_true, true_and, and_false, false_and, Nat.not_lt_zero, hpRX, hpIX, hpFX, hpLX, hpSX, ↓rgX, ↓rpX, Nat.reduceLeDiff, Nat.reduceLT, Nat.reduceAdd, Nat.reduceMul, Nat.reduceSub, hF, hle]
    rw [e]
    rfl
  | succ n ih =>
    intro k hk
    have hle : ¬ nB ≤ k := by omega
    have ih := ih (k + 1) (by omega)
    rw [b_Steps_placeOf_2, pO_s]
    by_cases c : g (A 5) k = x
    · rw [if_pos c]
      simp (maxSteps := 2000000) (disch := (first | omega | (simp (disch := omega) only [up_eq, up_ne, cpA_o, List.length_set] <;> omega) | fail)) only [ob_s, am_bi_s, am_bv_s, am_bl_s, ↓bif_d, lits, nI_addS, nI_mulS, nI_subS, nI_lt', nI_le', nI_eq', ↓rd_nI, ↓wrH, up_eq, up_ne, up_up, up_sw, List.set_set, g_seq, g_sne, Nat.reduceEqDiff, ↓reduceIte, List.length_set, Nat.add_sub_cancel_left, Nat.add_sub_cancel, ite_true, ite_false, if_true, if_false, not_true_eq_false, not_false_eq_true, Bool.and_true, Bool.true_and, true_or, or_true, false_or, or_false, and_true, true_and, and_false, false_and, Nat.not_lt_zero, hpRX, hpIX, hpFX, hpLX, hpSX, ↓rgX, ↓rpX, Nat.reduceLeDiff, Nat.reduceLT, Nat.reduceAdd, Nat.reduceMul, Nat.reduceSub, hF, hle, c]
    · rw [if_neg c]
      simp (maxSteps := 2000000) (disch := (first | omega | (simp (disch := omega) only [up_eq, up_ne, cpA_o, List.length_set] <;> omega) | fail)) only [ob_s, am_bi_s, am_bv_s, am_bl_s, ↓bif_d, lits, nI_addS, nI_mulS, nI_subS, nI_lt', nI_le', nI_eq', ↓rd_nI, ↓wrH, up_eq, up_ne, up_up, up_sw, List.set_set, g_seq, g_sne, Nat.reduceEqDiff, ↓reduceIte, List.length_set, Nat.add_sub_cancel_left, Nat.add_sub_cancel, ite_true, ite_false, if_true, if_false, not_true_eq_false, not_false_eq_true, Bool.and_true, Bool.true_and, true_or, or_true, false_or, or_false, and_true, true_and, and_false, false_and, Nat.not_lt_zero, hpRX, hpIX, hpFX, hpLX, hpSX, ↓rgX, ↓rpX, Nat.reduceLeDiff, Nat.reduceLT, Nat.reduceAdd, Nat.reduceMul, Nat.reduceSub, hF, hle, c, ih]
theorem s_placeOf (h5 : (A 5).length = 8) (h8 : nB ≤ 8) (hF : F 302 = nI nB) (x : Int32) : am_cl m_Steps_placeOf [.ref 3, .int x] (heap A F P) = some (some (.int (nI (pO (A 5) x nB 0))), heap A F P) := by
  rw [e_Steps_placeOf 3 _ _ rfl]
  exact l_placeOf h5 h8 hF x nB 0 (by omega)
/-- the row behind a new band at the place p -/
def InsR (r R : List Int32) (nB : Nat) (x v : Int32) (p : Nat) : Prop := R.length = 472 ∧ g R 0 = nI (nB + 1) ∧ 1 ≤ p ∧ p ≤ nB ∧ (∀ j, j < p → g R (1 + j) = g r (1 + j) ∧ g R (9 + j) = g r (9 + j)) ∧ g R (1 + p) = x ∧ g R (9 + p) = v ∧ (∀ j, p ≤ j → j < nB → g R (1 + (j + 1)) = g r (1 + j) ∧ g R (9 + (j + 1)) = g r (9 + j)) ∧ (∀ j, 17 ≤ j → g R j = g r j) ∧ g r (1 + (p - 1)) ≤ x ∧ (∀ j, p ≤ j → j < nB → x < g r (1 + j))
theorem l_setBand62 {x : Int32} (hr : r.length = 472) (hr0 : g r 0 = nI nB) (hr1 : ¬ x < g r 1) (h7 : nB < 8) (v : Int32) : ∀ n k (R : List Int32), k = n + 1 → k ≤ nB → R.length = 472 → g R 0 = nI nB → (∀ j, j < k → g R (1 + j) = g r (1 + j) ∧ g R (9 + j) = g r (9 + j)) → (∀ j, k ≤ j → j < nB → g R (1 + (j + 1)) = g r (1 + j) ∧ g R (9 + (j + 1)) = g r (9 + j)) → (∀ j, 17 ≤ j → g R j = g r j) → (∀ j, k ≤ j → j < nB → x < g r (1 + j)) →
    ∃ R' p, InsR r R' nB x v p ∧ am_ev m_Mod_setBand (62, [.ref 192, .int x, .int v, .int (nI k)], [], heap (up A 193 R) F P) = some (some (.int (nI (nB + 1))), heap (up A 193 R') F P) := by
  intro n
  induction n with
  | zero =>
    intro k R hk hkn hR hR0 i1 i2 i3 i4
    subst hk
    have hg : g R (1 + 0) = g r (1 + 0) := (i1 0 (by omega)).1
    have hg : g R 1 = g r 1 := hg
    have hle : g r 1 ≤ x := Int32.not_lt.mp hr1
    refine ⟨((R.set (1 + 1) x).set 0 (nI (nB + 1))).set (9 + 1) v, 1, ⟨by simp [hR], by simp (disch := (first | omega | (simp only [List.length_set] <;> omega) | fail)) only [g_seq, g_sne, List.length_set], by omega, by omega, fun j hj => ?_, by simp (disch := (first | omega | (simp only [List.length_set] <;> omega) | fail)) only [g_seq, g_sne, List.length_set], by simp (disch := (first | omega | (simp only [List.length_set] <;> omega) | fail)) only [g_seq, g_sne, List.length_set], fun j z1 z2 => ?_, fun j z => ?_, hle, i4⟩, ?_⟩
    · simp (disch := (first | omega | (simp only [List.length_set] <;> omega) | fail)) only [g_seq, g_sne, List.length_set]; exact i1 j (by omega)
    · simp (disch := (first | omega | (simp only [List.length_set] <;> omega) | fail)) only [g_seq, g_sne, List.length_set]; exact i2 j (by omega) z2
    · simp (disch := (first | omega | (simp only [List.length_set] <;> omega) | fail)) only [g_seq, g_sne, List.length_set]; exact i3 j z
    · rw [b_Mod_setBand_62]
      simp (maxSteps := 2000000) (disch := (first | omega | (simp (disch := omega) only [up_eq, up_ne, cpA_o, List.length_set] <;> omega) | fail)) only [ob_s, am_bi_s, am_bv_s, am_bl_s, ↓bif_d, lits, nI_addS, nI_mulS, nI_subS, nI_lt', nI_le', nI_eq', ↓rd_nI, ↓wrH, up_eq, up_ne, up_up, up_sw, List.set_set, g_seq, g_sne, Nat.reduceEqDiff, ↓reduceIte, List.length_set, Nat.add_sub_cancel_left, Nat.add_sub_cancel, ite_true, ite_false, if_true, if_false, not_true_eq_false, not_false_eq_true, Bool.and_true, Bool.true_and, true_or, or_true, false_or, or_false, and_true, true_and, and_false, false_and, Nat.not_lt_zero, hpRM, hpIM, hpFM, hpLM, hpSM, hg, hle, hR0, Nat.reduceAdd, Nat.reduceSub]
  | succ n ih =>
    intro k R hk hkn hR hR0 i1 i2 i3 i4
    have e1 : 1 + k - 1 = 1 + (k - 1) := by omega
    have e9 : 9 + k - 1 = 9 + (k - 1) := by omega
    have hg := i1 (k - 1) (by omega)
    by_cases c : g r (1 + (k - 1)) ≤ x
    · refine ⟨((R.set (1 + k) x).set 0 (nI (nB + 1))).set (9 + k) v, k, ⟨by simp [hR], by simp (disch := (first | omega | (simp only [List.length_set] <;> omega) | fail)) only [g_seq, g_sne, List.length_set], by omega, by omega, fun j hj => ?_, by simp (disch := (first | omega | (simp only [List.length_set] <;> omega) | fail)) only [g_seq, g_sne, List.length_set], by simp (disch := (first | omega | (simp only [List.length_set] <;> omega) | fail)) only [g_seq, g_sne, List.length_set], fun j z1 z2 => ?_, fun j z => ?_, c, i4⟩, ?_⟩
      · simp (disch := (first | omega | (simp only [List.length_set] <;> omega) | fail)) only [g_seq, g_sne, List.length_set]; exact i1 j (by omega)
      · simp (disch := (first | omega | (simp only [List.length_set] <;> omega) | fail)) only [g_seq, g_sne, List.length_set]; exact i2 j (by omega) z2
      · simp (disch := (first | omega | (simp only [List.length_set] <;> omega) | fail)) only [g_seq, g_sne, List.length_set]; exact i3 j z
      · rw [b_Mod_setBand_62]
        simp (maxSteps := 2000000) (disch := (first | omega | (simp (disch := omega) only [up_eq, up_ne, cpA_o, List.length_set] <;> omega) | fail)) only [ob_s, am_bi_s, am_bv_s, am_bl_s, ↓bif_d, lits, nI_addS, nI_mulS, nI_subS, nI_lt', nI_le', nI_eq', ↓rd_nI, ↓wrH, up_eq, up_ne, up_up, up_sw, List.set_set, g_seq, g_sne, Nat.reduceEqDiff, ↓reduceIte, List.length_set, Nat.add_sub_cancel_left, Nat.add_sub_cancel, ite_true, ite_false, if_true, if_false, not_true_eq_false, not_false_eq_true, Bool.and_true, Bool.true_and, true_or, or_true, false_or, or_false, and_true, true_and, and_false, false_and, Nat.not_lt_zero, hpRM, hpIM, hpFM, hpLM, hpSM, e1, e9, hg.1, hg.2, c, hR0]
    · have hk1 : nI k + (-(nI 1)) = nI (k - 1) := by
        have : nI k + (-(nI 1)) = nI k - nI 1 := (Int32.sub_eq_add_neg (nI k) (nI 1)).symm
        rw [this, nI_subS (by omega)]
      obtain ⟨R', p, q1, q2⟩ := ih (k - 1) ((R.set (1 + k) (g r (1 + (k - 1)))).set (9 + k) (g r (9 + (k - 1)))) (by omega) (by omega) (by simp [hR]) (by simp (disch := (first | omega | (simp only [List.length_set] <;> omega) | fail)) only [g_seq, g_sne, List.length_set]; exact hR0) (fun j hj => by simp (disch := (first | omega | (simp only [List.length_set] <;> omega) | fail)) only [g_seq, g_sne, List.length_set]; exact i1 j (by omega)) (fun j z1 z2 => by
          by_cases z : j = k - 1
          · subst z
            have y1 : 1 + (k - 1 + 1) = 1 + k := by omega
            have y9 : 9 + (k - 1 + 1) = 9 + k := by omega
            rw [y1, y9]
            simp (disch := (first | omega | (simp only [List.length_set] <;> omega) | fail)) only [g_seq, g_sne, List.length_set]
            exact ⟨trivial, trivial⟩
          · simp (disch := (first | omega | (simp only [List.length_set] <;> omega) | fail)) only [g_seq, g_sne, List.length_set]; exact i2 j (by omega) z2) (fun j z => by simp (disch := (first | omega | (simp only [List.length_set] <;> omega) | fail)) only [g_seq, g_sne, List.length_set]; exact i3 j z) (fun j z1 z2 => by
          by_cases z : j = k - 1
          · subst z; exact Int32.not_le.mp c
          · exact i4 j (by omega) z2)
      refine ⟨R', p, q1, ?_⟩
      rw [b_Mod_setBand_62]
      simp (maxSteps := 2000000) (disch := (first | omega | (simp (disch := omega) only [up_eq, up_ne, cpA_o, List.length_set] <;> omega) | fail)) only [ob_s, am_bi_s, am_bv_s, am_bl_s, ↓bif_d, lits, nI_addS, nI_mulS, nI_subS, nI_lt', nI_le', nI_eq', ↓rd_nI, ↓wrH, up_eq, up_ne, up_up, up_sw, List.set_set, g_seq, g_sne, Nat.reduceEqDiff, ↓reduceIte, List.length_set, Nat.add_sub_cancel_left, Nat.add_sub_cancel, ite_true, ite_false, if_true, if_false, not_true_eq_false, not_false_eq_true, Bool.and_true, Bool.true_and, true_or, or_true, false_or, or_false, and_true, true_and, and_false, false_and, Nat.not_lt_zero, hpRM, hpIM, hpFM, hpLM, hpSM, e1, e9, hg.1, hg.2, c, hR0, hk1, q2]
/-- the row behind a band's removal -/
def DelR (r R : List Int32) (nB : Nat) (p : Nat) : Prop := R.length = 472 ∧ g R 0 = nI (nB - 1) ∧ (∀ j, j < p → g R (1 + j) = g r (1 + j) ∧ g R (9 + j) = g r (9 + j)) ∧ (∀ j, p ≤ j → j + 1 < nB → g R (1 + j) = g r (1 + (j + 1)) ∧ g R (9 + j) = g r (9 + (j + 1))) ∧ ∀ j, 17 ≤ j → g R j = g r j
theorem l_removeBand30 (hr : r.length = 472) (h1 : 1 ≤ nB) (h8 : nB ≤ 8) {p : Nat} (hp : p < nB) (x y : Int32) : ∀ n k (R : List Int32), k + n + 1 = nB → p ≤ k → R.length = 472 → g R 0 = nI (nB - 1) → (∀ j, j < p → g R (1 + j) = g r (1 + j) ∧ g R (9 + j) = g r (9 + j)) → (∀ j, p ≤ j → j < k → g R (1 + j) = g r (1 + (j + 1)) ∧ g R (9 + j) = g r (9 + (j + 1))) → (∀ j, k < j → j < nB → g R (1 + j) = g r (1 + j) ∧ g R (9 + j) = g r (9 + j)) → (∀ j, 17 ≤ j → g R j = g r j) →
    ∃ R', DelR r R' nB p ∧ am_ev m_Mod_removeBand (30, [.ref 192, .int x, .int y, .int (nI k)], [], heap (up A 193 R) F P) = some (some (.int (nI (nB - 1))), heap (up A 193 R') F P) := by
  intro n
  induction n with
  | zero =>
    intro k R hk hpk hR hR0 i1 i2 i3 i4
    have hle : nB - 1 ≤ k := by omega
    refine ⟨R, ⟨hR, hR0, i1, fun j z1 z2 => i2 j z1 (by omega), i4⟩, ?_⟩
    rw [b_Mod_removeBand_30]
    simp (maxSteps := 2000000) (disch := (first | omega | (simp (disch := omega) only [up_eq, up_ne, cpA_o, List.length_set] <;> omega) | fail)) only [ob_s, am_bi_s, am_bv_s, am_bl_s, ↓bif_d, lits, nI_addS, nI_mulS, nI_subS, nI_lt', nI_le', nI_eq', ↓rd_nI, ↓wrH, up_eq, up_ne, up_up, up_sw, List.set_set, g_seq, g_sne, Nat.reduceEqDiff, ↓reduceIte, List.length_set, Nat.add_sub_cancel_left, Nat.add_sub_cancel, ite_true, ite_false, if_true, if_false, not_true_eq_false, not_false_eq_true, Bool.and_true, Bool.true_and, true_or, or_true, false_or, or_false, and_true, true_and, and_false, false_and, Nat.not_lt_zero, hpRM, hpIM, hpFM, hpLM, hpSM, hR0, hle]
  | succ n ih =>
    intro k R hk hpk hR hR0 i1 i2 i3 i4
    have hle : ¬ nB - 1 ≤ k := by omega
    have hg := i3 (k + 1) (by omega) (by omega)
    have e1 : 1 + k + 1 = 1 + (k + 1) := by omega
    have e9 : 9 + k + 1 = 9 + (k + 1) := by omega
    obtain ⟨R', q1, q2⟩ := ih (k + 1) ((R.set (1 + k) (g r (1 + (k + 1)))).set (9 + k) (g r (9 + (k + 1)))) (by omega) (by omega) (by simp [hR]) (by simp (disch := (first | omega | (simp only [List.length_set] <;> omega) | fail)) only [g_seq, g_sne, List.length_set]; exact hR0) (fun j hj => by simp (disch := (first | omega | (simp only [List.length_set] <;> omega) | fail)) only [g_seq, g_sne, List.length_set]; exact i1 j hj) (fun j z1 z2 => by
        by_cases z : j = k
        · subst z; simp (disch := (first | omega | (simp only [List.length_set] <;> omega) | fail)) only [g_seq, g_sne, List.length_set]; exact ⟨trivial, trivial⟩
        · simp (disch := (first | omega | (simp only [List.length_set] <;> omega) | fail)) only [g_seq, g_sne, List.length_set]; exact i2 j z1 (by omega)) (fun j z1 z2 => by simp (disch := (first | omega | (simp only [List.length_set] <;> omega) | fail)) only [g_seq, g_sne, List.length_set]; exact i3 j (by omega) z2) (fun j z => by simp (disch := (first | omega | (simp only [List.length_set] <;> omega) | fail)) only [g_seq, g_sne, List.length_set]; exact i4 j z)
    refine ⟨R', q1, ?_⟩
    rw [b_Mod_removeBand_30]
    simp (maxSteps := 2000000) (disch := (first | omega | (simp (disch := omega) only [up_eq, up_ne, cpA_o, List.length_set] <;> omega) | fail)) only [ob_s, am_bi_s, am_bv_s, am_bl_s, ↓bif_d, lits, nI_addS, nI_mulS, nI_subS, nI_lt', nI_le', nI_eq', ↓rd_nI, ↓wrH, up_eq, up_ne, up_up, up_sw, List.set_set, g_seq, g_sne, Nat.reduceEqDiff, ↓reduceIte, List.length_set, Nat.add_sub_cancel_left, Nat.add_sub_cancel, ite_true, ite_false, if_true, if_false, not_true_eq_false, not_false_eq_true, Bool.and_true, Bool.true_and, true_or, or_true, false_or, or_false, and_true, true_and, and_false, false_and, Nat.not_lt_zero, hpRM, hpIM, hpFM, hpLM, hpSM, hR0, hle, e1, e9, hg.1, hg.2, q2]
end X
