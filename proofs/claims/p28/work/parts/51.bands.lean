/-! BANDS SET AND REMOVED -/
def pO (X : List Int32) (x : Int32) : Nat → Nat → Nat
  | 0, k => k
  | n + 1, k => if g X k = x then k else pO X x n (k + 1)
theorem pO_s (X : List Int32) (x : Int32) (n k : Nat) : pO X x (n + 1) k = if g X k = x then k else pO X x n (k + 1) := rfl
theorem pO_spec (X : List Int32) (x : Int32) : ∀ n k, k ≤ pO X x n k ∧ pO X x n k ≤ k + n ∧ (pO X x n k < k + n → g X (pO X x n k) = x) ∧ ∀ i, k ≤ i → i < pO X x n k → ¬ g X i = x := by
  intro n
  induction n with
  | zero => intro k; exact ⟨Nat.le_refl _, Nat.le_refl _, fun z => absurd z (Nat.lt_irrefl _), fun i h1 h2 => absurd h2 (Nat.not_lt.mpr h1)⟩
  | succ n ih =>
    intro k
    rw [pO_s]
    by_cases c : g X k = x
    · rw [if_pos c]
      exact ⟨Nat.le_refl _, by omega, fun _ => c, fun i h1 h2 => by omega⟩
    · rw [if_neg c]
      obtain ⟨q1, q2, q3, q4⟩ := ih (k + 1)
      refine ⟨by omega, by omega, fun z => q3 (by omega), fun i h1 h2 => ?_⟩
      rcases Nat.eq_or_lt_of_le h1 with z | z
      · rw [← z]; exact c
      · exact q4 i z h2
theorem mAt_spec (r : List Int32) (x : Int32) : ∀ n k, (∃ j, k ≤ j ∧ j < k + n ∧ mAt r x n k = nI j ∧ g r (1 + j) = x) ∨ (mAt r x n k = -nI 5 ∧ ∀ j, k ≤ j → j < k + n → ¬ g r (1 + j) = x) := by
  intro n
  induction n with
  | zero => intro k; exact Or.inr ⟨rfl, fun j h1 h2 => by omega⟩
  | succ n ih =>
    intro k
    rw [mAt_s]
    by_cases c : g r (1 + k) = x
    · rw [if_pos c]
      exact Or.inl ⟨k, Nat.le_refl _, by omega, rfl, c⟩
    · rw [if_neg c]
      rcases ih (k + 1) with ⟨j, j1, j2, j3, j4⟩ | ⟨h1, h2⟩
      · exact Or.inl ⟨j, by omega, by omega, j3, j4⟩
      · refine Or.inr ⟨h1, fun j z1 z2 => ?_⟩
        rcases Nat.eq_or_lt_of_le z1 with z | z
        · rw [← z]; exact c
        · exact h2 j z (by omega)
section X
variable {A : Nat → List Int32} {F : Nat → Int32} {P : Nat → Nat} {r : List Int32} {nB nl nb nx : Nat}
theorem l_placeOf (h5 : (A 5).length = 8) (h8 : nB ≤ 8) (hF : F 302 = nI nB) (x : Int32) : ∀ n k, k + n = nB → am_ev m_Steps_placeOf (2, [.ref 3, .int x, .int (nI k)], [], heap A F P) = some (some (.int (nI (pO (A 5) x n k))), heap A F P) := by
  intro n
  induction n with
  | zero =>
    intro k hk
    have hle : nB ≤ k := by omega
    have e : nB = k := by omega
    rw [b_Steps_placeOf_2]
    simp (maxSteps := 2000000) (disch := (first | omega | (simp (disch := omega) only [up_eq, up_ne, cpA_o, List.length_set] <;> omega) | fail)) only [ob_s, am_bi_s, am_bv_s, am_bl_s, ↓bif_d, lits, nI_addS, nI_mulS, nI_subS, nI_lt', nI_le', nI_eq', ↓rd_nI, ↓wrH, up_eq, up_ne, up_up, up_sw, List.set_set, g_seq, g_sne, Nat.reduceEqDiff, ↓reduceIte, List.length_set, Nat.add_sub_cancel_left, Nat.add_sub_cancel, ite_true, ite_false, if_true, if_false, not_true_eq_false, not_false_eq_true, Bool.and_true, Bool.true_and, true_or, or_true, false_or, or_false, and_true, true_and, and_false, false_and, Nat.not_lt_zero, hpRX, hpIX, hpFX, hpLX, hpSX, ↓rgX, ↓rpX, Nat.reduceLeDiff, Nat.reduceLT, Nat.reduceAdd, Nat.reduceMul, Nat.reduceSub, hF, hle]
    rw [e]
    rfl
  | succ n ih =>
    intro k hk
    have hle : ¬ nB ≤ k := by omega
    have ih := ih (k + 1) (by omega)
    rw [b_Steps_placeOf_2, pO_s]
    by_cases c : g (A 5) k = x
    · rw [if_pos c]
      simp (maxSteps := 2000000) (disch := (first | omega | (simp (disch := omega) only [up_eq, up_ne, cpA_o, List.length_set] <;> omega) | fail)) only [ob_s, am_bi_s, am_bv_s, am_bl_s, ↓bif_d, lits, nI_addS, nI_mulS, nI_subS, nI_lt', nI_le', nI_eq', ↓rd_nI, ↓wrH, up_eq, up_ne, up_up, up_sw, List.set_set, g_seq, g_sne, Nat.reduceEqDiff, ↓reduceIte, List.length_set, Nat.add_sub_cancel_left, Nat.add_sub_cancel, ite_true, ite_false, if_true, if_false, not_true_eq_false, not_false_eq_true, Bool.and_true, Bool.true_and, true_or, or_true, false_or, or_false, and_true, true_and, and_false, false_and, Nat.not_lt_zero, hpRX, hpIX, hpFX, hpLX, hpSX, ↓rgX, ↓rpX, Nat.reduceLeDiff, Nat.reduceLT, Nat.reduceAdd, Nat.reduceMul, Nat.reduceSub, hF, hle, c]
    · rw [if_neg c]
      simp (maxSteps := 2000000) (disch := (first | omega | (simp (disch := omega) only [up_eq, up_ne, cpA_o, List.length_set] <;> omega) | fail)) only [ob_s, am_bi_s, am_bv_s, am_bl_s, ↓bif_d, lits, nI_addS, nI_mulS, nI_subS, nI_lt', nI_le', nI_eq', ↓rd_nI, ↓wrH, up_eq, up_ne, up_up, up_sw, List.set_set, g_seq, g_sne, Nat.reduceEqDiff, ↓reduceIte, List.length_set, Nat.add_sub_cancel_left, Nat.add_sub_cancel, ite_true, ite_false, if_true, if_false, not_true_eq_false, not_false_eq_true, Bool.and_true, Bool.true_and, true_or, or_true, false_or, or_false, and_true, true_and, and_false, false_and, Nat.not_lt_zero, hpRX, hpIX, hpFX, hpLX, hpSX, ↓rgX, ↓rpX, Nat.reduceLeDiff, Nat.reduceLT, Nat.reduceAdd, Nat.reduceMul, Nat.reduceSub, hF, hle, c, ih]
theorem s_placeOf (h5 : (A 5).length = 8) (h8 : nB ≤ 8) (hF : F 302 = nI nB) (x : Int32) : am_cl m_Steps_placeOf [.ref 3, .int x] (heap A F P) = some (some (.int (nI (pO (A 5) x nB 0))), heap A F P) := by
  rw [e_Steps_placeOf 3 _ _ rfl]
  exact l_placeOf h5 h8 hF x nB 0 (by omega)
/-- the row behind a new band at the place p -/
def InsR (r R : List Int32) (nB : Nat) (x v : Int32) (p : Nat) : Prop := R.length = 472 ∧ g R 0 = nI (nB + 1) ∧ 1 ≤ p ∧ p ≤ nB ∧ (∀ j, j < p → g R (1 + j) = g r (1 + j) ∧ g R (9 + j) = g r (9 + j)) ∧ g R (1 + p) = x ∧ g R (9 + p) = v ∧ (∀ j, p ≤ j → j < nB → g R (1 + (j + 1)) = g r (1 + j) ∧ g R (9 + (j + 1)) = g r (9 + j)) ∧ (∀ j, 17 ≤ j → g R j = g r j) ∧ g r (1 + (p - 1)) ≤ x ∧ (∀ j, p ≤ j → j < nB → x < g r (1 + j))
/-- the row behind a band's removal -/
def DelR (r R : List Int32) (nB : Nat) (p : Nat) : Prop := R.length = 472 ∧ g R 0 = nI (nB - 1) ∧ (∀ j, j < p → g R (1 + j) = g r (1 + j) ∧ g R (9 + j) = g r (9 + j)) ∧ (∀ j, p ≤ j → j + 1 < nB → g R (1 + j) = g r (1 + (j + 1)) ∧ g R (9 + j) = g r (9 + (j + 1))) ∧ ∀ j, 17 ≤ j → g R j = g r j
theorem ins_p {x : Int32} (hr1 : ¬ x < g r 1) : ∀ n k, k = n + 1 → k ≤ nB → (∀ j, k ≤ j → j < nB → x < g r (1 + j)) → ∃ p, 1 ≤ p ∧ p ≤ nB ∧ g r (1 + (p - 1)) ≤ x ∧ ∀ j, p ≤ j → j < nB → x < g r (1 + j) := by
  intro n
  induction n with
  | zero =>
    intro k hk hn h
    subst hk
    exact ⟨1, by omega, by omega, Int32.not_lt.mp hr1, h⟩
  | succ n ih =>
    intro k hk hn h
    by_cases c : g r (1 + (k - 1)) ≤ x
    · exact ⟨k, by omega, hn, c, h⟩
    · refine ih (k - 1) (by omega) (by omega) (fun j h1 h2 => ?_)
      by_cases z : j = k - 1
      · subst z; exact Int32.not_le.mp c
      · exact h j (by omega) h2
theorem InsR_ex {x : Int32} (hr472 : r.length = 472) (h1 : 1 ≤ nB) (hr1 : ¬ x < g r 1) (h7 : nB < 8) (v : Int32) : ∃ R p, InsR r R nB x v p := by
  obtain ⟨p, p1, p2, p3, p4⟩ := ins_p (nB := nB) hr1 (nB - 1) nB (by omega) (Nat.le_refl _) (fun j z1 z2 => by omega)
  refine ⟨(List.range 472).map (fun j => if j = 0 then nI (nB + 1) else if j < 9 then (if j - 1 < p then g r j else if j - 1 = p then x else g r (j - 1)) else if j < 17 then (if j - 9 < p then g r j else if j - 9 = p then v else g r (j - 1)) else g r j), p, by simp, ?_, p1, p2, fun j hj => ⟨?_, ?_⟩, ?_, ?_, fun j z1 z2 => ⟨?_, ?_⟩, fun j z => ?_, p3, p4⟩
  · rw [g_mkl' (by omega), if_pos rfl]
  · rw [g_mkl' (by omega), if_neg (by omega), if_pos (by omega), if_pos (by omega)]
  · rw [g_mkl' (by omega), if_neg (by omega), if_neg (by omega), if_pos (by omega), if_pos (by omega)]
  · rw [g_mkl' (by omega), if_neg (by omega), if_pos (by omega), if_neg (by omega), if_pos (by omega)]
  · rw [g_mkl' (by omega), if_neg (by omega), if_neg (by omega), if_pos (by omega), if_neg (by omega), if_pos (by omega)]
  · rw [g_mkl' (by omega), if_neg (by omega), if_pos (by omega), if_neg (by omega), if_neg (by omega)]
    exact congrArg (g r) (by omega)
  · rw [g_mkl' (by omega), if_neg (by omega), if_neg (by omega), if_pos (by omega), if_neg (by omega), if_neg (by omega)]
    exact congrArg (g r) (by omega)
  · by_cases h : j < 472
    · rw [g_mkl' h, if_neg (by omega), if_neg (by omega), if_neg (by omega)]
    · unfold g
      rw [List.getD_eq_getElem?_getD, List.getD_eq_getElem?_getD, List.getElem?_eq_none (by simp; omega), List.getElem?_eq_none (by have := hr472; omega)]
theorem DelR_ex {p : Nat} (hr472 : r.length = 472) (hp : p < nB) (h8 : nB ≤ 8) : ∃ R, DelR r R nB p := by
  refine ⟨(List.range 472).map (fun j => if j = 0 then nI (nB - 1) else if j < 9 then (if j - 1 < p then g r j else g r (j + 1)) else if j < 17 then (if j - 9 < p then g r j else g r (j + 1)) else g r j), by simp, ?_, fun j hj => ⟨?_, ?_⟩, fun j z1 z2 => ⟨?_, ?_⟩, fun j z => ?_⟩
  · rw [g_mkl' (by omega), if_pos rfl]
  · rw [g_mkl' (by omega), if_neg (by omega), if_pos (by omega), if_pos (by omega)]
  · rw [g_mkl' (by omega), if_neg (by omega), if_neg (by omega), if_pos (by omega), if_pos (by omega)]
  · rw [g_mkl' (by omega), if_neg (by omega), if_pos (by omega), if_neg (by omega)]
    exact congrArg (g r) (by omega)
  · rw [g_mkl' (by omega), if_neg (by omega), if_neg (by omega), if_pos (by omega), if_neg (by omega)]
    exact congrArg (g r) (by omega)
  · by_cases h : j < 472
    · rw [g_mkl' h, if_neg (by omega), if_neg (by omega), if_neg (by omega)]
    · unfold g
      rw [List.getD_eq_getElem?_getD, List.getD_eq_getElem?_getD, List.getElem?_eq_none (by simp; omega), List.getElem?_eq_none (by have := hr472; omega)]
end X
