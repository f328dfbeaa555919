/-! STATES AND THEIR COPIES -/
/-- the rows of a state at B have their lengths -/
def LenS (A : Nat → List Int32) (B : Nat) : Prop := (A (B + 3)).length = 8 ∧ (A (B + 5)).length = 8 ∧ (A (B + 8)).length = 20 ∧ (A (B + 10)).length = 20 ∧ (A (B + 12)).length = 20 ∧ (A (B + 14)).length = 20 ∧ (A (B + 16)).length = 8 ∧ (A (B + 19)).length = 60 ∧ (A (B + 21)).length = 60 ∧ (A (B + 23)).length = 60 ∧ (A (B + 25)).length = 60 ∧ (A (B + 27)).length = 60 ∧ (A (B + 29)).length = 60 ∧ (A (B + 31)).length = 4
def cpA (A : Nat → List Int32) (s d : Nat) : Nat → List Int32 := fun j => if d ≤ j then (if j < d + 32 then A (s + (j - d)) else A j) else A j
def cpF (F : Nat → Int32) (s d : Nat) : Nat → Int32 := fun k => if 100 * d ≤ k then (if k < 100 * d + 3200 then F (100 * s + (k - 100 * d)) else F k) else F k
/-- the places of the history's states -/
def hsP (b : Nat) : Prop := b = 36 ∨ b = 68 ∨ b = 100 ∨ b = 132
section X
variable {A : Nat → List Int32} {F : Nat → Int32} {P : Nat → Nat}
theorem c_36_2 (h1 : LenS A 36) (h2 : LenS A 2) : am_cl m_State_copy [.ref 36, .ref 2] (heap A F P) = some (none, heap (cpA A 2 36) (cpF F 2 36) P) := by
  have a1 := fun A F P => e_Steps_copy 37 3 (heap A F P) rfl
  have a2 := fun A F P => e_Lots_copy 42 8 (heap A F P) rfl
  have a3 := fun A F P => e_Bids_copy 53 19 (heap A F P) rfl
  have d3 : (A 39).length = 8 := h1.1
  have s3 : (A 5).length = 8 := h2.1
  have d5 : (A 41).length = 8 := h1.2.1
  have s5 : (A 7).length = 8 := h2.2.1
  have d8 : (A 44).length = 20 := h1.2.2.1
  have s8 : (A 10).length = 20 := h2.2.2.1
  have d10 : (A 46).length = 20 := h1.2.2.2.1
  have s10 : (A 12).length = 20 := h2.2.2.2.1
  have d12 : (A 48).length = 20 := h1.2.2.2.2.1
  have s12 : (A 14).length = 20 := h2.2.2.2.2.1
  have d14 : (A 50).length = 20 := h1.2.2.2.2.2.1
  have s14 : (A 16).length = 20 := h2.2.2.2.2.2.1
  have d16 : (A 52).length = 8 := h1.2.2.2.2.2.2.1
  have s16 : (A 18).length = 8 := h2.2.2.2.2.2.2.1
  have d19 : (A 55).length = 60 := h1.2.2.2.2.2.2.2.1
  have s19 : (A 21).length = 60 := h2.2.2.2.2.2.2.2.1
  have d21 : (A 57).length = 60 := h1.2.2.2.2.2.2.2.2.1
  have s21 : (A 23).length = 60 := h2.2.2.2.2.2.2.2.2.1
  have d23 : (A 59).length = 60 := h1.2.2.2.2.2.2.2.2.2.1
  have s23 : (A 25).length = 60 := h2.2.2.2.2.2.2.2.2.2.1
  have d25 : (A 61).length = 60 := h1.2.2.2.2.2.2.2.2.2.2.1
  have s25 : (A 27).length = 60 := h2.2.2.2.2.2.2.2.2.2.2.1
  have d27 : (A 63).length = 60 := h1.2.2.2.2.2.2.2.2.2.2.2.1
  have s27 : (A 29).length = 60 := h2.2.2.2.2.2.2.2.2.2.2.2.1
  have d29 : (A 65).length = 60 := h1.2.2.2.2.2.2.2.2.2.2.2.2.1
  have s29 : (A 31).length = 60 := h2.2.2.2.2.2.2.2.2.2.2.2.2.1
  have d31 : (A 67).length = 4 := h1.2.2.2.2.2.2.2.2.2.2.2.2.2
  have s31 : (A 33).length = 4 := h2.2.2.2.2.2.2.2.2.2.2.2.2.2
  rw [e_State_copy 36 2 _ rfl]
  simp (maxSteps := 2000000) (disch := (first | omega | (simp (disch := omega) only [up_eq, up_ne, List.length_set] <;> omega) | fail)) only [ob_s, am_bi_s, am_bv_s, am_bl_s, ↓bif_d, lits, nI_addS, nI_mulS, nI_subS, nI_lt', nI_le', nI_eq', ↓rd_nI, ↓wrH, up_eq, up_ne, up_up, up_sw, List.set_set, g_seq, g_sne, Nat.reduceEqDiff, ↓reduceIte, List.length_set, Nat.add_sub_cancel_left, Nat.add_sub_cancel, ite_true, ite_false, if_true, if_false, not_true_eq_false, not_false_eq_true, Bool.and_true, Bool.true_and, true_or, or_true, false_or, or_false, and_true, true_and, and_false, false_and, Nat.not_lt_zero, hpRX, hpIX, hpFX, hpLX, hpSX, hpRY, hpIY, hpFY, rcY, a1, a2, a3]
  rfl
theorem c_2_36 (h1 : LenS A 2) (h2 : LenS A 36) : am_cl m_State_copy [.ref 2, .ref 36] (heap A F P) = some (none, heap (cpA A 36 2) (cpF F 36 2) P) := by
  have a1 := fun A F P => e_Steps_copy 3 37 (heap A F P) rfl
  have a2 := fun A F P => e_Lots_copy 8 42 (heap A F P) rfl
  have a3 := fun A F P => e_Bids_copy 19 53 (heap A F P) rfl
  have d3 : (A 5).length = 8 := h1.1
  have s3 : (A 39).length = 8 := h2.1
  have d5 : (A 7).length = 8 := h1.2.1
  have s5 : (A 41).length = 8 := h2.2.1
  have d8 : (A 10).length = 20 := h1.2.2.1
  have s8 : (A 44).length = 20 := h2.2.2.1
  have d10 : (A 12).length = 20 := h1.2.2.2.1
  have s10 : (A 46).length = 20 := h2.2.2.2.1
  have d12 : (A 14).length = 20 := h1.2.2.2.2.1
  have s12 : (A 48).length = 20 := h2.2.2.2.2.1
  have d14 : (A 16).length = 20 := h1.2.2.2.2.2.1
  have s14 : (A 50).length = 20 := h2.2.2.2.2.2.1
  have d16 : (A 18).length = 8 := h1.2.2.2.2.2.2.1
  have s16 : (A 52).length = 8 := h2.2.2.2.2.2.2.1
  have d19 : (A 21).length = 60 := h1.2.2.2.2.2.2.2.1
  have s19 : (A 55).length = 60 := h2.2.2.2.2.2.2.2.1
  have d21 : (A 23).length = 60 := h1.2.2.2.2.2.2.2.2.1
  have s21 : (A 57).length = 60 := h2.2.2.2.2.2.2.2.2.1
  have d23 : (A 25).length = 60 := h1.2.2.2.2.2.2.2.2.2.1
  have s23 : (A 59).length = 60 := h2.2.2.2.2.2.2.2.2.2.1
  have d25 : (A 27).length = 60 := h1.2.2.2.2.2.2.2.2.2.2.1
  have s25 : (A 61).length = 60 := h2.2.2.2.2.2.2.2.2.2.2.1
  have d27 : (A 29).length = 60 := h1.2.2.2.2.2.2.2.2.2.2.2.1
  have s27 : (A 63).length = 60 := h2.2.2.2.2.2.2.2.2.2.2.2.1
  have d29 : (A 31).length = 60 := h1.2.2.2.2.2.2.2.2.2.2.2.2.1
  have s29 : (A 65).length = 60 := h2.2.2.2.2.2.2.2.2.2.2.2.2.1
  have d31 : (A 33).length = 4 := h1.2.2.2.2.2.2.2.2.2.2.2.2.2
  have s31 : (A 67).length = 4 := h2.2.2.2.2.2.2.2.2.2.2.2.2.2
  rw [e_State_copy 2 36 _ rfl]
  simp (maxSteps := 2000000) (disch := (first | omega | (simp (disch := omega) only [up_eq, up_ne, List.length_set] <;> omega) | fail)) only [ob_s, am_bi_s, am_bv_s, am_bl_s, ↓bif_d, lits, nI_addS, nI_mulS, nI_subS, nI_lt', nI_le', nI_eq', ↓rd_nI, ↓wrH, up_eq, up_ne, up_up, up_sw, List.set_set, g_seq, g_sne, Nat.reduceEqDiff, ↓reduceIte, List.length_set, Nat.add_sub_cancel_left, Nat.add_sub_cancel, ite_true, ite_false, if_true, if_false, not_true_eq_false, not_false_eq_true, Bool.and_true, Bool.true_and, true_or, or_true, false_or, or_false, and_true, true_and, and_false, false_and, Nat.not_lt_zero, hpRX, hpIX, hpFX, hpLX, hpSX, hpRY, hpIY, hpFY, rcY, a1, a2, a3]
  rfl
theorem c_68_2 (h1 : LenS A 68) (h2 : LenS A 2) : am_cl m_State_copy [.ref 68, .ref 2] (heap A F P) = some (none, heap (cpA A 2 68) (cpF F 2 68) P) := by
  have a1 := fun A F P => e_Steps_copy 69 3 (heap A F P) rfl
  have a2 := fun A F P => e_Lots_copy 74 8 (heap A F P) rfl
  have a3 := fun A F P => e_Bids_copy 85 19 (heap A F P) rfl
  have d3 : (A 71).length = 8 := h1.1
  have s3 : (A 5).length = 8 := h2.1
  have d5 : (A 73).length = 8 := h1.2.1
  have s5 : (A 7).length = 8 := h2.2.1
  have d8 : (A 76).length = 20 := h1.2.2.1
  have s8 : (A 10).length = 20 := h2.2.2.1
  have d10 : (A 78).length = 20 := h1.2.2.2.1
  have s10 : (A 12).length = 20 := h2.2.2.2.1
  have d12 : (A 80).length = 20 := h1.2.2.2.2.1
  have s12 : (A 14).length = 20 := h2.2.2.2.2.1
  have d14 : (A 82).length = 20 := h1.2.2.2.2.2.1
  have s14 : (A 16).length = 20 := h2.2.2.2.2.2.1
  have d16 : (A 84).length = 8 := h1.2.2.2.2.2.2.1
  have s16 : (A 18).length = 8 := h2.2.2.2.2.2.2.1
  have d19 : (A 87).length = 60 := h1.2.2.2.2.2.2.2.1
  have s19 : (A 21).length = 60 := h2.2.2.2.2.2.2.2.1
  have d21 : (A 89).length = 60 := h1.2.2.2.2.2.2.2.2.1
  have s21 : (A 23).length = 60 := h2.2.2.2.2.2.2.2.2.1
  have d23 : (A 91).length = 60 := h1.2.2.2.2.2.2.2.2.2.1
  have s23 : (A 25).length = 60 := h2.2.2.2.2.2.2.2.2.2.1
  have d25 : (A 93).length = 60 := h1.2.2.2.2.2.2.2.2.2.2.1
  have s25 : (A 27).length = 60 := h2.2.2.2.2.2.2.2.2.2.2.1
  have d27 : (A 95).length = 60 := h1.2.2.2.2.2.2.2.2.2.2.2.1
  have s27 : (A 29).length = 60 := h2.2.2.2.2.2.2.2.2.2.2.2.1
  have d29 : (A 97).length = 60 := h1.2.2.2.2.2.2.2.2.2.2.2.2.1
  have s29 : (A 31).length = 60 := h2.2.2.2.2.2.2.2.2.2.2.2.2.1
  have d31 : (A 99).length = 4 := h1.2.2.2.2.2.2.2.2.2.2.2.2.2
  have s31 : (A 33).length = 4 := h2.2.2.2.2.2.2.2.2.2.2.2.2.2
  rw [e_State_copy 68 2 _ rfl]
  simp (maxSteps := 2000000) (disch := (first | omega | (simp (disch := omega) only [up_eq, up_ne, List.length_set] <;> omega) | fail)) only [ob_s, am_bi_s, am_bv_s, am_bl_s, ↓bif_d, lits, nI_addS, nI_mulS, nI_subS, nI_lt', nI_le', nI_eq', ↓rd_nI, ↓wrH, up_eq, up_ne, up_up, up_sw, List.set_set, g_seq, g_sne, Nat.reduceEqDiff, ↓reduceIte, List.length_set, Nat.add_sub_cancel_left, Nat.add_sub_cancel, ite_true, ite_false, if_true, if_false, not_true_eq_false, not_false_eq_true, Bool.and_true, Bool.true_and, true_or, or_true, false_or, or_false, and_true, true_and, and_false, false_and, Nat.not_lt_zero, hpRX, hpIX, hpFX, hpLX, hpSX, hpRY, hpIY, hpFY, rcY, a1, a2, a3]
  rfl
theorem c_2_68 (h1 : LenS A 2) (h2 : LenS A 68) : am_cl m_State_copy [.ref 2, .ref 68] (heap A F P) = some (none, heap (cpA A 68 2) (cpF F 68 2) P) := by
  have a1 := fun A F P => e_Steps_copy 3 69 (heap A F P) rfl
  have a2 := fun A F P => e_Lots_copy 8 74 (heap A F P) rfl
  have a3 := fun A F P => e_Bids_copy 19 85 (heap A F P) rfl
  have d3 : (A 5).length = 8 := h1.1
  have s3 : (A 71).length = 8 := h2.1
  have d5 : (A 7).length = 8 := h1.2.1
  have s5 : (A 73).length = 8 := h2.2.1
  have d8 : (A 10).length = 20 := h1.2.2.1
  have s8 : (A 76).length = 20 := h2.2.2.1
  have d10 : (A 12).length = 20 := h1.2.2.2.1
  have s10 : (A 78).length = 20 := h2.2.2.2.1
  have d12 : (A 14).length = 20 := h1.2.2.2.2.1
  have s12 : (A 80).length = 20 := h2.2.2.2.2.1
  have d14 : (A 16).length = 20 := h1.2.2.2.2.2.1
  have s14 : (A 82).length = 20 := h2.2.2.2.2.2.1
  have d16 : (A 18).length = 8 := h1.2.2.2.2.2.2.1
  have s16 : (A 84).length = 8 := h2.2.2.2.2.2.2.1
  have d19 : (A 21).length = 60 := h1.2.2.2.2.2.2.2.1
  have s19 : (A 87).length = 60 := h2.2.2.2.2.2.2.2.1
  have d21 : (A 23).length = 60 := h1.2.2.2.2.2.2.2.2.1
  have s21 : (A 89).length = 60 := h2.2.2.2.2.2.2.2.2.1
  have d23 : (A 25).length = 60 := h1.2.2.2.2.2.2.2.2.2.1
  have s23 : (A 91).length = 60 := h2.2.2.2.2.2.2.2.2.2.1
  have d25 : (A 27).length = 60 := h1.2.2.2.2.2.2.2.2.2.2.1
  have s25 : (A 93).length = 60 := h2.2.2.2.2.2.2.2.2.2.2.1
  have d27 : (A 29).length = 60 := h1.2.2.2.2.2.2.2.2.2.2.2.1
  have s27 : (A 95).length = 60 := h2.2.2.2.2.2.2.2.2.2.2.2.1
  have d29 : (A 31).length = 60 := h1.2.2.2.2.2.2.2.2.2.2.2.2.1
  have s29 : (A 97).length = 60 := h2.2.2.2.2.2.2.2.2.2.2.2.2.1
  have d31 : (A 33).length = 4 := h1.2.2.2.2.2.2.2.2.2.2.2.2.2
  have s31 : (A 99).length = 4 := h2.2.2.2.2.2.2.2.2.2.2.2.2.2
  rw [e_State_copy 2 68 _ rfl]
  simp (maxSteps := 2000000) (disch := (first | omega | (simp (disch := omega) only [up_eq, up_ne, List.length_set] <;> omega) | fail)) only [ob_s, am_bi_s, am_bv_s, am_bl_s, ↓bif_d, lits, nI_addS, nI_mulS, nI_subS, nI_lt', nI_le', nI_eq', ↓rd_nI, ↓wrH, up_eq, up_ne, up_up, up_sw, List.set_set, g_seq, g_sne, Nat.reduceEqDiff, ↓reduceIte, List.length_set, Nat.add_sub_cancel_left, Nat.add_sub_cancel, ite_true, ite_false, if_true, if_false, not_true_eq_false, not_false_eq_true, Bool.and_true, Bool.true_and, true_or, or_true, false_or, or_false, and_true, true_and, and_false, false_and, Nat.not_lt_zero, hpRX, hpIX, hpFX, hpLX, hpSX, hpRY, hpIY, hpFY, rcY, a1, a2, a3]
  rfl
theorem c_100_2 (h1 : LenS A 100) (h2 : LenS A 2) : am_cl m_State_copy [.ref 100, .ref 2] (heap A F P) = some (none, heap (cpA A 2 100) (cpF F 2 100) P) := by
  have a1 := fun A F P => e_Steps_copy 101 3 (heap A F P) rfl
  have a2 := fun A F P => e_Lots_copy 106 8 (heap A F P) rfl
  have a3 := fun A F P => e_Bids_copy 117 19 (heap A F P) rfl
  have d3 : (A 103).length = 8 := h1.1
  have s3 : (A 5).length = 8 := h2.1
  have d5 : (A 105).length = 8 := h1.2.1
  have s5 : (A 7).length = 8 := h2.2.1
  have d8 : (A 108).length = 20 := h1.2.2.1
  have s8 : (A 10).length = 20 := h2.2.2.1
  have d10 : (A 110).length = 20 := h1.2.2.2.1
  have s10 : (A 12).length = 20 := h2.2.2.2.1
  have d12 : (A 112).length = 20 := h1.2.2.2.2.1
  have s12 : (A 14).length = 20 := h2.2.2.2.2.1
  have d14 : (A 114).length = 20 := h1.2.2.2.2.2.1
  have s14 : (A 16).length = 20 := h2.2.2.2.2.2.1
  have d16 : (A 116).length = 8 := h1.2.2.2.2.2.2.1
  have s16 : (A 18).length = 8 := h2.2.2.2.2.2.2.1
  have d19 : (A 119).length = 60 := h1.2.2.2.2.2.2.2.1
  have s19 : (A 21).length = 60 := h2.2.2.2.2.2.2.2.1
  have d21 : (A 121).length = 60 := h1.2.2.2.2.2.2.2.2.1
  have s21 : (A 23).length = 60 := h2.2.2.2.2.2.2.2.2.1
  have d23 : (A 123).length = 60 := h1.2.2.2.2.2.2.2.2.2.1
  have s23 : (A 25).length = 60 := h2.2.2.2.2.2.2.2.2.2.1
  have d25 : (A 125).length = 60 := h1.2.2.2.2.2.2.2.2.2.2.1
  have s25 : (A 27).length = 60 := h2.2.2.2.2.2.2.2.2.2.2.1
  have d27 : (A 127).length = 60 := h1.2.2.2.2.2.2.2.2.2.2.2.1
  have s27 : (A 29).length = 60 := h2.2.2.2.2.2.2.2.2.2.2.2.1
  have d29 : (A 129).length = 60 := h1.2.2.2.2.2.2.2.2.2.2.2.2.1
  have s29 : (A 31).length = 60 := h2.2.2.2.2.2.2.2.2.2.2.2.2.1
  have d31 : (A 131).length = 4 := h1.2.2.2.2.2.2.2.2.2.2.2.2.2
  have s31 : (A 33).length = 4 := h2.2.2.2.2.2.2.2.2.2.2.2.2.2
  rw [e_State_copy 100 2 _ rfl]
  simp (maxSteps := 2000000) (disch := (first | omega | (simp (disch := omega) only [up_eq, up_ne, List.length_set] <;> omega) | fail)) only [ob_s, am_bi_s, am_bv_s, am_bl_s, ↓bif_d, lits, nI_addS, nI_mulS, nI_subS, nI_lt', nI_le', nI_eq', ↓rd_nI, ↓wrH, up_eq, up_ne, up_up, up_sw, List.set_set, g_seq, g_sne, Nat.reduceEqDiff, ↓reduceIte, List.length_set, Nat.add_sub_cancel_left, Nat.add_sub_cancel, ite_true, ite_false, if_true, if_false, not_true_eq_false, not_false_eq_true, Bool.and_true, Bool.true_and, true_or, or_true, false_or, or_false, and_true, true_and, and_false, false_and, Nat.not_lt_zero, hpRX, hpIX, hpFX, hpLX, hpSX, hpRY, hpIY, hpFY, rcY, a1, a2, a3]
  rfl
theorem c_2_100 (h1 : LenS A 2) (h2 : LenS A 100) : am_cl m_State_copy [.ref 2, .ref 100] (heap A F P) = some (none, heap (cpA A 100 2) (cpF F 100 2) P) := by
  have a1 := fun A F P => e_Steps_copy 3 101 (heap A F P) rfl
  have a2 := fun A F P => e_Lots_copy 8 106 (heap A F P) rfl
  have a3 := fun A F P => e_Bids_copy 19 117 (heap A F P) rfl
  have d3 : (A 5).length = 8 := h1.1
  have s3 : (A 103).length = 8 := h2.1
  have d5 : (A 7).length = 8 := h1.2.1
  have s5 : (A 105).length = 8 := h2.2.1
  have d8 : (A 10).length = 20 := h1.2.2.1
  have s8 : (A 108).length = 20 := h2.2.2.1
  have d10 : (A 12).length = 20 := h1.2.2.2.1
  have s10 : (A 110).length = 20 := h2.2.2.2.1
  have d12 : (A 14).length = 20 := h1.2.2.2.2.1
  have s12 : (A 112).length = 20 := h2.2.2.2.2.1
  have d14 : (A 16).length = 20 := h1.2.2.2.2.2.1
  have s14 : (A 114).length = 20 := h2.2.2.2.2.2.1
  have d16 : (A 18).length = 8 := h1.2.2.2.2.2.2.1
  have s16 : (A 116).length = 8 := h2.2.2.2.2.2.2.1
  have d19 : (A 21).length = 60 := h1.2.2.2.2.2.2.2.1
  have s19 : (A 119).length = 60 := h2.2.2.2.2.2.2.2.1
  have d21 : (A 23).length = 60 := h1.2.2.2.2.2.2.2.2.1
  have s21 : (A 121).length = 60 := h2.2.2.2.2.2.2.2.2.1
  have d23 : (A 25).length = 60 := h1.2.2.2.2.2.2.2.2.2.1
  have s23 : (A 123).length = 60 := h2.2.2.2.2.2.2.2.2.2.1
  have d25 : (A 27).length = 60 := h1.2.2.2.2.2.2.2.2.2.2.1
  have s25 : (A 125).length = 60 := h2.2.2.2.2.2.2.2.2.2.2.1
  have d27 : (A 29).length = 60 := h1.2.2.2.2.2.2.2.2.2.2.2.1
  have s27 : (A 127).length = 60 := h2.2.2.2.2.2.2.2.2.2.2.2.1
  have d29 : (A 31).length = 60 := h1.2.2.2.2.2.2.2.2.2.2.2.2.1
  have s29 : (A 129).length = 60 := h2.2.2.2.2.2.2.2.2.2.2.2.2.1
  have d31 : (A 33).length = 4 := h1.2.2.2.2.2.2.2.2.2.2.2.2.2
  have s31 : (A 131).length = 4 := h2.2.2.2.2.2.2.2.2.2.2.2.2.2
  rw [e_State_copy 2 100 _ rfl]
  simp (maxSteps := 2000000) (disch := (first | omega | (simp (disch := omega) only [up_eq, up_ne, List.length_set] <;> omega) | fail)) only [ob_s, am_bi_s, am_bv_s, am_bl_s, ↓bif_d, lits, nI_addS, nI_mulS, nI_subS, nI_lt', nI_le', nI_eq', ↓rd_nI, ↓wrH, up_eq, up_ne, up_up, up_sw, List.set_set, g_seq, g_sne, Nat.reduceEqDiff, ↓reduceIte, List.length_set, Nat.add_sub_cancel_left, Nat.add_sub_cancel, ite_true, ite_false, if_true, if_false, not_true_eq_false, not_false_eq_true, Bool.and_true, Bool.true_and, true_or, or_true, false_or, or_false, and_true, true_and, and_false, false_and, Nat.not_lt_zero, hpRX, hpIX, hpFX, hpLX, hpSX, hpRY, hpIY, hpFY, rcY, a1, a2, a3]
  rfl
theorem c_132_2 (h1 : LenS A 132) (h2 : LenS A 2) : am_cl m_State_copy [.ref 132, .ref 2] (heap A F P) = some (none, heap (cpA A 2 132) (cpF F 2 132) P) := by
  have a1 := fun A F P => e_Steps_copy 133 3 (heap A F P) rfl
  have a2 := fun A F P => e_Lots_copy 138 8 (heap A F P) rfl
  have a3 := fun A F P => e_Bids_copy 149 19 (heap A F P) rfl
  have d3 : (A 135).length = 8 := h1.1
  have s3 : (A 5).length = 8 := h2.1
  have d5 : (A 137).length = 8 := h1.2.1
  have s5 : (A 7).length = 8 := h2.2.1
  have d8 : (A 140).length = 20 := h1.2.2.1
  have s8 : (A 10).length = 20 := h2.2.2.1
  have d10 : (A 142).length = 20 := h1.2.2.2.1
  have s10 : (A 12).length = 20 := h2.2.2.2.1
  have d12 : (A 144).length = 20 := h1.2.2.2.2.1
  have s12 : (A 14).length = 20 := h2.2.2.2.2.1
  have d14 : (A 146).length = 20 := h1.2.2.2.2.2.1
  have s14 : (A 16).length = 20 := h2.2.2.2.2.2.1
  have d16 : (A 148).length = 8 := h1.2.2.2.2.2.2.1
  have s16 : (A 18).length = 8 := h2.2.2.2.2.2.2.1
  have d19 : (A 151).length = 60 := h1.2.2.2.2.2.2.2.1
  have s19 : (A 21).length = 60 := h2.2.2.2.2.2.2.2.1
  have d21 : (A 153).length = 60 := h1.2.2.2.2.2.2.2.2.1
  have s21 : (A 23).length = 60 := h2.2.2.2.2.2.2.2.2.1
  have d23 : (A 155).length = 60 := h1.2.2.2.2.2.2.2.2.2.1
  have s23 : (A 25).length = 60 := h2.2.2.2.2.2.2.2.2.2.1
  have d25 : (A 157).length = 60 := h1.2.2.2.2.2.2.2.2.2.2.1
  have s25 : (A 27).length = 60 := h2.2.2.2.2.2.2.2.2.2.2.1
  have d27 : (A 159).length = 60 := h1.2.2.2.2.2.2.2.2.2.2.2.1
  have s27 : (A 29).length = 60 := h2.2.2.2.2.2.2.2.2.2.2.2.1
  have d29 : (A 161).length = 60 := h1.2.2.2.2.2.2.2.2.2.2.2.2.1
  have s29 : (A 31).length = 60 := h2.2.2.2.2.2.2.2.2.2.2.2.2.1
  have d31 : (A 163).length = 4 := h1.2.2.2.2.2.2.2.2.2.2.2.2.2
  have s31 : (A 33).length = 4 := h2.2.2.2.2.2.2.2.2.2.2.2.2.2
  rw [e_State_copy 132 2 _ rfl]
  simp (maxSteps := 2000000) (disch := (first | omega | (simp (disch := omega) only [up_eq, up_ne, List.length_set] <;> omega) | fail)) only [ob_s, am_bi_s, am_bv_s, am_bl_s, ↓bif_d, lits, nI_addS, nI_mulS, nI_subS, nI_lt', nI_le', nI_eq', ↓rd_nI, ↓wrH, up_eq, up_ne, up_up, up_sw, List.set_set, g_seq, g_sne, Nat.reduceEqDiff, ↓reduceIte, List.length_set, Nat.add_sub_cancel_left, Nat.add_sub_cancel, ite_true, ite_false, if_true, if_false, not_true_eq_false, not_false_eq_true, Bool.and_true, Bool.true_and, true_or, or_true, false_or, or_false, and_true, true_and, and_false, false_and, Nat.not_lt_zero, hpRX, hpIX, hpFX, hpLX, hpSX, hpRY, hpIY, hpFY, rcY, a1, a2, a3]
  rfl
theorem c_2_132 (h1 : LenS A 2) (h2 : LenS A 132) : am_cl m_State_copy [.ref 2, .ref 132] (heap A F P) = some (none, heap (cpA A 132 2) (cpF F 132 2) P) := by
  have a1 := fun A F P => e_Steps_copy 3 133 (heap A F P) rfl
  have a2 := fun A F P => e_Lots_copy 8 138 (heap A F P) rfl
  have a3 := fun A F P => e_Bids_copy 19 149 (heap A F P) rfl
  have d3 : (A 5).length = 8 := h1.1
  have s3 : (A 135).length = 8 := h2.1
  have d5 : (A 7).length = 8 := h1.2.1
  have s5 : (A 137).length = 8 := h2.2.1
  have d8 : (A 10).length = 20 := h1.2.2.1
  have s8 : (A 140).length = 20 := h2.2.2.1
  have d10 : (A 12).length = 20 := h1.2.2.2.1
  have s10 : (A 142).length = 20 := h2.2.2.2.1
  have d12 : (A 14).length = 20 := h1.2.2.2.2.1
  have s12 : (A 144).length = 20 := h2.2.2.2.2.1
  have d14 : (A 16).length = 20 := h1.2.2.2.2.2.1
  have s14 : (A 146).length = 20 := h2.2.2.2.2.2.1
  have d16 : (A 18).length = 8 := h1.2.2.2.2.2.2.1
  have s16 : (A 148).length = 8 := h2.2.2.2.2.2.2.1
  have d19 : (A 21).length = 60 := h1.2.2.2.2.2.2.2.1
  have s19 : (A 151).length = 60 := h2.2.2.2.2.2.2.2.1
  have d21 : (A 23).length = 60 := h1.2.2.2.2.2.2.2.2.1
  have s21 : (A 153).length = 60 := h2.2.2.2.2.2.2.2.2.1
  have d23 : (A 25).length = 60 := h1.2.2.2.2.2.2.2.2.2.1
  have s23 : (A 155).length = 60 := h2.2.2.2.2.2.2.2.2.2.1
  have d25 : (A 27).length = 60 := h1.2.2.2.2.2.2.2.2.2.2.1
  have s25 : (A 157).length = 60 := h2.2.2.2.2.2.2.2.2.2.2.1
  have d27 : (A 29).length = 60 := h1.2.2.2.2.2.2.2.2.2.2.2.1
  have s27 : (A 159).length = 60 := h2.2.2.2.2.2.2.2.2.2.2.2.1
  have d29 : (A 31).length = 60 := h1.2.2.2.2.2.2.2.2.2.2.2.2.1
  have s29 : (A 161).length = 60 := h2.2.2.2.2.2.2.2.2.2.2.2.2.1
  have d31 : (A 33).length = 4 := h1.2.2.2.2.2.2.2.2.2.2.2.2.2
  have s31 : (A 163).length = 4 := h2.2.2.2.2.2.2.2.2.2.2.2.2.2
  rw [e_State_copy 2 132 _ rfl]
  simp (maxSteps := 2000000) (disch := (first | omega | (simp (disch := omega) only [up_eq, up_ne, List.length_set] <;> omega) | fail)) only [ob_s, am_bi_s, am_bv_s, am_bl_s, ↓bif_d, lits, nI_addS, nI_mulS, nI_subS, nI_lt', nI_le', nI_eq', ↓rd_nI, ↓wrH, up_eq, up_ne, up_up, up_sw, List.set_set, g_seq, g_sne, Nat.reduceEqDiff, ↓reduceIte, List.length_set, Nat.add_sub_cancel_left, Nat.add_sub_cancel, ite_true, ite_false, if_true, if_false, not_true_eq_false, not_false_eq_true, Bool.and_true, Bool.true_and, true_or, or_true, false_or, or_false, and_true, true_and, and_false, false_and, Nat.not_lt_zero, hpRX, hpIX, hpFX, hpLX, hpSX, hpRY, hpIY, hpFY, rcY, a1, a2, a3]
  rfl
theorem s_copy_out {b : Nat} (hb : hsP b) (h1 : LenS A b) (h2 : LenS A 2) : am_cl m_State_copy [.ref b, .ref 2] (heap A F P) = some (none, heap (cpA A 2 b) (cpF F 2 b) P) := by
  rcases hb with rfl | rfl | rfl | rfl
  · exact c_36_2 h1 h2
  · exact c_68_2 h1 h2
  · exact c_100_2 h1 h2
  · exact c_132_2 h1 h2
theorem s_copy_in {b : Nat} (hb : hsP b) (h1 : LenS A b) (h2 : LenS A 2) : am_cl m_State_copy [.ref 2, .ref b] (heap A F P) = some (none, heap (cpA A b 2) (cpF F b 2) P) := by
  rcases hb with rfl | rfl | rfl | rfl
  · exact c_2_36 h2 h1
  · exact c_2_68 h2 h1
  · exact c_2_100 h2 h1
  · exact c_2_132 h2 h1
end X
