/-! THE REFERENCE'S SALE -/
def lotN (r : List Int32) (x : Nat) : Nat := (g r (108 + x)).toNatClampNeg
def byN (r : List Int32) (x : Nat) : Nat := (g r (168 + x)).toNatClampNeg
def Mwf (r : List Int32) (nB nl nb nx : Nat) : Prop := Mok r nB nl nb nx ∧ Mst r nB ∧ ∀ x, x < nx → (lotN r x < nl ∧ g r (108 + x) = nI (lotN r x)) ∧ byN r x < nb ∧ g r (168 + x) = nI (byN r x)
def mWo (r : List Int32) (nB : Nat) (L : List Int32) (x : Nat) : Int32 := mFl r nB (if g L (8 * lotN r x + byN r x) ≤ g r (228 + x) then g L (8 * lotN r x + byN r x) else g r (228 + x))
def mLa (r : List Int32) (x : Nat) : Prop := g r 468 < g r (288 + x)
def mSv1 (r Bu Fi : List Int32) (x l : Nat) : Bool := decide (g Bu l = g r (168 + x)) && decide (g r (348 + (g Fi l).toNatClampNeg) = g r (348 + x))
def mSv (r Bu Fi : List Int32) (x : Nat) : Prop := nI 0 < g r (348 + x) ∧ ∃ l, l < lotN r x ∧ mSv1 r Bu Fi x l = true
def mCo (r : List Int32) (nB : Nat) (L Bu Fi : List Int32) (x : Nat) : Prop := g r (408 + x) = nI 0 ∧ ¬ mLa r x ∧ ¬ mSv r Bu Fi x ∧ mCe r nB (g r (38 + lotN r x)) ≤ mWo r nB L x
def mAh (r : List Int32) (nB : Nat) (L : List Int32) (x y : Nat) : Prop := if mWo r nB L x = mWo r nB L y then (if g r (288 + x) = g r (288 + y) then x < y else g r (288 + x) < g r (288 + y)) else mWo r nB L y < mWo r nB L x
section M
variable {A : Nat → List Int32} {F : Nat → Int32} {P : Nat → Nat} {nB nl nb nx : Nat}
theorem s_Mod_worthOf (hM : Mwf (A 193) nB nl nb nx) (hL : (A 199).length = 168) {x : Nat} (hx : x < nx) : am_cl m_Mod_worthOf [.ref 192, .int (nI x)] (heap A F P) = some (some (.int (mWo (A 193) nB (A 199) x)), heap A F P) := by
  have hf := fun y => s_Mod_floorOf (F := F) (P := P) hM.1 hM.2.1 y
  obtain ⟨⟨h0, h1, h2, h3, h4, h5, h6, h7, h8, h9⟩, -, hb⟩ := hM
  obtain ⟨⟨q1, q2⟩, q3, q4⟩ := hb x hx
  rw [e_Mod_worthOf 192 (nI x) _ rfl]
  simp (maxSteps := 2000000) (disch := (first | omega | (simp (disch := omega) only [up_eq, up_ne, List.length_set] <;> omega))) only [ob_s, am_bi_s, am_bv_s, am_bl_s, ↓bif_d, lits, nI_addS, nI_mulS, nI_subS, nI_lt', nI_le', nI_eq', ↓rd_nI, ↓wrH, up_eq, up_ne, up_up, up_sw, List.set_set, g_seq, g_sne, Nat.reduceEqDiff, ↓reduceIte, List.length_set, Nat.add_sub_cancel_left, Nat.add_sub_cancel, ite_true, ite_false, if_true, if_false, not_true_eq_false, not_false_eq_true, Bool.and_true, Bool.true_and, true_or, or_true, false_or, or_false, and_true, true_and, and_false, false_and, Nat.not_lt_zero, hpRM, hpIM, hpFM, hpLM, hpSM, q2, q4, s_Mod_lesser, hf]
  rfl
theorem s_Mod_isLate (hM : Mwf (A 193) nB nl nb nx) {x : Nat} (hx : x < nx) : am_cl m_Mod_isLate [.ref 192, .int (nI x)] (heap A F P) = some (some (.int (b01 (mLa (A 193) x))), heap A F P) := by
  obtain ⟨⟨h0, h1, h2, h3, h4, h5, h6, h7, h8, h9⟩, -, hb⟩ := hM
  rw [e_Mod_isLate 192 (nI x) _ rfl]
  simp (maxSteps := 2000000) (disch := (first | omega | (simp (disch := omega) only [up_eq, up_ne, List.length_set] <;> omega))) only [ob_s, am_bi_s, am_bv_s, am_bl_s, ↓bif_d, lits, nI_addS, nI_mulS, nI_subS, nI_lt', nI_le', nI_eq', ↓rd_nI, ↓wrH, up_eq, up_ne, up_up, up_sw, List.set_set, g_seq, g_sne, Nat.reduceEqDiff, ↓reduceIte, List.length_set, Nat.add_sub_cancel_left, Nat.add_sub_cancel, ite_true, ite_false, if_true, if_false, not_true_eq_false, not_false_eq_true, Bool.and_true, Bool.true_and, true_or, or_true, false_or, or_false, and_true, true_and, and_false, false_and, Nat.not_lt_zero, hpRM, hpIM, hpFM, hpLM, hpSM]
  by_cases q : g (A 193) (288 + x) ≤ g (A 193) 468
  · rw [if_pos q, b01_f (p := mLa (A 193) x) (Int32.not_lt.mpr q)]
  · rw [if_neg q, b01_t (p := mLa (A 193) x) (Int32.not_le.mp q)]
theorem l_Mod_isServed (hM : Mwf (A 193) nB nl nb nx) (hBu : (A 204).length = 20) (hFi : (A 201).length = 20) {x : Nat} (hx : x < nx) (hr : ∀ l, l < lotN (A 193) x → g (A 204) l = g (A 193) (168 + x) → ∃ f, f < nx ∧ g (A 201) l = nI f) (hg : nI 0 < g (A 193) (348 + x)) :
    ∀ n l (is : Bool) (u : Value), l + n = lotN (A 193) x → am_ev m_Mod_isServed (4, [.ref 192, .int (nI x), .int (if is then nI 1 else nI 0), .int (nI l), u], [], heap A F P) = some (some (.int (b01 (is = true ∨ ∃ j, l ≤ j ∧ j < lotN (A 193) x ∧ mSv1 (A 193) (A 204) (A 201) x j = true))), heap A F P) := by
  obtain ⟨⟨h0, h1, h2, h3, h4, h5, h6, h7, h8, h9⟩, -, hb⟩ := hM
  obtain ⟨⟨q1, q2⟩, q3, q4⟩ := hb x hx
  intro n
  induction n with
  | zero =>
    intro l is u hl
    have hno : ¬ ∃ j, l ≤ j ∧ j < lotN (A 193) x ∧ mSv1 (A 193) (A 204) (A 201) x j = true := by
      rintro ⟨j, z1, z2, -⟩; omega
    rw [b_Mod_isServed_4]
    cases is
    · rw [b01_f (by rintro (z | z); cases z; exact hno z)]
      simp (maxSteps := 2000000) (disch := (first | omega | (simp (disch := omega) only [up_eq, up_ne, List.length_set] <;> omega))) only [ob_s, am_bi_s, am_bv_s, am_bl_s, ↓bif_d, lits, nI_addS, nI_mulS, nI_subS, nI_lt', nI_le', nI_eq', ↓rd_nI, ↓wrH, up_eq, up_ne, up_up, up_sw, List.set_set, g_seq, g_sne, Nat.reduceEqDiff, ↓reduceIte, List.length_set, Nat.add_sub_cancel_left, Nat.add_sub_cancel, ite_true, ite_false, if_true, if_false, not_true_eq_false, not_false_eq_true, Bool.and_true, Bool.true_and, true_or, or_true, false_or, or_false, and_true, true_and, and_false, false_and, Nat.not_lt_zero, hpRM, hpIM, hpFM, hpLM, hpSM, q2, am_bz_0, Bool.false_eq_true, reduceCtorEq]
      rw [if_pos (by omega)]
    · rw [b01_t (Or.inl rfl)]
      simp (maxSteps := 2000000) (disch := (first | omega | (simp (disch := omega) only [up_eq, up_ne, List.length_set] <;> omega))) only [ob_s, am_bi_s, am_bv_s, am_bl_s, ↓bif_d, lits, nI_addS, nI_mulS, nI_subS, nI_lt', nI_le', nI_eq', ↓rd_nI, ↓wrH, up_eq, up_ne, up_up, up_sw, List.set_set, g_seq, g_sne, Nat.reduceEqDiff, ↓reduceIte, List.length_set, Nat.add_sub_cancel_left, Nat.add_sub_cancel, ite_true, ite_false, if_true, if_false, not_true_eq_false, not_false_eq_true, Bool.and_true, Bool.true_and, true_or, or_true, false_or, or_false, and_true, true_and, and_false, false_and, Nat.not_lt_zero, hpRM, hpIM, hpFM, hpLM, hpSM, q2, am_bz_1]
      rw [if_pos (by omega)]
  | succ n ih =>
    intro l is u hl
    have hll : l < lotN (A 193) x := by omega
    have hsplit : (∃ j, l ≤ j ∧ j < lotN (A 193) x ∧ mSv1 (A 193) (A 204) (A 201) x j = true) ↔ (mSv1 (A 193) (A 204) (A 201) x l = true ∨ ∃ j, l + 1 ≤ j ∧ j < lotN (A 193) x ∧ mSv1 (A 193) (A 204) (A 201) x j = true) := by
      constructor
      · rintro ⟨j, z1, z2, z3⟩
        rcases Nat.eq_or_lt_of_le z1 with z | z
        · subst z; exact Or.inl z3
        · exact Or.inr ⟨j, z, z2, z3⟩
      · rintro (z | ⟨j, z1, z2, z3⟩)
        · exact ⟨l, Nat.le_refl _, hll, z⟩
        · exact ⟨j, by omega, z2, z3⟩
    have hgn : ¬ g (A 193) (348 + x) ≤ nI 0 := Int32.not_le.mpr hg
    have e1 := fun u => ih (l + 1) true u (by omega)
    have e0 := fun u => ih (l + 1) false u (by omega)
    simp only [if_true, Bool.false_eq_true, if_false, true_or, false_or] at e1 e0
    rw [b_Mod_isServed_4]
    by_cases hown : g (A 204) l = g (A 193) (168 + x)
    · obtain ⟨f, hf1, hf2⟩ := hr l hll hown
      cases is
      · by_cases hs : g (A 193) (348 + f) = g (A 193) (348 + x)
        · have hs1 : mSv1 (A 193) (A 204) (A 201) x l = true := by
            unfold mSv1
            rw [hf2, nI_clamp (by omega), decide_eq_true hown, decide_eq_true hs]; rfl
          rw [b01_t (Or.inr (hsplit.mpr (Or.inl hs1)))]
          simp (maxSteps := 2000000) (disch := (first | omega | (simp (disch := omega) only [up_eq, up_ne, List.length_set] <;> omega))) only [ob_s, am_bi_s, am_bv_s, am_bl_s, ↓bif_d, lits, nI_addS, nI_mulS, nI_subS, nI_lt', nI_le', nI_eq', ↓rd_nI, ↓wrH, up_eq, up_ne, up_up, up_sw, List.set_set, g_seq, g_sne, Nat.reduceEqDiff, ↓reduceIte, List.length_set, Nat.add_sub_cancel_left, Nat.add_sub_cancel, ite_true, ite_false, if_true, if_false, not_true_eq_false, not_false_eq_true, Bool.and_true, Bool.true_and, true_or, or_true, false_or, or_false, and_true, true_and, and_false, false_and, Nat.not_lt_zero, hpRM, hpIM, hpFM, hpLM, hpSM, q2, hgn, hown, hf2, hs, e1, e0, Bool.false_eq_true, reduceCtorEq]
          rw [if_neg (by omega), b01_t trivial]
        · have hs1 : ¬ mSv1 (A 193) (A 204) (A 201) x l = true := by
            unfold mSv1
            rw [hf2, nI_clamp (by omega), decide_eq_false hs, Bool.and_false]; decide
          simp (maxSteps := 2000000) (disch := (first | omega | (simp (disch := omega) only [up_eq, up_ne, List.length_set] <;> omega))) only [ob_s, am_bi_s, am_bv_s, am_bl_s, ↓bif_d, lits, nI_addS, nI_mulS, nI_subS, nI_lt', nI_le', nI_eq', ↓rd_nI, ↓wrH, up_eq, up_ne, up_up, up_sw, List.set_set, g_seq, g_sne, Nat.reduceEqDiff, ↓reduceIte, List.length_set, Nat.add_sub_cancel_left, Nat.add_sub_cancel, ite_true, ite_false, if_true, if_false, not_true_eq_false, not_false_eq_true, Bool.and_true, Bool.true_and, true_or, or_true, false_or, or_false, and_true, true_and, and_false, false_and, Nat.not_lt_zero, hpRM, hpIM, hpFM, hpLM, hpSM, q2, hgn, hown, hf2, hs, e1, e0, Bool.false_eq_true, reduceCtorEq]
          rw [if_neg (by omega)]
          simp only [hsplit, hs1, Bool.false_eq_true, false_or]
      · simp (maxSteps := 2000000) (disch := (first | omega | (simp (disch := omega) only [up_eq, up_ne, List.length_set] <;> omega))) only [ob_s, am_bi_s, am_bv_s, am_bl_s, ↓bif_d, lits, nI_addS, nI_mulS, nI_subS, nI_lt', nI_le', nI_eq', ↓rd_nI, ↓wrH, up_eq, up_ne, up_up, up_sw, List.set_set, g_seq, g_sne, Nat.reduceEqDiff, ↓reduceIte, List.length_set, Nat.add_sub_cancel_left, Nat.add_sub_cancel, ite_true, ite_false, if_true, if_false, not_true_eq_false, not_false_eq_true, Bool.and_true, Bool.true_and, true_or, or_true, false_or, or_false, and_true, true_and, and_false, false_and, Nat.not_lt_zero, hpRM, hpIM, hpFM, hpLM, hpSM, q2, hgn, hown, hf2, e1, e0, Bool.false_eq_true, reduceCtorEq]
        rw [if_neg (by omega)]
    · have hs1 : ¬ mSv1 (A 193) (A 204) (A 201) x l = true := by
        unfold mSv1
        rw [decide_eq_false hown, Bool.false_and]; decide
      cases is
      · simp (maxSteps := 2000000) (disch := (first | omega | (simp (disch := omega) only [up_eq, up_ne, List.length_set] <;> omega))) only [ob_s, am_bi_s, am_bv_s, am_bl_s, ↓bif_d, lits, nI_addS, nI_mulS, nI_subS, nI_lt', nI_le', nI_eq', ↓rd_nI, ↓wrH, up_eq, up_ne, up_up, up_sw, List.set_set, g_seq, g_sne, Nat.reduceEqDiff, ↓reduceIte, List.length_set, Nat.add_sub_cancel_left, Nat.add_sub_cancel, ite_true, ite_false, if_true, if_false, not_true_eq_false, not_false_eq_true, Bool.and_true, Bool.true_and, true_or, or_true, false_or, or_false, and_true, true_and, and_false, false_and, Nat.not_lt_zero, hpRM, hpIM, hpFM, hpLM, hpSM, q2, hgn, hown, e1, e0, Bool.false_eq_true, reduceCtorEq]
        rw [if_neg (by omega)]
        simp only [hsplit, hs1, Bool.false_eq_true, false_or]
      · simp (maxSteps := 2000000) (disch := (first | omega | (simp (disch := omega) only [up_eq, up_ne, List.length_set] <;> omega))) only [ob_s, am_bi_s, am_bv_s, am_bl_s, ↓bif_d, lits, nI_addS, nI_mulS, nI_subS, nI_lt', nI_le', nI_eq', ↓rd_nI, ↓wrH, up_eq, up_ne, up_up, up_sw, List.set_set, g_seq, g_sne, Nat.reduceEqDiff, ↓reduceIte, List.length_set, Nat.add_sub_cancel_left, Nat.add_sub_cancel, ite_true, ite_false, if_true, if_false, not_true_eq_false, not_false_eq_true, Bool.and_true, Bool.true_and, true_or, or_true, false_or, or_false, and_true, true_and, and_false, false_and, Nat.not_lt_zero, hpRM, hpIM, hpFM, hpLM, hpSM, q2, hgn, hown, e1, e0, Bool.false_eq_true, reduceCtorEq]
        rw [if_neg (by omega)]
theorem s_Mod_isServed (hM : Mwf (A 193) nB nl nb nx) (hBu : (A 204).length = 20) (hFi : (A 201).length = 20) {x : Nat} (hx : x < nx) (hr : ∀ l, l < lotN (A 193) x → g (A 204) l = g (A 193) (168 + x) → ∃ f, f < nx ∧ g (A 201) l = nI f) : am_cl m_Mod_isServed [.ref 192, .int (nI x)] (heap A F P) = some (some (.int (b01 (mSv (A 193) (A 204) (A 201) x))), heap A F P) := by
  rw [e_Mod_isServed 192 (nI x) _ rfl]
  by_cases hg : nI 0 < g (A 193) (348 + x)
  · have h1 := l_Mod_isServed (F := F) (P := P) hM hBu hFi hx hr hg (lotN (A 193) x) 0 false (.float 0) (by omega)
    simp only [Bool.false_eq_true, if_false, false_or, Nat.zero_le, true_and] at h1
    simp only [lits]
    rw [h1]
    unfold mSv
    simp only [hg, true_and]
  · have hn : ¬ mSv (A 193) (A 204) (A 201) x := fun z => hg z.1
    obtain ⟨⟨h0, h1, h2, h3, h4, h5, h6, h7, h8, h9⟩, -, hb⟩ := hM
    obtain ⟨⟨q1, q2⟩, q3, q4⟩ := hb x hx
    have hg := Int32.not_lt.mp hg
    rw [b_Mod_isServed_4, b01_f hn]
    simp (maxSteps := 2000000) (disch := (first | omega | (simp (disch := omega) only [up_eq, up_ne, List.length_set] <;> omega))) only [ob_s, am_bi_s, am_bv_s, am_bl_s, ↓bif_d, lits, nI_addS, nI_mulS, nI_subS, nI_lt', nI_le', nI_eq', ↓rd_nI, ↓wrH, up_eq, up_ne, up_up, up_sw, List.set_set, g_seq, g_sne, Nat.reduceEqDiff, ↓reduceIte, List.length_set, Nat.add_sub_cancel_left, Nat.add_sub_cancel, ite_true, ite_false, if_true, if_false, not_true_eq_false, not_false_eq_true, Bool.and_true, Bool.true_and, true_or, or_true, false_or, or_false, and_true, true_and, and_false, false_and, Nat.not_lt_zero, hpRM, hpIM, hpFM, hpLM, hpSM, q2, am_bz_0, hg]
    split <;> rfl
end M
