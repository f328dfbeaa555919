def mAs (r : List Int32) (nB l : Nat) : Int32 := mCe r nB (if g r (38 + l) ≤ g r (58 + l) then g r (58 + l) else g r (38 + l))
/-- the bids that lie in a row of bests: none, or one of them -/
def isB (v : Int32) (nx : Nat) : Prop := v = -nI 5 ∨ ∃ y, y < nx ∧ v = nI y
def mAb (r : List Int32) (nB : Nat) (L B : List Int32) (l x b : Nat) : Prop := ¬ g B (8 * l + b) < nI 0 ∧ ¬ g B (8 * l + b) = nI x ∧ mAh r nB L (g B (8 * l + b)).toNatClampNeg x
/-- how many of the bests from b on come ahead of x -/
noncomputable def mPl (r : List Int32) (nB : Nat) (L B : List Int32) (l x : Nat) : Nat → Nat → Nat
  | 0, _ => 0
  | n + 1, b => cif (mAb r nB L B l x b) 1 0 + mPl r nB L B l x n (b + 1)
/-- the best at a place, from b on -/
noncomputable def mRk (r : List Int32) (nB : Nat) (L B : List Int32) (l : Nat) (p : Int32) : Nat → Nat → Int32
  | 0, _ => -nI 5
  | n + 1, b => cif (¬ g B (8 * l + b) < nI 0 ∧ nI (mPl r nB L B l (g B (8 * l + b)).toNatClampNeg 8 0) = p) (g B (8 * l + b)) (mRk r nB L B l p n (b + 1))
theorem mPl_s (r : List Int32) (nB : Nat) (L B : List Int32) (l x n b : Nat) : mPl r nB L B l x (n + 1) b = cif (mAb r nB L B l x b) 1 0 + mPl r nB L B l x n (b + 1) := rfl
theorem mRk_s (r : List Int32) (nB : Nat) (L B : List Int32) (l : Nat) (p : Int32) (n b : Nat) : mRk r nB L B l p (n + 1) b = cif (¬ g B (8 * l + b) < nI 0 ∧ nI (mPl r nB L B l (g B (8 * l + b)).toNatClampNeg 8 0) = p) (g B (8 * l + b)) (mRk r nB L B l p n (b + 1)) := rfl
theorem mPl_le (r : List Int32) (nB : Nat) (L B : List Int32) (l x : Nat) : ∀ n b, mPl r nB L B l x n b ≤ n := by
  intro n
  induction n with
  | zero => intro b; exact Nat.le_refl _
  | succ n ih =>
    intro b
    rw [mPl_s]
    have := ih (b + 1)
    by_cases q : mAb r nB L B l x b
    · rw [cif_t q]; omega
    · rw [cif_f q]; omega
section M
variable {A : Nat → List Int32} {F : Nat → Int32} {P : Nat → Nat} {nB nl nb nx : Nat}
theorem s_Mod_counts (hM : Mwf (A 193) nB nl nb nx) (hL : (A 199).length = 168) (hBu : (A 204).length = 20) (hFi : (A 201).length = 20) {x : Nat} (hx : x < nx) (hr : ∀ l, l < lotN (A 193) x → g (A 204) l = g (A 193) (168 + x) → ∃ f, f < nx ∧ g (A 201) l = nI f) : am_cl m_Mod_counts [.ref 192, .int (nI x)] (heap A F P) = some (some (.int (b01 (mCo (A 193) nB (A 199) (A 204) (A 201) x))), heap A F P) := by
  classical
  have e1 := s_Mod_isLate (F := F) (P := P) hM hx
  have e2 := s_Mod_isServed (F := F) (P := P) hM hBu hFi hx hr
  have e3 := s_Mod_worthOf (F := F) (P := P) hM hL hx
  have e4 := fun y => s_Mod_ceilingOf (F := F) (P := P) hM.1 hM.2.1 y
  obtain ⟨⟨h0, h1, h2, h3, h4, h5, h6, h7, h8, h9⟩, -, hb⟩ := hM
  obtain ⟨⟨q1, q2⟩, q3, q4⟩ := hb x hx
  rw [e_Mod_counts 192 (nI x) _ rfl]
  simp (maxSteps := 2000000) (disch := (first | omega | (simp (disch := omega) only [up_eq, up_ne, List.length_set] <;> omega))) only [ob_s, am_bi_s, am_bv_s, am_bl_s, ↓bif_d, lits, nI_addS, nI_mulS, nI_subS, nI_lt', nI_le', nI_eq', ↓rd_nI, ↓wrH, up_eq, up_ne, up_up, up_sw, List.set_set, g_seq, g_sne, Nat.reduceEqDiff, ↓reduceIte, List.length_set, Nat.add_sub_cancel_left, Nat.add_sub_cancel, ite_true, ite_false, if_true, if_false, not_true_eq_false, not_false_eq_true, Bool.and_true, Bool.true_and, true_or, or_true, false_or, or_false, and_true, true_and, and_false, false_and, Nat.not_lt_zero, hpRM, hpIM, hpFM, hpLM, hpSM, e1, e2, e3, e4, q2, b01_0]
  by_cases c1 : g (A 193) (408 + x) = nI 0
  · by_cases c2 : mLa (A 193) x
    · rw [b01_f (p := mCo (A 193) nB (A 199) (A 204) (A 201) x) (fun z => z.2.1 c2)]
      simp only [c1, c2, not_true_eq_false, not_false_eq_true, if_true, if_false]
    · by_cases c3 : mSv (A 193) (A 204) (A 201) x
      · rw [b01_f (p := mCo (A 193) nB (A 199) (A 204) (A 201) x) (fun z => z.2.2.1 c3)]
        simp only [c1, c2, c3, not_true_eq_false, not_false_eq_true, if_true, if_false]
      · simp only [c1, c2, c3, not_true_eq_false, not_false_eq_true, if_true, if_false]
        by_cases c4 : mWo (A 193) nB (A 199) x < mCe (A 193) nB (g (A 193) (38 + lotN (A 193) x))
        · rw [if_pos c4, b01_f (p := mCo (A 193) nB (A 199) (A 204) (A 201) x) (fun z => Int32.not_lt.mpr z.2.2.2 c4)]
        · rw [if_neg c4, b01_t (p := mCo (A 193) nB (A 199) (A 204) (A 201) x) ⟨c1, c2, c3, Int32.not_lt.mp c4⟩]
  · rw [b01_f (p := mCo (A 193) nB (A 199) (A 204) (A 201) x) (fun z => c1 z.1)]
    simp only [c1, not_false_eq_true, if_true]
theorem s_Mod_isAhead (hM : Mwf (A 193) nB nl nb nx) (hL : (A 199).length = 168) {x y : Nat} (hx : x < nx) (hy : y < nx) : am_cl m_Mod_isAhead [.ref 192, .int (nI x), .int (nI y)] (heap A F P) = some (some (.int (b01 (mAh (A 193) nB (A 199) x y))), heap A F P) := by
  classical
  have e3 := s_Mod_worthOf (F := F) (P := P) hM hL hx
  have e4 := s_Mod_worthOf (F := F) (P := P) hM hL hy
  obtain ⟨⟨h0, h1, h2, h3, h4, h5, h6, h7, h8, h9⟩, -, hb⟩ := hM
  rw [e_Mod_isAhead 192 (nI x) (nI y) _ rfl]
  simp (maxSteps := 2000000) (disch := (first | omega | (simp (disch := omega) only [up_eq, up_ne, List.length_set] <;> omega))) only [ob_s, am_bi_s, am_bv_s, am_bl_s, ↓bif_d, lits, nI_addS, nI_mulS, nI_subS, nI_lt', nI_le', nI_eq', ↓rd_nI, ↓wrH, up_eq, up_ne, up_up, up_sw, List.set_set, g_seq, g_sne, Nat.reduceEqDiff, ↓reduceIte, List.length_set, Nat.add_sub_cancel_left, Nat.add_sub_cancel, ite_true, ite_false, if_true, if_false, not_true_eq_false, not_false_eq_true, Bool.and_true, Bool.true_and, true_or, or_true, false_or, or_false, and_true, true_and, and_false, false_and, Nat.not_lt_zero, hpRM, hpIM, hpFM, hpLM, hpSM, e3, e4]
  by_cases c1 : mWo (A 193) nB (A 199) x = mWo (A 193) nB (A 199) y
  · by_cases c2 : g (A 193) (288 + x) = g (A 193) (288 + y)
    · by_cases c3 : x < y
      · rw [b01_t (p := mAh (A 193) nB (A 199) x y) (by unfold mAh; rw [if_pos c1, if_pos c2]; exact c3), if_pos c1, if_pos c2, if_neg (by omega)]
      · rw [b01_f (p := mAh (A 193) nB (A 199) x y) (by unfold mAh; rw [if_pos c1, if_pos c2]; exact c3), if_pos c1, if_pos c2, if_pos (by omega)]
    · by_cases c3 : g (A 193) (288 + x) < g (A 193) (288 + y)
      · rw [b01_t (p := mAh (A 193) nB (A 199) x y) (by unfold mAh; rw [if_pos c1, if_neg c2]; exact c3), if_pos c1, if_neg c2, if_neg (Int32.not_le.mpr c3)]
      · rw [b01_f (p := mAh (A 193) nB (A 199) x y) (by unfold mAh; rw [if_pos c1, if_neg c2]; exact c3), if_pos c1, if_neg c2, if_pos (Int32.not_lt.mp c3)]
  · by_cases c3 : mWo (A 193) nB (A 199) y < mWo (A 193) nB (A 199) x
    · rw [b01_t (p := mAh (A 193) nB (A 199) x y) (by unfold mAh; rw [if_neg c1]; exact c3), if_neg c1, if_neg (Int32.not_le.mpr c3)]
    · rw [b01_f (p := mAh (A 193) nB (A 199) x y) (by unfold mAh; rw [if_neg c1]; exact c3), if_neg c1, if_pos (Int32.not_lt.mp c3)]
theorem s_Mod_asking (hM : Mwf (A 193) nB nl nb nx) {l : Nat} (hl : l < nl) : am_cl m_Mod_asking [.ref 192, .int (nI l)] (heap A F P) = some (some (.int (mAs (A 193) nB l)), heap A F P) := by
  classical
  have e4 := fun y => s_Mod_ceilingOf (F := F) (P := P) hM.1 hM.2.1 y
  obtain ⟨⟨h0, h1, h2, h3, h4, h5, h6, h7, h8, h9⟩, -, hb⟩ := hM
  rw [e_Mod_asking 192 (nI l) _ rfl]
  simp (maxSteps := 2000000) (disch := (first | omega | (simp (disch := omega) only [up_eq, up_ne, List.length_set] <;> omega))) only [ob_s, am_bi_s, am_bv_s, am_bl_s, ↓bif_d, lits, nI_addS, nI_mulS, nI_subS, nI_lt', nI_le', nI_eq', ↓rd_nI, ↓wrH, up_eq, up_ne, up_up, up_sw, List.set_set, g_seq, g_sne, Nat.reduceEqDiff, ↓reduceIte, List.length_set, Nat.add_sub_cancel_left, Nat.add_sub_cancel, ite_true, ite_false, if_true, if_false, not_true_eq_false, not_false_eq_true, Bool.and_true, Bool.true_and, true_or, or_true, false_or, or_false, and_true, true_and, and_false, false_and, Nat.not_lt_zero, hpRM, hpIM, hpFM, hpLM, hpSM, s_Mod_greater, e4]
  rfl
theorem l_Mod_placeOf (hM : Mwf (A 193) nB nl nb nx) (hL : (A 199).length = 168) (hB : (A 200).length = 160) {l x : Nat} (hl : l < nl) (hx : x < nx) (hB2 : ∀ b, b < 8 → isB (g (A 200) (8 * l + b)) nx) :
    ∀ n b k (u : Value), b + n = 8 → k + n ≤ 8 → am_ev m_Mod_placeOf (5, [.ref 192, .int (nI l), .int (nI x), .int (nI k), .int (nI b), u], [], heap A F P) = some (some (.int (nI (k + mPl (A 193) nB (A 199) (A 200) l x n b))), heap A F P) := by
  classical
  have hM' := hM
  obtain ⟨⟨h0, h1, h2, h3, h4, h5, h6, h7, h8, h9⟩, -, hb⟩ := hM
  intro n
  induction n with
  | zero =>
    intro b k u hbn hk
    rw [b_Mod_placeOf_5]
    simp (maxSteps := 2000000) (disch := (first | omega | (simp (disch := omega) only [up_eq, up_ne, List.length_set] <;> omega))) only [ob_s, am_bi_s, am_bv_s, am_bl_s, ↓bif_d, lits, nI_addS, nI_mulS, nI_subS, nI_lt', nI_le', nI_eq', ↓rd_nI, ↓wrH, up_eq, up_ne, up_up, up_sw, List.set_set, g_seq, g_sne, Nat.reduceEqDiff, ↓reduceIte, List.length_set, Nat.add_sub_cancel_left, Nat.add_sub_cancel, ite_true, ite_false, if_true, if_false, not_true_eq_false, not_false_eq_true, Bool.and_true, Bool.true_and, true_or, or_true, false_or, or_false, and_true, true_and, and_false, false_and, Nat.not_lt_zero, hpRM, hpIM, hpFM, hpLM, hpSM]
    rw [if_pos (by omega)]
    rfl
  | succ n ih =>
    intro b k u hbn hk
    have e1 := fun u => ih (b + 1) (k + 1) u (by omega) (by omega)
    have e0 := fun u => ih (b + 1) k u (by omega) (by omega)
    rw [b_Mod_placeOf_5, mPl_s]
    rcases hB2 b (by omega) with hv | ⟨y, hy, hv⟩
    · have hn : ¬ mAb (A 193) nB (A 199) (A 200) l x b := fun z => z.1 (by rw [hv]; decide)
      rw [cif_f hn]
      simp (maxSteps := 2000000) (disch := (first | omega | (simp (disch := omega) only [up_eq, up_ne, List.length_set] <;> omega))) only [ob_s, am_bi_s, am_bv_s, am_bl_s, ↓bif_d, lits, nI_addS, nI_mulS, nI_subS, nI_lt', nI_le', nI_eq', ↓rd_nI, ↓wrH, up_eq, up_ne, up_up, up_sw, List.set_set, g_seq, g_sne, Nat.reduceEqDiff, ↓reduceIte, List.length_set, Nat.add_sub_cancel_left, Nat.add_sub_cancel, ite_true, ite_false, if_true, if_false, not_true_eq_false, not_false_eq_true, Bool.and_true, Bool.true_and, true_or, or_true, false_or, or_false, and_true, true_and, and_false, false_and, Nat.not_lt_zero, hpRM, hpIM, hpFM, hpLM, hpSM, hv, m5_lt, Nat.add_zero, e0]
      rw [if_neg (by omega), Nat.zero_add]
    · by_cases hxy : y = x
      · subst hxy
        have hn : ¬ mAb (A 193) nB (A 199) (A 200) l y b := fun z => z.2.1 hv
        rw [cif_f hn]
        simp (maxSteps := 2000000) (disch := (first | omega | (simp (disch := omega) only [up_eq, up_ne, List.length_set] <;> omega))) only [ob_s, am_bi_s, am_bv_s, am_bl_s, ↓bif_d, lits, nI_addS, nI_mulS, nI_subS, nI_lt', nI_le', nI_eq', ↓rd_nI, ↓wrH, up_eq, up_ne, up_up, up_sw, List.set_set, g_seq, g_sne, Nat.reduceEqDiff, ↓reduceIte, List.length_set, Nat.add_sub_cancel_left, Nat.add_sub_cancel, ite_true, ite_false, if_true, if_false, not_true_eq_false, not_false_eq_true, Bool.and_true, Bool.true_and, true_or, or_true, false_or, or_false, and_true, true_and, and_false, false_and, Nat.not_lt_zero, hpRM, hpIM, hpFM, hpLM, hpSM, hv, nI_nlt0, Nat.add_zero, e0]
        rw [if_neg (by omega), Nat.zero_add]
      · have hne : ¬ nI y = nI x := fun z => hxy ((nI_eq (by omega) (by omega)).mp z)
        have e5 := s_Mod_isAhead (F := F) (P := P) hM' hL hy hx
        by_cases ha : mAh (A 193) nB (A 199) y x
        · have hn : mAb (A 193) nB (A 199) (A 200) l x b := ⟨by rw [hv, nI_nlt0 (by omega)]; exact fun z => z, by rw [hv]; exact hne, by rw [hv, nI_clamp (by omega)]; exact ha⟩
          rw [cif_t hn]
          simp (maxSteps := 2000000) (disch := (first | omega | (simp (disch := omega) only [up_eq, up_ne, List.length_set] <;> omega))) only [ob_s, am_bi_s, am_bv_s, am_bl_s, ↓bif_d, lits, nI_addS, nI_mulS, nI_subS, nI_lt', nI_le', nI_eq', ↓rd_nI, ↓wrH, up_eq, up_ne, up_up, up_sw, List.set_set, g_seq, g_sne, Nat.reduceEqDiff, ↓reduceIte, List.length_set, Nat.add_sub_cancel_left, Nat.add_sub_cancel, ite_true, ite_false, if_true, if_false, not_true_eq_false, not_false_eq_true, Bool.and_true, Bool.true_and, true_or, or_true, false_or, or_false, and_true, true_and, and_false, false_and, Nat.not_lt_zero, hpRM, hpIM, hpFM, hpLM, hpSM, hv, nI_nlt0, hxy, e5, b01_0, ha, e1]
          rw [if_neg (by omega), Nat.add_assoc]
        · have hn : ¬ mAb (A 193) nB (A 199) (A 200) l x b := fun z => ha (by have := z.2.2; rw [hv, nI_clamp (by omega)] at this; exact this)
          rw [cif_f hn]
          simp (maxSteps := 2000000) (disch := (first | omega | (simp (disch := omega) only [up_eq, up_ne, List.length_set] <;> omega))) only [ob_s, am_bi_s, am_bv_s, am_bl_s, ↓bif_d, lits, nI_addS, nI_mulS, nI_subS, nI_lt', nI_le', nI_eq', ↓rd_nI, ↓wrH, up_eq, up_ne, up_up, up_sw, List.set_set, g_seq, g_sne, Nat.reduceEqDiff, ↓reduceIte, List.length_set, Nat.add_sub_cancel_left, Nat.add_sub_cancel, ite_true, ite_false, if_true, if_false, not_true_eq_false, not_false_eq_true, Bool.and_true, Bool.true_and, true_or, or_true, false_or, or_false, and_true, true_and, and_false, false_and, Nat.not_lt_zero, hpRM, hpIM, hpFM, hpLM, hpSM, hv, nI_nlt0, hxy, e5, b01_0, ha, Nat.add_zero, e0]
          rw [if_neg (by omega), Nat.zero_add]
theorem s_Mod_placeOf (hM : Mwf (A 193) nB nl nb nx) (hL : (A 199).length = 168) (hB : (A 200).length = 160) {l x : Nat} (hl : l < nl) (hx : x < nx) (hB2 : ∀ b, b < 8 → isB (g (A 200) (8 * l + b)) nx) : am_cl m_Mod_placeOf [.ref 192, .int (nI l), .int (nI x)] (heap A F P) = some (some (.int (nI (mPl (A 193) nB (A 199) (A 200) l x 8 0))), heap A F P) := by
  classical
  rw [e_Mod_placeOf 192 _ _ _ rfl]
  have := l_Mod_placeOf (F := F) (P := P) hM hL hB hl hx hB2 8 0 0 (.float 0) (by omega) (by omega)
  rw [Nat.zero_add] at this
  simp only [lits]
  exact this
theorem l_Mod_rankedAt (hM : Mwf (A 193) nB nl nb nx) (hL : (A 199).length = 168) (hB : (A 200).length = 160) {l : Nat} (hl : l < nl) (hB2 : ∀ b, b < 8 → isB (g (A 200) (8 * l + b)) nx) (p : Int32) :
    ∀ n b (u : Value), b + n = 8 → am_ev m_Mod_rankedAt (2, [.ref 192, .int (nI l), .int p, .int (nI b), u], [], heap A F P) = some (some (.int (mRk (A 193) nB (A 199) (A 200) l p n b)), heap A F P) := by
  classical
  have hM' := hM
  obtain ⟨⟨h0, h1, h2, h3, h4, h5, h6, h7, h8, h9⟩, -, hb⟩ := hM
  intro n
  induction n with
  | zero =>
    intro b u hbn
    rw [b_Mod_rankedAt_2]
    simp (maxSteps := 2000000) (disch := (first | omega | (simp (disch := omega) only [up_eq, up_ne, List.length_set] <;> omega))) only [ob_s, am_bi_s, am_bv_s, am_bl_s, ↓bif_d, lits, nI_addS, nI_mulS, nI_subS, nI_lt', nI_le', nI_eq', ↓rd_nI, ↓wrH, up_eq, up_ne, up_up, up_sw, List.set_set, g_seq, g_sne, Nat.reduceEqDiff, ↓reduceIte, List.length_set, Nat.add_sub_cancel_left, Nat.add_sub_cancel, ite_true, ite_false, if_true, if_false, not_true_eq_false, not_false_eq_true, Bool.and_true, Bool.true_and, true_or, or_true, false_or, or_false, and_true, true_and, and_false, false_and, Nat.not_lt_zero, hpRM, hpIM, hpFM, hpLM, hpSM]
    rw [if_pos (by omega)]
    rfl
  | succ n ih =>
    intro b u hbn
    have e0 := fun u => ih (b + 1) u (by omega)
    rw [b_Mod_rankedAt_2, mRk_s]
    rcases hB2 b (by omega) with hv | ⟨y, hy, hv⟩
    · rw [cif_f (fun z => z.1 (by rw [hv]; decide))]
      simp (maxSteps := 2000000) (disch := (first | omega | (simp (disch := omega) only [up_eq, up_ne, List.length_set] <;> omega))) only [ob_s, am_bi_s, am_bv_s, am_bl_s, ↓bif_d, lits, nI_addS, nI_mulS, nI_subS, nI_lt', nI_le', nI_eq', ↓rd_nI, ↓wrH, up_eq, up_ne, up_up, up_sw, List.set_set, g_seq, g_sne, Nat.reduceEqDiff, ↓reduceIte, List.length_set, Nat.add_sub_cancel_left, Nat.add_sub_cancel, ite_true, ite_false, if_true, if_false, not_true_eq_false, not_false_eq_true, Bool.and_true, Bool.true_and, true_or, or_true, false_or, or_false, and_true, true_and, and_false, false_and, Nat.not_lt_zero, hpRM, hpIM, hpFM, hpLM, hpSM, hv, m5_lt, e0]
      rw [if_neg (by omega)]
    · have e5 := s_Mod_placeOf (F := F) (P := P) hM' hL hB hl hy hB2
      by_cases hp : nI (mPl (A 193) nB (A 199) (A 200) l y 8 0) = p
      · rw [cif_t ⟨by rw [hv, nI_nlt0 (by omega)]; exact fun z => z, by rw [hv, nI_clamp (by omega)]; exact hp⟩]
        simp (maxSteps := 2000000) (disch := (first | omega | (simp (disch := omega) only [up_eq, up_ne, List.length_set] <;> omega))) only [ob_s, am_bi_s, am_bv_s, am_bl_s, ↓bif_d, lits, nI_addS, nI_mulS, nI_subS, nI_lt', nI_le', nI_eq', ↓rd_nI, ↓wrH, up_eq, up_ne, up_up, up_sw, List.set_set, g_seq, g_sne, Nat.reduceEqDiff, ↓reduceIte, List.length_set, Nat.add_sub_cancel_left, Nat.add_sub_cancel, ite_true, ite_false, if_true, if_false, not_true_eq_false, not_false_eq_true, Bool.and_true, Bool.true_and, true_or, or_true, false_or, or_false, and_true, true_and, and_false, false_and, Nat.not_lt_zero, hpRM, hpIM, hpFM, hpLM, hpSM, hv, nI_nlt0, e5, hp]
        rw [if_neg (by omega)]
      · rw [cif_f (fun z => hp (by have := z.2; rw [hv, nI_clamp (by omega)] at this; exact this))]
        simp (maxSteps := 2000000) (disch := (first | omega | (simp (disch := omega) only [up_eq, up_ne, List.length_set] <;> omega))) only [ob_s, am_bi_s, am_bv_s, am_bl_s, ↓bif_d, lits, nI_addS, nI_mulS, nI_subS, nI_lt', nI_le', nI_eq', ↓rd_nI, ↓wrH, up_eq, up_ne, up_up, up_sw, List.set_set, g_seq, g_sne, Nat.reduceEqDiff, ↓reduceIte, List.length_set, Nat.add_sub_cancel_left, Nat.add_sub_cancel, ite_true, ite_false, if_true, if_false, not_true_eq_false, not_false_eq_true, Bool.and_true, Bool.true_and, true_or, or_true, false_or, or_false, and_true, true_and, and_false, false_and, Nat.not_lt_zero, hpRM, hpIM, hpFM, hpLM, hpSM, hv, nI_nlt0, e5, hp, e0]
        rw [if_neg (by omega)]
theorem s_Mod_rankedAt (hM : Mwf (A 193) nB nl nb nx) (hL : (A 199).length = 168) (hB : (A 200).length = 160) {l : Nat} (hl : l < nl) (hB2 : ∀ b, b < 8 → isB (g (A 200) (8 * l + b)) nx) (p : Int32) : am_cl m_Mod_rankedAt [.ref 192, .int (nI l), .int p] (heap A F P) = some (some (.int (mRk (A 193) nB (A 199) (A 200) l p 8 0)), heap A F P) := by
  classical
  rw [e_Mod_rankedAt 192 _ _ _ rfl]
  have := l_Mod_rankedAt (F := F) (P := P) hM hL hB hl hB2 p 8 0 (.float 0) (by omega)
  simp only [lits]
  exact this
end M
