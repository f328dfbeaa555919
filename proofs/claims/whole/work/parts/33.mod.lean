section M
variable {A : Nat → List Int32} {F : Nat → Int32} {P : Nat → Nat} {nB nl nb nx : Nat}
theorem s_Mod_lots (hM : Mok (A 193) nB nl nb nx) : am_cl m_Mod_lots [.ref 192] (heap A F P) = some (some (.int (nI nl)), heap A F P) := by
  obtain ⟨h0, h1, h2, h3, h4, h5, h6, h7, h8, h9⟩ := hM
  rw [e_Mod_lots 192 _ rfl]
  simp (maxSteps := 2000000) (disch := (first | omega | (simp (disch := omega) only [up_eq, up_ne, List.length_set] <;> omega))) only [ob_s, am_bi_s, am_bv_s, am_bl_s, ↓bif_d, lits, nI_addS, nI_mulS, nI_subS, nI_lt', nI_le', nI_eq', ↓rd_nI, ↓wrH, up_eq, up_ne, up_up, up_sw, List.set_set, g_seq, g_sne, Nat.reduceEqDiff, ↓reduceIte, List.length_set, Nat.add_sub_cancel_left, Nat.add_sub_cancel, ite_true, ite_false, if_true, if_false, not_true_eq_false, not_false_eq_true, Bool.and_true, Bool.true_and, true_or, or_true, false_or, or_false, and_true, true_and, and_false, false_and, Nat.not_lt_zero, hpRM, hpIM, hpFM, hpLM, hpSM, h2]
theorem s_Mod_bidders (hM : Mok (A 193) nB nl nb nx) : am_cl m_Mod_bidders [.ref 192] (heap A F P) = some (some (.int (nI nb)), heap A F P) := by
  obtain ⟨h0, h1, h2, h3, h4, h5, h6, h7, h8, h9⟩ := hM
  rw [e_Mod_bidders 192 _ rfl]
  simp (maxSteps := 2000000) (disch := (first | omega | (simp (disch := omega) only [up_eq, up_ne, List.length_set] <;> omega))) only [ob_s, am_bi_s, am_bv_s, am_bl_s, ↓bif_d, lits, nI_addS, nI_mulS, nI_subS, nI_lt', nI_le', nI_eq', ↓rd_nI, ↓wrH, up_eq, up_ne, up_up, up_sw, List.set_set, g_seq, g_sne, Nat.reduceEqDiff, ↓reduceIte, List.length_set, Nat.add_sub_cancel_left, Nat.add_sub_cancel, ite_true, ite_false, if_true, if_false, not_true_eq_false, not_false_eq_true, Bool.and_true, Bool.true_and, true_or, or_true, false_or, or_false, and_true, true_and, and_false, false_and, Nat.not_lt_zero, hpRM, hpIM, hpFM, hpLM, hpSM, h3]
theorem s_Mod_bids (hM : Mok (A 193) nB nl nb nx) : am_cl m_Mod_bids [.ref 192] (heap A F P) = some (some (.int (nI nx)), heap A F P) := by
  obtain ⟨h0, h1, h2, h3, h4, h5, h6, h7, h8, h9⟩ := hM
  rw [e_Mod_bids 192 _ rfl]
  simp (maxSteps := 2000000) (disch := (first | omega | (simp (disch := omega) only [up_eq, up_ne, List.length_set] <;> omega))) only [ob_s, am_bi_s, am_bv_s, am_bl_s, ↓bif_d, lits, nI_addS, nI_mulS, nI_subS, nI_lt', nI_le', nI_eq', ↓rd_nI, ↓wrH, up_eq, up_ne, up_up, up_sw, List.set_set, g_seq, g_sne, Nat.reduceEqDiff, ↓reduceIte, List.length_set, Nat.add_sub_cancel_left, Nat.add_sub_cancel, ite_true, ite_false, if_true, if_false, not_true_eq_false, not_false_eq_true, Bool.and_true, Bool.true_and, true_or, or_true, false_or, or_false, and_true, true_and, and_false, false_and, Nat.not_lt_zero, hpRM, hpIM, hpFM, hpLM, hpSM, h4]
theorem no_of {x : Int32} {n : Nat} (hn : n < 2 ^ 31) (h : am_H) : (if ¬ b01 (¬ (x < nI 0 ∨ nI n - nI 1 < x)) = nI 0 then some (some (Value.int (nI 0)), h) else some (some (Value.int (nI 1)), h)) = some (some (.int (b01 (¬ ix x n))), h) := by
  have e := ix_in (x := x) hn
  by_cases q : ix x n
  · rw [b01_f (p := ¬ ix x n) (fun z => z q), b01_t (p := ¬ (x < nI 0 ∨ nI n - nI 1 < x)) (fun z => (e.mp z) q), if_pos (by decide)]
  · rw [b01_t (p := ¬ ix x n) q, b01_f (p := ¬ (x < nI 0 ∨ nI n - nI 1 < x)) (fun z => z (e.mpr q)), if_neg (by decide)]
theorem s_Mod_noLot (hM : Mok (A 193) nB nl nb nx) (x : Int32) : am_cl m_Mod_noLot [.ref 192, .int x] (heap A F P) = some (some (.int (b01 (¬ ix x nl))), heap A F P) := by
  have h7 := hM.2.2.2.2.2.2.2.1
  rw [e_Mod_noLot 192 x _ rfl]
  simp only [s_Mod_lots hM, s_Mod_in, am_bi_s, bif_d, lits]
  exact no_of (by omega) _
theorem s_Mod_noBidder (hM : Mok (A 193) nB nl nb nx) (x : Int32) : am_cl m_Mod_noBidder [.ref 192, .int x] (heap A F P) = some (some (.int (b01 (¬ ix x nb))), heap A F P) := by
  have h7 := hM.2.2.2.2.2.2.2.2.1
  rw [e_Mod_noBidder 192 x _ rfl]
  simp only [s_Mod_bidders hM, s_Mod_in, am_bi_s, bif_d, lits]
  exact no_of (by omega) _
theorem s_Mod_noBid (hM : Mok (A 193) nB nl nb nx) (x : Int32) : am_cl m_Mod_noBid [.ref 192, .int x] (heap A F P) = some (some (.int (b01 (¬ ix x nx))), heap A F P) := by
  have h7 := hM.2.2.2.2.2.2.2.2.2
  rw [e_Mod_noBid 192 x _ rfl]
  simp only [s_Mod_bids hM, s_Mod_in, am_bi_s, bif_d, lits]
  exact no_of (by omega) _
/-- the place of a band, by its beginning -/
def mAt (r : List Int32) (x : Int32) : Nat → Nat → Int32
  | 0, _ => -nI 5
  | n + 1, k => if g r (1 + k) = x then nI k else mAt r x n (k + 1)
theorem mAt_s (r : List Int32) (x : Int32) (n k : Nat) : mAt r x (n + 1) k = if g r (1 + k) = x then nI k else mAt r x n (k + 1) := rfl
theorem l_Mod_bandAt (hM : Mok (A 193) nB nl nb nx) (x : Int32) : ∀ n k, k + n = nB → am_ev m_Mod_bandAt (2, [.ref 192, .int x, .int (nI k)], [], heap A F P) = some (some (.int (mAt (A 193) x n k)), heap A F P) := by
  obtain ⟨h0, h1, h2, h3, h4, h5, h6, h7, h8, h9⟩ := hM
  intro n
  induction n with
  | zero =>
    intro k hk
    rw [b_Mod_bandAt_2]
    simp (maxSteps := 2000000) (disch := (first | omega | (simp (disch := omega) only [up_eq, up_ne, List.length_set] <;> omega))) only [ob_s, am_bi_s, am_bv_s, am_bl_s, ↓bif_d, lits, nI_addS, nI_mulS, nI_subS, nI_lt', nI_le', nI_eq', ↓rd_nI, ↓wrH, up_eq, up_ne, up_up, up_sw, List.set_set, g_seq, g_sne, Nat.reduceEqDiff, ↓reduceIte, List.length_set, Nat.add_sub_cancel_left, Nat.add_sub_cancel, ite_true, ite_false, if_true, if_false, not_true_eq_false, not_false_eq_true, Bool.and_true, Bool.true_and, true_or, or_true, false_or, or_false, and_true, true_and, and_false, false_and, Nat.not_lt_zero, hpRM, hpIM, hpFM, hpLM, hpSM, h1]
    rw [if_pos (by omega)]
    rfl
  | succ n ih =>
    intro k hk
    rw [b_Mod_bandAt_2]
    simp (maxSteps := 2000000) (disch := (first | omega | (simp (disch := omega) only [up_eq, up_ne, List.length_set] <;> omega))) only [ob_s, am_bi_s, am_bv_s, am_bl_s, ↓bif_d, lits, nI_addS, nI_mulS, nI_subS, nI_lt', nI_le', nI_eq', ↓rd_nI, ↓wrH, up_eq, up_ne, up_up, up_sw, List.set_set, g_seq, g_sne, Nat.reduceEqDiff, ↓reduceIte, List.length_set, Nat.add_sub_cancel_left, Nat.add_sub_cancel, ite_true, ite_false, if_true, if_false, not_true_eq_false, not_false_eq_true, Bool.and_true, Bool.true_and, true_or, or_true, false_or, or_false, and_true, true_and, and_false, false_and, Nat.not_lt_zero, hpRM, hpIM, hpFM, hpLM, hpSM, h1]
    rw [if_neg (by omega), ih (k + 1) (by omega)]
    rw [mAt_s]
    by_cases q : g (A 193) (1 + k) = x
    · rw [if_neg (fun z => z q), if_pos q]
    · rw [if_pos q, if_neg q]
theorem s_Mod_bandAt (hM : Mok (A 193) nB nl nb nx) (x : Int32) : am_cl m_Mod_bandAt [.ref 192, .int x] (heap A F P) = some (some (.int (mAt (A 193) x nB 0)), heap A F P) := by
  rw [e_Mod_bandAt 192 x _ rfl]
  exact l_Mod_bandAt hM x nB 0 (by omega)
/-- the band of an amount -/
def mBd (r : List Int32) (a : Int32) : Nat → Nat → Nat
  | 0, k => k
  | n + 1, k => if a < g r (1 + k + 1) then k else mBd r a n (k + 1)
theorem mBd_s (r : List Int32) (a : Int32) (n k : Nat) : mBd r a (n + 1) k = if a < g r (1 + k + 1) then k else mBd r a n (k + 1) := rfl
theorem mBd_lt (r : List Int32) (a : Int32) : ∀ n k, mBd r a n k ≤ k + n := by
  intro n
  induction n with
  | zero => intro k; exact Nat.le_refl _
  | succ n ih =>
    intro k
    rw [mBd_s]
    split
    · omega
    · have := ih (k + 1); omega
theorem l_Mod_bandOf (hM : Mok (A 193) nB nl nb nx) (x : Int32) : ∀ n k, k + n + 1 = nB → am_ev m_Mod_bandOf (2, [.ref 192, .int x, .int (nI k)], [], heap A F P) = some (some (.int (nI (mBd (A 193) x n k))), heap A F P) := by
  obtain ⟨h0, h1, h2, h3, h4, h5, h6, h7, h8, h9⟩ := hM
  intro n
  induction n with
  | zero =>
    intro k hk
    rw [b_Mod_bandOf_2]
    simp (maxSteps := 2000000) (disch := (first | omega | (simp (disch := omega) only [up_eq, up_ne, List.length_set] <;> omega))) only [ob_s, am_bi_s, am_bv_s, am_bl_s, ↓bif_d, lits, nI_addS, nI_mulS, nI_subS, nI_lt', nI_le', nI_eq', ↓rd_nI, ↓wrH, up_eq, up_ne, up_up, up_sw, List.set_set, g_seq, g_sne, Nat.reduceEqDiff, ↓reduceIte, List.length_set, Nat.add_sub_cancel_left, Nat.add_sub_cancel, ite_true, ite_false, if_true, if_false, not_true_eq_false, not_false_eq_true, Bool.and_true, Bool.true_and, true_or, or_true, false_or, or_false, and_true, true_and, and_false, false_and, Nat.not_lt_zero, hpRM, hpIM, hpFM, hpLM, hpSM, h1]
    rw [if_pos (by omega)]
    rfl
  | succ n ih =>
    intro k hk
    rw [b_Mod_bandOf_2]
    simp (maxSteps := 2000000) (disch := (first | omega | (simp (disch := omega) only [up_eq, up_ne, List.length_set] <;> omega))) only [ob_s, am_bi_s, am_bv_s, am_bl_s, ↓bif_d, lits, nI_addS, nI_mulS, nI_subS, nI_lt', nI_le', nI_eq', ↓rd_nI, ↓wrH, up_eq, up_ne, up_up, up_sw, List.set_set, g_seq, g_sne, Nat.reduceEqDiff, ↓reduceIte, List.length_set, Nat.add_sub_cancel_left, Nat.add_sub_cancel, ite_true, ite_false, if_true, if_false, not_true_eq_false, not_false_eq_true, Bool.and_true, Bool.true_and, true_or, or_true, false_or, or_false, and_true, true_and, and_false, false_and, Nat.not_lt_zero, hpRM, hpIM, hpFM, hpLM, hpSM, h1]
    rw [if_neg (by omega), ih (k + 1) (by omega)]
    rw [mBd_s]
    split <;> rfl
def mBand (r : List Int32) (nB : Nat) (a : Int32) : Nat := mBd r a (nB - 1) 0
theorem mBand_lt (r : List Int32) {nB : Nat} (a : Int32) (h : 1 ≤ nB) : mBand r nB a < nB := by
  have := mBd_lt r a (nB - 1) 0
  unfold mBand
  omega
theorem s_Mod_bandOf (hM : Mok (A 193) nB nl nb nx) (x : Int32) : am_cl m_Mod_bandOf [.ref 192, .int x] (heap A F P) = some (some (.int (nI (mBand (A 193) nB x))), heap A F P) := by
  rw [e_Mod_bandOf 192 x _ rfl]
  have := hM.2.2.2.2.2.1
  exact l_Mod_bandOf hM x (nB - 1) 0 (by omega)
/-- the steps are none of them 0 -/
def Mst (r : List Int32) (nB : Nat) : Prop := ∀ k, k < nB → g r (9 + k) ≠ 0
def mFl (r : List Int32) (nB : Nat) (a : Int32) : Int32 := a - (a - g r (1 + mBand r nB a) - (a - g r (1 + mBand r nB a)) / g r (9 + mBand r nB a) * g r (9 + mBand r nB a))
theorem am_rm_s {x y : Int32} (h : y ≠ 0) : am_rm x y = some (x - x / y * y) := by
  unfold am_rm
  rw [decide_eq_false h]
  rfl
theorem s_Mod_floorOf (hM : Mok (A 193) nB nl nb nx) (hs : Mst (A 193) nB) (x : Int32) : am_cl m_Mod_floorOf [.ref 192, .int x] (heap A F P) = some (some (.int (mFl (A 193) nB x)), heap A F P) := by
  have hb := s_Mod_bandOf (F := F) (P := P) hM x
  obtain ⟨h0, h1, h2, h3, h4, h5, h6, h7, h8, h9⟩ := hM
  have hk := mBand_lt (A 193) x h5
  rw [e_Mod_floorOf 192 x _ rfl]
  simp (maxSteps := 2000000) (disch := (first | omega | (simp (disch := omega) only [up_eq, up_ne, List.length_set] <;> omega))) only [ob_s, am_bi_s, am_bv_s, am_bl_s, ↓bif_d, lits, nI_addS, nI_mulS, nI_subS, nI_lt', nI_le', nI_eq', ↓rd_nI, ↓wrH, up_eq, up_ne, up_up, up_sw, List.set_set, g_seq, g_sne, Nat.reduceEqDiff, ↓reduceIte, List.length_set, Nat.add_sub_cancel_left, Nat.add_sub_cancel, ite_true, ite_false, if_true, if_false, not_true_eq_false, not_false_eq_true, Bool.and_true, Bool.true_and, true_or, or_true, false_or, or_false, and_true, true_and, and_false, false_and, Nat.not_lt_zero, hpRM, hpIM, hpFM, hpLM, hpSM, hb, h1, am_rm_s (hs _ hk)]
  rfl
def mNx (r : List Int32) (nB : Nat) (a : Int32) : Int32 := if mBand r nB a + 1 < nB then (if mFl r nB a + g r (9 + mBand r nB a) ≤ g r (1 + mBand r nB a + 1) then mFl r nB a + g r (9 + mBand r nB a) else g r (1 + mBand r nB a + 1)) else mFl r nB a + g r (9 + mBand r nB a)
theorem s_Mod_nextOf (hM : Mok (A 193) nB nl nb nx) (hs : Mst (A 193) nB) (x : Int32) : am_cl m_Mod_nextOf [.ref 192, .int x] (heap A F P) = some (some (.int (mNx (A 193) nB x)), heap A F P) := by
  have hb := s_Mod_bandOf (F := F) (P := P) hM x
  have hf := s_Mod_floorOf (F := F) (P := P) hM hs x
  obtain ⟨h0, h1, h2, h3, h4, h5, h6, h7, h8, h9⟩ := hM
  have hk := mBand_lt (A 193) x h5
  rw [e_Mod_nextOf 192 x _ rfl]
  by_cases q : mBand (A 193) nB x + 1 < nB
  · simp (maxSteps := 2000000) (disch := (first | omega | (simp (disch := omega) only [up_eq, up_ne, List.length_set] <;> omega))) only [ob_s, am_bi_s, am_bv_s, am_bl_s, ↓bif_d, lits, nI_addS, nI_mulS, nI_subS, nI_lt', nI_le', nI_eq', ↓rd_nI, ↓wrH, up_eq, up_ne, up_up, up_sw, List.set_set, g_seq, g_sne, Nat.reduceEqDiff, ↓reduceIte, List.length_set, Nat.add_sub_cancel_left, Nat.add_sub_cancel, ite_true, ite_false, if_true, if_false, not_true_eq_false, not_false_eq_true, Bool.and_true, Bool.true_and, true_or, or_true, false_or, or_false, and_true, true_and, and_false, false_and, Nat.not_lt_zero, hpRM, hpIM, hpFM, hpLM, hpSM, hb, hf, h1, q]
    unfold mNx
    rw [if_neg (by omega), if_pos q]
    split <;> rfl
  · simp (maxSteps := 2000000) (disch := (first | omega | (simp (disch := omega) only [up_eq, up_ne, List.length_set] <;> omega))) only [ob_s, am_bi_s, am_bv_s, am_bl_s, ↓bif_d, lits, nI_addS, nI_mulS, nI_subS, nI_lt', nI_le', nI_eq', ↓rd_nI, ↓wrH, up_eq, up_ne, up_up, up_sw, List.set_set, g_seq, g_sne, Nat.reduceEqDiff, ↓reduceIte, List.length_set, Nat.add_sub_cancel_left, Nat.add_sub_cancel, ite_true, ite_false, if_true, if_false, not_true_eq_false, not_false_eq_true, Bool.and_true, Bool.true_and, true_or, or_true, false_or, or_false, and_true, true_and, and_false, false_and, Nat.not_lt_zero, hpRM, hpIM, hpFM, hpLM, hpSM, hb, hf, h1, q]
    unfold mNx
    rw [if_pos (by omega), if_neg q]
def mCe (r : List Int32) (nB : Nat) (a : Int32) : Int32 := if mFl r nB a = a then a else mNx r nB a
theorem s_Mod_ceilingOf (hM : Mok (A 193) nB nl nb nx) (hs : Mst (A 193) nB) (x : Int32) : am_cl m_Mod_ceilingOf [.ref 192, .int x] (heap A F P) = some (some (.int (mCe (A 193) nB x)), heap A F P) := by
  have hb := s_Mod_nextOf (F := F) (P := P) hM hs x
  have hf := s_Mod_floorOf (F := F) (P := P) hM hs x
  rw [e_Mod_ceilingOf 192 x _ rfl]
  simp only [hf, hb, am_bi_s, bif_d]
  by_cases q : mFl (A 193) nB x = x
  · unfold mCe
    rw [if_neg (fun z => z q), if_pos q]
  · unfold mCe
    rw [if_pos q, if_neg q]
end M
