/-- the best bid of bidder b for lot l among the first k -/
noncomputable def mBs (r : List Int32) (nB : Nat) (L Bu Fi : List Int32) (l b : Nat) : Nat → Int32
  | 0 => -nI 5
  | k + 1 => cif (g r (78 + l) = nI 0 ∧ lotN r k = l ∧ byN r k = b ∧ mCo r nB L Bu Fi k) (cif (mBs r nB L Bu Fi l b k < nI 0 ∨ mWo r nB L (mBs r nB L Bu Fi l b k).toNatClampNeg < mWo r nB L k) (nI k) (mBs r nB L Bu Fi l b k)) (mBs r nB L Bu Fi l b k)
theorem mBs_s (r : List Int32) (nB : Nat) (L Bu Fi : List Int32) (l b k : Nat) : mBs r nB L Bu Fi l b (k + 1) = cif (g r (78 + l) = nI 0 ∧ lotN r k = l ∧ byN r k = b ∧ mCo r nB L Bu Fi k) (cif (mBs r nB L Bu Fi l b k < nI 0 ∨ mWo r nB L (mBs r nB L Bu Fi l b k).toNatClampNeg < mWo r nB L k) (nI k) (mBs r nB L Bu Fi l b k)) (mBs r nB L Bu Fi l b k) := rfl
theorem mBs_spec (r : List Int32) (nB : Nat) (L Bu Fi : List Int32) (l b : Nat) : ∀ k, mBs r nB L Bu Fi l b k = -nI 5 ∨ ∃ y, y < k ∧ mBs r nB L Bu Fi l b k = nI y ∧ g r (78 + l) = nI 0 ∧ lotN r y = l ∧ byN r y = b ∧ mCo r nB L Bu Fi y := by
  intro k
  induction k with
  | zero => exact Or.inl rfl
  | succ k ih =>
    have old : mBs r nB L Bu Fi l b k = -nI 5 ∨ ∃ y, y < k + 1 ∧ mBs r nB L Bu Fi l b k = nI y ∧ g r (78 + l) = nI 0 ∧ lotN r y = l ∧ byN r y = b ∧ mCo r nB L Bu Fi y := by
      rcases ih with h | ⟨y, h1, h2⟩
      · exact Or.inl h
      · exact Or.inr ⟨y, by omega, h2⟩
    rw [mBs_s]
    by_cases h : g r (78 + l) = nI 0 ∧ lotN r k = l ∧ byN r k = b ∧ mCo r nB L Bu Fi k
    · rw [cif_t h]
      by_cases h2 : mBs r nB L Bu Fi l b k < nI 0 ∨ mWo r nB L (mBs r nB L Bu Fi l b k).toNatClampNeg < mWo r nB L k
      · rw [cif_t h2]
        exact Or.inr ⟨k, by omega, rfl, h⟩
      · rw [cif_f h2]
        exact old
    · rw [cif_f h]
      exact old
theorem mBs_isB (r : List Int32) (nB : Nat) (L Bu Fi : List Int32) (l b : Nat) {k nx : Nat} (h : k ≤ nx) : isB (mBs r nB L Bu Fi l b k) nx := by
  rcases mBs_spec r nB L Bu Fi l b k with q | ⟨y, h1, h2, -⟩
  · exact Or.inl q
  · exact Or.inr ⟨y, by omega, h2⟩
section M
variable {A : Nat → List Int32} {F : Nat → Int32} {P : Nat → Nat} {nB nl nb nx : Nat}
theorem l_Mod_findBest1 {l : Nat} (hl : l < 20) : ∀ n b (B : List Int32), b + n = 8 → B.length = 160 → (∀ j, j < b → g B (8 * l + j) = -nI 5) → ∃ B' : List Int32, B'.length = 160 ∧ (∀ j, j < 8 → g B' (8 * l + j) = -nI 5) ∧ (∀ j, j < 8 * l ∨ 8 * l + 8 ≤ j → g B' j = g B j) ∧ am_ev m_Mod_findBest (2, [.ref 192, .int (nI l), .int (nI b), .float 0], [], heap (up A 200 B) F P) = am_ev m_Mod_findBest (29, [.ref 192, .int (nI l), .int (nI 0), .float 0], [], heap (up A 200 B') F P) := by
  intro n
  induction n with
  | zero =>
    intro b B hb hB hj
    refine ⟨B, hB, fun j h => hj j (by omega), fun _ _ => rfl, ?_⟩
    rw [b_Mod_findBest_2]
    simp (maxSteps := 2000000) (disch := (first | omega | (simp (disch := omega) only [up_eq, up_ne, List.length_set] <;> omega))) only [ob_s, am_bi_s, am_bv_s, am_bl_s, ↓bif_d, lits, nI_addS, nI_mulS, nI_subS, nI_lt', nI_le', nI_eq', ↓rd_nI, ↓wrH, up_eq, up_ne, up_up, up_sw, List.set_set, g_seq, g_sne, Nat.reduceEqDiff, ↓reduceIte, List.length_set, Nat.add_sub_cancel_left, Nat.add_sub_cancel, ite_true, ite_false, if_true, if_false, not_true_eq_false, not_false_eq_true, Bool.and_true, Bool.true_and, true_or, or_true, false_or, or_false, and_true, true_and, and_false, false_and, Nat.not_lt_zero, hpRM, hpIM, hpFM, hpLM, hpSM]
    rw [if_pos (by omega)]
  | succ n ih =>
    intro b B hb hB hj
    obtain ⟨B', q1, q2, q3, q4⟩ := ih (b + 1) (B.set (8 * l + b) (-nI 5)) (by omega) (by simp [hB]) (fun j h => by
      rw [g_set (by omega)]
      split
      · rfl
      · exact hj j (by omega))
    refine ⟨B', q1, q2, fun j h => ?_, ?_⟩
    · rw [q3 j h, g_set (by omega), if_neg (by omega)]
    · rw [b_Mod_findBest_2]
      simp (maxSteps := 2000000) (disch := (first | omega | (simp (disch := omega) only [up_eq, up_ne, List.length_set] <;> omega))) only [ob_s, am_bi_s, am_bv_s, am_bl_s, ↓bif_d, lits, nI_addS, nI_mulS, nI_subS, nI_lt', nI_le', nI_eq', ↓rd_nI, ↓wrH, up_eq, up_ne, up_up, up_sw, List.set_set, g_seq, g_sne, Nat.reduceEqDiff, ↓reduceIte, List.length_set, Nat.add_sub_cancel_left, Nat.add_sub_cancel, ite_true, ite_false, if_true, if_false, not_true_eq_false, not_false_eq_true, Bool.and_true, Bool.true_and, true_or, or_true, false_or, or_false, and_true, true_and, and_false, false_and, Nat.not_lt_zero, hpRM, hpIM, hpFM, hpLM, hpSM, q4]
      rw [if_neg (by omega)]
/-- what the second loop of findBest holds -/
def FbI (r : List Int32) (nB : Nat) (L Bu Fi B0 B : List Int32) (l k : Nat) : Prop := B.length = 160 ∧ (∀ j, j < 8 → g B (8 * l + j) = mBs r nB L Bu Fi l j k) ∧ ∀ j, j < 8 * l ∨ 8 * l + 8 ≤ j → g B j = g B0 j
theorem l_Mod_findBest2 (hM : Mwf (A 193) nB nl nb nx) (hL : (A 199).length = 168) (hBu : (A 204).length = 20) (hFi : (A 201).length = 20) {l : Nat} (hl : l < nl) (hr : ∀ j, j < l → isB (g (A 204) j) nb ∧ (¬ g (A 204) j = -nI 5 → ∃ f, f < nx ∧ g (A 201) j = nI f)) (B0 : List Int32) :
    ∀ n k (B : List Int32) (u : Value), k + n = nx → FbI (A 193) nB (A 199) (A 204) (A 201) B0 B l k → ∃ B' : List Int32, FbI (A 193) nB (A 199) (A 204) (A 201) B0 B' l nx ∧ am_ev m_Mod_findBest (29, [.ref 192, .int (nI l), .int (nI k), u], [], heap (up A 200 B) F P) = some (none, heap (up A 200 B') F P) := by
  classical
  intro n
  induction n with
  | zero =>
    intro k B u hk hI
    have hk : k = nx := by omega
    subst hk
    refine ⟨B, hI, ?_⟩
    have e1 : am_cl m_Mod_bids [.ref 192] (heap (up A 200 B) F P) = some (some (.int (nI k)), heap (up A 200 B) F P) := s_Mod_bids (A := up A 200 B) hM.1
    have h9 := hM.1.2.2.2.2.2.2.2.2.2
    rw [b_Mod_findBest_29]
    simp (maxSteps := 2000000) (disch := (first | omega | (simp (disch := omega) only [up_eq, up_ne, List.length_set] <;> omega))) only [ob_s, am_bi_s, am_bv_s, am_bl_s, ↓bif_d, lits, nI_addS, nI_mulS, nI_subS, nI_lt', nI_le', nI_eq', ↓rd_nI, ↓wrH, up_eq, up_ne, up_up, up_sw, List.set_set, g_seq, g_sne, Nat.reduceEqDiff, ↓reduceIte, List.length_set, Nat.add_sub_cancel_left, Nat.add_sub_cancel, ite_true, ite_false, if_true, if_false, not_true_eq_false, not_false_eq_true, Bool.and_true, Bool.true_and, true_or, or_true, false_or, or_false, and_true, true_and, and_false, false_and, Nat.not_lt_zero, e1]
    rw [if_pos (by omega)]
  | succ n ih =>
    intro k B u hk hI
    have hkx : k < nx := by omega
    have e1 : am_cl m_Mod_bids [.ref 192] (heap (up A 200 B) F P) = some (some (.int (nI nx)), heap (up A 200 B) F P) := s_Mod_bids (A := up A 200 B) hM.1
    have hM' := hM
    obtain ⟨⟨h0, h1, h2, h3, h4, h5, h6, h7, h8, h9⟩, -, hb⟩ := hM
    obtain ⟨⟨q1, q2⟩, q3, q4⟩ := hb k hkx
    obtain ⟨i1, i2, i3⟩ := hI
    by_cases c1 : g (A 193) (78 + l) = nI 0
    · by_cases c2 : lotN (A 193) k = l
      · have hrr : ∀ j, j < lotN (A 193) k → g (A 204) j = g (A 193) (168 + k) → ∃ f, f < nx ∧ g (A 201) j = nI f := by
          intro j hj hjb
          refine (hr j (by omega)).2 (fun z => ?_)
          rw [hjb, q4] at z
          have : ¬ nI (byN (A 193) k) < nI 0 := nI_pos (by omega)
          rw [z] at this
          exact this (by decide)
        have e2 : am_cl m_Mod_counts [.ref 192, .int (nI k)] (heap (up A 200 B) F P) = some (some (.int (b01 (mCo (A 193) nB (A 199) (A 204) (A 201) k))), heap (up A 200 B) F P) := s_Mod_counts (A := up A 200 B) hM' hL hBu hFi hkx hrr
        by_cases c3 : mCo (A 193) nB (A 199) (A 204) (A 201) k
        · -- it counts: its bidder's place
          have hbs := mBs_spec (A 193) nB (A 199) (A 204) (A 201) l (byN (A 193) k) k
          have hold : ∀ j, j < 8 → j ≠ byN (A 193) k → mBs (A 193) nB (A 199) (A 204) (A 201) l j (k + 1) = mBs (A 193) nB (A 199) (A 204) (A 201) l j k := by
            intro j _ hj
            rw [mBs_s, cif_f (fun z => hj z.2.2.1.symm)]
          have hcur := i2 (byN (A 193) k) (by omega)
          have fin : ∀ v, v = mBs (A 193) nB (A 199) (A 204) (A 201) l (byN (A 193) k) (k + 1) → FbI (A 193) nB (A 199) (A 204) (A 201) B0 (B.set (8 * l + byN (A 193) k) v) l (k + 1) := by
            intro v hv
            refine ⟨by simp [i1], fun j hj => ?_, fun j hj => ?_⟩
            · rw [g_set (by omega)]
              by_cases z : j = byN (A 193) k
              · subst z; rw [if_pos rfl, hv]
              · rw [if_neg (by omega), i2 j hj, hold j hj z]
            · rw [g_set (by omega), if_neg (by omega), i3 j hj]
          have hstep : mBs (A 193) nB (A 199) (A 204) (A 201) l (byN (A 193) k) (k + 1) = cif (mBs (A 193) nB (A 199) (A 204) (A 201) l (byN (A 193) k) k < nI 0 ∨ mWo (A 193) nB (A 199) (mBs (A 193) nB (A 199) (A 204) (A 201) l (byN (A 193) k) k).toNatClampNeg < mWo (A 193) nB (A 199) k) (nI k) (mBs (A 193) nB (A 199) (A 204) (A 201) l (byN (A 193) k) k) := by
            rw [mBs_s, cif_t ⟨c1, c2, rfl, c3⟩]
          rcases hbs with hv | ⟨y, hy, hv, -⟩
          · -- none yet
            rw [hv] at hcur
            obtain ⟨B', r1, r2⟩ := ih (k + 1) (B.set (8 * l + byN (A 193) k) (nI k)) (.int (nI (8 * l + byN (A 193) k))) (by omega) (fin _ (by rw [hstep, hv, cif_t (Or.inl (by decide))]))
            refine ⟨B', r1, ?_⟩
            rw [b_Mod_findBest_29]
            simp (maxSteps := 2000000) (disch := (first | omega | (simp (disch := omega) only [up_eq, up_ne, List.length_set] <;> omega))) only [ob_s, am_bi_s, am_bv_s, am_bl_s, ↓bif_d, lits, nI_addS, nI_mulS, nI_subS, nI_lt', nI_le', nI_eq', ↓rd_nI, ↓wrH, up_eq, up_ne, up_up, up_sw, List.set_set, g_seq, g_sne, Nat.reduceEqDiff, ↓reduceIte, List.length_set, Nat.add_sub_cancel_left, Nat.add_sub_cancel, ite_true, ite_false, if_true, if_false, not_true_eq_false, not_false_eq_true, Bool.and_true, Bool.true_and, true_or, or_true, false_or, or_false, and_true, true_and, and_false, false_and, Nat.not_lt_zero, hpRM, hpIM, hpFM, hpLM, hpSM, e1, c1, q2, c2, e2, b01_0, c3, q4, hcur, m5_lt, r2]
            rw [if_neg (by omega)]
          · rw [hv] at hcur
            have e3 : am_cl m_Mod_worthOf [.ref 192, .int (nI k)] (heap (up A 200 B) F P) = some (some (.int (mWo (A 193) nB (A 199) k)), heap (up A 200 B) F P) := s_Mod_worthOf (A := up A 200 B) hM' hL hkx
            have e4 : am_cl m_Mod_worthOf [.ref 192, .int (nI y)] (heap (up A 200 B) F P) = some (some (.int (mWo (A 193) nB (A 199) y)), heap (up A 200 B) F P) := s_Mod_worthOf (A := up A 200 B) hM' hL (by omega)
            by_cases c4 : mWo (A 193) nB (A 199) k ≤ mWo (A 193) nB (A 199) y
            · obtain ⟨B', r1, r2⟩ := ih (k + 1) (B.set (8 * l + byN (A 193) k) (nI y)) (.int (nI (8 * l + byN (A 193) k))) (by omega) (fin _ (by
                rw [hstep, hv, cif_f]
                rintro (z | z)
                · exact nI_pos (by omega) z
                · rw [nI_clamp (by omega)] at z
                  exact Int32.not_lt.mpr c4 z))
              refine ⟨B', r1, ?_⟩
              rw [b_Mod_findBest_29]
              simp (maxSteps := 2000000) (disch := (first | omega | (simp (disch := omega) only [up_eq, up_ne, List.length_set] <;> omega))) only [ob_s, am_bi_s, am_bv_s, am_bl_s, ↓bif_d, lits, nI_addS, nI_mulS, nI_subS, nI_lt', nI_le', nI_eq', ↓rd_nI, ↓wrH, up_eq, up_ne, up_up, up_sw, List.set_set, g_seq, g_sne, Nat.reduceEqDiff, ↓reduceIte, List.length_set, Nat.add_sub_cancel_left, Nat.add_sub_cancel, ite_true, ite_false, if_true, if_false, not_true_eq_false, not_false_eq_true, Bool.and_true, Bool.true_and, true_or, or_true, false_or, or_false, and_true, true_and, and_false, false_and, Nat.not_lt_zero, hpRM, hpIM, hpFM, hpLM, hpSM, e1, c1, q2, c2, e2, b01_0, c3, q4, hcur, nI_nlt0, e3, e4, c4, r2]
              rw [if_neg (by omega)]
            · obtain ⟨B', r1, r2⟩ := ih (k + 1) (B.set (8 * l + byN (A 193) k) (nI k)) (.int (nI (8 * l + byN (A 193) k))) (by omega) (fin _ (by
                rw [hstep, hv, cif_t (Or.inr (by rw [nI_clamp (by omega)]; exact Int32.not_le.mp c4))]))
              refine ⟨B', r1, ?_⟩
              rw [b_Mod_findBest_29]
              simp (maxSteps := 2000000) (disch := (first | omega | (simp (disch := omega) only [up_eq, up_ne, List.length_set] <;> omega))) only [ob_s, am_bi_s, am_bv_s, am_bl_s, ↓bif_d, lits, nI_addS, nI_mulS, nI_subS, nI_lt', nI_le', nI_eq', ↓rd_nI, ↓wrH, up_eq, up_ne, up_up, up_sw, List.set_set, g_seq, g_sne, Nat.reduceEqDiff, ↓reduceIte, List.length_set, Nat.add_sub_cancel_left, Nat.add_sub_cancel, ite_true, ite_false, if_true, if_false, not_true_eq_false, not_false_eq_true, Bool.and_true, Bool.true_and, true_or, or_true, false_or, or_false, and_true, true_and, and_false, false_and, Nat.not_lt_zero, hpRM, hpIM, hpFM, hpLM, hpSM, e1, c1, q2, c2, e2, b01_0, c3, q4, hcur, nI_nlt0, e3, e4, c4, r2]
              rw [if_neg (by omega)]
        · have hI' : FbI (A 193) nB (A 199) (A 204) (A 201) B0 B l (k + 1) := ⟨i1, fun j hj => by rw [i2 j hj, mBs_s, cif_f (fun z => c3 z.2.2.2)], i3⟩
          obtain ⟨B', r1, r2⟩ := ih (k + 1) B u (by omega) hI'
          refine ⟨B', r1, ?_⟩
          rw [b_Mod_findBest_29]
          simp (maxSteps := 2000000) (disch := (first | omega | (simp (disch := omega) only [up_eq, up_ne, List.length_set] <;> omega))) only [ob_s, am_bi_s, am_bv_s, am_bl_s, ↓bif_d, lits, nI_addS, nI_mulS, nI_subS, nI_lt', nI_le', nI_eq', ↓rd_nI, ↓wrH, up_eq, up_ne, up_up, up_sw, List.set_set, g_seq, g_sne, Nat.reduceEqDiff, ↓reduceIte, List.length_set, Nat.add_sub_cancel_left, Nat.add_sub_cancel, ite_true, ite_false, if_true, if_false, not_true_eq_false, not_false_eq_true, Bool.and_true, Bool.true_and, true_or, or_true, false_or, or_false, and_true, true_and, and_false, false_and, Nat.not_lt_zero, hpRM, hpIM, hpFM, hpLM, hpSM, e1, c1, q2, c2, e2, b01_0, c3, r2]
          rw [if_neg (by omega)]
      · have hI' : FbI (A 193) nB (A 199) (A 204) (A 201) B0 B l (k + 1) := ⟨i1, fun j hj => by rw [i2 j hj, mBs_s, cif_f (fun z => c2 z.2.1)], i3⟩
        obtain ⟨B', r1, r2⟩ := ih (k + 1) B u (by omega) hI'
        refine ⟨B', r1, ?_⟩
        rw [b_Mod_findBest_29]
        simp (maxSteps := 2000000) (disch := (first | omega | (simp (disch := omega) only [up_eq, up_ne, List.length_set] <;> omega))) only [ob_s, am_bi_s, am_bv_s, am_bl_s, ↓bif_d, lits, nI_addS, nI_mulS, nI_subS, nI_lt', nI_le', nI_eq', ↓rd_nI, ↓wrH, up_eq, up_ne, up_up, up_sw, List.set_set, g_seq, g_sne, Nat.reduceEqDiff, ↓reduceIte, List.length_set, Nat.add_sub_cancel_left, Nat.add_sub_cancel, ite_true, ite_false, if_true, if_false, not_true_eq_false, not_false_eq_true, Bool.and_true, Bool.true_and, true_or, or_true, false_or, or_false, and_true, true_and, and_false, false_and, Nat.not_lt_zero, hpRM, hpIM, hpFM, hpLM, hpSM, e1, c1, q2, c2, r2]
        rw [if_neg (by omega)]
    · -- the lot is withdrawn
      have hall : ∀ j m, mBs (A 193) nB (A 199) (A 204) (A 201) l j m = -nI 5 := by
        intro j m
        induction m with
        | zero => rfl
        | succ m ihm => rw [mBs_s, cif_f (fun z => c1 z.1), ihm]
      refine ⟨B, ⟨i1, fun j hj => by rw [i2 j hj, hall, hall], i3⟩, ?_⟩
      rw [b_Mod_findBest_29]
      simp (maxSteps := 2000000) (disch := (first | omega | (simp (disch := omega) only [up_eq, up_ne, List.length_set] <;> omega))) only [ob_s, am_bi_s, am_bv_s, am_bl_s, ↓bif_d, lits, nI_addS, nI_mulS, nI_subS, nI_lt', nI_le', nI_eq', ↓rd_nI, ↓wrH, up_eq, up_ne, up_up, up_sw, List.set_set, g_seq, g_sne, Nat.reduceEqDiff, ↓reduceIte, List.length_set, Nat.add_sub_cancel_left, Nat.add_sub_cancel, ite_true, ite_false, if_true, if_false, not_true_eq_false, not_false_eq_true, Bool.and_true, Bool.true_and, true_or, or_true, false_or, or_false, and_true, true_and, and_false, false_and, Nat.not_lt_zero, hpRM, hpIM, hpFM, hpLM, hpSM, e1, c1]
      rw [if_neg (by omega)]
theorem s_Mod_findBest (hM : Mwf (A 193) nB nl nb nx) (hL : (A 199).length = 168) (hB : (A 200).length = 160) (hBu : (A 204).length = 20) (hFi : (A 201).length = 20) {l : Nat} (hl : l < nl) (hr : ∀ j, j < l → isB (g (A 204) j) nb ∧ (¬ g (A 204) j = -nI 5 → ∃ f, f < nx ∧ g (A 201) j = nI f)) :
    ∃ B' : List Int32, FbI (A 193) nB (A 199) (A 204) (A 201) (A 200) B' l nx ∧ am_cl m_Mod_findBest [.ref 192, .int (nI l)] (heap A F P) = some (none, heap (up A 200 B') F P) := by
  have h7 := hM.1.2.2.2.2.2.2.2.1
  obtain ⟨B1, q1, q2, q3, q4⟩ := l_Mod_findBest1 (A := A) (F := F) (P := P) (l := l) (by omega) 8 0 (A 200) (by omega) hB (fun j h => by omega)
  obtain ⟨B', r1, r2⟩ := l_Mod_findBest2 (F := F) (P := P) hM hL hBu hFi hl hr (A 200) nx 0 B1 (.float 0) (by omega) ⟨q1, q2, q3⟩
  refine ⟨B', r1, ?_⟩
  rw [e_Mod_findBest 192 _ _ rfl]
  rw [up_id] at q4
  simp only [lits]
  rw [q4, r2]
end M
