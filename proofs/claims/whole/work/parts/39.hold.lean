def up7 (A : Nat → List Int32) (L B Fi Se Mn Bu Pr : List Int32) : Nat → List Int32 := up (up (up (up (up (up (up A 199 L) 200 B) 201 Fi) 202 Se) 203 Mn) 204 Bu) 205 Pr
theorem g_eq_set {l l' : List Int32} {k : Nat} {v : Int32} (hk : k < l.length) (h : l' = l.set k v) (j : Nat) (hj : j ≠ k) : g l' j = g l j := by rw [h]; exact g_sne hk hj
/-- one more lot -/
theorem SaI_succ {r : List Int32} {nB nl nb nx : Nat} (hM : Mwf r nB nl nb nx) {L B Fi Se Mn Bu Pr : List Int32} {k : Nat} (hk : k < nl) (hS : SaI r nB nl nb nx L B Fi Se Mn Bu Pr k) (hLn : SaL L B Fi Se Mn Bu Pr) {B' L' : List Int32} (hF : FbI r nB L Bu Fi B B' k nx) (hL' : L'.length = 168) (hL1 : ∀ j, j < 8 * (k + 1) → g L' j = g L j) (hL2 : ∀ b, b < nb → g L' (8 * (k + 1) + b) = g L (8 * k + b) - cif (g (Bu.set k (cif (mSold r nB L k (mRk r nB L B' k (nI 0) 8 0)) (g r (168 + (mRk r nB L B' k (nI 0) 8 0).toNatClampNeg)) (-nI 5))) k = nI b) (g (Pr.set k (cif (mSold r nB L k (mRk r nB L B' k (nI 0) 8 0)) (mPr r nB L k (mRk r nB L B' k (nI 0) 8 0) (mRk r nB L B' k (nI 1) 8 0)) (nI 0))) k) (nI 0)) :
    SaI r nB nl nb nx L' B' (Fi.set k (mRk r nB L B' k (nI 0) 8 0)) (Se.set k (mRk r nB L B' k (nI 1) 8 0)) (Mn.set k (nI (mMn B' k 8 0))) (Bu.set k (cif (mSold r nB L k (mRk r nB L B' k (nI 0) 8 0)) (g r (168 + (mRk r nB L B' k (nI 0) 8 0).toNatClampNeg)) (-nI 5))) (Pr.set k (cif (mSold r nB L k (mRk r nB L B' k (nI 0) 8 0)) (mPr r nB L k (mRk r nB L B' k (nI 0) 8 0) (mRk r nB L B' k (nI 1) 8 0)) (nI 0))) (k + 1) := by
  obtain ⟨n1, n2, n3, n4, n5, n6, n7⟩ := hLn
  obtain ⟨s1, s2, s3, s4, s5, s6, s7, s8⟩ := hS
  have hnx : nx ≤ 60 := hM.1.2.2.2.2.2.2.2.2.2
  have hnl : nl ≤ 20 := hM.1.2.2.2.2.2.2.2.1
  have hnb : nb ≤ 8 := hM.1.2.2.2.2.2.2.2.2.1
  have hby : ∀ x, x < nx → byN r x < nb := fun x hx => (hM.2.2 x hx).2.1
  obtain ⟨f1, f2, f3⟩ := hF
  generalize hfi : mRk r nB L B' k (nI 0) 8 0 = fi at *
  generalize hse : mRk r nB L B' k (nI 1) 8 0 = se at *
  generalize hbu : cif (mSold r nB L k fi) (g r (168 + fi.toNatClampNeg)) (-nI 5) = bu at *
  generalize hpr : cif (mSold r nB L k fi) (mPr r nB L k fi se) (nI 0) = pr at *
  -- rows below k
  have oL : ∀ l, l ≤ k → ∀ b, b < nb → g L' (8 * l + b) = g L (8 * l + b) := fun l hl b hb => hL1 _ (by omega)
  have oB : ∀ l, l < k → ∀ b, b < 8 → g B' (8 * l + b) = g B (8 * l + b) := fun l hl b hb => f3 _ (Or.inl (by omega))
  have oBu : ∀ j, j ≠ k → g (Bu.set k bu) j = g Bu j := fun j hj => g_sne (by omega) hj
  have oFi : ∀ j, j ≠ k → g (Fi.set k fi) j = g Fi j := fun j hj => g_sne (by omega) hj
  have hOB : ∀ l, l < k → ∀ b, b < 8 → isL r nb nx l (g B (8 * l + b)) := fun l hl b hb => by rw [s3 l hl b hb]; exact mBs_isL hM _ _ _ _ _
  have hOB' : ∀ b, b < 8 → isL r nb nx k (g B' (8 * k + b)) := fun b hb => by rw [f2 b hb]; exact mBs_isL hM _ _ _ _ _
  have hfiL : isL r nb nx k fi := by rw [← hfi]; exact mRk_isL hOB' 8 0 (by omega)
  have hseL : isL r nb nx k se := by rw [← hse]; exact mRk_isL hOB' 8 0 (by omega)
  have hFiL : ∀ l, l < k → isL r nb nx l (g Fi l) := fun l hl => by rw [s4 l hl]; exact mRk_isL (hOB l hl) 8 0 (by omega)
  have hSeL : ∀ l, l < k → isL r nb nx l (g Se l) := fun l hl => by rw [s5 l hl]; exact mRk_isL (hOB l hl) 8 0 (by omega)
  refine ⟨fun b hb => ?_, fun l hl b hb => ?_, fun l hl b hb => ?_, fun l hl => ?_, fun l hl => ?_, fun l hl => ?_, fun l hl => ?_, fun l hl => ?_⟩
  · rw [hL1 b (by omega)]; exact s1 b hb
  · rcases Nat.lt_or_ge l k with q | q
    · rw [hL1 _ (by omega), hL1 _ (by omega), oBu l (by omega), g_sne (by omega) (by omega)]
      exact s2 l q b hb
    · have : l = k := by omega
      subst this
      rw [hL2 b hb, hL1 _ (by omega)]
  · rcases Nat.lt_or_ge l k with q | q
    · rw [oB l q b hb, s3 l q b hb]
      exact (mBs_c hnx hby (oL l (by omega)) (fun j hj => oBu j (by omega)) (fun j hj => oFi j (by omega)) b nx (Nat.le_refl _)).symm
    · have : l = k := by omega
      subst this
      rw [f2 b hb]
      exact (mBs_c hnx hby (oL l (by omega)) (fun j hj => oBu j (by omega)) (fun j hj => oFi j (by omega)) b nx (Nat.le_refl _)).symm
  · rcases Nat.lt_or_ge l k with q | q
    · rw [oFi l (by omega), s4 l q]
      exact (mRk_c hnx (oL l (by omega)) (oB l q) (hOB l q) _ 8 0 (by omega)).symm
    · have : l = k := by omega
      subst this
      rw [g_seq (by omega), ← hfi]
      exact (mRk_c hnx (oL l (by omega)) (fun _ _ => rfl) hOB' _ 8 0 (by omega)).symm
  · rcases Nat.lt_or_ge l k with q | q
    · rw [g_sne (by omega) (by omega), s5 l q]
      exact (mRk_c hnx (oL l (by omega)) (oB l q) (hOB l q) _ 8 0 (by omega)).symm
    · have : l = k := by omega
      subst this
      rw [g_seq (by omega), ← hse]
      exact (mRk_c hnx (oL l (by omega)) (fun _ _ => rfl) hOB' _ 8 0 (by omega)).symm
  · rcases Nat.lt_or_ge l k with q | q
    · rw [g_sne (by omega) (by omega), s6 l q, mMn_c (oB l q) 8 0 (by omega)]
    · have : l = k := by omega
      subst this
      rw [g_seq (by omega)]
  · rcases Nat.lt_or_ge l k with q | q
    · rw [oBu l (by omega), oFi l (by omega), propext (mSold_c hnx (oL l (by omega)) (hFiL l q))]
      exact s7 l q
    · have : l = k := by omega
      subst this
      rw [g_seq (by omega), g_seq (by omega), propext (mSold_c hnx (oL l (by omega)) hfiL)]
      exact hbu.symm
  · rcases Nat.lt_or_ge l k with q | q
    · rw [g_sne (by omega) (by omega), oFi l (by omega), g_sne (l := Se) (by omega) (by omega), propext (mSold_c hnx (oL l (by omega)) (hFiL l q)), s8 l q]
      by_cases c : mSold r nB L l (g Fi l)
      · rw [cif_t c, cif_t c, mPr_c hnx (oL l (by omega)) (hFiL l q) c.1 (hSeL l q)]
      · rw [cif_f c, cif_f c]
    · have : l = k := by omega
      subst this
      rw [g_seq (by omega), g_seq (by omega), g_seq (by omega), propext (mSold_c hnx (oL l (by omega)) hfiL), ← hpr]
      by_cases c : mSold r nB L l fi
      · rw [cif_t c, cif_t c, mPr_c hnx (oL l (by omega)) hfiL c.1 hseL]
      · rw [cif_f c, cif_f c]
section M
variable {A : Nat → List Int32} {F : Nat → Int32} {P : Nat → Nat} {nB nl nb nx : Nat}
theorem l_Mod_hold1 (hM : Mwf (A 193) nB nl nb nx) : ∀ n b (L : List Int32), b + n = nb → L.length = 168 → (∀ j, j < b → g L j = g (A 193) (99 + j)) → ∃ L' : List Int32, L'.length = 168 ∧ (∀ j, j < nb → g L' j = g (A 193) (99 + j)) ∧ am_ev m_Mod_hold (2, [.ref 192, .int (nI b), .float 0], [], heap (up A 199 L) F P) = am_ev m_Mod_hold (33, [.ref 192, .int (nI 0), .float 0], [], heap (up A 199 L') F P) := by
  have bd : ∀ A'' : Nat → List Int32, A'' 193 = A 193 → am_cl m_Mod_bidders [.ref 192] (heap A'' F P) = some (some (.int (nI nb)), heap A'' F P) := by
    intro A'' g1
    exact s_Mod_bidders (A := A'') (nB := nB) (nl := nl) (nx := nx) (by rw [g1]; exact hM.1)
  obtain ⟨⟨h0, h1, h2, h3, h4, h5, h6, h7, h8, h9⟩, -, hb⟩ := hM
  intro n
  induction n with
  | zero =>
    intro b L hb hL hj
    refine ⟨L, hL, fun j h => hj j (by omega), ?_⟩
    have hle : nb ≤ b := by omega
    rw [b_Mod_hold_2]
    simp (maxSteps := 2000000) (disch := (first | omega | (simp (disch := omega) only [up_eq, up_ne, List.length_set] <;> omega))) only [ob_s, am_bi_s, am_bv_s, am_bl_s, ↓bif_d, lits, nI_addS, nI_mulS, nI_subS, nI_lt', nI_le', nI_eq', ↓rd_nI, ↓wrH, up_eq, up_ne, up_up, up_sw, List.set_set, g_seq, g_sne, Nat.reduceEqDiff, ↓reduceIte, List.length_set, Nat.add_sub_cancel_left, Nat.add_sub_cancel, ite_true, ite_false, if_true, if_false, not_true_eq_false, not_false_eq_true, Bool.and_true, Bool.true_and, true_or, or_true, false_or, or_false, and_true, true_and, and_false, false_and, Nat.not_lt_zero, hpRM, hpIM, hpFM, hpLM, hpSM, bd, hle]
  | succ n ih =>
    intro b L hb hL hj
    obtain ⟨L', q1, q2, q3⟩ := ih (b + 1) (L.set b (g (A 193) (99 + b))) (by omega) (by simp [hL]) (fun j h => by
      rw [g_set (by omega)]
      split
      · rename_i z; rw [z]
      · exact hj j (by omega))
    refine ⟨L', q1, q2, ?_⟩
    have hle : ¬ nb ≤ b := by omega
    rw [b_Mod_hold_2]
    simp (maxSteps := 2000000) (disch := (first | omega | (simp (disch := omega) only [up_eq, up_ne, List.length_set] <;> omega))) only [ob_s, am_bi_s, am_bv_s, am_bl_s, ↓bif_d, lits, nI_addS, nI_mulS, nI_subS, nI_lt', nI_le', nI_eq', ↓rd_nI, ↓wrH, up_eq, up_ne, up_up, up_sw, List.set_set, g_seq, g_sne, Nat.reduceEqDiff, ↓reduceIte, List.length_set, Nat.add_sub_cancel_left, Nat.add_sub_cancel, ite_true, ite_false, if_true, if_false, not_true_eq_false, not_false_eq_true, Bool.and_true, Bool.true_and, true_or, or_true, false_or, or_false, and_true, true_and, and_false, false_and, Nat.not_lt_zero, hpRM, hpIM, hpFM, hpLM, hpSM, bd, hle, q3]
theorem l_Mod_hold3 (hM : Mwf (A 193) nB nl nb nx) {l : Nat} (hl : l < nl) (hBu : (A 204).length = 20) (hPr : (A 205).length = 20) : ∀ n b (L : List Int32), b + n = nb → L.length = 168 → ∃ L' : List Int32, L'.length = 168 ∧ (∀ j, j < 8 * (l + 1) + b ∨ 8 * (l + 1) + nb ≤ j → g L' j = g L j) ∧ (∀ j, b ≤ j → j < nb → g L' (8 * (l + 1) + j) = g L (8 * l + j) - cif (g (A 204) l = nI j) (g (A 205) l) (nI 0)) ∧ am_ev m_Mod_hold (48, [.ref 192, .int (nI l), .int (nI b)], [], heap (up A 199 L) F P) = am_ev m_Mod_hold (33, [.ref 192, .int (nI (l + 1)), .int (nI nb)], [], heap (up A 199 L') F P) := by
  classical
  have bd : ∀ A'' : Nat → List Int32, A'' 193 = A 193 → am_cl m_Mod_bidders [.ref 192] (heap A'' F P) = some (some (.int (nI nb)), heap A'' F P) := by
    intro A'' g1
    exact s_Mod_bidders (A := A'') (nB := nB) (nl := nl) (nx := nx) (by rw [g1]; exact hM.1)
  obtain ⟨⟨h0, h1, h2, h3, h4, h5, h6, h7, h8, h9⟩, -, hb⟩ := hM
  intro n
  induction n with
  | zero =>
    intro b L hb hL
    have hbn : b = nb := by omega
    subst hbn
    refine ⟨L, hL, fun j h => rfl, fun j h1 h2 => by omega, ?_⟩
    have hle : b ≤ b := Nat.le_refl _
    rw [b_Mod_hold_48]
    simp (maxSteps := 2000000) (disch := (first | omega | (simp (disch := omega) only [up_eq, up_ne, List.length_set] <;> omega))) only [ob_s, am_bi_s, am_bv_s, am_bl_s, ↓bif_d, lits, nI_addS, nI_mulS, nI_subS, nI_lt', nI_le', nI_eq', ↓rd_nI, ↓wrH, up_eq, up_ne, up_up, up_sw, List.set_set, g_seq, g_sne, Nat.reduceEqDiff, ↓reduceIte, List.length_set, Nat.add_sub_cancel_left, Nat.add_sub_cancel, ite_true, ite_false, if_true, if_false, not_true_eq_false, not_false_eq_true, Bool.and_true, Bool.true_and, true_or, or_true, false_or, or_false, and_true, true_and, and_false, false_and, Nat.not_lt_zero, hpRM, hpIM, hpFM, hpLM, hpSM, bd, hle]
  | succ n ih =>
    intro b L hb hL
    obtain ⟨L', q1, q2, q3, q4⟩ := ih (b + 1) (L.set (8 * (l + 1) + b) (g L (8 * l + b) - cif (g (A 204) l = nI b) (g (A 205) l) (nI 0))) (by omega) (by simp [hL])
    have hle : ¬ nb ≤ b := by omega
    refine ⟨L', q1, fun j hj => ?_, fun j h1 h2 => ?_, ?_⟩
    · rw [q2 j (by omega), g_sne (by omega) (by omega)]
    · rcases Nat.eq_or_lt_of_le h1 with z | z
      · subst z
        rw [q2 _ (by omega), g_seq (by omega)]
      · rw [q3 j (by omega) h2, g_sne (by omega) (by omega)]
    · rw [b_Mod_hold_48]
      by_cases c : g (A 204) l = nI b
      · rw [cif_t c] at q4
        simp (maxSteps := 2000000) (disch := (first | omega | (simp (disch := omega) only [up_eq, up_ne, List.length_set] <;> omega))) only [ob_s, am_bi_s, am_bv_s, am_bl_s, ↓bif_d, lits, nI_addS, nI_mulS, nI_subS, nI_lt', nI_le', nI_eq', ↓rd_nI, ↓wrH, up_eq, up_ne, up_up, up_sw, List.set_set, g_seq, g_sne, Nat.reduceEqDiff, ↓reduceIte, List.length_set, Nat.add_sub_cancel_left, Nat.add_sub_cancel, ite_true, ite_false, if_true, if_false, not_true_eq_false, not_false_eq_true, Bool.and_true, Bool.true_and, true_or, or_true, false_or, or_false, and_true, true_and, and_false, false_and, Nat.not_lt_zero, hpRM, hpIM, hpFM, hpLM, hpSM, bd, hle, c, q4]
      · rw [cif_f c] at q4
        simp (maxSteps := 2000000) (disch := (first | omega | (simp (disch := omega) only [up_eq, up_ne, List.length_set] <;> omega))) only [ob_s, am_bi_s, am_bv_s, am_bl_s, ↓bif_d, lits, nI_addS, nI_mulS, nI_subS, nI_lt', nI_le', nI_eq', ↓rd_nI, ↓wrH, up_eq, up_ne, up_up, up_sw, List.set_set, g_seq, g_sne, Nat.reduceEqDiff, ↓reduceIte, List.length_set, Nat.add_sub_cancel_left, Nat.add_sub_cancel, ite_true, ite_false, if_true, if_false, not_true_eq_false, not_false_eq_true, Bool.and_true, Bool.true_and, true_or, or_true, false_or, or_false, and_true, true_and, and_false, false_and, Nat.not_lt_zero, hpRM, hpIM, hpFM, hpLM, hpSM, bd, hle, c, q4]
theorem l_Mod_hold2 (hM : Mwf (A 193) nB nl nb nx) : ∀ n k (L B Fi Se Mn Bu Pr : List Int32) (u : Value), k + n = nl → SaL L B Fi Se Mn Bu Pr → SaI (A 193) nB nl nb nx L B Fi Se Mn Bu Pr k → ∃ L' B' Fi' Se' Mn' Bu' Pr' : List Int32, SaL L' B' Fi' Se' Mn' Bu' Pr' ∧ SaI (A 193) nB nl nb nx L' B' Fi' Se' Mn' Bu' Pr' nl ∧ am_ev m_Mod_hold (33, [.ref 192, .int (nI k), u], [], heap (up7 A L B Fi Se Mn Bu Pr) F P) = some (none, heap (up7 A L' B' Fi' Se' Mn' Bu' Pr') F P) := by
  have lt : ∀ A'' : Nat → List Int32, A'' 193 = A 193 → am_cl m_Mod_lots [.ref 192] (heap A'' F P) = some (some (.int (nI nl)), heap A'' F P) := by
    intro A'' g1
    exact s_Mod_lots (A := A'') (nB := nB) (nb := nb) (nx := nx) (by rw [g1]; exact hM.1)
  have hM' := hM
  obtain ⟨⟨h0, h1, h2, h3, h4, h5, h6, h7, h8, h9⟩, -, hb⟩ := hM
  intro n
  induction n with
  | zero =>
    intro k L B Fi Se Mn Bu Pr u hk hLn hS
    have hkn : k = nl := by omega
    subst hkn
    refine ⟨L, B, Fi, Se, Mn, Bu, Pr, hLn, hS, ?_⟩
    rw [b_Mod_hold_33]
    unfold up7
    simp (maxSteps := 2000000) (disch := (first | omega | (simp (disch := omega) only [up_eq, up_ne, List.length_set] <;> omega))) only [ob_s, am_bi_s, am_bv_s, am_bl_s, ↓bif_d, lits, nI_addS, nI_mulS, nI_subS, nI_lt', nI_le', nI_eq', ↓rd_nI, ↓wrH, up_eq, up_ne, up_up, up_sw, List.set_set, g_seq, g_sne, Nat.reduceEqDiff, ↓reduceIte, List.length_set, Nat.add_sub_cancel_left, Nat.add_sub_cancel, ite_true, ite_false, if_true, if_false, not_true_eq_false, not_false_eq_true, Bool.and_true, Bool.true_and, true_or, or_true, false_or, or_false, and_true, true_and, and_false, false_and, Nat.not_lt_zero, hpRM, hpIM, hpFM, hpLM, hpSM, lt, Nat.le_refl]
  | succ n ih =>
    intro k L B Fi Se Mn Bu Pr u hk hLn hS
    obtain ⟨n1, n2, n3, n4, n5, n6, n7⟩ := id hLn
    obtain ⟨s1, s2, s3, s4, s5, s6, s7, s8⟩ := id hS
    have hOB : ∀ l, l < k → ∀ b, b < 8 → isL (A 193) nb nx l (g B (8 * l + b)) := fun l hl b hb => by rw [s3 l hl b hb]; exact mBs_isL hM' _ _ _ _ _
    have hFiL : ∀ l, l < k → isL (A 193) nb nx l (g Fi l) := fun l hl => by rw [s4 l hl]; exact mRk_isL (hOB l hl) 8 0 (by omega)
    have hrr : ∀ j, j < k → isB (g Bu j) nb ∧ (¬ g Bu j = -nI 5 → ∃ f, f < nx ∧ g Fi j = nI f) := by
      intro j hj
      rw [s7 j hj]
      by_cases c : mSold (A 193) nB L j (g Fi j)
      · rw [cif_t c]
        rcases hFiL j hj with q | ⟨y, q1, q2, q3, q4⟩
        · exact absurd (by rw [q]; decide) c.1
        · rw [q2, nI_clamp (by omega), (hM'.2.2 y q1).2.2]
          exact ⟨Or.inr ⟨_, q4, rfl⟩, fun _ => ⟨y, q1, rfl⟩⟩
      · rw [cif_f c]
        exact ⟨Or.inl rfl, fun z => absurd rfl z⟩
    obtain ⟨B', hFb, hcall⟩ := s_Mod_sell (A := up7 A L B Fi Se Mn Bu Pr) (F := F) (P := P) (nB := nB) (nl := nl) (nb := nb) (nx := nx) hM' n1 n2 n3 n4 n5 n6 n7 (l := k) (by omega) hrr
    have hcall : am_cl m_Mod_sell [.ref 192, .int (nI k)] (heap (up7 A L B Fi Se Mn Bu Pr) F P) = some (none, heap (up (up (up (up (up (up (up7 A L B Fi Se Mn Bu Pr) 200 B') 201 (Fi.set k (mRk (A 193) nB L B' k (nI 0) 8 0))) 202 (Se.set k (mRk (A 193) nB L B' k (nI 1) 8 0))) 203 (Mn.set k (nI (mMn B' k 8 0)))) 204 (Bu.set k (cif (mSold (A 193) nB L k (mRk (A 193) nB L B' k (nI 0) 8 0)) (g (A 193) (168 + (mRk (A 193) nB L B' k (nI 0) 8 0).toNatClampNeg)) (-nI 5)))) 205 (Pr.set k (cif (mSold (A 193) nB L k (mRk (A 193) nB L B' k (nI 0) 8 0)) (mPr (A 193) nB L k (mRk (A 193) nB L B' k (nI 0) 8 0) (mRk (A 193) nB L B' k (nI 1) 8 0)) (nI 0)))) F P) := hcall
    have hFb : FbI (A 193) nB L Bu Fi B B' k nx := hFb
    generalize hfi : Fi.set k (mRk (A 193) nB L B' k (nI 0) 8 0) = Fi' at hcall
    generalize hse : Se.set k (mRk (A 193) nB L B' k (nI 1) 8 0) = Se' at hcall
    generalize hmn : Mn.set k (nI (mMn B' k 8 0)) = Mn' at hcall
    generalize hbu : Bu.set k (cif (mSold (A 193) nB L k (mRk (A 193) nB L B' k (nI 0) 8 0)) (g (A 193) (168 + (mRk (A 193) nB L B' k (nI 0) 8 0).toNatClampNeg)) (-nI 5)) = Bu' at hcall
    generalize hpr : Pr.set k (cif (mSold (A 193) nB L k (mRk (A 193) nB L B' k (nI 0) 8 0)) (mPr (A 193) nB L k (mRk (A 193) nB L B' k (nI 0) 8 0) (mRk (A 193) nB L B' k (nI 1) 8 0)) (nI 0)) = Pr' at hcall
    have hBul : Bu'.length = 20 := by rw [← hbu, List.length_set]; exact n6
    have hPrl : Pr'.length = 20 := by rw [← hpr, List.length_set]; exact n7
    obtain ⟨L', q1, q2, q3, q4⟩ := l_Mod_hold3 (A := up7 A L B' Fi' Se' Mn' Bu' Pr') (F := F) (P := P) (nB := nB) (nl := nl) (nb := nb) (nx := nx) hM' (l := k) (by omega) hBul hPrl nb 0 L (by omega) n1
    have hSaL : SaL L' B' Fi' Se' Mn' Bu' Pr' := ⟨q1, hFb.1, by rw [← hfi, List.length_set]; exact n3, by rw [← hse, List.length_set]; exact n4, by rw [← hmn, List.length_set]; exact n5, hBul, hPrl⟩
    have q3 : ∀ j, 0 ≤ j → j < nb → g L' (8 * (k + 1) + j) = g L (8 * k + j) - cif (g Bu' k = nI j) (g Pr' k) (nI 0) := q3
    have hSuc : SaI (A 193) nB nl nb nx L' B' Fi' Se' Mn' Bu' Pr' (k + 1) := by
      rw [← hfi, ← hse, ← hmn, ← hbu, ← hpr]
      refine SaI_succ hM' (by omega) hS hLn hFb q1 (fun j hj => q2 j (Or.inl (by omega))) (fun b hb => ?_)
      rw [hbu, hpr]
      exact q3 b (Nat.zero_le _) hb
    obtain ⟨L2, B2, Fi2, Se2, Mn2, Bu2, Pr2, r1, r2, r3⟩ := ih (k + 1) L' B' Fi' Se' Mn' Bu' Pr' (.int (nI nb)) (by omega) hSaL hSuc
    refine ⟨L2, B2, Fi2, Se2, Mn2, Bu2, Pr2, r1, r2, ?_⟩
    have hle : ¬ nl ≤ k := by omega
    rw [← r3, b_Mod_hold_33]
    unfold up7 at hcall q4 ⊢
    simp (disch := omega) only [up_up, up_sw] at hcall q4 ⊢
    simp (maxSteps := 2000000) (disch := (first | omega | (simp (disch := omega) only [up_eq, up_ne, List.length_set] <;> omega))) only [ob_s, am_bi_s, am_bv_s, am_bl_s, ↓bif_d, lits, nI_addS, nI_mulS, nI_subS, nI_lt', nI_le', nI_eq', ↓rd_nI, ↓wrH, up_eq, up_ne, up_up, up_sw, List.set_set, g_seq, g_sne, Nat.reduceEqDiff, ↓reduceIte, List.length_set, Nat.add_sub_cancel_left, Nat.add_sub_cancel, ite_true, ite_false, if_true, if_false, not_true_eq_false, not_false_eq_true, Bool.and_true, Bool.true_and, true_or, or_true, false_or, or_false, and_true, true_and, and_false, false_and, Nat.not_lt_zero, hpRM, hpIM, hpFM, hpLM, hpSM, lt, hle, hcall, q4]
theorem s_Mod_hold (hM : Mwf (A 193) nB nl nb nx) (hLn : SaL (A 199) (A 200) (A 201) (A 202) (A 203) (A 204) (A 205)) : ∃ L B Fi Se Mn Bu Pr : List Int32, SaL L B Fi Se Mn Bu Pr ∧ SaI (A 193) nB nl nb nx L B Fi Se Mn Bu Pr nl ∧ am_cl m_Mod_hold [.ref 192] (heap A F P) = some (none, heap (up7 A L B Fi Se Mn Bu Pr) F P) := by
  obtain ⟨n1, n2, n3, n4, n5, n6, n7⟩ := hLn
  obtain ⟨L1, q1, q2, q3⟩ := l_Mod_hold1 (F := F) (P := P) hM nb 0 (A 199) (by omega) n1 (fun j h => by omega)
  obtain ⟨L, B, Fi, Se, Mn, Bu, Pr, r1, r2, r3⟩ := l_Mod_hold2 (F := F) (P := P) hM nl 0 L1 (A 200) (A 201) (A 202) (A 203) (A 204) (A 205) (.float 0) (by omega) ⟨q1, n2, n3, n4, n5, n6, n7⟩ ⟨fun b hb => q2 b hb, fun l hl => by omega, fun l hl => by omega, fun l hl => by omega, fun l hl => by omega, fun l hl => by omega, fun l hl => by omega, fun l hl => by omega⟩
  refine ⟨L, B, Fi, Se, Mn, Bu, Pr, r1, r2, ?_⟩
  rw [up_id] at q3
  rw [e_Mod_hold 192 _ rfl]
  simp only [lits]
  rw [q3, ← r3]
  have e : up7 A L1 (A 200) (A 201) (A 202) (A 203) (A 204) (A 205) = up A 199 L1 := by
    unfold up7
    funext j
    unfold up
    split
    · rename_i z; rw [z]; rfl
    · split
      · rename_i z; rw [z]; rfl
      · split
        · rename_i z; rw [z]; rfl
        · split
          · rename_i z; rw [z]; rfl
          · split
            · rename_i z; rw [z]; rfl
            · split
              · rename_i z; rw [z]; rfl
              · rfl
  rw [e]
end M
