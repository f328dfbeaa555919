/-! THE BIDS OF A LETTER, the reference's -/
section X
variable {B : Nat → List Int32} {G : Nat → Int32} {P : Nat → Nat} {nB nl nb nx : Nat}
theorem m_grp65 (hM : Mok (B 193) nB nl nb nx) {b : Nat} (hb : b < 8) (v : Int32) (hg : ∀ y, y < nx → ∃ k, k ≤ 1200000 ∧ g (B 193) (348 + y) = nI k) : ∀ n x m, x + n = nx → MaxOf (fun y => y < x ∧ g (B 193) (168 + y) = nI b) (fun y => g (B 193) (348 + y)) 0 m → ∃ m', MaxOf (fun y => y < nx ∧ g (B 193) (168 + y) = nI b) (fun y => g (B 193) (348 + y)) 0 m' ∧ am_ev m_Mod_letter (65, [.ref 192, .int (nI b), .int v, .int (nI m), .int (nI x), .float 0], [], heap B G P) = am_ev m_Mod_letter (118, [.ref 192, .int (nI b), .int v, .int (nI m'), .int (nI 0), .float 0], [], heap B G P) := by
  have hbd := s_Mod_bids (F := G) (P := P) hM
  obtain ⟨h0, h1, h2, h3, h4, h5, h6, h7, h8, h9⟩ := hM
  intro n
  induction n with
  | zero =>
    intro x m hx hm
    have e : x = nx := by omega
    subst e
    have hle : x ≤ x := Nat.le_refl _
    refine ⟨m, hm, ?_⟩
    rw [b_Mod_letter_65]
    simp (maxSteps := 2000000) (disch := (first | omega | (simp (disch := omega) only [up_eq, up_ne, cpA_o, cpF_o, List.length_set] <;> omega) | fail)) only [ob_s, am_bi_s, am_bv_s, am_bl_s, ↓bif_d, lits, nI_addS, nI_mulS, nI_subS, nI_lt', nI_le', nI_eq', ↓rd_nI, ↓wrH, up_eq, up_ne, up_up, up_sw, List.set_set, g_seq, g_sne, Nat.reduceEqDiff, ↓reduceIte, List.length_set, Nat.add_sub_cancel_left, Nat.add_sub_cancel, ite_true, ite_false, if_true, if_false, not_true_eq_false, not_false_eq_true, Bool.and_true, Bool.true_and, true_or, or_true, false_or, or_false, and_true, true_and, and_false, false_and, Nat.not_lt_zero, hpRM, hpIM, hpFM, hpLM, hpSM, hbd, hle]
  | succ n ih =>
    intro x m hx hm
    have hle : ¬ nx ≤ x := by omega
    have hm12 := hm.1
    rw [b_Mod_letter_65]
    by_cases c : g (B 193) (168 + x) = nI b
    · obtain ⟨k, k1, k2⟩ := hg x (by omega)
      have hgr : ∀ h, am_cl m_Mod_greater [.int (nI m), .int (nI k)] h = some (some (.int (nI (if m < k then k else m))), h) := by
        intro h
        rw [s_Mod_greater, max_eq, am_max_N (by omega) (by omega)]
      obtain ⟨m', q1, q2⟩ := ih (x + 1) (if m < k then k else m) (by omega) (MaxOf_step hm k1 k2 (fun z => ⟨fun ⟨z1, z2⟩ => by
        by_cases d : z = x
        · exact Or.inr d
        · exact Or.inl ⟨by omega, z2⟩, fun w => w.elim (fun w => ⟨by omega, w.2⟩) (fun w => by rw [w]; exact ⟨by omega, c⟩)⟩))
      refine ⟨m', q1, ?_⟩
      simp (maxSteps := 2000000) (disch := (first | omega | (simp (disch := omega) only [up_eq, up_ne, cpA_o, cpF_o, List.length_set] <;> omega) | fail)) only [ob_s, am_bi_s, am_bv_s, am_bl_s, ↓bif_d, lits, nI_addS, nI_mulS, nI_subS, nI_lt', nI_le', nI_eq', ↓rd_nI, ↓wrH, up_eq, up_ne, up_up, up_sw, List.set_set, g_seq, g_sne, Nat.reduceEqDiff, ↓reduceIte, List.length_set, Nat.add_sub_cancel_left, Nat.add_sub_cancel, ite_true, ite_false, if_true, if_false, not_true_eq_false, not_false_eq_true, Bool.and_true, Bool.true_and, true_or, or_true, false_or, or_false, and_true, true_and, and_false, false_and, Nat.not_lt_zero, hpRM, hpIM, hpFM, hpLM, hpSM, hbd, hle, c, k2, hgr, q2]
    · obtain ⟨m', q1, q2⟩ := ih (x + 1) m (by omega) (MaxOf_c hm (fun z => ⟨fun ⟨z1, z2⟩ => ⟨by omega, z2⟩, fun ⟨z1, z2⟩ => by
        by_cases d : z = x
        · rw [d] at z2; exact absurd z2 c
        · exact ⟨by omega, z2⟩⟩))
      refine ⟨m', q1, ?_⟩
      simp (maxSteps := 2000000) (disch := (first | omega | (simp (disch := omega) only [up_eq, up_ne, cpA_o, cpF_o, List.length_set] <;> omega) | fail)) only [ob_s, am_bi_s, am_bv_s, am_bl_s, ↓bif_d, lits, nI_addS, nI_mulS, nI_subS, nI_lt', nI_le', nI_eq', ↓rd_nI, ↓wrH, up_eq, up_ne, up_up, up_sw, List.set_set, g_seq, g_sne, Nat.reduceEqDiff, ↓reduceIte, List.length_set, Nat.add_sub_cancel_left, Nat.add_sub_cancel, ite_true, ite_false, if_true, if_false, not_true_eq_false, not_false_eq_true, Bool.and_true, Bool.true_and, true_or, or_true, false_or, or_false, and_true, true_and, and_false, false_and, Nat.not_lt_zero, hpRM, hpIM, hpFM, hpLM, hpSM, hbd, hle, c, q2]
theorem m_has4 {K j : Nat} {wf : Nat → Nat} (hK : K ≤ 20) (hj : j < K) (h7 : G 19207 = nI K) (l : (B 198).length = 40) (hw : ∀ j, j < K → g (B 198) j = nI (wf j) ∧ wf j ≤ 20) : ∀ n o (is : Bool), o + n = K → am_ev m_Mod_hasOthers (4, [.ref 192, .int (nI j), .int (if is then nI 1 else nI 0), .int (nI o)], [], heap B G P) = some (some (.int (b01 (is = true ∨ ∃ o', o ≤ o' ∧ o' < K ∧ ¬ o' = j ∧ wf o' = wf j))), heap B G P) := by
  intro n
  induction n with
  | zero =>
    intro o is ho
    have hle : K ≤ o := by omega
    have hno : ¬ ∃ o', o ≤ o' ∧ o' < K ∧ ¬ o' = j ∧ wf o' = wf j := by
      rintro ⟨o', z1, z2, -⟩; omega
    rw [b_Mod_hasOthers_4]
    cases is
    · rw [b01_f (by rintro (z | z); cases z; exact hno z)]
      simp (maxSteps := 2000000) (disch := (first | omega | (simp (disch := omega) only [up_eq, up_ne, cpA_o, cpF_o, List.length_set] <;> omega) | fail)) only [ob_s, am_bi_s, am_bv_s, am_bl_s, ↓bif_d, lits, nI_addS, nI_mulS, nI_subS, nI_lt', nI_le', nI_eq', ↓rd_nI, ↓wrH, up_eq, up_ne, up_up, up_sw, List.set_set, g_seq, g_sne, Nat.reduceEqDiff, ↓reduceIte, List.length_set, Nat.add_sub_cancel_left, Nat.add_sub_cancel, ite_true, ite_false, if_true, if_false, not_true_eq_false, not_false_eq_true, Bool.and_true, Bool.true_and, true_or, or_true, false_or, or_false, and_true, true_and, and_false, false_and, Nat.not_lt_zero, hpRM, hpIM, hpFM, hpLM, hpSM, h7, hle, am_bz_0, Bool.false_eq_true, reduceCtorEq]
    · rw [b01_t (Or.inl rfl)]
      simp (maxSteps := 2000000) (disch := (first | omega | (simp (disch := omega) only [up_eq, up_ne, cpA_o, cpF_o, List.length_set] <;> omega) | fail)) only [ob_s, am_bi_s, am_bv_s, am_bl_s, ↓bif_d, lits, nI_addS, nI_mulS, nI_subS, nI_lt', nI_le', nI_eq', ↓rd_nI, ↓wrH, up_eq, up_ne, up_up, up_sw, List.set_set, g_seq, g_sne, Nat.reduceEqDiff, ↓reduceIte, List.length_set, Nat.add_sub_cancel_left, Nat.add_sub_cancel, ite_true, ite_false, if_true, if_false, not_true_eq_false, not_false_eq_true, Bool.and_true, Bool.true_and, true_or, or_true, false_or, or_false, and_true, true_and, and_false, false_and, Nat.not_lt_zero, hpRM, hpIM, hpFM, hpLM, hpSM, h7, hle, am_bz_1]
  | succ n ih =>
    intro o is ho
    have hle : ¬ K ≤ o := by omega
    have hsplit : (∃ o', o ≤ o' ∧ o' < K ∧ ¬ o' = j ∧ wf o' = wf j) ↔ ((¬ o = j ∧ wf o = wf j) ∨ ∃ o', o + 1 ≤ o' ∧ o' < K ∧ ¬ o' = j ∧ wf o' = wf j) := by
      constructor
      · rintro ⟨o', z1, z2, z3⟩
        rcases Nat.eq_or_lt_of_le z1 with z | z
        · subst z; exact Or.inl z3
        · exact Or.inr ⟨o', z, z2, z3⟩
      · rintro (z | ⟨o', z1, z2, z3⟩)
        · exact ⟨o, Nat.le_refl _, by omega, z⟩
        · exact ⟨o', by omega, z2, z3⟩
    have e1 := ih (o + 1) true (by omega)
    have e0 := ih (o + 1) false (by omega)
    simp only [if_true, Bool.false_eq_true, if_false, true_or, false_or] at e1 e0
    rw [b_Mod_hasOthers_4]
    obtain ⟨w1, w2⟩ := hw o (by omega)
    obtain ⟨w3, w4⟩ := hw j hj
    have n10 : ¬ nI 1 = nI 0 := by decide
    cases is
    · by_cases c : o = j
      · rw [b01_c (show (false = true ∨ ∃ o', o ≤ o' ∧ o' < K ∧ ¬ o' = j ∧ wf o' = wf j) ↔ (∃ o', o + 1 ≤ o' ∧ o' < K ∧ ¬ o' = j ∧ wf o' = wf j) from ⟨fun z => (hsplit.mp (z.resolve_left (fun w => by cases w))).resolve_left (fun w => w.1 c), fun z => Or.inr (hsplit.mpr (Or.inr z))⟩)]
        subst c
        simp (maxSteps := 2000000) (disch := (first | omega | (simp (disch := omega) only [up_eq, up_ne, cpA_o, cpF_o, List.length_set] <;> omega) | fail)) only [ob_s, am_bi_s, am_bv_s, am_bl_s, ↓bif_d, lits, nI_addS, nI_mulS, nI_subS, nI_lt', nI_le', nI_eq', ↓rd_nI, ↓wrH, up_eq, up_ne, up_up, up_sw, List.set_set, g_seq, g_sne, Nat.reduceEqDiff, ↓reduceIte, List.length_set, Nat.add_sub_cancel_left, Nat.add_sub_cancel, ite_true, ite_false, if_true, if_false, not_true_eq_false, not_false_eq_true, Bool.and_true, Bool.true_and, true_or, or_true, false_or, or_false, and_true, true_and, and_false, false_and, Nat.not_lt_zero, hpRM, hpIM, hpFM, hpLM, hpSM, h7, hle, Bool.false_eq_true, reduceCtorEq, e0]
      · by_cases d : wf o = wf j
        · rw [b01_t (Or.inr (hsplit.mpr (Or.inl ⟨c, d⟩)))]
          rw [b01_t trivial] at e1
          simp (maxSteps := 2000000) (disch := (first | omega | (simp (disch := omega) only [up_eq, up_ne, cpA_o, cpF_o, List.length_set] <;> omega) | fail)) only [ob_s, am_bi_s, am_bv_s, am_bl_s, ↓bif_d, lits, nI_addS, nI_mulS, nI_subS, nI_lt', nI_le', nI_eq', ↓rd_nI, ↓wrH, up_eq, up_ne, up_up, up_sw, List.set_set, g_seq, g_sne, Nat.reduceEqDiff, ↓reduceIte, List.length_set, Nat.add_sub_cancel_left, Nat.add_sub_cancel, ite_true, ite_false, if_true, if_false, not_true_eq_false, not_false_eq_true, Bool.and_true, Bool.true_and, true_or, or_true, false_or, or_false, and_true, true_and, and_false, false_and, Nat.not_lt_zero, hpRM, hpIM, hpFM, hpLM, hpSM, h7, hle, c, w1, w3, d, Bool.false_eq_true, reduceCtorEq, e1]
        · rw [b01_c (show (false = true ∨ ∃ o', o ≤ o' ∧ o' < K ∧ ¬ o' = j ∧ wf o' = wf j) ↔ (∃ o', o + 1 ≤ o' ∧ o' < K ∧ ¬ o' = j ∧ wf o' = wf j) from ⟨fun z => (hsplit.mp (z.resolve_left (fun w => by cases w))).resolve_left (fun w => d w.2), fun z => Or.inr (hsplit.mpr (Or.inr z))⟩)]
          simp (maxSteps := 2000000) (disch := (first | omega | (simp (disch := omega) only [up_eq, up_ne, cpA_o, cpF_o, List.length_set] <;> omega) | fail)) only [ob_s, am_bi_s, am_bv_s, am_bl_s, ↓bif_d, lits, nI_addS, nI_mulS, nI_subS, nI_lt', nI_le', nI_eq', ↓rd_nI, ↓wrH, up_eq, up_ne, up_up, up_sw, List.set_set, g_seq, g_sne, Nat.reduceEqDiff, ↓reduceIte, List.length_set, Nat.add_sub_cancel_left, Nat.add_sub_cancel, ite_true, ite_false, if_true, if_false, not_true_eq_false, not_false_eq_true, Bool.and_true, Bool.true_and, true_or, or_true, false_or, or_false, and_true, true_and, and_false, false_and, Nat.not_lt_zero, hpRM, hpIM, hpFM, hpLM, hpSM, h7, hle, c, w1, w3, d, Bool.false_eq_true, reduceCtorEq, e0]
    · rw [b01_t (Or.inl rfl)]
      rw [b01_t trivial] at e1
      simp (maxSteps := 2000000) (disch := (first | omega | (simp (disch := omega) only [up_eq, up_ne, cpA_o, cpF_o, List.length_set] <;> omega) | fail)) only [ob_s, am_bi_s, am_bv_s, am_bl_s, ↓bif_d, lits, nI_addS, nI_mulS, nI_subS, nI_lt', nI_le', nI_eq', ↓rd_nI, ↓wrH, up_eq, up_ne, up_up, up_sw, List.set_set, g_seq, g_sne, Nat.reduceEqDiff, ↓reduceIte, List.length_set, Nat.add_sub_cancel_left, Nat.add_sub_cancel, ite_true, ite_false, if_true, if_false, not_true_eq_false, not_false_eq_true, Bool.and_true, Bool.true_and, true_or, or_true, false_or, or_false, and_true, true_and, and_false, false_and, Nat.not_lt_zero, hpRM, hpIM, hpFM, hpLM, hpSM, h7, hle, n10, e1]
theorem m_has {K j : Nat} {wf : Nat → Nat} (hK : K ≤ 20) (hj : j < K) (h7 : G 19207 = nI K) (l : (B 198).length = 40) (hw : ∀ j, j < K → g (B 198) j = nI (wf j) ∧ wf j ≤ 20) (hmo : ∀ i j, i ≤ j → j < K → wf i ≤ wf j) : am_cl m_Mod_hasOthers [.ref 192, .int (nI j)] (heap B G P) = some (some (.int (b01 (prv wf j ∨ one wf K j))), heap B G P) := by
  have h := m_has4 (P := P) hK hj h7 l hw K 0 false (by omega)
  simp only [Bool.false_eq_true, if_false, false_or] at h
  have e : (∃ o', 0 ≤ o' ∧ o' < K ∧ ¬ o' = j ∧ wf o' = wf j) ↔ (prv wf j ∨ one wf K j) := by
    constructor
    · rintro ⟨o, z1, z2, z3, z4⟩
      rcases Nat.lt_or_ge o j with c | c
      · have a1 := hmo o (j - 1) (by omega) (by omega)
        have a2 := hmo (j - 1) j (by omega) hj
        exact Or.inl ⟨by omega, by omega⟩
      · have a1 := hmo j (j + 1) (by omega) (by omega)
        have a2 := hmo (j + 1) o (by omega) z2
        exact Or.inr ⟨by omega, by omega⟩
    · rintro (⟨z1, z2⟩ | ⟨z1, z2⟩)
      · exact ⟨j - 1, Nat.zero_le _, by omega, by omega, z2⟩
      · exact ⟨j + 1, Nat.zero_le _, z1, by omega, z2.symm⟩
  rw [b01_c e] at h
  rw [e_Mod_hasOthers 192 _ _ rfl]
  simp only [lits]
  exact h
theorem m_put {N : Nat} (hM : Mok (B 193) nB nl nb N) (hN : N < 60) (b l a v gr : Int32) : am_cl m_Mod_putBid [.ref 192, .int b, .int l, .int a, .int v, .int gr] (heap B G P) = some (none, heap (up B 193 (((((((B 193).set (108 + N) l).set (168 + N) b).set (228 + N) a).set (288 + N) v).set (348 + N) gr).set (408 + N) (nI 0) |>.set 107 (nI (N + 1)))) G P) := by
  have hbd := s_Mod_bids (F := G) (P := P) hM
  obtain ⟨h0, h1, h2, h3, h4, h5, h6, h7, h8, h9⟩ := hM
  rw [e_Mod_putBid 192 _ _ _ _ _ _ rfl]
  simp (maxSteps := 2000000) (disch := (first | omega | (simp (disch := omega) only [up_eq, up_ne, cpA_o, cpF_o, List.length_set] <;> omega) | fail)) only [ob_s, am_bi_s, am_bv_s, am_bl_s, ↓bif_d, lits, nI_addS, nI_mulS, nI_subS, nI_lt', nI_le', nI_eq', ↓rd_nI, ↓wrH, up_eq, up_ne, up_up, up_sw, List.set_set, g_seq, g_sne, Nat.reduceEqDiff, ↓reduceIte, List.length_set, Nat.add_sub_cancel_left, Nat.add_sub_cancel, ite_true, ite_false, if_true, if_false, not_true_eq_false, not_false_eq_true, Bool.and_true, Bool.true_and, true_or, or_true, false_or, or_false, and_true, true_and, and_false, false_and, Nat.not_lt_zero, hpRM, hpIM, hpFM, hpLM, hpSM, hbd, h4]
/-- the reference's bids of a letter -/
theorem m_bids {b K G0 : Nat} {v : Int32} {lf af wf : Nat → Nat} (hK : K ≤ 20) (hnK : nx + K ≤ 60) (hG0 : G0 ≤ 1100000) (h7 : G 19207 = nI K) (hmo : ∀ i j, i ≤ j → j < K → wf i ≤ wf j) : ∀ n j (B : Nat → List Int32) (u5 : Value), j + n = K → Mok (B 193) nB nl nb (nx + j) → ((B 196).length = 40 ∧ (B 197).length = 40 ∧ (B 198).length = 40) → (∀ j, j < K → g (B 196) j = nI (lf j) ∧ g (B 197) j = nI (af j) ∧ g (B 198) j = nI (wf j) ∧ wf j ≤ 20) →
    ∃ R', Mok R' nB nl nb (nx + K) ∧ (∀ i, (i < 107 ∨ 468 ≤ i) → g R' i = g (B 193) i) ∧
      (∀ x, x < nx + j → g R' (108 + x) = g (B 193) (108 + x) ∧ g R' (168 + x) = g (B 193) (168 + x) ∧ g R' (228 + x) = g (B 193) (228 + x) ∧ g R' (288 + x) = g (B 193) (288 + x) ∧ g R' (348 + x) = g (B 193) (348 + x) ∧ g R' (408 + x) = g (B 193) (408 + x)) ∧
      (∀ m, j ≤ m → m < K → g R' (108 + (nx + m)) = nI (lf m) ∧ g R' (168 + (nx + m)) = nI b ∧ g R' (228 + (nx + m)) = nI (af m) ∧ g R' (288 + (nx + m)) = v ∧ g R' (348 + (nx + m)) = nI (grp wf K G0 m) ∧ g R' (408 + (nx + m)) = nI 0) ∧
      am_ev m_Mod_letter (118, [.ref 192, .int (nI b), .int v, .int (nI (Gm wf K G0 j)), .int (nI j), u5], [], heap B G P) = some (some (.int (nI K)), heap (up B 193 R') G P) := by
  classical
  intro n
  induction n with
  | zero =>
    intro j B u5 hj hM hl hr
    have hle : K ≤ j := by omega
    have e : j = K := by omega
    refine ⟨B 193, by rw [← e]; exact hM, fun _ _ => rfl, fun x hx => ⟨rfl, rfl, rfl, rfl, rfl, rfl⟩, fun m z1 z2 => by omega, ?_⟩
    rw [up_id, b_Mod_letter_118]
    simp (maxSteps := 2000000) (disch := (first | omega | (simp (disch := omega) only [up_eq, up_ne, cpA_o, cpF_o, List.length_set] <;> omega) | fail)) only [ob_s, am_bi_s, am_bv_s, am_bl_s, ↓bif_d, lits, nI_addS, nI_mulS, nI_subS, nI_lt', nI_le', nI_eq', ↓rd_nI, ↓wrH, up_eq, up_ne, up_up, up_sw, List.set_set, g_seq, g_sne, Nat.reduceEqDiff, ↓reduceIte, List.length_set, Nat.add_sub_cancel_left, Nat.add_sub_cancel, ite_true, ite_false, if_true, if_false, not_true_eq_false, not_false_eq_true, Bool.and_true, Bool.true_and, true_or, or_true, false_or, or_false, and_true, true_and, and_false, false_and, Nat.not_lt_zero, hpRM, hpIM, hpFM, hpLM, hpSM, h7, hle]
  | succ n ih =>
    intro j B u5 hj hM hl hr
    have hjK : j < K := by omega
    have hle : ¬ K ≤ j := by omega
    obtain ⟨l196, l197, l198⟩ := id hl
    obtain ⟨r1, r2, r3, r4⟩ := hr j hjK
    have hh := m_has (P := P) hK hjK h7 l198 (fun j hj => ⟨(hr j hj).2.2.1, (hr j hj).2.2.2⟩) hmo
    have hgm := Gm_le wf K G0 j
    have hgle := grp_le wf K G0 j
    have hpt := fun gr => m_put (G := G) (P := P) hM (show nx + j < 60 by omega) (nI b) (nI (lf j)) (nI (af j)) v gr
    obtain ⟨h0, h1, h2, h3, h4, h5, h6, h7', h8, h9⟩ := id hM
    have hM1 : Mok (((((((B 193).set (108 + (nx + j)) (nI (lf j))).set (168 + (nx + j)) (nI b)).set (228 + (nx + j)) (nI (af j))).set (288 + (nx + j)) v).set (348 + (nx + j)) (nI (grp wf K G0 j))).set (408 + (nx + j)) (nI 0) |>.set 107 (nI (nx + j + 1))) nB nl nb (nx + (j + 1)) := by
      refine ⟨by simp (disch := (first | omega | (simp only [List.length_set] <;> omega) | fail)) only [g_seq, g_sne, List.length_set]; exact h0, by simp (disch := (first | omega | (simp only [List.length_set] <;> omega) | fail)) only [g_seq, g_sne, List.length_set]; exact h1, by simp (disch := (first | omega | (simp only [List.length_set] <;> omega) | fail)) only [g_seq, g_sne, List.length_set]; exact h2, by simp (disch := (first | omega | (simp only [List.length_set] <;> omega) | fail)) only [g_seq, g_sne, List.length_set]; exact h3, by simp (disch := (first | omega | (simp only [List.length_set] <;> omega) | fail)) only [g_seq, g_sne, List.length_set]; rfl, h5, h6, h7', h8, by omega⟩
    have hpt := hpt (nI (grp wf K G0 j))
    have hRg : ∀ i, (i < 107 ∨ 468 ≤ i) → g (((((((B 193).set (108 + (nx + j)) (nI (lf j))).set (168 + (nx + j)) (nI b)).set (228 + (nx + j)) (nI (af j))).set (288 + (nx + j)) v).set (348 + (nx + j)) (nI (grp wf K G0 j))).set (408 + (nx + j)) (nI 0) |>.set 107 (nI (nx + j + 1))) i = g (B 193) i := fun i hi => by simp (disch := (first | omega | (simp only [List.length_set] <;> omega) | fail)) only [g_seq, g_sne, List.length_set]
    have hRx : ∀ x, x < nx + j → ∀ R, R = (((((((B 193).set (108 + (nx + j)) (nI (lf j))).set (168 + (nx + j)) (nI b)).set (228 + (nx + j)) (nI (af j))).set (288 + (nx + j)) v).set (348 + (nx + j)) (nI (grp wf K G0 j))).set (408 + (nx + j)) (nI 0) |>.set 107 (nI (nx + j + 1))) → g R (108 + x) = g (B 193) (108 + x) ∧ g R (168 + x) = g (B 193) (168 + x) ∧ g R (228 + x) = g (B 193) (228 + x) ∧ g R (288 + x) = g (B 193) (288 + x) ∧ g R (348 + x) = g (B 193) (348 + x) ∧ g R (408 + x) = g (B 193) (408 + x) := by
      intro x hx R hR
      subst hR
      exact ⟨by simp (disch := (first | omega | (simp only [List.length_set] <;> omega) | fail)) only [g_seq, g_sne, List.length_set], by simp (disch := (first | omega | (simp only [List.length_set] <;> omega) | fail)) only [g_seq, g_sne, List.length_set], by simp (disch := (first | omega | (simp only [List.length_set] <;> omega) | fail)) only [g_seq, g_sne, List.length_set], by simp (disch := (first | omega | (simp only [List.length_set] <;> omega) | fail)) only [g_seq, g_sne, List.length_set], by simp (disch := (first | omega | (simp only [List.length_set] <;> omega) | fail)) only [g_seq, g_sne, List.length_set], by simp (disch := (first | omega | (simp only [List.length_set] <;> omega) | fail)) only [g_seq, g_sne, List.length_set]⟩
    have hRn : ∀ R, R = (((((((B 193).set (108 + (nx + j)) (nI (lf j))).set (168 + (nx + j)) (nI b)).set (228 + (nx + j)) (nI (af j))).set (288 + (nx + j)) v).set (348 + (nx + j)) (nI (grp wf K G0 j))).set (408 + (nx + j)) (nI 0) |>.set 107 (nI (nx + j + 1))) → g R (108 + (nx + j)) = nI (lf j) ∧ g R (168 + (nx + j)) = nI b ∧ g R (228 + (nx + j)) = nI (af j) ∧ g R (288 + (nx + j)) = v ∧ g R (348 + (nx + j)) = nI (grp wf K G0 j) ∧ g R (408 + (nx + j)) = nI 0 := by
      intro R hR
      subst hR
      exact ⟨by simp (disch := (first | omega | (simp only [List.length_set] <;> omega) | fail)) only [g_seq, g_sne, List.length_set], by simp (disch := (first | omega | (simp only [List.length_set] <;> omega) | fail)) only [g_seq, g_sne, List.length_set], by simp (disch := (first | omega | (simp only [List.length_set] <;> omega) | fail)) only [g_seq, g_sne, List.length_set], by simp (disch := (first | omega | (simp only [List.length_set] <;> omega) | fail)) only [g_seq, g_sne, List.length_set], by simp (disch := (first | omega | (simp only [List.length_set] <;> omega) | fail)) only [g_seq, g_sne, List.length_set], by simp (disch := (first | omega | (simp only [List.length_set] <;> omega) | fail)) only [g_seq, g_sne, List.length_set]⟩
    generalize hR1 : (((((((B 193).set (108 + (nx + j)) (nI (lf j))).set (168 + (nx + j)) (nI b)).set (228 + (nx + j)) (nI (af j))).set (288 + (nx + j)) v).set (348 + (nx + j)) (nI (grp wf K G0 j))).set (408 + (nx + j)) (nI 0) |>.set 107 (nI (nx + j + 1))) = R1 at hpt hM1 hRg
    have hRx := fun x hx => hRx x hx R1 hR1.symm
    have hRn := hRn R1 hR1.symm
    have step : ∀ (u5' : Value), ∃ R', Mok R' nB nl nb (nx + K) ∧ (∀ i, (i < 107 ∨ 468 ≤ i) → g R' i = g (B 193) i) ∧
      (∀ x, x < nx + j → g R' (108 + x) = g (B 193) (108 + x) ∧ g R' (168 + x) = g (B 193) (168 + x) ∧ g R' (228 + x) = g (B 193) (228 + x) ∧ g R' (288 + x) = g (B 193) (288 + x) ∧ g R' (348 + x) = g (B 193) (348 + x) ∧ g R' (408 + x) = g (B 193) (408 + x)) ∧
      (∀ m, j ≤ m → m < K → g R' (108 + (nx + m)) = nI (lf m) ∧ g R' (168 + (nx + m)) = nI b ∧ g R' (228 + (nx + m)) = nI (af m) ∧ g R' (288 + (nx + m)) = v ∧ g R' (348 + (nx + m)) = nI (grp wf K G0 m) ∧ g R' (408 + (nx + m)) = nI 0) ∧
      am_ev m_Mod_letter (118, [.ref 192, .int (nI b), .int v, .int (nI (Gm wf K G0 (j + 1))), .int (nI (j + 1)), u5'], [], heap (up B 193 R1) G P) = some (some (.int (nI K)), heap (up B 193 R') G P) := by
      intro u5'
      obtain ⟨R', q1, q2, q3, q4, q5⟩ := ih (j + 1) (up B 193 R1) u5' (by omega) (by rw [up_eq]; exact hM1) (by simp (disch := (first | omega | fail)) only [st_e, sf_e, Nat.reduceAdd, Nat.reduceMul, up_eq, up_ne, cpA_o, cpF_o]; exact hl) (by simp (disch := (first | omega | fail)) only [st_e, sf_e, Nat.reduceAdd, Nat.reduceMul, up_eq, up_ne, cpA_o, cpF_o]; exact hr)
      rw [up_eq] at q2 q3
      rw [up_up] at q5
      refine ⟨R', q1, fun i hi => (q2 i hi).trans (hRg i hi), fun x hx => ?_, fun m z1 z2 => ?_, q5⟩
      · obtain ⟨a1, a2, a3, a4, a5, a6⟩ := q3 x (by omega)
        obtain ⟨c1, c2, c3, c4, c5, c6⟩ := hRx x hx
        exact ⟨a1.trans c1, a2.trans c2, a3.trans c3, a4.trans c4, a5.trans c5, a6.trans c6⟩
      · by_cases c : m = j
        · subst c
          obtain ⟨a1, a2, a3, a4, a5, a6⟩ := q3 (nx + m) (by omega)
          obtain ⟨c1, c2, c3, c4, c5, c6⟩ := hRn
          exact ⟨a1.trans c1, a2.trans c2, a3.trans c3, a4.trans c4, a5.trans c5, a6.trans c6⟩
        · exact q4 m (by omega) z2
    have b160 := fun x1 x2 x3 x4 u5 h => b_Mod_letter_160 192 x1 x2 x3 x4 u5 h
    have b164 := fun x1 x2 x3 x4 u5 h => b_Mod_letter_164 192 x1 x2 x3 x4 u5 h
    have n10 : ¬ nI 1 = nI 0 := by decide
    by_cases c1 : prv wf j
    · obtain ⟨R', q1, q2, q3, q4, q5⟩ := step (.int (nI 0))
      refine ⟨R', q1, q2, q3, q4, ?_⟩
      have e1 := (grp_prv (G0 := G0) hjK c1).2
      have e2 : Gm wf K G0 (j + 1) = Gm wf K G0 j := by rw [Gm_s, cif_f (fun z => z.1 c1)]
      rw [b01_t (Or.inl c1)] at hh
      rw [e1] at hpt
      rw [e2] at q5
      have hj0 : ¬ j = 0 := by have := c1.1; omega
      have hj1 : 1 ≤ j := by omega
      have w1 := (hr (j - 1) (by omega)).2.2.1
      rw [c1.2] at w1
      rw [b_Mod_letter_118]
      simp (maxSteps := 2000000) (disch := (first | omega | (simp (disch := omega) only [up_eq, up_ne, cpA_o, cpF_o, List.length_set] <;> omega) | fail)) only [ob_s, am_bi_s, am_bv_s, am_bl_s, ↓bif_d, lits, nI_addS, nI_mulS, nI_subS, nI_lt', nI_le', nI_eq', ↓rd_nI, ↓wrH, up_eq, up_ne, up_up, up_sw, List.set_set, g_seq, g_sne, Nat.reduceEqDiff, ↓reduceIte, List.length_set, Nat.add_sub_cancel_left, Nat.add_sub_cancel, ite_true, ite_false, if_true, if_false, not_true_eq_false, not_false_eq_true, Bool.and_true, Bool.true_and, true_or, or_true, false_or, or_false, and_true, true_and, and_false, false_and, Nat.not_lt_zero, hpRM, hpIM, hpFM, hpLM, hpSM, h7, hle, hh, n10, hj0, w1, r3, b164, r1, r2, hpt, Nat.add_zero, q5]
    · by_cases c2 : one wf K j
      · obtain ⟨R', q1, q2, q3, q4, q5⟩ := step (.int (nI 1))
        refine ⟨R', q1, q2, q3, q4, ?_⟩
        have e2 : Gm wf K G0 (j + 1) = Gm wf K G0 j + 1 := by rw [Gm_s, cif_t ⟨c1, c2⟩]
        have e1 : grp wf K G0 j = Gm wf K G0 j + 1 := by
          unfold grp
          rw [cif_t (Or.inr c2), e2]
        rw [b01_t (Or.inr c2)] at hh
        rw [e1] at hpt
        rw [e2] at q5
        rw [b_Mod_letter_118]
        by_cases hj0 : j = 0
        · subst hj0
          simp (maxSteps := 2000000) (disch := (first | omega | (simp (disch := omega) only [up_eq, up_ne, cpA_o, cpF_o, List.length_set] <;> omega) | fail)) only [ob_s, am_bi_s, am_bv_s, am_bl_s, ↓bif_d, lits, nI_addS, nI_mulS, nI_subS, nI_lt', nI_le', nI_eq', ↓rd_nI, ↓wrH, up_eq, up_ne, up_up, up_sw, List.set_set, g_seq, g_sne, Nat.reduceEqDiff, ↓reduceIte, List.length_set, Nat.add_sub_cancel_left, Nat.add_sub_cancel, ite_true, ite_false, if_true, if_false, not_true_eq_false, not_false_eq_true, Bool.and_true, Bool.true_and, true_or, or_true, false_or, or_false, and_true, true_and, and_false, false_and, Nat.not_lt_zero, hpRM, hpIM, hpFM, hpLM, hpSM, h7, hle, hh, n10, b160, r1, r2, hpt, q5]
        · have hj1 : 1 ≤ j := by omega
          have w1 := (hr (j - 1) (by omega)).2.2.1
          have w4 := (hr (j - 1) (by omega)).2.2.2
          have hne : ¬ wf (j - 1) = wf j := fun z => c1 ⟨by omega, z⟩
          simp (maxSteps := 2000000) (disch := (first | omega | (simp (disch := omega) only [up_eq, up_ne, cpA_o, cpF_o, List.length_set] <;> omega) | fail)) only [ob_s, am_bi_s, am_bv_s, am_bl_s, ↓bif_d, lits, nI_addS, nI_mulS, nI_subS, nI_lt', nI_le', nI_eq', ↓rd_nI, ↓wrH, up_eq, up_ne, up_up, up_sw, List.set_set, g_seq, g_sne, Nat.reduceEqDiff, ↓reduceIte, List.length_set, Nat.add_sub_cancel_left, Nat.add_sub_cancel, ite_true, ite_false, if_true, if_false, not_true_eq_false, not_false_eq_true, Bool.and_true, Bool.true_and, true_or, or_true, false_or, or_false, and_true, true_and, and_false, false_and, Nat.not_lt_zero, hpRM, hpIM, hpFM, hpLM, hpSM, h7, hle, hh, n10, hj0, w1, r3, hne, b160, r1, r2, hpt, q5]
      · obtain ⟨R', q1, q2, q3, q4, q5⟩ := step (.int (nI 0))
        refine ⟨R', q1, q2, q3, q4, ?_⟩
        have e2 : Gm wf K G0 (j + 1) = Gm wf K G0 j := by rw [Gm_s, cif_f (fun z => c2 z.2)]
        have e1 : grp wf K G0 j = 0 := by
          unfold grp
          rw [cif_f (fun z => z.elim c1 c2)]
        rw [b01_f (fun z => z.elim c1 c2)] at hh
        rw [e1] at hpt
        rw [e2] at q5
        rw [b_Mod_letter_118]
        simp (maxSteps := 2000000) (disch := (first | omega | (simp (disch := omega) only [up_eq, up_ne, cpA_o, cpF_o, List.length_set] <;> omega) | fail)) only [ob_s, am_bi_s, am_bv_s, am_bl_s, ↓bif_d, lits, nI_addS, nI_mulS, nI_subS, nI_lt', nI_le', nI_eq', ↓rd_nI, ↓wrH, up_eq, up_ne, up_up, up_sw, List.set_set, g_seq, g_sne, Nat.reduceEqDiff, ↓reduceIte, List.length_set, Nat.add_sub_cancel_left, Nat.add_sub_cancel, ite_true, ite_false, if_true, if_false, not_true_eq_false, not_false_eq_true, Bool.and_true, Bool.true_and, true_or, or_true, false_or, or_false, and_true, true_and, and_false, false_and, Nat.not_lt_zero, hpRM, hpIM, hpFM, hpLM, hpSM, h7, hle, hh, b164, r1, r2, hpt, Nat.add_zero, q5]
end X
