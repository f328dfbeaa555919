/-! LETTERS, as the reference reads them -/
def ML (B : Nat → List Int32) (G : Nat → Int32) (T : Nat → Int32) (t : Nat) : Prop := G 19203 = nI t ∧ t ≤ 80 ∧ (B 195).length = 80 ∧ (∀ j, j < t → g (B 195) j = T j) ∧ (B 196).length = 40 ∧ (B 197).length = 40 ∧ (B 198).length = 40
def MfF (G G' : Nat → Int32) : Prop := ∀ k, (k < 19205 ∨ 19207 < k) → G' k = G k
theorem MfF.trans {G G1 G2 : Nat → Int32} (h1 : MfF G G1) (h2 : MfF G1 G2) : MfF G G2 := fun k z => (h2 k z).trans (h1 k z)
theorem ML_f {B : Nat → List Int32} {G G' : Nat → Int32} {T : Nat → Int32} {t : Nat} (h : ML B G T t) (hF : MfF G G') : ML B G' T t := by
  obtain ⟨h1, h2⟩ := h
  exact ⟨by rw [hF _ (by omega)]; exact h1, h2⟩
theorem eq_nn {x c : Int32} : (¬ x < c ∧ ¬ c < x) ↔ x = c := by
  constructor
  · rintro ⟨h1, h2⟩
    exact Int32.le_antisymm (Int32.not_lt.mp h2) (Int32.not_lt.mp h1)
  · intro h
    rw [h]
    exact ⟨Int32.lt_irrefl, Int32.lt_irrefl⟩
section X
variable {B : Nat → List Int32} {G : Nat → Int32} {P : Nat → Nat} {T : Nat → Int32} {t : Nat}
theorem m_isAt (hm : ML B G T t) {e : Nat} (he : e ≤ t) (g5 : G 19205 = nI e) (a b : Int32) : am_cl m_Mod_isAt [.ref 192, .int a, .int b] (heap B G P) = some (some (.int (b01 (e < t ∧ ¬ T e < a ∧ ¬ b < T e))), heap B G P) := by
  obtain ⟨h1, h2, h3, h4, -⟩ := hm
  rw [e_Mod_isAt 192 _ _ _ rfl]
  by_cases c : e < t
  · have hle : ¬ t ≤ e := by omega
    have eg := h4 e c
    by_cases c1 : T e < a
    · rw [b01_f (p := e < t ∧ ¬ T e < a ∧ ¬ b < T e) (fun z => z.2.1 c1)]
      simp (maxSteps := 2000000) (disch := (first | omega | (simp (disch := omega) only [up_eq, up_ne, cpA_o, cpF_o, List.length_set] <;> omega) | fail)) only [ob_s, am_bi_s, am_bv_s, am_bl_s, ↓bif_d, lits, nI_addS, nI_mulS, nI_subS, nI_lt', nI_le', nI_eq', ↓rd_nI, ↓wrH, up_eq, up_ne, up_up, up_sw, List.set_set, g_seq, g_sne, Nat.reduceEqDiff, ↓reduceIte, List.length_set, Nat.add_sub_cancel_left, Nat.add_sub_cancel, ite_true, ite_false, if_true, if_false, not_true_eq_false, not_false_eq_true, Bool.and_true, Bool.true_and, true_or, or_true, false_or, or_false, and_true, true_and, and_false, false_and, Nat.not_lt_zero, hpRM, hpIM, hpFM, hpLM, hpSM, g5, h1, hle, eg, c1]
    · by_cases c2 : b < T e
      · rw [b01_f (p := e < t ∧ ¬ T e < a ∧ ¬ b < T e) (fun z => z.2.2 c2)]
        simp (maxSteps := 2000000) (disch := (first | omega | (simp (disch := omega) only [up_eq, up_ne, cpA_o, cpF_o, List.length_set] <;> omega) | fail)) only [ob_s, am_bi_s, am_bv_s, am_bl_s, ↓bif_d, lits, nI_addS, nI_mulS, nI_subS, nI_lt', nI_le', nI_eq', ↓rd_nI, ↓wrH, up_eq, up_ne, up_up, up_sw, List.set_set, g_seq, g_sne, Nat.reduceEqDiff, ↓reduceIte, List.length_set, Nat.add_sub_cancel_left, Nat.add_sub_cancel, ite_true, ite_false, if_true, if_false, not_true_eq_false, not_false_eq_true, Bool.and_true, Bool.true_and, true_or, or_true, false_or, or_false, and_true, true_and, and_false, false_and, Nat.not_lt_zero, hpRM, hpIM, hpFM, hpLM, hpSM, g5, h1, hle, eg, c1, c2]
      · rw [b01_t (p := e < t ∧ ¬ T e < a ∧ ¬ b < T e) ⟨c, c1, c2⟩]
        simp (maxSteps := 2000000) (disch := (first | omega | (simp (disch := omega) only [up_eq, up_ne, cpA_o, cpF_o, List.length_set] <;> omega) | fail)) only [ob_s, am_bi_s, am_bv_s, am_bl_s, ↓bif_d, lits, nI_addS, nI_mulS, nI_subS, nI_lt', nI_le', nI_eq', ↓rd_nI, ↓wrH, up_eq, up_ne, up_up, up_sw, List.set_set, g_seq, g_sne, Nat.reduceEqDiff, ↓reduceIte, List.length_set, Nat.add_sub_cancel_left, Nat.add_sub_cancel, ite_true, ite_false, if_true, if_false, not_true_eq_false, not_false_eq_true, Bool.and_true, Bool.true_and, true_or, or_true, false_or, or_false, and_true, true_and, and_false, false_and, Nat.not_lt_zero, hpRM, hpIM, hpFM, hpLM, hpSM, g5, h1, hle, eg, c1, c2]
  · have hle : t ≤ e := by omega
    rw [b01_f (p := e < t ∧ ¬ T e < a ∧ ¬ b < T e) (fun z => c z.1)]
    simp (maxSteps := 2000000) (disch := (first | omega | (simp (disch := omega) only [up_eq, up_ne, cpA_o, cpF_o, List.length_set] <;> omega) | fail)) only [ob_s, am_bi_s, am_bv_s, am_bl_s, ↓bif_d, lits, nI_addS, nI_mulS, nI_subS, nI_lt', nI_le', nI_eq', ↓rd_nI, ↓wrH, up_eq, up_ne, up_up, up_sw, List.set_set, g_seq, g_sne, Nat.reduceEqDiff, ↓reduceIte, List.length_set, Nat.add_sub_cancel_left, Nat.add_sub_cancel, ite_true, ite_false, if_true, if_false, not_true_eq_false, not_false_eq_true, Bool.and_true, Bool.true_and, true_or, or_true, false_or, or_false, and_true, true_and, and_false, false_and, Nat.not_lt_zero, hpRM, hpIM, hpFM, hpLM, hpSM, g5, h1, hle]
theorem m_scan (x2 x3 : Int32) {p D : Nat} (hp : p ≤ t) (hD : D ≤ 7) : ∀ n e v (G : Nat → Int32), e + n = p + D → e ≤ t → p ≤ e → ML B G T t → G 19205 = nI e → G 19206 = nI 1 → (e = p → dgt T t e → ¬ dvl T e = 0) → ∃ G' : Nat → Int32, (∀ k, k ≠ 19205 → G' k = G k) ∧ G' 19205 = nI (scn T t n e v).1 ∧ am_ev m_Mod_number (44, [.ref 192, .int (nI D), .int x2, .int x3, .int (nI p), .int (nI v)], [], heap B G P) = am_ev m_Mod_number (120, [.ref 192, .int (nI D), .int x2, .int x3, .int (nI p), .int (nI (scn T t n e v).2)], [], heap B G' P) := by
  classical
  intro n
  induction n with
  | zero =>
    intro e v G hn he hpe hm g5 g6 _
    have t80 := hm.2.1
    rw [scn_0]
    refine ⟨G, fun _ _ => rfl, g5, ?_⟩
    have hle : p + D ≤ e := by omega
    have n10 : ¬ nI 1 = nI 0 := by decide
    rw [b_Mod_number_44]
    simp (maxSteps := 2000000) (disch := (first | omega | (simp (disch := omega) only [up_eq, up_ne, cpA_o, cpF_o, List.length_set] <;> omega) | fail)) only [ob_s, am_bi_s, am_bv_s, am_bl_s, ↓bif_d, lits, nI_addS, nI_mulS, nI_subS, nI_lt', nI_le', nI_eq', ↓rd_nI, ↓wrH, up_eq, up_ne, up_up, up_sw, List.set_set, g_seq, g_sne, Nat.reduceEqDiff, ↓reduceIte, List.length_set, Nat.add_sub_cancel_left, Nat.add_sub_cancel, ite_true, ite_false, if_true, if_false, not_true_eq_false, not_false_eq_true, Bool.and_true, Bool.true_and, true_or, or_true, false_or, or_false, and_true, true_and, and_false, false_and, Nat.not_lt_zero, hpRM, hpIM, hpFM, hpLM, hpSM, g5, g6, n10, hle]
  | succ n ih =>
    intro e v G hn he hpe hm g5 g6 hz
    have t80 := hm.2.1
    have hle : ¬ p + D ≤ e := by omega
    have n10 : ¬ nI 1 = nI 0 := by decide
    have hi1 := m_isAt (P := P) hm he g5 (nI 49) (nI 57)
    have hi2 := m_isAt (P := P) hm he g5 (nI 48) (nI 57)
    have k2 : (e < t ∧ ¬ T e < nI 48 ∧ ¬ nI 57 < T e) = dgt T t e := rfl
    rw [k2] at hi2
    have k1 : e = p → ((e < t ∧ ¬ T e < nI 49 ∧ ¬ nI 57 < T e) ↔ dgt T t e) := by
      intro hep
      constructor
      · rintro ⟨z1, z2, z3⟩
        refine ⟨z1, fun z => z2 ?_, z3⟩
        exact Int32.lt_trans z (by decide)
      · intro hd
        obtain ⟨d1, d2⟩ := dgt_v hd
        have := hz hep hd
        refine ⟨hd.1, ?_, hd.2.2⟩
        rw [d1, nI_lt' (by omega) (by omega)]
        omega
    rw [scn_s, b_Mod_number_44]
    by_cases c : dgt T t e
    · rw [cif_t c]
      obtain ⟨d1, d2⟩ := dgt_v c
      obtain ⟨G', q1, q2, q3⟩ := ih (e + 1) (10 * v + dvl T e) (up G 19205 (nI (e + 1))) (by omega) c.1 (by omega) (ML_f hm (fun k hk => up_ne _ _ (by omega))) (up_eq _ _ _) (by simp (disch := (first | omega | fail)) only [st_e, sf_e, Nat.reduceAdd, Nat.reduceMul, up_eq, up_ne, cpA_o, cpF_o]; exact g6) (fun z => by omega)
      refine ⟨G', fun k z => (q1 k z).trans (up_ne _ _ z), q2, ?_⟩
      have hl := hm.2.2.1
      have hel := c.1
      have eg := hm.2.2.2.1 e c.1
      rw [d1] at eg
      have hv : nI (10 * v + (48 + dvl T e)) - nI 48 = nI (10 * v + dvl T e) := by rw [nI_subS (by omega)]; congr 1; omega
      rw [← q3]
      by_cases hep : e = p
      · have k1 := k1 hep
        rw [b01_c k1, b01_t c] at hi1
        subst hep
        simp (maxSteps := 2000000) (disch := (first | omega | (simp (disch := omega) only [up_eq, up_ne, cpA_o, cpF_o, List.length_set] <;> omega) | fail)) only [ob_s, am_bi_s, am_bv_s, am_bl_s, ↓bif_d, lits, nI_addS, nI_mulS, nI_subS, nI_lt', nI_le', nI_eq', ↓rd_nI, ↓wrH, up_eq, up_ne, up_up, up_sw, List.set_set, g_seq, g_sne, Nat.reduceEqDiff, ↓reduceIte, List.length_set, Nat.add_sub_cancel_left, Nat.add_sub_cancel, ite_true, ite_false, if_true, if_false, not_true_eq_false, not_false_eq_true, Bool.and_true, Bool.true_and, true_or, or_true, false_or, or_false, and_true, true_and, and_false, false_and, Nat.not_lt_zero, hpRM, hpIM, hpFM, hpLM, hpSM, g5, g6, n10, hle, hi1, eg, hv]
      · rw [b01_t c] at hi2
        simp (maxSteps := 2000000) (disch := (first | omega | (simp (disch := omega) only [up_eq, up_ne, cpA_o, cpF_o, List.length_set] <;> omega) | fail)) only [ob_s, am_bi_s, am_bv_s, am_bl_s, ↓bif_d, lits, nI_addS, nI_mulS, nI_subS, nI_lt', nI_le', nI_eq', ↓rd_nI, ↓wrH, up_eq, up_ne, up_up, up_sw, List.set_set, g_seq, g_sne, Nat.reduceEqDiff, ↓reduceIte, List.length_set, Nat.add_sub_cancel_left, Nat.add_sub_cancel, ite_true, ite_false, if_true, if_false, not_true_eq_false, not_false_eq_true, Bool.and_true, Bool.true_and, true_or, or_true, false_or, or_false, and_true, true_and, and_false, false_and, Nat.not_lt_zero, hpRM, hpIM, hpFM, hpLM, hpSM, g5, g6, n10, hle, hep, hi2, eg, hv]
    · rw [cif_f c]
      refine ⟨G, fun _ _ => rfl, g5, ?_⟩
      by_cases hep : e = p
      · have k1 := k1 hep
        rw [b01_c k1, b01_f c] at hi1
        subst hep
        simp (maxSteps := 2000000) (disch := (first | omega | (simp (disch := omega) only [up_eq, up_ne, cpA_o, cpF_o, List.length_set] <;> omega) | fail)) only [ob_s, am_bi_s, am_bv_s, am_bl_s, ↓bif_d, lits, nI_addS, nI_mulS, nI_subS, nI_lt', nI_le', nI_eq', ↓rd_nI, ↓wrH, up_eq, up_ne, up_up, up_sw, List.set_set, g_seq, g_sne, Nat.reduceEqDiff, ↓reduceIte, List.length_set, Nat.add_sub_cancel_left, Nat.add_sub_cancel, ite_true, ite_false, if_true, if_false, not_true_eq_false, not_false_eq_true, Bool.and_true, Bool.true_and, true_or, or_true, false_or, or_false, and_true, true_and, and_false, false_and, Nat.not_lt_zero, hpRM, hpIM, hpFM, hpLM, hpSM, g5, g6, n10, hle, hi1]
      · rw [b01_f c] at hi2
        simp (maxSteps := 2000000) (disch := (first | omega | (simp (disch := omega) only [up_eq, up_ne, cpA_o, cpF_o, List.length_set] <;> omega) | fail)) only [ob_s, am_bi_s, am_bv_s, am_bl_s, ↓bif_d, lits, nI_addS, nI_mulS, nI_subS, nI_lt', nI_le', nI_eq', ↓rd_nI, ↓wrH, up_eq, up_ne, up_up, up_sw, List.set_set, g_seq, g_sne, Nat.reduceEqDiff, ↓reduceIte, List.length_set, Nat.add_sub_cancel_left, Nat.add_sub_cancel, ite_true, ite_false, if_true, if_false, not_true_eq_false, not_false_eq_true, Bool.and_true, Bool.true_and, true_or, or_true, false_or, or_false, and_true, true_and, and_false, false_and, Nat.not_lt_zero, hpRM, hpIM, hpFM, hpLM, hpSM, g5, g6, n10, hle, hep, hi2]
theorem m_numL (hm : ML B G T t) {p : Nat} (hp : p ≤ t) (g5 : G 19205 = nI p) (g6 : G 19206 = nI 1) (x3 : Int32) : ∃ G' : Nat → Int32, (∀ k, k ≠ 19205 → G' k = G k) ∧ G' 19205 = nI (numL T t p).1 ∧ am_cl m_Mod_number [.ref 192, .int (nI 2), .int (nI 1), .int x3] (heap B G P) = am_ev m_Mod_number (120, [.ref 192, .int (nI 2), .int (nI 1), .int x3, .int (nI p), .int (nI (numL T t p).2)], [], heap B G' P) := by
  have n10 : ¬ nI 1 = nI 0 := by decide
  have hi := m_isAt (P := P) hm hp g5 (nI 48) (nI 48)
  rw [b01_c (show (p < t ∧ ¬ T p < nI 48 ∧ ¬ nI 48 < T p) ↔ (p < t ∧ T p = nI 48) by rw [eq_nn])] at hi
  unfold numL
  by_cases c : p < t ∧ T p = nI 48
  · rw [cif_t c]
    rw [b01_t c] at hi
    refine ⟨up G 19205 (nI (p + 1)), fun k z => up_ne _ _ z, up_eq _ _ _, ?_⟩
    rw [e_Mod_number 192 _ _ _ _ rfl]
    simp (maxSteps := 2000000) (disch := (first | omega | (simp (disch := omega) only [up_eq, up_ne, cpA_o, cpF_o, List.length_set] <;> omega) | fail)) only [ob_s, am_bi_s, am_bv_s, am_bl_s, ↓bif_d, lits, nI_addS, nI_mulS, nI_subS, nI_lt', nI_le', nI_eq', ↓rd_nI, ↓wrH, up_eq, up_ne, up_up, up_sw, List.set_set, g_seq, g_sne, Nat.reduceEqDiff, ↓reduceIte, List.length_set, Nat.add_sub_cancel_left, Nat.add_sub_cancel, ite_true, ite_false, if_true, if_false, not_true_eq_false, not_false_eq_true, Bool.and_true, Bool.true_and, true_or, or_true, false_or, or_false, and_true, true_and, and_false, false_and, Nat.not_lt_zero, hpRM, hpIM, hpFM, hpLM, hpSM, g5, g6, n10, hi]
  · rw [cif_f c]
    rw [b01_f c] at hi
    obtain ⟨G', q1, q2, q3⟩ := m_scan (P := P) (T := T) (t := t) (nI 1) x3 (p := p) (D := 2) hp (by omega) 2 p 0 G rfl hp (Nat.le_refl _) hm g5 g6 (fun _ hd w => c ⟨hd.1, (dgt_0 hd).mpr w⟩)
    refine ⟨G', q1, q2, ?_⟩
    rw [← q3, e_Mod_number 192 _ _ _ _ rfl]
    simp (maxSteps := 2000000) (disch := (first | omega | (simp (disch := omega) only [up_eq, up_ne, cpA_o, cpF_o, List.length_set] <;> omega) | fail)) only [ob_s, am_bi_s, am_bv_s, am_bl_s, ↓bif_d, lits, nI_addS, nI_mulS, nI_subS, nI_lt', nI_le', nI_eq', ↓rd_nI, ↓wrH, up_eq, up_ne, up_up, up_sw, List.set_set, g_seq, g_sne, Nat.reduceEqDiff, ↓reduceIte, List.length_set, Nat.add_sub_cancel_left, Nat.add_sub_cancel, ite_true, ite_false, if_true, if_false, not_true_eq_false, not_false_eq_true, Bool.and_true, Bool.true_and, true_or, or_true, false_or, or_false, and_true, true_and, and_false, false_and, Nat.not_lt_zero, hpRM, hpIM, hpFM, hpLM, hpSM, g5, g6, n10, hi]
theorem m_numA (hm : ML B G T t) {p : Nat} (hp : p ≤ t) (g5 : G 19205 = nI p) (g6 : G 19206 = nI 1) (x3 : Int32) : ∃ G' : Nat → Int32, (∀ k, k ≠ 19205 → G' k = G k) ∧ G' 19205 = nI (numA T t p).1 ∧ am_cl m_Mod_number [.ref 192, .int (nI 7), .int (nI 0), .int x3] (heap B G P) = am_ev m_Mod_number (120, [.ref 192, .int (nI 7), .int (nI 0), .int x3, .int (nI p), .int (nI (numA T t p).2)], [], heap B G' P) := by
  have n10 : ¬ nI 1 = nI 0 := by decide
  have t80 := hm.2.1
  unfold numA
  by_cases c : p < t ∧ T p = nI 48
  · rw [cif_t c]
    have hi := m_isAt (P := P) hm hp g5 (nI 49) (nI 57)
    rw [b01_f (fun z => z.2.1 (by rw [c.2]; decide))] at hi
    have hle : ¬ p + 7 ≤ p := by omega
    refine ⟨G, fun _ _ => rfl, g5, ?_⟩
    rw [e_Mod_number 192 _ _ _ _ rfl]
    simp (maxSteps := 2000000) (disch := (first | omega | (simp (disch := omega) only [up_eq, up_ne, cpA_o, cpF_o, List.length_set] <;> omega) | fail)) only [ob_s, am_bi_s, am_bv_s, am_bl_s, ↓bif_d, lits, nI_addS, nI_mulS, nI_subS, nI_lt', nI_le', nI_eq', ↓rd_nI, ↓wrH, up_eq, up_ne, up_up, up_sw, List.set_set, g_seq, g_sne, Nat.reduceEqDiff, ↓reduceIte, List.length_set, Nat.add_sub_cancel_left, Nat.add_sub_cancel, ite_true, ite_false, if_true, if_false, not_true_eq_false, not_false_eq_true, Bool.and_true, Bool.true_and, true_or, or_true, false_or, or_false, and_true, true_and, and_false, false_and, Nat.not_lt_zero, hpRM, hpIM, hpFM, hpLM, hpSM, g5, g6, n10]
    rw [b_Mod_number_44]
    simp (maxSteps := 2000000) (disch := (first | omega | (simp (disch := omega) only [up_eq, up_ne, cpA_o, cpF_o, List.length_set] <;> omega) | fail)) only [ob_s, am_bi_s, am_bv_s, am_bl_s, ↓bif_d, lits, nI_addS, nI_mulS, nI_subS, nI_lt', nI_le', nI_eq', ↓rd_nI, ↓wrH, up_eq, up_ne, up_up, up_sw, List.set_set, g_seq, g_sne, Nat.reduceEqDiff, ↓reduceIte, List.length_set, Nat.add_sub_cancel_left, Nat.add_sub_cancel, ite_true, ite_false, if_true, if_false, not_true_eq_false, not_false_eq_true, Bool.and_true, Bool.true_and, true_or, or_true, false_or, or_false, and_true, true_and, and_false, false_and, Nat.not_lt_zero, hpRM, hpIM, hpFM, hpLM, hpSM, g5, g6, n10, hle, hi]
  · rw [cif_f c]
    obtain ⟨G', q1, q2, q3⟩ := m_scan (P := P) (T := T) (t := t) (nI 0) x3 (p := p) (D := 7) hp (by omega) 7 p 0 G rfl hp (Nat.le_refl _) hm g5 g6 (fun _ hd w => c ⟨hd.1, (dgt_0 hd).mpr w⟩)
    refine ⟨G', q1, q2, ?_⟩
    rw [← q3, e_Mod_number 192 _ _ _ _ rfl]
    simp (maxSteps := 2000000) (disch := (first | omega | (simp (disch := omega) only [up_eq, up_ne, cpA_o, cpF_o, List.length_set] <;> omega) | fail)) only [ob_s, am_bi_s, am_bv_s, am_bl_s, ↓bif_d, lits, nI_addS, nI_mulS, nI_subS, nI_lt', nI_le', nI_eq', ↓rd_nI, ↓wrH, up_eq, up_ne, up_up, up_sw, List.set_set, g_seq, g_sne, Nat.reduceEqDiff, ↓reduceIte, List.length_set, Nat.add_sub_cancel_left, Nat.add_sub_cancel, ite_true, ite_false, if_true, if_false, not_true_eq_false, not_false_eq_true, Bool.and_true, Bool.true_and, true_or, or_true, false_or, or_false, and_true, true_and, and_false, false_and, Nat.not_lt_zero, hpRM, hpIM, hpFM, hpLM, hpSM, g5, g6, n10]
/-- the end of a number -/
theorem m_120 (hm : ML B G T t) {p e v : Nat} (hpe : p ≤ e) (he : e ≤ t) (g5 : G 19205 = nI e) (g6 : G 19206 = nI 1) (x1 x2 x3 : Int32) :
    (¬ (¬ e = p ∧ ¬ dgt T t e ∧ nI v ≤ x3) → ∃ G', (∀ k, k ≠ 19205 → k ≠ 19206 → G' k = G k) ∧ G' 19205 = nI (cif (¬ e = p ∧ dgt T t e) e p) ∧ G' 19206 = nI 0 ∧ am_ev m_Mod_number (120, [.ref 192, .int x1, .int x2, .int x3, .int (nI p), .int (nI v)], [], heap B G P) = some (some (.int (nI v)), heap B G' P)) ∧
    ((¬ e = p ∧ ¬ dgt T t e ∧ nI v ≤ x3) → am_ev m_Mod_number (120, [.ref 192, .int x1, .int x2, .int x3, .int (nI p), .int (nI v)], [], heap B G P) = some (some (.int (nI v)), heap B G P)) := by
  have n10 : ¬ nI 1 = nI 0 := by decide
  have t80 := hm.2.1
  have hi := m_isAt (P := P) hm he g5 (nI 48) (nI 57)
  have k2 : (e < t ∧ ¬ T e < nI 48 ∧ ¬ nI 57 < T e) = dgt T t e := rfl
  rw [k2] at hi
  constructor
  · intro hn
    by_cases c1 : e = p
    · have hle : e ≤ p := by omega
      refine ⟨up G 19206 (nI 0), fun k z1 z2 => up_ne _ _ z2, ?_, up_eq _ _ _, ?_⟩
      · rw [up_ne _ _ (by omega), cif_f (fun z => z.1 c1), ← c1]; exact g5
      · rw [b_Mod_number_120]
        simp (maxSteps := 2000000) (disch := (first | omega | (simp (disch := omega) only [up_eq, up_ne, cpA_o, cpF_o, List.length_set] <;> omega) | fail)) only [ob_s, am_bi_s, am_bv_s, am_bl_s, ↓bif_d, lits, nI_addS, nI_mulS, nI_subS, nI_lt', nI_le', nI_eq', ↓rd_nI, ↓wrH, up_eq, up_ne, up_up, up_sw, List.set_set, g_seq, g_sne, Nat.reduceEqDiff, ↓reduceIte, List.length_set, Nat.add_sub_cancel_left, Nat.add_sub_cancel, ite_true, ite_false, if_true, if_false, not_true_eq_false, not_false_eq_true, Bool.and_true, Bool.true_and, true_or, or_true, false_or, or_false, and_true, true_and, and_false, false_and, Nat.not_lt_zero, hpRM, hpIM, hpFM, hpLM, hpSM, g5, g6, n10, hle]
    · have hle : ¬ e ≤ p := by omega
      by_cases c2 : dgt T t e
      · rw [b01_t c2] at hi
        refine ⟨up G 19206 (nI 0), fun k z1 z2 => up_ne _ _ z2, ?_, up_eq _ _ _, ?_⟩
        · rw [up_ne _ _ (by omega), cif_t ⟨c1, c2⟩]; exact g5
        · rw [b_Mod_number_120]
          simp (maxSteps := 2000000) (disch := (first | omega | (simp (disch := omega) only [up_eq, up_ne, cpA_o, cpF_o, List.length_set] <;> omega) | fail)) only [ob_s, am_bi_s, am_bv_s, am_bl_s, ↓bif_d, lits, nI_addS, nI_mulS, nI_subS, nI_lt', nI_le', nI_eq', ↓rd_nI, ↓wrH, up_eq, up_ne, up_up, up_sw, List.set_set, g_seq, g_sne, Nat.reduceEqDiff, ↓reduceIte, List.length_set, Nat.add_sub_cancel_left, Nat.add_sub_cancel, ite_true, ite_false, if_true, if_false, not_true_eq_false, not_false_eq_true, Bool.and_true, Bool.true_and, true_or, or_true, false_or, or_false, and_true, true_and, and_false, false_and, Nat.not_lt_zero, hpRM, hpIM, hpFM, hpLM, hpSM, g5, g6, n10, hle, hi]
      · rw [b01_f c2] at hi
        have c3 : ¬ nI v ≤ x3 := fun z => hn ⟨c1, c2, z⟩
        refine ⟨up (up G 19205 (nI p)) 19206 (nI 0), fun k z1 z2 => by rw [up_ne _ _ z2, up_ne _ _ z1], ?_, up_eq _ _ _, ?_⟩
        · rw [up_ne _ _ (by omega), up_eq, cif_f (fun z => c2 z.2)]
        · rw [b_Mod_number_120]
          simp (maxSteps := 2000000) (disch := (first | omega | (simp (disch := omega) only [up_eq, up_ne, cpA_o, cpF_o, List.length_set] <;> omega) | fail)) only [ob_s, am_bi_s, am_bv_s, am_bl_s, ↓bif_d, lits, nI_addS, nI_mulS, nI_subS, nI_lt', nI_le', nI_eq', ↓rd_nI, ↓wrH, up_eq, up_ne, up_up, up_sw, List.set_set, g_seq, g_sne, Nat.reduceEqDiff, ↓reduceIte, List.length_set, Nat.add_sub_cancel_left, Nat.add_sub_cancel, ite_true, ite_false, if_true, if_false, not_true_eq_false, not_false_eq_true, Bool.and_true, Bool.true_and, true_or, or_true, false_or, or_false, and_true, true_and, and_false, false_and, Nat.not_lt_zero, hpRM, hpIM, hpFM, hpLM, hpSM, g5, g6, n10, hle, hi, c3]
  · rintro ⟨c1, c2, c3⟩
    have hle : ¬ e ≤ p := by omega
    rw [b01_f c2] at hi
    have e6 : up G 19206 (nI 1) = G := by rw [← g6]; exact up_id _ _
    rw [b_Mod_number_120]
    simp (maxSteps := 2000000) (disch := (first | omega | (simp (disch := omega) only [up_eq, up_ne, cpA_o, cpF_o, List.length_set] <;> omega) | fail)) only [ob_s, am_bi_s, am_bv_s, am_bl_s, ↓bif_d, lits, nI_addS, nI_mulS, nI_subS, nI_lt', nI_le', nI_eq', ↓rd_nI, ↓wrH, up_eq, up_ne, up_up, up_sw, List.set_set, g_seq, g_sne, Nat.reduceEqDiff, ↓reduceIte, List.length_set, Nat.add_sub_cancel_left, Nat.add_sub_cancel, ite_true, ite_false, if_true, if_false, not_true_eq_false, not_false_eq_true, Bool.and_true, Bool.true_and, true_or, or_true, false_or, or_false, and_true, true_and, and_false, false_and, Nat.not_lt_zero, hpRM, hpIM, hpFM, hpLM, hpSM, g5, g6, n10, hle, hi, c3]
    rw [e6]
theorem m_num0 (g6 : G 19206 = nI 0) (x1 x2 x3 : Int32) : am_cl m_Mod_number [.ref 192, .int x1, .int x2, .int x3] (heap B G P) = some (some (.int (nI 0)), heap B G P) := by
  have e6 : up G 19206 (nI 0) = G := by rw [← g6]; exact up_id _ _
  have b120 := fun x1 x2 x3 x4 x5 h => b_Mod_number_120 192 x1 x2 x3 x4 x5 h
  rw [e_Mod_number 192 _ _ _ _ rfl]
  simp (maxSteps := 2000000) (disch := (first | omega | (simp (disch := omega) only [up_eq, up_ne, cpA_o, cpF_o, List.length_set] <;> omega) | fail)) only [ob_s, am_bi_s, am_bv_s, am_bl_s, ↓bif_d, lits, nI_addS, nI_mulS, nI_subS, nI_lt', nI_le', nI_eq', ↓rd_nI, ↓wrH, up_eq, up_ne, up_up, up_sw, List.set_set, g_seq, g_sne, Nat.reduceEqDiff, ↓reduceIte, List.length_set, Nat.add_sub_cancel_left, Nat.add_sub_cancel, ite_true, ite_false, if_true, if_false, not_true_eq_false, not_false_eq_true, Bool.and_true, Bool.true_and, true_or, or_true, false_or, or_false, and_true, true_and, and_false, false_and, Nat.not_lt_zero, hpRM, hpIM, hpFM, hpLM, hpSM, g6]
  rw [b_Mod_number_44]
  simp (maxSteps := 2000000) (disch := (first | omega | (simp (disch := omega) only [up_eq, up_ne, cpA_o, cpF_o, List.length_set] <;> omega) | fail)) only [ob_s, am_bi_s, am_bv_s, am_bl_s, ↓bif_d, lits, nI_addS, nI_mulS, nI_subS, nI_lt', nI_le', nI_eq', ↓rd_nI, ↓wrH, up_eq, up_ne, up_up, up_sw, List.set_set, g_seq, g_sne, Nat.reduceEqDiff, ↓reduceIte, List.length_set, Nat.add_sub_cancel_left, Nat.add_sub_cancel, ite_true, ite_false, if_true, if_false, not_true_eq_false, not_false_eq_true, Bool.and_true, Bool.true_and, true_or, or_true, false_or, or_false, and_true, true_and, and_false, false_and, Nat.not_lt_zero, hpRM, hpIM, hpFM, hpLM, hpSM, g6]
  rw [b_Mod_number_120]
  simp (maxSteps := 2000000) (disch := (first | omega | (simp (disch := omega) only [up_eq, up_ne, cpA_o, cpF_o, List.length_set] <;> omega) | fail)) only [ob_s, am_bi_s, am_bv_s, am_bl_s, ↓bif_d, lits, nI_addS, nI_mulS, nI_subS, nI_lt', nI_le', nI_eq', ↓rd_nI, ↓wrH, up_eq, up_ne, up_up, up_sw, List.set_set, g_seq, g_sne, Nat.reduceEqDiff, ↓reduceIte, List.length_set, Nat.add_sub_cancel_left, Nat.add_sub_cancel, ite_true, ite_false, if_true, if_false, not_true_eq_false, not_false_eq_true, Bool.and_true, Bool.true_and, true_or, or_true, false_or, or_false, and_true, true_and, and_false, false_and, Nat.not_lt_zero, hpRM, hpIM, hpFM, hpLM, hpSM, g6]
  rw [e6]
theorem m_sign0 (g6 : G 19206 = nI 0) (x1 : Int32) : am_cl m_Mod_sign [.ref 192, .int x1] (heap B G P) = some (none, heap B G P) := by
  have e6 : up G 19206 (nI 0) = G := by rw [← g6]; exact up_id _ _
  rw [e_Mod_sign 192 _ _ rfl]
  simp (maxSteps := 2000000) (disch := (first | omega | (simp (disch := omega) only [up_eq, up_ne, cpA_o, cpF_o, List.length_set] <;> omega) | fail)) only [ob_s, am_bi_s, am_bv_s, am_bl_s, ↓bif_d, lits, nI_addS, nI_mulS, nI_subS, nI_lt', nI_le', nI_eq', ↓rd_nI, ↓wrH, up_eq, up_ne, up_up, up_sw, List.set_set, g_seq, g_sne, Nat.reduceEqDiff, ↓reduceIte, List.length_set, Nat.add_sub_cancel_left, Nat.add_sub_cancel, ite_true, ite_false, if_true, if_false, not_true_eq_false, not_false_eq_true, Bool.and_true, Bool.true_and, true_or, or_true, false_or, or_false, and_true, true_and, and_false, false_and, Nat.not_lt_zero, hpRM, hpIM, hpFM, hpLM, hpSM, g6]
  rw [e6]
theorem m_sign (hm : ML B G T t) {e : Nat} (he : e ≤ t) (g5 : G 19205 = nI e) (g6 : G 19206 = nI 1) (x1 : Int32) :
    (¬ (e < t ∧ T e = x1) → am_cl m_Mod_sign [.ref 192, .int x1] (heap B G P) = some (none, heap B (up G 19206 (nI 0)) P)) ∧
    ((e < t ∧ T e = x1) → am_cl m_Mod_sign [.ref 192, .int x1] (heap B G P) = some (none, heap B (up G 19205 (nI (e + 1))) P)) := by
  have n10 : ¬ nI 1 = nI 0 := by decide
  have hi := m_isAt (P := P) hm he g5 x1 x1
  rw [b01_c (show (e < t ∧ ¬ T e < x1 ∧ ¬ x1 < T e) ↔ (e < t ∧ T e = x1) by rw [eq_nn])] at hi
  constructor
  · intro c
    rw [b01_f c] at hi
    rw [e_Mod_sign 192 _ _ rfl]
    simp (maxSteps := 2000000) (disch := (first | omega | (simp (disch := omega) only [up_eq, up_ne, cpA_o, cpF_o, List.length_set] <;> omega) | fail)) only [ob_s, am_bi_s, am_bv_s, am_bl_s, ↓bif_d, lits, nI_addS, nI_mulS, nI_subS, nI_lt', nI_le', nI_eq', ↓rd_nI, ↓wrH, up_eq, up_ne, up_up, up_sw, List.set_set, g_seq, g_sne, Nat.reduceEqDiff, ↓reduceIte, List.length_set, Nat.add_sub_cancel_left, Nat.add_sub_cancel, ite_true, ite_false, if_true, if_false, not_true_eq_false, not_false_eq_true, Bool.and_true, Bool.true_and, true_or, or_true, false_or, or_false, and_true, true_and, and_false, false_and, Nat.not_lt_zero, hpRM, hpIM, hpFM, hpLM, hpSM, g6, n10, hi]
  · intro c
    rw [b01_t c] at hi
    rw [e_Mod_sign 192 _ _ rfl]
    simp (maxSteps := 2000000) (disch := (first | omega | (simp (disch := omega) only [up_eq, up_ne, cpA_o, cpF_o, List.length_set] <;> omega) | fail)) only [ob_s, am_bi_s, am_bv_s, am_bl_s, ↓bif_d, lits, nI_addS, nI_mulS, nI_subS, nI_lt', nI_le', nI_eq', ↓rd_nI, ↓wrH, up_eq, up_ne, up_up, up_sw, List.set_set, g_seq, g_sne, Nat.reduceEqDiff, ↓reduceIte, List.length_set, Nat.add_sub_cancel_left, Nat.add_sub_cancel, ite_true, ite_false, if_true, if_false, not_true_eq_false, not_false_eq_true, Bool.and_true, Bool.true_and, true_or, or_true, false_or, or_false, and_true, true_and, and_false, false_and, Nat.not_lt_zero, hpRM, hpIM, hpFM, hpLM, hpSM, g5, g6, n10, hi]
/-- an alternative -/
theorem m_alt {nB nl nb nx : Nat} (hM : Mok (B 193) nB nl nb nx) (hm : ML B G T t) {p k : Nat} (hp : p ≤ t) (hk : k < 40) (g5 : G 19205 = nI p) (g6 : G 19206 = nI 1) (g7 : G 19207 = nI k) (w : Int32) :
    (∀ f, altR T t nl p = .inl f → ∃ G', MfF G G' ∧ G' 19205 = nI f ∧ G' 19206 = nI 0 ∧ am_cl m_Mod_readAlternative [.ref 192, .int w] (heap B G P) = some (none, heap B G' P)) ∧
    (∀ l a e, altR T t nl p = .inr (l, a, e) → ∃ G', MfF G G' ∧ G' 19205 = nI e ∧ G' 19206 = nI 1 ∧ G' 19207 = nI (k + 1) ∧ am_cl m_Mod_readAlternative [.ref 192, .int w] (heap B G P) = some (none, heap (up (up (up B 196 ((B 196).set k (nI l))) 197 ((B 197).set k (nI a))) 198 ((B 198).set k w)) G' P)) := by
  have n10 : ¬ nI 1 = nI 0 := by decide
  have t80 := hm.2.1
  have hnl : nl ≤ 20 := hM.2.2.2.2.2.2.2.1
  have hlt := s_Mod_lots (F := G) (P := P) hM
  obtain ⟨G1, q1, q2, q3⟩ := m_numL (P := P) hm hp g5 g6 (nI nl - nI 1)
  obtain ⟨s1, s2, s3, s4, -⟩ := numL_spec T t hp
  have h1 : MfF G G1 := fun k hk => q1 k (by omega)
  have hm1 := ML_f hm h1
  have f6 : G1 19206 = nI 1 := by rw [q1 _ (by omega)]; exact g6
  have f7 : G1 19207 = nI k := by rw [q1 _ (by omega)]; exact g7
  obtain ⟨r1, r2⟩ := m_120 (P := P) hm1 (v := (numL T t p).2) s1 s2 q2 f6 (nI 2) (nI 1) (nI nl - nI 1)
  have hmost : nI (numL T t p).2 ≤ nI nl - nI 1 ↔ (numL T t p).2 < nl := by
    have hx := ix_in (x := nI (numL T t p).2) (n := nl) (by omega)
    have hx2 : ix (nI (numL T t p).2) nl ↔ (numL T t p).2 < nl := ⟨fun ⟨k, k1, k2⟩ => by rw [nI_eq' (by omega) (by omega)] at k2; omega, fun z => ⟨_, z, rfl⟩⟩
    rw [hx2] at hx
    constructor
    · intro z
      apply Classical.byContradiction
      intro y
      rcases hx.mpr y with u | u
      · exact nI_pos (show (numL T t p).2 < 2 ^ 31 by omega) u
      · exact Int32.not_lt.mpr z u
    · intro z
      apply Int32.not_lt.mp
      intro u
      exact hx.mp (Or.inr u) z
  rw [hmost] at r1 r2
  clear hmost
  generalize hX : nI nl - nI 1 = X at q3 r1 r2
  unfold altR
  by_cases c1 : ¬ (numL T t p).1 = p ∧ ¬ dgt T t (numL T t p).1 ∧ (numL T t p).2 < nl
  · rw [cif_t c1]
    have r2 := r2 c1
    obtain ⟨sg1, sg2⟩ := m_sign (P := P) hm1 s2 q2 f6 (nI 61)
    by_cases c2 : (numL T t p).1 < t ∧ T (numL T t p).1 = nI 61
    · rw [cif_t c2]
      have sg2 := sg2 c2
      have hm2 : ML B (up G1 19205 (nI ((numL T t p).1 + 1))) T t := ML_f hm1 (fun k hk => up_ne _ _ (by omega))
      obtain ⟨G3, q4, q5, q6⟩ := m_numA (P := P) hm2 (p := (numL T t p).1 + 1) c2.1 (up_eq _ _ _) (by simp (disch := (first | omega | fail)) only [st_e, sf_e, Nat.reduceAdd, Nat.reduceMul, up_eq, up_ne, cpA_o, cpF_o]; exact f6) (nI 1000000)
      obtain ⟨t1, t2, t3, t4, -⟩ := numA_spec T t (p := (numL T t p).1 + 1) c2.1
      have h3 : MfF G G3 := fun k hk => by rw [q4 k (by omega), up_ne _ _ (by omega), h1 k hk]
      have hm3 := ML_f hm h3
      have e6 : G3 19206 = nI 1 := by rw [q4 _ (by omega), up_ne _ _ (by omega)]; exact f6
      have e7 : G3 19207 = nI k := by rw [q4 _ (by omega), up_ne _ _ (by omega)]; exact f7
      obtain ⟨v1, v2⟩ := m_120 (P := P) hm3 (v := (numA T t ((numL T t p).1 + 1)).2) t1 t2 q5 e6 (nI 7) (nI 0) (nI 1000000)
      simp only [nI_le' (show (numA T t ((numL T t p).1 + 1)).2 < 2 ^ 31 by omega) (show 1000000 < 2 ^ 31 by omega)] at v1 v2
      by_cases c3 : ¬ (numA T t ((numL T t p).1 + 1)).1 = (numL T t p).1 + 1 ∧ ¬ dgt T t (numA T t ((numL T t p).1 + 1)).1 ∧ (numA T t ((numL T t p).1 + 1)).2 ≤ 1000000
      · rw [cif_t c3]
        have v2 := v2 c3
        refine ⟨fun f hf => (by cases hf), fun l a e he => ?_⟩
        cases he
        obtain ⟨l196, l197, l198⟩ := hm.2.2.2.2
        refine ⟨up G3 19207 (nI (k + 1)), fun k hk => by rw [up_ne _ _ (by omega)]; exact h3 k hk, by simp (disch := (first | omega | fail)) only [st_e, sf_e, Nat.reduceAdd, Nat.reduceMul, up_eq, up_ne, cpA_o, cpF_o]; exact q5, by simp (disch := (first | omega | fail)) only [st_e, sf_e, Nat.reduceAdd, Nat.reduceMul, up_eq, up_ne, cpA_o, cpF_o]; exact e6, up_eq _ _ _, ?_⟩
        rw [e_Mod_readAlternative 192 _ _ rfl, hlt]
        simp only [am_bi_s, lits]
        rw [hX]
        simp (maxSteps := 2000000) (disch := (first | omega | (simp (disch := omega) only [up_eq, up_ne, cpA_o, cpF_o, List.length_set] <;> omega) | fail)) only [ob_s, am_bi_s, am_bv_s, am_bl_s, ↓bif_d, lits, nI_addS, nI_mulS, nI_subS, nI_lt', nI_le', nI_eq', ↓rd_nI, ↓wrH, up_eq, up_ne, up_up, up_sw, List.set_set, g_seq, g_sne, Nat.reduceEqDiff, ↓reduceIte, List.length_set, Nat.add_sub_cancel_left, Nat.add_sub_cancel, ite_true, ite_false, if_true, if_false, not_true_eq_false, not_false_eq_true, Bool.and_true, Bool.true_and, true_or, or_true, false_or, or_false, and_true, true_and, and_false, false_and, Nat.not_lt_zero, hpRM, hpIM, hpFM, hpLM, hpSM, q3, r2, sg2, q6, v2, e6, n10, e7]
      · rw [cif_f c3]
        obtain ⟨G4, w1, w2, w3, w4⟩ := v1 c3
        refine ⟨fun f hf => ?_, fun l a e he => (by cases he)⟩
        cases hf
        refine ⟨G4, fun k hk => by rw [w1 k (by omega) (by omega)]; exact h3 k hk, w2, w3, ?_⟩
        rw [e_Mod_readAlternative 192 _ _ rfl, hlt]
        simp only [am_bi_s, lits]
        rw [hX]
        simp (maxSteps := 2000000) (disch := (first | omega | (simp (disch := omega) only [up_eq, up_ne, cpA_o, cpF_o, List.length_set] <;> omega) | fail)) only [ob_s, am_bi_s, am_bv_s, am_bl_s, ↓bif_d, lits, nI_addS, nI_mulS, nI_subS, nI_lt', nI_le', nI_eq', ↓rd_nI, ↓wrH, up_eq, up_ne, up_up, up_sw, List.set_set, g_seq, g_sne, Nat.reduceEqDiff, ↓reduceIte, List.length_set, Nat.add_sub_cancel_left, Nat.add_sub_cancel, ite_true, ite_false, if_true, if_false, not_true_eq_false, not_false_eq_true, Bool.and_true, Bool.true_and, true_or, or_true, false_or, or_false, and_true, true_and, and_false, false_and, Nat.not_lt_zero, hpRM, hpIM, hpFM, hpLM, hpSM, q3, r2, sg2, q6, w4, w3]
    · rw [cif_f c2]
      have sg1 := sg1 c2
      refine ⟨fun f hf => ?_, fun l a e he => (by cases he)⟩
      cases hf
      have hn0 := m_num0 (B := B) (G := up G1 19206 (nI 0)) (P := P) (up_eq _ _ _) (nI 7) (nI 0) (nI 1000000)
      refine ⟨up G1 19206 (nI 0), fun k hk => by rw [up_ne _ _ (by omega)]; exact h1 k hk, by simp (disch := (first | omega | fail)) only [st_e, sf_e, Nat.reduceAdd, Nat.reduceMul, up_eq, up_ne, cpA_o, cpF_o]; exact q2, up_eq _ _ _, ?_⟩
      rw [e_Mod_readAlternative 192 _ _ rfl, hlt]
      simp only [am_bi_s, lits]
      rw [hX]
      simp (maxSteps := 2000000) (disch := (first | omega | (simp (disch := omega) only [up_eq, up_ne, cpA_o, cpF_o, List.length_set] <;> omega) | fail)) only [ob_s, am_bi_s, am_bv_s, am_bl_s, ↓bif_d, lits, nI_addS, nI_mulS, nI_subS, nI_lt', nI_le', nI_eq', ↓rd_nI, ↓wrH, up_eq, up_ne, up_up, up_sw, List.set_set, g_seq, g_sne, Nat.reduceEqDiff, ↓reduceIte, List.length_set, Nat.add_sub_cancel_left, Nat.add_sub_cancel, ite_true, ite_false, if_true, if_false, not_true_eq_false, not_false_eq_true, Bool.and_true, Bool.true_and, true_or, or_true, false_or, or_false, and_true, true_and, and_false, false_and, Nat.not_lt_zero, hpRM, hpIM, hpFM, hpLM, hpSM, q3, r2, sg1, hn0]
  · rw [cif_f c1]
    obtain ⟨G2, w1, w2, w3, w4⟩ := r1 c1
    refine ⟨fun f hf => ?_, fun l a e he => (by cases he)⟩
    cases hf
    have hs0 := m_sign0 (B := B) (P := P) w3 (nI 61)
    have hn0 := m_num0 (B := B) (P := P) w3 (nI 7) (nI 0) (nI 1000000)
    refine ⟨G2, fun k hk => by rw [w1 k (by omega) (by omega)]; exact h1 k hk, w2, w3, ?_⟩
    rw [e_Mod_readAlternative 192 _ _ rfl, hlt]
    simp only [am_bi_s, lits]
    rw [hX]
    simp (maxSteps := 2000000) (disch := (first | omega | (simp (disch := omega) only [up_eq, up_ne, cpA_o, cpF_o, List.length_set] <;> omega) | fail)) only [ob_s, am_bi_s, am_bv_s, am_bl_s, ↓bif_d, lits, nI_addS, nI_mulS, nI_subS, nI_lt', nI_le', nI_eq', ↓rd_nI, ↓wrH, up_eq, up_ne, up_up, up_sw, List.set_set, g_seq, g_sne, Nat.reduceEqDiff, ↓reduceIte, List.length_set, Nat.add_sub_cancel_left, Nat.add_sub_cancel, ite_true, ite_false, if_true, if_false, not_true_eq_false, not_false_eq_true, Bool.and_true, Bool.true_and, true_or, or_true, false_or, or_false, and_true, true_and, and_false, false_and, Nat.not_lt_zero, hpRM, hpIM, hpFM, hpLM, hpSM, q3, w4, hs0, hn0, w3]
end X
