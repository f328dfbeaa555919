/-! AN ALTERNATIVE, as the class reads it -/
theorem nI_nm1 {a : Nat} (ha : a < 2 ^ 31) : ¬ nI a = -nI 1 := fun z => by
  have h5 : (-nI 1 : Int32) < nI 0 := by decide
  rw [← z] at h5
  exact nI_pos ha h5
section X
variable {A : Nat → List Int32} {F : Nat → Int32} {P : Nat → Nat} {T : Nat → Int32} {t : Nat}
theorem c_numL (hc : CL A F T t) {p : Nat} (hp : p ≤ t) (f7 : F 18407 = nI 0) (f8 : F 18408 = nI 0) (f9 : F 18409 = nI 0) (x : Int32) (u3 u4 u5 : Value) : ∃ (F' : Nat → Int32) (u3' u4' u5' : Value), (∀ k, k ≠ 18408 → k ≠ 18409 → F' k = F k) ∧ F' 18408 = nI (numL T t p).2 ∧ F' 18409 = nI ((numL T t p).1 - p) ∧ am_ev m_Letter_read (21, [.ref 184, .int x, .int (nI p), u3, u4, u5], [], heap A F P) = am_ev m_Letter_read (21, [.ref 184, .int x, .int (nI (numL T t p).1), u3', u4', u5'], [], heap A F' P) := by
  unfold numL
  by_cases c : p < t ∧ T p = nI 48
  · rw [cif_t c]
    obtain ⟨d1, d2⟩ := dgt_48 c.1 c.2
    have b45 := fun x1 x2 h => b_Letter_readDigit_45 184 x1 x2 h
    refine ⟨up (up F 18408 (nI 0)) 18409 (nI 1), .int (T p), .int (nI 1), .int (-nI 1), fun k z1 z2 => by rw [up_ne _ _ z2, up_ne _ _ z1], by simp (disch := (first | omega | fail)) only [st_e, sf_e, Nat.reduceAdd, Nat.reduceMul, up_eq, up_ne, cpA_o, cpF_o], by simp (disch := (first | omega | fail)) only [st_e, sf_e, Nat.reduceAdd, Nat.reduceMul, up_eq, up_ne, cpA_o, cpF_o]; show nI 1 = nI (p + 1 - p); congr 1; omega, ?_⟩
    rw [c_dig hc d1, d2]
    have hrd : am_cl m_Letter_readDigit [.ref 184, .int (nI 0), .int (nI p)] (heap A F P) = some (some (.int (-nI 1)), heap A (up (up F 18408 (nI 0)) 18409 (nI 1)) P) := by
      rw [e_Letter_readDigit 184 _ _ _ rfl]
      simp (maxSteps := 2000000) (disch := (first | omega | (simp (disch := omega) only [up_eq, up_ne, cpA_o, cpF_o, List.length_set] <;> omega) | fail)) only [ob_s, am_bi_s, am_bv_s, am_bl_s, ↓bif_d, lits, nI_addS, nI_mulS, nI_subS, nI_lt', nI_le', nI_eq', ↓rd_nI, ↓wrH, up_eq, up_ne, up_up, up_sw, List.set_set, g_seq, g_sne, Nat.reduceEqDiff, ↓reduceIte, List.length_set, Nat.add_sub_cancel_left, Nat.add_sub_cancel, ite_true, ite_false, if_true, if_false, not_true_eq_false, not_false_eq_true, Bool.and_true, Bool.true_and, true_or, or_true, false_or, or_false, and_true, true_and, and_false, false_and, Nat.not_lt_zero, hpRX, hpIX, hpFX, hpLX, hpSX, ↓rgX, ↓rpX, Nat.reduceLeDiff, Nat.reduceLT, Nat.reduceAdd, Nat.reduceMul, Nat.reduceSub, f7, f8, f9, b45]
    rw [hrd]
    simp only [am_bi_s, if_true]
  · rw [cif_f c]
    obtain ⟨F', u3', u4', u5', q1, q2, q3, q4⟩ := c_scan (A := A) (P := P) (T := T) (t := t) x (κ := 0) (D := 2) (Or.inl ⟨rfl, rfl⟩) 2 p 0 0 F u3 u4 u5 rfl hp hc f7 f8 f9 (fun _ hd w => c ⟨hd.1, (dgt_0 hd).mpr w⟩) (fun z => absurd z (Nat.lt_irrefl _)) (by omega)
    exact ⟨F', u3', u4', u5', q1, q2, by rw [q3, Nat.zero_add], q4⟩
theorem c_numA (hc : CL A F T t) {p : Nat} (hp : p ≤ t) (f7 : F 18407 = nI 1) (f8 : F 18408 = nI 0) (f9 : F 18409 = nI 0) (x : Int32) (u3 u4 u5 : Value) : ∃ (F' : Nat → Int32) (u3' u4' u5' : Value), (∀ k, k ≠ 18408 → k ≠ 18409 → F' k = F k) ∧ F' 18408 = nI (numA T t p).2 ∧ F' 18409 = nI ((numA T t p).1 - p) ∧ am_ev m_Letter_read (21, [.ref 184, .int x, .int (nI p), u3, u4, u5], [], heap A F P) = am_ev m_Letter_read (21, [.ref 184, .int x, .int (nI (numA T t p).1), u3', u4', u5'], [], heap A F' P) := by
  unfold numA
  by_cases c : p < t ∧ T p = nI 48
  · rw [cif_t c]
    exact ⟨F, u3, u4, u5, fun _ _ _ => rfl, f8, by rw [f9]; show nI 0 = nI (p - p); congr 1; omega, rfl⟩
  · rw [cif_f c]
    obtain ⟨F', u3', u4', u5', q1, q2, q3, q4⟩ := c_scan (A := A) (P := P) (T := T) (t := t) x (κ := 1) (D := 7) (Or.inr ⟨rfl, rfl⟩) 7 p 0 0 F u3 u4 u5 rfl hp hc f7 f8 f9 (fun _ hd w => c ⟨hd.1, (dgt_0 hd).mpr w⟩) (fun z => absurd z (Nat.lt_irrefl _)) (by omega)
    exact ⟨F', u3', u4', u5', q1, q2, by rw [q3, Nat.zero_add], q4⟩
/-- the class's lot of an alternative, up to its sign -/
theorem c_altL (hc : CL A F T t) {p k w nl : Nat} (hp : p ≤ t) (hk : p < t → k < 20) (hnl : nl ≤ 20) (f5 : F 18405 = nI k) (f6 : F 18406 = nI w) (f7 : F 18407 = nI 0) (f8 : F 18408 = nI 0) (f9 : F 18409 = nI 0) (u3 u4 u5 : Value) :
    (¬ (¬ (numL T t p).1 = p ∧ ¬ dgt T t (numL T t p).1 ∧ (numL T t p).2 < nl) → ∃ F', LfF F F' ∧ am_ev m_Letter_read (21, [.ref 184, .int (nI nl), .int (nI p), u3, u4, u5], [], heap A F P) = some (some (.int (nI (cif (¬ (numL T t p).1 = p ∧ dgt T t (numL T t p).1) (numL T t p).1 p))), heap A F' P)) ∧
    ((¬ (numL T t p).1 = p ∧ ¬ dgt T t (numL T t p).1 ∧ (numL T t p).2 < nl) → ¬ ((numL T t p).1 < t ∧ T (numL T t p).1 = nI 61) → ∃ F', LfF F F' ∧ am_ev m_Letter_read (21, [.ref 184, .int (nI nl), .int (nI p), u3, u4, u5], [], heap A F P) = some (some (.int (nI (numL T t p).1)), heap A F' P)) ∧
    ((¬ (numL T t p).1 = p ∧ ¬ dgt T t (numL T t p).1 ∧ (numL T t p).2 < nl) → ((numL T t p).1 < t ∧ T (numL T t p).1 = nI 61) → ∃ F' u3' u4' u5', LfF F F' ∧ F' 18405 = nI k ∧ F' 18406 = nI w ∧ F' 18407 = nI 1 ∧ F' 18408 = nI 0 ∧ F' 18409 = nI 0 ∧ am_ev m_Letter_read (21, [.ref 184, .int (nI nl), .int (nI p), u3, u4, u5], [], heap A F P) = am_ev m_Letter_read (21, [.ref 184, .int (nI nl), .int (nI ((numL T t p).1 + 1)), u3', u4', u5'], [], heap (up A 187 ((A 187).set k (nI (numL T t p).2))) F' P)) := by
  obtain ⟨F1, v3, v4, v5, q1, q2, q3, q4⟩ := c_numL (P := P) hc hp f7 f8 f9 (nI nl) u3 u4 u5
  obtain ⟨s1, s2, s3, s4, s5⟩ := numL_spec T t hp
  have hF1 : LfF F F1 := fun k hk => q1 k (by omega) (by omega)
  have hc1 := CL_f hc hF1
  have t80 := hc.2.1
  have l187 := hc.2.2.2.2.1
  have e1 : F1 18401 = nI t := hc1.1
  have e5 : F1 18405 = nI k := by rw [q1 _ (by omega) (by omega)]; exact f5
  have e6 : F1 18406 = nI w := by rw [q1 _ (by omega) (by omega)]; exact f6
  have e7 : F1 18407 = nI 0 := by rw [q1 _ (by omega) (by omega)]; exact f7
  rw [q4]
  generalize (numL T t p).1 = e at *
  generalize (numL T t p).2 = v at *
  have etg := fun x A F P => e_Letter_isTooGreat 184 x (heap A F P) rfl
  have b25 := fun x1 h => b_Letter_readEnd_25 184 x1 h
  have b45 := fun x1 x2 h => b_Letter_readDigit_45 184 x1 x2 h
  have etk := fun A F P => e_Letter_takeNumber 184 (heap A F P) rfl
  have est := fun A F P => e_Letter_startNumber 184 (heap A F P) rfl
  refine ⟨fun hn => ⟨F1, hF1, ?_⟩, fun hn h2 => ⟨F1, hF1, ?_⟩, fun hn h2 => ?_⟩
  · by_cases c1 : e = p
    · subst c1
      rw [cif_f (fun z => z.1 rfl)]
      have z0 : e - e = 0 := by omega
      rw [z0] at q3
      by_cases c2 : e = t
      · subst c2
        rw [c_end hc1, e_Letter_readEnd 184 _ _ rfl]
        simp (maxSteps := 2000000) (disch := (first | omega | (simp (disch := omega) only [up_eq, up_ne, cpA_o, cpF_o, List.length_set] <;> omega) | fail)) only [ob_s, am_bi_s, am_bv_s, am_bl_s, ↓bif_d, lits, nI_addS, nI_mulS, nI_subS, nI_lt', nI_le', nI_eq', ↓rd_nI, ↓wrH, up_eq, up_ne, up_up, up_sw, List.set_set, g_seq, g_sne, Nat.reduceEqDiff, ↓reduceIte, List.length_set, Nat.add_sub_cancel_left, Nat.add_sub_cancel, ite_true, ite_false, if_true, if_false, not_true_eq_false, not_false_eq_true, Bool.and_true, Bool.true_and, true_or, or_true, false_or, or_false, and_true, true_and, and_false, false_and, Nat.not_lt_zero, hpRX, hpIX, hpFX, hpLX, hpSX, ↓rgX, ↓rpX, Nat.reduceLeDiff, Nat.reduceLT, Nat.reduceAdd, Nat.reduceMul, Nat.reduceSub, q3, Nat.le_refl, b25, e7, e1]
      · have hd : ¬ dgt T t e := fun z => (s5 z).1 rfl
        have n1 := nI_nm1 (a := e) (by omega)
        rw [c_mark hc1 (by omega) hd, e_Letter_readMark 184 _ _ _ _ rfl]
        simp (maxSteps := 2000000) (disch := (first | omega | (simp (disch := omega) only [up_eq, up_ne, cpA_o, cpF_o, List.length_set] <;> omega) | fail)) only [ob_s, am_bi_s, am_bv_s, am_bl_s, ↓bif_d, lits, nI_addS, nI_mulS, nI_subS, nI_lt', nI_le', nI_eq', ↓rd_nI, ↓wrH, up_eq, up_ne, up_up, up_sw, List.set_set, g_seq, g_sne, Nat.reduceEqDiff, ↓reduceIte, List.length_set, Nat.add_sub_cancel_left, Nat.add_sub_cancel, ite_true, ite_false, if_true, if_false, not_true_eq_false, not_false_eq_true, Bool.and_true, Bool.true_and, true_or, or_true, false_or, or_false, and_true, true_and, and_false, false_and, Nat.not_lt_zero, hpRX, hpIX, hpFX, hpLX, hpSX, ↓rgX, ↓rpX, Nat.reduceLeDiff, Nat.reduceLT, Nat.reduceAdd, Nat.reduceMul, Nat.reduceSub, q3, n1]
    · have hpe : p < e := by omega
      by_cases c2 : dgt T t e
      · rw [cif_t ⟨c1, c2⟩, c_dig hc1 c2, e_Letter_readDigit 184 _ _ _ rfl]
        have n1 := nI_nm1 (a := e) (by omega)
        rcases (s5 c2).2 with ⟨z1, z2⟩ | ⟨z1, z2⟩
        · have z3 : e - p = 1 := by omega
          rw [z3] at q3
          rw [z2] at q2
          simp (maxSteps := 2000000) (disch := (first | omega | (simp (disch := omega) only [up_eq, up_ne, cpA_o, cpF_o, List.length_set] <;> omega) | fail)) only [ob_s, am_bi_s, am_bv_s, am_bl_s, ↓bif_d, lits, nI_addS, nI_mulS, nI_subS, nI_lt', nI_le', nI_eq', ↓rd_nI, ↓wrH, up_eq, up_ne, up_up, up_sw, List.set_set, g_seq, g_sne, Nat.reduceEqDiff, ↓reduceIte, List.length_set, Nat.add_sub_cancel_left, Nat.add_sub_cancel, ite_true, ite_false, if_true, if_false, not_true_eq_false, not_false_eq_true, Bool.and_true, Bool.true_and, true_or, or_true, false_or, or_false, and_true, true_and, and_false, false_and, Nat.not_lt_zero, hpRX, hpIX, hpFX, hpLX, hpSX, ↓rgX, ↓rpX, Nat.reduceLeDiff, Nat.reduceLT, Nat.reduceAdd, Nat.reduceMul, Nat.reduceSub, q3, q2, e7, n1]
        · have z3 : e - p = 2 := by omega
          rw [z3] at q3
          simp (maxSteps := 2000000) (disch := (first | omega | (simp (disch := omega) only [up_eq, up_ne, cpA_o, cpF_o, List.length_set] <;> omega) | fail)) only [ob_s, am_bi_s, am_bv_s, am_bl_s, ↓bif_d, lits, nI_addS, nI_mulS, nI_subS, nI_lt', nI_le', nI_eq', ↓rd_nI, ↓wrH, up_eq, up_ne, up_up, up_sw, List.set_set, g_seq, g_sne, Nat.reduceEqDiff, ↓reduceIte, List.length_set, Nat.add_sub_cancel_left, Nat.add_sub_cancel, ite_true, ite_false, if_true, if_false, not_true_eq_false, not_false_eq_true, Bool.and_true, Bool.true_and, true_or, or_true, false_or, or_false, and_true, true_and, and_false, false_and, Nat.not_lt_zero, hpRX, hpIX, hpFX, hpLX, hpSX, ↓rgX, ↓rpX, Nat.reduceLeDiff, Nat.reduceLT, Nat.reduceAdd, Nat.reduceMul, Nat.reduceSub, q3, q2, e7, n1, b45]
      · rw [cif_f (fun z => c2 z.2)]
        have hv : ¬ v < nl := fun z => hn ⟨c1, c2, z⟩
        have hd0 : ¬ e - p = 0 := by omega
        have hd1 : ¬ e - p ≤ 0 := by omega
        have hpp : e - (e - p) = p := by omega
        by_cases c3 : e = t
        · subst c3
          rw [c_end hc1, e_Letter_readEnd 184 _ _ rfl]
          simp (maxSteps := 2000000) (disch := (first | omega | (simp (disch := omega) only [up_eq, up_ne, cpA_o, cpF_o, List.length_set] <;> omega) | fail)) only [ob_s, am_bi_s, am_bv_s, am_bl_s, ↓bif_d, lits, nI_addS, nI_mulS, nI_subS, nI_lt', nI_le', nI_eq', ↓rd_nI, ↓wrH, up_eq, up_ne, up_up, up_sw, List.set_set, g_seq, g_sne, Nat.reduceEqDiff, ↓reduceIte, List.length_set, Nat.add_sub_cancel_left, Nat.add_sub_cancel, ite_true, ite_false, if_true, if_false, not_true_eq_false, not_false_eq_true, Bool.and_true, Bool.true_and, true_or, or_true, false_or, or_false, and_true, true_and, and_false, false_and, Nat.not_lt_zero, hpRX, hpIX, hpFX, hpLX, hpSX, ↓rgX, ↓rpX, Nat.reduceLeDiff, Nat.reduceLT, Nat.reduceAdd, Nat.reduceMul, Nat.reduceSub, q3, hd1, etg, e7, q2, hv, e1, hpp]
        · have n1 := nI_nm1 (a := p) (by omega)
          rw [c_mark hc1 (by omega) c2, e_Letter_readMark 184 _ _ _ _ rfl]
          simp (maxSteps := 2000000) (disch := (first | omega | (simp (disch := omega) only [up_eq, up_ne, cpA_o, cpF_o, List.length_set] <;> omega) | fail)) only [ob_s, am_bi_s, am_bv_s, am_bl_s, ↓bif_d, lits, nI_addS, nI_mulS, nI_subS, nI_lt', nI_le', nI_eq', ↓rd_nI, ↓wrH, up_eq, up_ne, up_up, up_sw, List.set_set, g_seq, g_sne, Nat.reduceEqDiff, ↓reduceIte, List.length_set, Nat.add_sub_cancel_left, Nat.add_sub_cancel, ite_true, ite_false, if_true, if_false, not_true_eq_false, not_false_eq_true, Bool.and_true, Bool.true_and, true_or, or_true, false_or, or_false, and_true, true_and, and_false, false_and, Nat.not_lt_zero, hpRX, hpIX, hpFX, hpLX, hpSX, ↓rgX, ↓rpX, Nat.reduceLeDiff, Nat.reduceLT, Nat.reduceAdd, Nat.reduceMul, Nat.reduceSub, q3, hd0, etg, e7, q2, hv, hpp, n1]
  · obtain ⟨c1, c2, c3⟩ := hn
    have hd0 : ¬ e - p = 0 := by omega
    have hd1 : ¬ e - p ≤ 0 := by omega
    by_cases c4 : e = t
    · subst c4
      rw [c_end hc1, e_Letter_readEnd 184 _ _ rfl]
      simp (maxSteps := 2000000) (disch := (first | omega | (simp (disch := omega) only [up_eq, up_ne, cpA_o, cpF_o, List.length_set] <;> omega) | fail)) only [ob_s, am_bi_s, am_bv_s, am_bl_s, ↓bif_d, lits, nI_addS, nI_mulS, nI_subS, nI_lt', nI_le', nI_eq', ↓rd_nI, ↓wrH, up_eq, up_ne, up_up, up_sw, List.set_set, g_seq, g_sne, Nat.reduceEqDiff, ↓reduceIte, List.length_set, Nat.add_sub_cancel_left, Nat.add_sub_cancel, ite_true, ite_false, if_true, if_false, not_true_eq_false, not_false_eq_true, Bool.and_true, Bool.true_and, true_or, or_true, false_or, or_false, and_true, true_and, and_false, false_and, Nat.not_lt_zero, hpRX, hpIX, hpFX, hpLX, hpSX, ↓rgX, ↓rpX, Nat.reduceLeDiff, Nat.reduceLT, Nat.reduceAdd, Nat.reduceMul, Nat.reduceSub, q3, hd1, etg, e7, q2, c3, b25, e1]
    · have c5 : ¬ T e = nI 61 := fun z => h2 ⟨by omega, z⟩
      have n1 := nI_nm1 (a := e) (by omega)
      rw [c_mark hc1 (by omega) c2, e_Letter_readMark 184 _ _ _ _ rfl]
      simp (maxSteps := 2000000) (disch := (first | omega | (simp (disch := omega) only [up_eq, up_ne, cpA_o, cpF_o, List.length_set] <;> omega) | fail)) only [ob_s, am_bi_s, am_bv_s, am_bl_s, ↓bif_d, lits, nI_addS, nI_mulS, nI_subS, nI_lt', nI_le', nI_eq', ↓rd_nI, ↓wrH, up_eq, up_ne, up_up, up_sw, List.set_set, g_seq, g_sne, Nat.reduceEqDiff, ↓reduceIte, List.length_set, Nat.add_sub_cancel_left, Nat.add_sub_cancel, ite_true, ite_false, if_true, if_false, not_true_eq_false, not_false_eq_true, Bool.and_true, Bool.true_and, true_or, or_true, false_or, or_false, and_true, true_and, and_false, false_and, Nat.not_lt_zero, hpRX, hpIX, hpFX, hpLX, hpSX, ↓rgX, ↓rpX, Nat.reduceLeDiff, Nat.reduceLT, Nat.reduceAdd, Nat.reduceMul, Nat.reduceSub, q3, hd0, etg, e7, q2, c3, c5, n1]
  · obtain ⟨c1, c2, c3⟩ := hn
    have hd0 : ¬ e - p = 0 := by omega
    have hk := hk (by omega)
    have c5 := h2.2
    have n0 : ¬ nI 61 = nI 44 := by decide
    refine ⟨up (up (up F1 18407 (nI 1)) 18408 (nI 0)) 18409 (nI 0), .int (T e), .int (nI 0), .int (-nI 1), fun k hk => ?_, by simp (disch := (first | omega | fail)) only [st_e, sf_e, Nat.reduceAdd, Nat.reduceMul, up_eq, up_ne, cpA_o, cpF_o]; exact e5, by simp (disch := (first | omega | fail)) only [st_e, sf_e, Nat.reduceAdd, Nat.reduceMul, up_eq, up_ne, cpA_o, cpF_o]; exact e6, by simp (disch := (first | omega | fail)) only [st_e, sf_e, Nat.reduceAdd, Nat.reduceMul, up_eq, up_ne, cpA_o, cpF_o], by simp (disch := (first | omega | fail)) only [st_e, sf_e, Nat.reduceAdd, Nat.reduceMul, up_eq, up_ne, cpA_o, cpF_o], by simp (disch := (first | omega | fail)) only [st_e, sf_e, Nat.reduceAdd, Nat.reduceMul, up_eq, up_ne, cpA_o, cpF_o], ?_⟩
    · rw [up_ne _ _ (by omega), up_ne _ _ (by omega), up_ne _ _ (by omega)]
      exact hF1 k hk
    · rw [c_mark hc1 h2.1 c2, e_Letter_readMark 184 _ _ _ _ rfl]
      simp (maxSteps := 2000000) (disch := (first | omega | (simp (disch := omega) only [up_eq, up_ne, cpA_o, cpF_o, List.length_set] <;> omega) | fail)) only [ob_s, am_bi_s, am_bv_s, am_bl_s, ↓bif_d, lits, nI_addS, nI_mulS, nI_subS, nI_lt', nI_le', nI_eq', ↓rd_nI, ↓wrH, up_eq, up_ne, up_up, up_sw, List.set_set, g_seq, g_sne, Nat.reduceEqDiff, ↓reduceIte, List.length_set, Nat.add_sub_cancel_left, Nat.add_sub_cancel, ite_true, ite_false, if_true, if_false, not_true_eq_false, not_false_eq_true, Bool.and_true, Bool.true_and, true_or, or_true, false_or, or_false, and_true, true_and, and_false, false_and, Nat.not_lt_zero, hpRX, hpIX, hpFX, hpLX, hpSX, ↓rgX, ↓rpX, Nat.reduceLeDiff, Nat.reduceLT, Nat.reduceAdd, Nat.reduceMul, Nat.reduceSub, q3, hd0, etg, e7, q2, c3, c5, etk, e5, est, n0]
/-- the class's amount of an alternative -/
theorem c_altA (hc : CL A F T t) {p k w nl : Nat} (hp : p ≤ t) (f5 : F 18405 = nI k) (f6 : F 18406 = nI w) (f7 : F 18407 = nI 1) (f8 : F 18408 = nI 0) (f9 : F 18409 = nI 0) (u3 u4 u5 : Value) :
    (¬ (¬ (numA T t p).1 = p ∧ ¬ dgt T t (numA T t p).1 ∧ (numA T t p).2 ≤ 1000000) → ∃ F', LfF F F' ∧ am_ev m_Letter_read (21, [.ref 184, .int (nI nl), .int (nI p), u3, u4, u5], [], heap A F P) = some (some (.int (nI (cif (¬ (numA T t p).1 = p ∧ dgt T t (numA T t p).1) (numA T t p).1 p))), heap A F' P)) ∧
    ((¬ (numA T t p).1 = p ∧ ¬ dgt T t (numA T t p).1 ∧ (numA T t p).2 ≤ 1000000) → ∃ F' u3' u4' u5' d, LfF F F' ∧ F' 18405 = nI k ∧ F' 18406 = nI w ∧ F' 18407 = nI 1 ∧ F' 18408 = nI (numA T t p).2 ∧ 0 < d ∧ d ≤ 80 ∧ F' 18409 = nI d ∧ am_ev m_Letter_read (21, [.ref 184, .int (nI nl), .int (nI p), u3, u4, u5], [], heap A F P) = am_ev m_Letter_read (21, [.ref 184, .int (nI nl), .int (nI (numA T t p).1), u3', u4', u5'], [], heap A F' P)) := by
  obtain ⟨F1, v3, v4, v5, q1, q2, q3, q4⟩ := c_numA (P := P) hc hp f7 f8 f9 (nI nl) u3 u4 u5
  obtain ⟨s1, s2, s3, s4, s5, s6, s7⟩ := numA_spec T t hp
  have hF1 : LfF F F1 := fun k hk => q1 k (by omega) (by omega)
  have hc1 := CL_f hc hF1
  have t80 := hc.2.1
  have e1 : F1 18401 = nI t := hc1.1
  have e5 : F1 18405 = nI k := by rw [q1 _ (by omega) (by omega)]; exact f5
  have e6 : F1 18406 = nI w := by rw [q1 _ (by omega) (by omega)]; exact f6
  have e7 : F1 18407 = nI 1 := by rw [q1 _ (by omega) (by omega)]; exact f7
  rw [q4]
  generalize (numA T t p).1 = e at *
  generalize (numA T t p).2 = v at *
  have etg := fun x A F P => e_Letter_isTooGreat 184 x (heap A F P) rfl
  have b25 := fun x1 h => b_Letter_readEnd_25 184 x1 h
  have b22 := fun x1 x2 h => b_Letter_readDigit_22 184 x1 x2 h
  refine ⟨fun hn => ⟨F1, hF1, ?_⟩, fun hn => ⟨F1, v3, v4, v5, e - p, hF1, e5, e6, e7, q2, by omega, by omega, q3, rfl⟩⟩
  by_cases c1 : e = p
  · subst c1
    rw [cif_f (fun z => z.1 rfl)]
    have z0 : e - e = 0 := by omega
    rw [z0] at q3
    have n1 := nI_nm1 (a := e) (by omega)
    by_cases c2 : e = t
    · subst c2
      rw [c_end hc1, e_Letter_readEnd 184 _ _ rfl]
      simp (maxSteps := 2000000) (disch := (first | omega | (simp (disch := omega) only [up_eq, up_ne, cpA_o, cpF_o, List.length_set] <;> omega) | fail)) only [ob_s, am_bi_s, am_bv_s, am_bl_s, ↓bif_d, lits, nI_addS, nI_mulS, nI_subS, nI_lt', nI_le', nI_eq', ↓rd_nI, ↓wrH, up_eq, up_ne, up_up, up_sw, List.set_set, g_seq, g_sne, Nat.reduceEqDiff, ↓reduceIte, List.length_set, Nat.add_sub_cancel_left, Nat.add_sub_cancel, ite_true, ite_false, if_true, if_false, not_true_eq_false, not_false_eq_true, Bool.and_true, Bool.true_and, true_or, or_true, false_or, or_false, and_true, true_and, and_false, false_and, Nat.not_lt_zero, hpRX, hpIX, hpFX, hpLX, hpSX, ↓rgX, ↓rpX, Nat.reduceLeDiff, Nat.reduceLT, Nat.reduceAdd, Nat.reduceMul, Nat.reduceSub, q3, Nat.le_refl, b25, e7, e1]
    · by_cases hd : dgt T t e
      · have hz := s7 hd rfl
        rw [c_dig hc1 hd, hz, e_Letter_readDigit 184 _ _ _ rfl]
        simp (maxSteps := 2000000) (disch := (first | omega | (simp (disch := omega) only [up_eq, up_ne, cpA_o, cpF_o, List.length_set] <;> omega) | fail)) only [ob_s, am_bi_s, am_bv_s, am_bl_s, ↓bif_d, lits, nI_addS, nI_mulS, nI_subS, nI_lt', nI_le', nI_eq', ↓rd_nI, ↓wrH, up_eq, up_ne, up_up, up_sw, List.set_set, g_seq, g_sne, Nat.reduceEqDiff, ↓reduceIte, List.length_set, Nat.add_sub_cancel_left, Nat.add_sub_cancel, ite_true, ite_false, if_true, if_false, not_true_eq_false, not_false_eq_true, Bool.and_true, Bool.true_and, true_or, or_true, false_or, or_false, and_true, true_and, and_false, false_and, Nat.not_lt_zero, hpRX, hpIX, hpFX, hpLX, hpSX, ↓rgX, ↓rpX, Nat.reduceLeDiff, Nat.reduceLT, Nat.reduceAdd, Nat.reduceMul, Nat.reduceSub, q3, e7, n1]
      · rw [c_mark hc1 (by omega) hd, e_Letter_readMark 184 _ _ _ _ rfl]
        simp (maxSteps := 2000000) (disch := (first | omega | (simp (disch := omega) only [up_eq, up_ne, cpA_o, cpF_o, List.length_set] <;> omega) | fail)) only [ob_s, am_bi_s, am_bv_s, am_bl_s, ↓bif_d, lits, nI_addS, nI_mulS, nI_subS, nI_lt', nI_le', nI_eq', ↓rd_nI, ↓wrH, up_eq, up_ne, up_up, up_sw, List.set_set, g_seq, g_sne, Nat.reduceEqDiff, ↓reduceIte, List.length_set, Nat.add_sub_cancel_left, Nat.add_sub_cancel, ite_true, ite_false, if_true, if_false, not_true_eq_false, not_false_eq_true, Bool.and_true, Bool.true_and, true_or, or_true, false_or, or_false, and_true, true_and, and_false, false_and, Nat.not_lt_zero, hpRX, hpIX, hpFX, hpLX, hpSX, ↓rgX, ↓rpX, Nat.reduceLeDiff, Nat.reduceLT, Nat.reduceAdd, Nat.reduceMul, Nat.reduceSub, q3, n1]
  · have hpe : p < e := by omega
    by_cases c2 : dgt T t e
    · rw [cif_t ⟨c1, c2⟩, c_dig hc1 c2, e_Letter_readDigit 184 _ _ _ rfl]
      have n1 := nI_nm1 (a := e) (by omega)
      have z3 : e - p = 7 := by have := s5 c2 c1; omega
      rw [z3] at q3
      simp (maxSteps := 2000000) (disch := (first | omega | (simp (disch := omega) only [up_eq, up_ne, cpA_o, cpF_o, List.length_set] <;> omega) | fail)) only [ob_s, am_bi_s, am_bv_s, am_bl_s, ↓bif_d, lits, nI_addS, nI_mulS, nI_subS, nI_lt', nI_le', nI_eq', ↓rd_nI, ↓wrH, up_eq, up_ne, up_up, up_sw, List.set_set, g_seq, g_sne, Nat.reduceEqDiff, ↓reduceIte, List.length_set, Nat.add_sub_cancel_left, Nat.add_sub_cancel, ite_true, ite_false, if_true, if_false, not_true_eq_false, not_false_eq_true, Bool.and_true, Bool.true_and, true_or, or_true, false_or, or_false, and_true, true_and, and_false, false_and, Nat.not_lt_zero, hpRX, hpIX, hpFX, hpLX, hpSX, ↓rgX, ↓rpX, Nat.reduceLeDiff, Nat.reduceLT, Nat.reduceAdd, Nat.reduceMul, Nat.reduceSub, q3, q2, e7, n1, b22]
    · rw [cif_f (fun z => c2 z.2)]
      have hv : ¬ v ≤ 1000000 := fun z => hn ⟨c1, c2, z⟩
      have hd0 : ¬ e - p = 0 := by omega
      have hd1 : ¬ e - p ≤ 0 := by omega
      have hpp : e - (e - p) = p := by omega
      by_cases c3 : e = t
      · subst c3
        rw [c_end hc1, e_Letter_readEnd 184 _ _ rfl]
        simp (maxSteps := 2000000) (disch := (first | omega | (simp (disch := omega) only [up_eq, up_ne, cpA_o, cpF_o, List.length_set] <;> omega) | fail)) only [ob_s, am_bi_s, am_bv_s, am_bl_s, ↓bif_d, lits, nI_addS, nI_mulS, nI_subS, nI_lt', nI_le', nI_eq', ↓rd_nI, ↓wrH, up_eq, up_ne, up_up, up_sw, List.set_set, g_seq, g_sne, Nat.reduceEqDiff, ↓reduceIte, List.length_set, Nat.add_sub_cancel_left, Nat.add_sub_cancel, ite_true, ite_false, if_true, if_false, not_true_eq_false, not_false_eq_true, Bool.and_true, Bool.true_and, true_or, or_true, false_or, or_false, and_true, true_and, and_false, false_and, Nat.not_lt_zero, hpRX, hpIX, hpFX, hpLX, hpSX, ↓rgX, ↓rpX, Nat.reduceLeDiff, Nat.reduceLT, Nat.reduceAdd, Nat.reduceMul, Nat.reduceSub, q3, hd1, etg, e7, q2, hv, e1, hpp]
      · have n1 := nI_nm1 (a := p) (by omega)
        rw [c_mark hc1 (by omega) c2, e_Letter_readMark 184 _ _ _ _ rfl]
        simp (maxSteps := 2000000) (disch := (first | omega | (simp (disch := omega) only [up_eq, up_ne, cpA_o, cpF_o, List.length_set] <;> omega) | fail)) only [ob_s, am_bi_s, am_bv_s, am_bl_s, ↓bif_d, lits, nI_addS, nI_mulS, nI_subS, nI_lt', nI_le', nI_eq', ↓rd_nI, ↓wrH, up_eq, up_ne, up_up, up_sw, List.set_set, g_seq, g_sne, Nat.reduceEqDiff, ↓reduceIte, List.length_set, Nat.add_sub_cancel_left, Nat.add_sub_cancel, ite_true, ite_false, if_true, if_false, not_true_eq_false, not_false_eq_true, Bool.and_true, Bool.true_and, true_or, or_true, false_or, or_false, and_true, true_and, and_false, false_and, Nat.not_lt_zero, hpRX, hpIX, hpFX, hpLX, hpSX, ↓rgX, ↓rpX, Nat.reduceLeDiff, Nat.reduceLT, Nat.reduceAdd, Nat.reduceMul, Nat.reduceSub, q3, hd0, etg, e7, q2, hv, hpp, n1]
/-- behind an alternative -/
theorem c_after (hc : CL A F T t) {e k w a d nl : Nat} (he : e ≤ t) (hd : ¬ dgt T t e) (hk : k < 20) (ha : a ≤ 1000000) (h0 : 0 < d) (h80 : d ≤ 80) (f5 : F 18405 = nI k) (f6 : F 18406 = nI w) (f7 : F 18407 = nI 1) (f8 : F 18408 = nI a) (f9 : F 18409 = nI d) (u3 u4 u5 : Value) :
    (e = t → ∃ F', LfF F F' ∧ F' 18405 = nI (k + 1) ∧ am_ev m_Letter_read (21, [.ref 184, .int (nI nl), .int (nI e), u3, u4, u5], [], heap A F P) = some (some (.int (-nI 1)), heap (up (up A 189 ((A 189).set k (nI a))) 191 ((A 191).set k (nI w))) F' P)) ∧
    (e < t → T e = nI 44 → ∃ F' u3' u4' u5', LfF F F' ∧ F' 18405 = nI (k + 1) ∧ F' 18406 = nI (w + 1) ∧ F' 18407 = nI 0 ∧ F' 18408 = nI 0 ∧ F' 18409 = nI 0 ∧ am_ev m_Letter_read (21, [.ref 184, .int (nI nl), .int (nI e), u3, u4, u5], [], heap A F P) = am_ev m_Letter_read (21, [.ref 184, .int (nI nl), .int (nI (e + 1)), u3', u4', u5'], [], heap (up (up A 189 ((A 189).set k (nI a))) 191 ((A 191).set k (nI w))) F' P)) ∧
    (e < t → T e = nI 47 → ∃ F' u3' u4' u5', LfF F F' ∧ F' 18405 = nI (k + 1) ∧ F' 18406 = nI w ∧ F' 18407 = nI 0 ∧ F' 18408 = nI 0 ∧ F' 18409 = nI 0 ∧ am_ev m_Letter_read (21, [.ref 184, .int (nI nl), .int (nI e), u3, u4, u5], [], heap A F P) = am_ev m_Letter_read (21, [.ref 184, .int (nI nl), .int (nI (e + 1)), u3', u4', u5'], [], heap (up (up A 189 ((A 189).set k (nI a))) 191 ((A 191).set k (nI w))) F' P)) ∧
    (e < t → ¬ T e = nI 44 → ¬ T e = nI 47 → am_ev m_Letter_read (21, [.ref 184, .int (nI nl), .int (nI e), u3, u4, u5], [], heap A F P) = some (some (.int (nI e)), heap A F P)) := by
  have t80 := hc.2.1
  obtain ⟨l187, l189, l191⟩ := hc.2.2.2.2
  have e1 : F 18401 = nI t := hc.1
  have hd0 : ¬ d = 0 := by omega
  have hd1 : ¬ d ≤ 0 := by omega
  have etg := fun x A F P => e_Letter_isTooGreat 184 x (heap A F P) rfl
  have b25 := fun x1 h => b_Letter_readEnd_25 184 x1 h
  have b43 := fun x1 x2 x3 h => b_Letter_readMark_43 184 x1 x2 x3 h
  have etk := fun A F P => e_Letter_takeNumber 184 (heap A F P) rfl
  have est := fun A F P => e_Letter_startNumber 184 (heap A F P) rfl
  have n7 : ¬ nI 47 = nI 44 := by decide
  refine ⟨fun h => ?_, fun h1 h2 => ?_, fun h1 h2 => ?_, fun h1 h2 h3 => ?_⟩
  · subst h
    refine ⟨up (up (up (up F 18405 (nI (k + 1))) 18407 (nI 0)) 18408 (nI 0)) 18409 (nI 0), fun k hk => by rw [up_ne _ _ (by omega), up_ne _ _ (by omega), up_ne _ _ (by omega), up_ne _ _ (by omega)], by simp (disch := (first | omega | fail)) only [st_e, sf_e, Nat.reduceAdd, Nat.reduceMul, up_eq, up_ne, cpA_o, cpF_o], ?_⟩
    rw [c_end hc, e_Letter_readEnd 184 _ _ rfl]
    simp (maxSteps := 2000000) (disch := (first | omega | (simp (disch := omega) only [up_eq, up_ne, cpA_o, cpF_o, List.length_set] <;> omega) | fail)) only [ob_s, am_bi_s, am_bv_s, am_bl_s, ↓bif_d, lits, nI_addS, nI_mulS, nI_subS, nI_lt', nI_le', nI_eq', ↓rd_nI, ↓wrH, up_eq, up_ne, up_up, up_sw, List.set_set, g_seq, g_sne, Nat.reduceEqDiff, ↓reduceIte, List.length_set, Nat.add_sub_cancel_left, Nat.add_sub_cancel, ite_true, ite_false, if_true, if_false, not_true_eq_false, not_false_eq_true, Bool.and_true, Bool.true_and, true_or, or_true, false_or, or_false, and_true, true_and, and_false, false_and, Nat.not_lt_zero, hpRX, hpIX, hpFX, hpLX, hpSX, ↓rgX, ↓rpX, Nat.reduceLeDiff, Nat.reduceLT, Nat.reduceAdd, Nat.reduceMul, Nat.reduceSub, f9, hd1, hd0, etg, f7, f8, ha, b25, etk, f5, f6, est]
  · refine ⟨up (up (up (up (up F 18405 (nI (k + 1))) 18406 (nI (w + 1))) 18407 (nI 0)) 18408 (nI 0)) 18409 (nI 0), .int (T e), .int (nI 0), .int (-nI 1), fun k hk => by rw [up_ne _ _ (by omega), up_ne _ _ (by omega), up_ne _ _ (by omega), up_ne _ _ (by omega), up_ne _ _ (by omega)], by simp (disch := (first | omega | fail)) only [st_e, sf_e, Nat.reduceAdd, Nat.reduceMul, up_eq, up_ne, cpA_o, cpF_o], by simp (disch := (first | omega | fail)) only [st_e, sf_e, Nat.reduceAdd, Nat.reduceMul, up_eq, up_ne, cpA_o, cpF_o], by simp (disch := (first | omega | fail)) only [st_e, sf_e, Nat.reduceAdd, Nat.reduceMul, up_eq, up_ne, cpA_o, cpF_o], by simp (disch := (first | omega | fail)) only [st_e, sf_e, Nat.reduceAdd, Nat.reduceMul, up_eq, up_ne, cpA_o, cpF_o], by simp (disch := (first | omega | fail)) only [st_e, sf_e, Nat.reduceAdd, Nat.reduceMul, up_eq, up_ne, cpA_o, cpF_o], ?_⟩
    rw [c_mark hc h1 hd, e_Letter_readMark 184 _ _ _ _ rfl]
    simp (maxSteps := 2000000) (disch := (first | omega | (simp (disch := omega) only [up_eq, up_ne, cpA_o, cpF_o, List.length_set] <;> omega) | fail)) only [ob_s, am_bi_s, am_bv_s, am_bl_s, ↓bif_d, lits, nI_addS, nI_mulS, nI_subS, nI_lt', nI_le', nI_eq', ↓rd_nI, ↓wrH, up_eq, up_ne, up_up, up_sw, List.set_set, g_seq, g_sne, Nat.reduceEqDiff, ↓reduceIte, List.length_set, Nat.add_sub_cancel_left, Nat.add_sub_cancel, ite_true, ite_false, if_true, if_false, not_true_eq_false, not_false_eq_true, Bool.and_true, Bool.true_and, true_or, or_true, false_or, or_false, and_true, true_and, and_false, false_and, Nat.not_lt_zero, hpRX, hpIX, hpFX, hpLX, hpSX, ↓rgX, ↓rpX, Nat.reduceLeDiff, Nat.reduceLT, Nat.reduceAdd, Nat.reduceMul, Nat.reduceSub, f9, hd0, etg, f7, f8, ha, h2, b43, etk, f5, f6, est]
  · refine ⟨up (up (up (up F 18405 (nI (k + 1))) 18407 (nI 0)) 18408 (nI 0)) 18409 (nI 0), .int (T e), .int (nI 0), .int (-nI 1), fun k hk => by rw [up_ne _ _ (by omega), up_ne _ _ (by omega), up_ne _ _ (by omega), up_ne _ _ (by omega)], by simp (disch := (first | omega | fail)) only [st_e, sf_e, Nat.reduceAdd, Nat.reduceMul, up_eq, up_ne, cpA_o, cpF_o], by simp (disch := (first | omega | fail)) only [st_e, sf_e, Nat.reduceAdd, Nat.reduceMul, up_eq, up_ne, cpA_o, cpF_o]; exact f6, by simp (disch := (first | omega | fail)) only [st_e, sf_e, Nat.reduceAdd, Nat.reduceMul, up_eq, up_ne, cpA_o, cpF_o], by simp (disch := (first | omega | fail)) only [st_e, sf_e, Nat.reduceAdd, Nat.reduceMul, up_eq, up_ne, cpA_o, cpF_o], by simp (disch := (first | omega | fail)) only [st_e, sf_e, Nat.reduceAdd, Nat.reduceMul, up_eq, up_ne, cpA_o, cpF_o], ?_⟩
    rw [c_mark hc h1 hd, e_Letter_readMark 184 _ _ _ _ rfl]
    simp (maxSteps := 2000000) (disch := (first | omega | (simp (disch := omega) only [up_eq, up_ne, cpA_o, cpF_o, List.length_set] <;> omega) | fail)) only [ob_s, am_bi_s, am_bv_s, am_bl_s, ↓bif_d, lits, nI_addS, nI_mulS, nI_subS, nI_lt', nI_le', nI_eq', ↓rd_nI, ↓wrH, up_eq, up_ne, up_up, up_sw, List.set_set, g_seq, g_sne, Nat.reduceEqDiff, ↓reduceIte, List.length_set, Nat.add_sub_cancel_left, Nat.add_sub_cancel, ite_true, ite_false, if_true, if_false, not_true_eq_false, not_false_eq_true, Bool.and_true, Bool.true_and, true_or, or_true, false_or, or_false, and_true, true_and, and_false, false_and, Nat.not_lt_zero, hpRX, hpIX, hpFX, hpLX, hpSX, ↓rgX, ↓rpX, Nat.reduceLeDiff, Nat.reduceLT, Nat.reduceAdd, Nat.reduceMul, Nat.reduceSub, f9, hd0, etg, f7, f8, ha, h2, n7, b43, etk, f5, f6, est]
  · have n1 := nI_nm1 (a := e) (by omega)
    rw [c_mark hc h1 hd, e_Letter_readMark 184 _ _ _ _ rfl]
    simp (maxSteps := 2000000) (disch := (first | omega | (simp (disch := omega) only [up_eq, up_ne, cpA_o, cpF_o, List.length_set] <;> omega) | fail)) only [ob_s, am_bi_s, am_bv_s, am_bl_s, ↓bif_d, lits, nI_addS, nI_mulS, nI_subS, nI_lt', nI_le', nI_eq', ↓rd_nI, ↓wrH, up_eq, up_ne, up_up, up_sw, List.set_set, g_seq, g_sne, Nat.reduceEqDiff, ↓reduceIte, List.length_set, Nat.add_sub_cancel_left, Nat.add_sub_cancel, ite_true, ite_false, if_true, if_false, not_true_eq_false, not_false_eq_true, Bool.and_true, Bool.true_and, true_or, or_true, false_or, or_false, and_true, true_and, and_false, false_and, Nat.not_lt_zero, hpRX, hpIX, hpFX, hpLX, hpSX, ↓rgX, ↓rpX, Nat.reduceLeDiff, Nat.reduceLT, Nat.reduceAdd, Nat.reduceMul, Nat.reduceSub, f9, hd0, etg, f7, f8, ha, h2, h3, n1]
end X
