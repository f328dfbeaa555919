/-! VALID AMOUNTS, AND THE LAW'S steps -/
section B
variable {X Y r : List Int32} {nB : Nat}
theorem nx_gt (hB : Bnd X Y r nB) {a : Nat} (ha : a < 2 ^ 31) : a < nxN r nB a := by
  obtain ⟨h1, h2, h3⟩ := mBand_spec hB ha
  obtain ⟨w1, w2, w3, -⟩ := hB.2.2.2.2.1 _ h1
  have hf : a < flN r nB a + sN r (mBand r nB (nI a)) := by
    unfold flN
    have := Nat.lt_div_mul_add (a := a - bN r (mBand r nB (nI a))) (b := sN r (mBand r nB (nI a))) (by omega)
    omega
  unfold nxN
  split
  · rename_i c
    have := h3 c
    split <;> omega
  · omega
theorem nx_least (hB : Bnd X Y r nB) {v a : Nat} (hv : vld r nB v) (ha : a < 2 ^ 31) (h : a < v) : nxN r nB a ≤ v := by
  obtain ⟨j, m, j1, j2, j3⟩ := hv
  obtain ⟨h1, h2, h3⟩ := mBand_spec hB ha
  obtain ⟨w1, w2, w3, -⟩ := hB.2.2.2.2.1 _ h1
  have c6 := hB.2.2.2.2.2.1
  rcases Nat.lt_trichotomy j (mBand r nB (nI a)) with z | z | z
  · have h4 := j3 (by omega)
    rcases Nat.eq_or_lt_of_le (show j + 1 ≤ mBand r nB (nI a) from z) with y | y
    · rw [y] at h4; omega
    · have := c6 _ _ y h1; omega
  · have hle : nxN r nB a ≤ flN r nB a + sN r (mBand r nB (nI a)) := by
      unfold nxN
      split
      · split <;> omega
      · omega
    refine Nat.le_trans hle ?_
    unfold flN
    rw [← z] at w2 h2 ⊢
    have h5 : (a - bN r j) / sN r j < m := by
      refine (Nat.div_lt_iff_lt_mul (by omega)).mpr ?_
      omega
    have h7 : ((a - bN r j) / sN r j + 1) * sN r j ≤ m * sN r j := Nat.mul_le_mul_right _ h5
    rw [Nat.add_mul, Nat.one_mul] at h7
    omega
  · have h5 : bN r (mBand r nB (nI a) + 1) ≤ bN r j := by
      rcases Nat.eq_or_lt_of_le (show mBand r nB (nI a) + 1 ≤ j from z) with y | y
      · rw [y]; exact Nat.le_refl _
      · exact Nat.le_of_lt (c6 _ _ y j1)
    have hle : nxN r nB a ≤ bN r (mBand r nB (nI a) + 1) := by
      unfold nxN
      rw [if_pos (by omega)]
      split <;> omega
    omega
theorem fl_self (hB : Bnd X Y r nB) {v : Nat} (hv : vld r nB v) (h : v < 2 ^ 31) : flN r nB v = v := by
  have h1 := vld_le hB hv h (Nat.le_refl v)
  have h2 := flN_le hB h
  omega
theorem ce_self (hB : Bnd X Y r nB) {v : Nat} (hv : vld r nB v) (h : v < 2 ^ 31) : ceN r nB v = v := by
  unfold ceN
  rw [if_pos (fl_self hB hv h)]
/-- the ceiling of the amount behind a is the next one above a -/
theorem ce_succ (hB : Bnd X Y r nB) {a : Nat} (h : a + 1 < 2 ^ 31) : ceN r nB (a + 1) = nxN r nB a := by
  have h1 := nx_gt hB (a := a) (by omega)
  have h2 := vld_nx hB (a := a) (by omega)
  unfold ceN
  split
  · rename_i c
    have h3 : vld r nB (a + 1) := by
      have := vld_fl hB h
      rw [c] at this
      exact this
    have h4 := nx_least hB h3 (by omega) (Nat.lt_succ_self a)
    omega
  · rename_i c
    have h3 := nx_gt hB h
    have h4 := vld_nx hB h
    have h5 := nx_least hB h4 (a := a) (by omega) (by omega)
    have h6 : ¬ nxN r nB a = a + 1 := fun z => c (fl_self hB (by rw [← z]; exact h2) h)
    have h7 := nx_least hB h2 h (by omega)
    omega
end B
section R
variable {xl : List Int32} {D : Nat → List Int32} {r tx : List Int32} {u : Option (List Int32)} {nB nl nb nx : Nat} {h : am_H}
theorem R_valid (hR : Rs xl D r tx u nB nl nb nx h) {a : Nat} (ha : a ≤ 2000000) :
    am_cl m_Pa_valid [.ref 1, .int (nI a), .int (nI 0)] h = some (some (.int (nI (flN r nB a))), h) ∧
    am_cl m_Pa_valid [.ref 1, .int (nI a), .int (nI 1)] h = some (some (.int (nI (ceN r nB a))), h) ∧
    am_cl m_Pa_valid [.ref 1, .int (nI a), .int (nI 2)] h = some (some (.int (nI (nxN r nB a))), h) ∧
    am_cl m_Pa_valid [.ref 1, .int (nI a), .int (nI 3)] h = some (some (.int (-nI 2)), h) := by
  have key := fun A F P q t (hI : InvN A F P nB nl nb nx q t) (hr : A 193 = r) => hr ▸ k_valid (P := P) hI ha
  exact ⟨R_same hR (fun A F P q t hI hr => (key A F P q t hI hr).1), R_same hR (fun A F P q t hI hr => (key A F P q t hI hr).2.1), R_same hR (fun A F P q t hI hr => (key A F P q t hI hr).2.2.1), R_same hR (fun A F P q t hI hr => (key A F P q t hI hr).2.2.2)⟩
theorem R_valid_e (hR : Rs xl D r tx u nB nl nb nx h) (x v : Int32) (g0 : x < nI 0 ∨ nI 2000000 < x) : am_cl m_Pa_valid [.ref 1, .int x, .int v] h = some (some (.int (-nI 2)), h) :=
  R_same hR (fun A F P q t hI hr => k_valid_e hI x v g0)
theorem l_steps (hR : Rs xl D r tx u nB nl nb nx h) {a : Nat} (ha : a < 500) : am_cl m_L_steps [.ref 1, .int (nI a)] h = some (some (.int (nI 1)), h) := by
  obtain ⟨A, F, hC⟩ := Rs_cx hR
  have hB := hC.2.1
  have hf := flN_le hB (a := a) (by omega)
  have hn := nxN_le hB (a := a) (by omega)
  have hn2 := nx_gt hB (a := a) (by omega)
  have vf := vld_fl hB (a := a) (by omega)
  have vn := vld_nx hB (a := a) (by omega)
  have vc := vld_ce hB (a := a) (by omega)
  have hs := ce_succ hB (a := a) (by omega)
  have hc : ceN r nB a = if flN r nB a = a then a else nxN r nB a := rfl
  have e0 := R_valid hR (a := a) (by omega)
  have e1 := R_valid hR (a := a + 1) (by omega)
  rw [hs] at e1
  generalize hfd : flN r nB a = f at *
  generalize hnd : nxN r nB a = n at *
  generalize hcd : ceN r nB a = c at *
  have hcle : c ≤ 200000 := by rw [hc]; split <;> omega
  have e2 := R_valid hR (a := f) (by omega)
  have e3 := R_valid hR (a := c) (by omega)
  have e4 := R_valid hR (a := n) (by omega)
  rw [fl_self hB vf (by omega), ce_self hB vf (by omega)] at e2
  rw [fl_self hB vc (by omega)] at e3
  rw [ce_self hB vn (by omega)] at e4
  have e5 := R_valid_e hR (-nI 1) (nI 0) (Or.inl (by decide))
  have e6 := R_valid_e hR (nI 2000001) (nI 0) (Or.inr (by decide))
  obtain ⟨p1, p2, p3, p4⟩ := e0
  have p5 := e1.2.1
  rw [← nI_addS] at p5
  have p6 := e2.1
  have p7 := e2.2.1
  have p8 := e3.1
  have p9 := e4.2.1
  have c1 : ¬ 2000000 < c := by omega
  have c2 : ¬ 2000000 < n := by omega
  have c3 : ¬ a < f := by omega
  have c5 : ¬ n ≤ a := by omega
  have c6 : ¬ a = 2000000 := by omega
  by_cases hfa : f = a
  · rw [if_pos hfa] at hc
    subst hfa
    subst hc
    rw [e_L_steps]
    simp (maxSteps := 1000000) (disch := (first | omega | (simp (disch := omega) only [up_eq, up_ne, List.length_set] <;> omega) | fail)) only [↓bif_d, nI_addS, nI_mulS, nI_subS, nI_lt', nI_le', nI_eq', up_eq, up_ne, up_up, up_sw, List.set_set, g_seq, g_sne, Nat.reduceEqDiff, ↓reduceIte, List.length_set, Nat.add_sub_cancel_left, Nat.add_sub_cancel, Nat.reduceLT, Nat.reduceLeDiff, ite_true, ite_false, if_true, if_false, not_true_eq_false, not_false_eq_true, Bool.and_true, Bool.true_and, true_or, or_true, false_or, or_false, and_true, true_and, and_false, false_and, Nat.not_lt_zero, ↓(am_bi_of p1), ↓(am_bi_of p2), ↓(am_bi_of p3), ↓(am_bi_of p4), ↓(am_bi_of p5), ↓(am_bi_of p6), ↓(am_bi_of p7), ↓(am_bi_of p8), ↓(am_bi_of p9), ↓(am_bi_of e5), ↓(am_bi_of e6), c2, c5, c6, c1, Nat.lt_irrefl, ↓b_L_steps_58, ↓b_L_steps_77, ↓b_L_steps_81, ↓b_L_steps_105, ↓b_L_steps_139, ↓b_L_steps_158]
  · rw [if_neg hfa] at hc
    subst hc
    have c4 : ¬ c < a := by omega
    have c7 : ¬ c = a := by omega
    rw [e_L_steps]
    simp (maxSteps := 1000000) (disch := (first | omega | (simp (disch := omega) only [up_eq, up_ne, List.length_set] <;> omega) | fail)) only [↓bif_d, nI_addS, nI_mulS, nI_subS, nI_lt', nI_le', nI_eq', up_eq, up_ne, up_up, up_sw, List.set_set, g_seq, g_sne, Nat.reduceEqDiff, ↓reduceIte, List.length_set, Nat.add_sub_cancel_left, Nat.add_sub_cancel, Nat.reduceLT, Nat.reduceLeDiff, ite_true, ite_false, if_true, if_false, not_true_eq_false, not_false_eq_true, Bool.and_true, Bool.true_and, true_or, or_true, false_or, or_false, and_true, true_and, and_false, false_and, Nat.not_lt_zero, ↓(am_bi_of p1), ↓(am_bi_of p2), ↓(am_bi_of p3), ↓(am_bi_of p4), ↓(am_bi_of p5), ↓(am_bi_of p6), ↓(am_bi_of p7), ↓(am_bi_of p8), ↓(am_bi_of p9), ↓(am_bi_of e5), ↓(am_bi_of e6), c1, c2, c3, c4, c5, c6, hfa, c7, ↓b_L_steps_58, ↓b_L_steps_77, ↓b_L_steps_81, ↓b_L_steps_105, ↓b_L_steps_139, ↓b_L_steps_158]
end R
