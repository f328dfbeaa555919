/-! THE LAW'S lot -/
theorem cN_last (p : Nat → Prop) : ∀ n k, cN p (n + 1) k = cN p n k + cif (p (k + n)) 1 0 := by
  intro n
  induction n with
  | zero => intro k; rw [cN_s, Nat.add_zero]; exact Nat.add_comm _ _
  | succ n ih =>
    intro k
    rw [cN_s, ih (k + 1), cN_s p n k, show k + 1 + n = k + (n + 1) by omega]
    omega
theorem d100 {l b : Nat} (hl : l < 20) (hb : b < 8) : nI (100 * l + b) / nI 100 = nI l ∧ nI (100 * l + b) - nI (100 * l + b) / nI 100 * nI 100 = nI b := by
  rw [pk_rem (by omega) (by omega) (by omega), pk_div (by omega) (by omega) (by omega)]
  exact ⟨congrArg nI (by omega), congrArg nI (by omega)⟩
section A
variable {xl r tx L B Fi Se Mn Bu Pr : List Int32} {u : Option (List Int32)} {nB nl nb nx : Nat} {A D : Nat → List Int32} {F : Nat → Int32} {P : Nat → Nat}
theorem l_lot55 (hH : Hd xl r tx u nB nl nb nx A F P) (hS : Sv r nB nl nb nx L B Fi Se Mn Bu Pr) (hA : AskR r nB L Bu Fi nx D) {k x : Nat} (hk : k < nl) (hx : x < nx) (hxk : lotN r x = k) (hc : cd2 r nB L Bu Fi nx x = nI 0) (v7 v8 v9 v10 v11 v12 : Int32) : ∀ n y c (u6 : Value), y + n = nx → ∃ u6', am_ev m_L_lot (55, [.ref 1, .ref 192, .ref 193, .ref 194, .ref 195, .int (nI k), .int (nI nx), .int v7, .int v8, .int v9, .int v10, .int v11, .int v12, .int (nI x), .int (nI c), .int (nI y), u6], [], heap (ad A D) F P) = am_ev m_L_lot (183, [.ref 1, .ref 192, .ref 193, .ref 194, .ref 195, .int (nI k), .int (nI nx), .int v7, .int v8, .int v9, .int v10, .int v11, .int v12, .int (nI x), .int (nI (c + cN (fun y => lotN r y = k ∧ cd2 r nB L Bu Fi nx y = nI 0 ∧ mAh r nB L y x) n y)), .int (nI nx), u6'], [], heap (ad A D) F P) := by
  classical
  have hQ := hH.Q hS D
  have hM := hQ.2.2.2.1.1
  have hnl : nl ≤ 20 := hM.1.2.2.2.2.2.2.2.1
  have hnb : nb ≤ 8 := hM.1.2.2.2.2.2.2.2.2.1
  have hnx : nx ≤ 60 := hM.1.2.2.2.2.2.2.2.2.2
  obtain ⟨⟨h0, h1, h2, h3, h4⟩, hR, hcd⟩ := id hA
  have b136 := fun x1 x2 x3 x4 x5 x6 x7 x8 x9 x10 x11 u h => b_L_lot_136 1 192 193 194 195 x1 x2 x3 x4 x5 x6 x7 x8 x9 x10 x11 u h
  have b140 := fun x1 x2 x3 x4 x5 x6 x7 x8 x9 x10 x11 u h => b_L_lot_140 1 192 193 194 195 x1 x2 x3 x4 x5 x6 x7 x8 x9 x10 x11 u h
  obtain ⟨⟨x1, x2⟩, x3, x4⟩ := hM.2.2 x hx
  obtain ⟨p1, p2, p3⟩ := hR x hx
  have a2x := al_2 A D F P (k := x) (by omega) h2
  have a0x := al_0 A D F P (k := x) (by omega) h0
  have a1x := al_1 A D F P (k := x) (by omega) h1
  have a3x := al_3 A D F P (k := x) (by omega) h3
  rw [hcd x hx, hc] at a2x
  rw [p1] at a0x
  rw [p2] at a1x
  rw [p3] at a3x
  have dx := (d100 (l := lotN r x) (b := byN r x) (by omega) (by omega)).1
  rw [hxk] at a0x dx
  intro n
  induction n with
  | zero =>
    intro y c u6 hy
    have hle : nx ≤ y := by omega
    have e : y = nx := by omega
    refine ⟨u6, ?_⟩
    show _ = am_ev m_L_lot (183, [.ref 1, .ref 192, .ref 193, .ref 194, .ref 195, .int (nI k), .int (nI nx), .int v7, .int v8, .int v9, .int v10, .int v11, .int v12, .int (nI x), .int (nI (c + 0)), .int (nI nx), u6], [], heap (ad A D) F P)
    rw [b_L_lot_55, e]
    simp (maxSteps := 1000000) (disch := (first | omega | (simp (disch := omega) only [up_eq, up_ne, List.length_set] <;> omega) | fail)) only [↓bif_d, nI_addS, nI_mulS, nI_subS, nI_lt', nI_le', nI_eq', up_eq, up_ne, up_up, up_sw, List.set_set, g_seq, g_sne, Nat.reduceEqDiff, ↓reduceIte, List.length_set, Nat.add_sub_cancel_left, Nat.add_sub_cancel, Nat.reduceLT, Nat.reduceLeDiff, ite_true, ite_false, if_true, if_false, not_true_eq_false, not_false_eq_true, Bool.and_true, Bool.true_and, true_or, or_true, false_or, or_false, and_true, true_and, and_false, false_and, Nat.not_lt_zero, Nat.le_refl, Nat.add_zero]
  | succ n ih =>
    intro y c u6 hyn
    have hy : y < nx := by omega
    have hle : ¬ nx ≤ y := by omega
    obtain ⟨⟨y1, y2⟩, y3, y4⟩ := hM.2.2 y hy
    obtain ⟨q1, q2, q3⟩ := hR y hy
    have a2y := al_2 A D F P (k := y) (by omega) h2
    have a0y := al_0 A D F P (k := y) (by omega) h0
    have a1y := al_1 A D F P (k := y) (by omega) h1
    have a3y := al_3 A D F P (k := y) (by omega) h3
    rw [hcd y hy] at a2y
    rw [q1] at a0y
    rw [q2] at a1y
    rw [q3] at a3y
    have dy := (d100 (l := lotN r y) (b := byN r y) (by omega) (by omega)).1
    rw [cN_s]
    have e1 : mAh r nB L y x → am_ev m_L_lot (55, [.ref 1, .ref 192, .ref 193, .ref 194, .ref 195, .int (nI k), .int (nI nx), .int v7, .int v8, .int v9, .int v10, .int v11, .int v12, .int (nI x), .int (nI c), .int (nI y), u6], [], heap (ad A D) F P) = am_ev m_L_lot (136, [.ref 1, .ref 192, .ref 193, .ref 194, .ref 195, .int (nI k), .int (nI nx), .int v7, .int v8, .int v9, .int v10, .int v11, .int v12, .int (nI x), .int (nI c), .int (nI y), u6], [], heap (ad A D) F P) := by
      intro h
      rw [b_L_lot_55]
      unfold mAh at h
      by_cases w1 : mWo r nB L y = mWo r nB L x
      · rw [if_pos w1] at h
        rw [w1] at a1y
        have w0 : ¬ mWo r nB L x < mWo r nB L x := Int32.lt_irrefl
        by_cases w2 : g r (288 + y) = g r (288 + x)
        · rw [if_pos w2] at h
          rw [w2] at a3y
          have w3 : ¬ x ≤ y := by omega
          have w4 : ¬ g r (288 + x) < g r (288 + x) := Int32.lt_irrefl
          simp (maxSteps := 1000000) (disch := (first | omega | (simp (disch := omega) only [up_eq, up_ne, List.length_set] <;> omega) | fail)) only [↓bif_d, nI_addS, nI_mulS, nI_subS, nI_lt', nI_le', nI_eq', up_eq, up_ne, up_up, up_sw, List.set_set, g_seq, g_sne, Nat.reduceEqDiff, ↓reduceIte, List.length_set, Nat.add_sub_cancel_left, Nat.add_sub_cancel, Nat.reduceLT, Nat.reduceLeDiff, ite_true, ite_false, if_true, if_false, not_true_eq_false, not_false_eq_true, Bool.and_true, Bool.true_and, true_or, or_true, false_or, or_false, and_true, true_and, and_false, false_and, Nat.not_lt_zero, ↓(ob_of a0x), ↓(ob_of a2x), ↓(ob_of a1x), ↓(ob_of a1y), ↓(ob_of a3x), ↓(ob_of a3y), hle, dx, w0, w4, w3]
        · rw [if_neg w2] at h
          simp (maxSteps := 1000000) (disch := (first | omega | (simp (disch := omega) only [up_eq, up_ne, List.length_set] <;> omega) | fail)) only [↓bif_d, nI_addS, nI_mulS, nI_subS, nI_lt', nI_le', nI_eq', up_eq, up_ne, up_up, up_sw, List.set_set, g_seq, g_sne, Nat.reduceEqDiff, ↓reduceIte, List.length_set, Nat.add_sub_cancel_left, Nat.add_sub_cancel, Nat.reduceLT, Nat.reduceLeDiff, ite_true, ite_false, if_true, if_false, not_true_eq_false, not_false_eq_true, Bool.and_true, Bool.true_and, true_or, or_true, false_or, or_false, and_true, true_and, and_false, false_and, Nat.not_lt_zero, ↓(ob_of a0x), ↓(ob_of a2x), ↓(ob_of a1x), ↓(ob_of a1y), ↓(ob_of a3x), ↓(ob_of a3y), hle, dx, w0, h]
      · rw [if_neg w1] at h
        simp (maxSteps := 1000000) (disch := (first | omega | (simp (disch := omega) only [up_eq, up_ne, List.length_set] <;> omega) | fail)) only [↓bif_d, nI_addS, nI_mulS, nI_subS, nI_lt', nI_le', nI_eq', up_eq, up_ne, up_up, up_sw, List.set_set, g_seq, g_sne, Nat.reduceEqDiff, ↓reduceIte, List.length_set, Nat.add_sub_cancel_left, Nat.add_sub_cancel, Nat.reduceLT, Nat.reduceLeDiff, ite_true, ite_false, if_true, if_false, not_true_eq_false, not_false_eq_true, Bool.and_true, Bool.true_and, true_or, or_true, false_or, or_false, and_true, true_and, and_false, false_and, Nat.not_lt_zero, ↓(ob_of a0x), ↓(ob_of a2x), ↓(ob_of a1x), ↓(ob_of a1y), hle, dx, h]
    have e2 : ¬ mAh r nB L y x → am_ev m_L_lot (55, [.ref 1, .ref 192, .ref 193, .ref 194, .ref 195, .int (nI k), .int (nI nx), .int v7, .int v8, .int v9, .int v10, .int v11, .int v12, .int (nI x), .int (nI c), .int (nI y), u6], [], heap (ad A D) F P) = am_ev m_L_lot (140, [.ref 1, .ref 192, .ref 193, .ref 194, .ref 195, .int (nI k), .int (nI nx), .int v7, .int v8, .int v9, .int v10, .int v11, .int v12, .int (nI x), .int (nI c), .int (nI y), u6], [], heap (ad A D) F P) := by
      intro h
      rw [b_L_lot_55]
      unfold mAh at h
      by_cases w1 : mWo r nB L y = mWo r nB L x
      · rw [if_pos w1] at h
        rw [w1] at a1y
        have w0 : ¬ mWo r nB L x < mWo r nB L x := Int32.lt_irrefl
        by_cases w2 : g r (288 + y) = g r (288 + x)
        · rw [if_pos w2] at h
          rw [w2] at a3y
          have w3 : x ≤ y := by omega
          have w4 : ¬ g r (288 + x) < g r (288 + x) := Int32.lt_irrefl
          simp (maxSteps := 1000000) (disch := (first | omega | (simp (disch := omega) only [up_eq, up_ne, List.length_set] <;> omega) | fail)) only [↓bif_d, nI_addS, nI_mulS, nI_subS, nI_lt', nI_le', nI_eq', up_eq, up_ne, up_up, up_sw, List.set_set, g_seq, g_sne, Nat.reduceEqDiff, ↓reduceIte, List.length_set, Nat.add_sub_cancel_left, Nat.add_sub_cancel, Nat.reduceLT, Nat.reduceLeDiff, ite_true, ite_false, if_true, if_false, not_true_eq_false, not_false_eq_true, Bool.and_true, Bool.true_and, true_or, or_true, false_or, or_false, and_true, true_and, and_false, false_and, Nat.not_lt_zero, ↓(ob_of a0x), ↓(ob_of a2x), ↓(ob_of a1x), ↓(ob_of a1y), ↓(ob_of a3x), ↓(ob_of a3y), hle, dx, w0, w4, w3]
        · rw [if_neg w2] at h
          simp (maxSteps := 1000000) (disch := (first | omega | (simp (disch := omega) only [up_eq, up_ne, List.length_set] <;> omega) | fail)) only [↓bif_d, nI_addS, nI_mulS, nI_subS, nI_lt', nI_le', nI_eq', up_eq, up_ne, up_up, up_sw, List.set_set, g_seq, g_sne, Nat.reduceEqDiff, ↓reduceIte, List.length_set, Nat.add_sub_cancel_left, Nat.add_sub_cancel, Nat.reduceLT, Nat.reduceLeDiff, ite_true, ite_false, if_true, if_false, not_true_eq_false, not_false_eq_true, Bool.and_true, Bool.true_and, true_or, or_true, false_or, or_false, and_true, true_and, and_false, false_and, Nat.not_lt_zero, ↓(ob_of a0x), ↓(ob_of a2x), ↓(ob_of a1x), ↓(ob_of a1y), ↓(ob_of a3x), ↓(ob_of a3y), hle, dx, w0, h, w2]
      · rw [if_neg w1] at h
        simp (maxSteps := 1000000) (disch := (first | omega | (simp (disch := omega) only [up_eq, up_ne, List.length_set] <;> omega) | fail)) only [↓bif_d, nI_addS, nI_mulS, nI_subS, nI_lt', nI_le', nI_eq', up_eq, up_ne, up_up, up_sw, List.set_set, g_seq, g_sne, Nat.reduceEqDiff, ↓reduceIte, List.length_set, Nat.add_sub_cancel_left, Nat.add_sub_cancel, Nat.reduceLT, Nat.reduceLeDiff, ite_true, ite_false, if_true, if_false, not_true_eq_false, not_false_eq_true, Bool.and_true, Bool.true_and, true_or, or_true, false_or, or_false, and_true, true_and, and_false, false_and, Nat.not_lt_zero, ↓(ob_of a0x), ↓(ob_of a2x), ↓(ob_of a1x), ↓(ob_of a1y), hle, dx, h, w1]
    by_cases c0 : mAh r nB L y x
    · rw [e1 c0]
      by_cases c1 : lotN r y = k
      · by_cases c2 : cd2 r nB L Bu Fi nx y = nI 0
        · rw [cif_t (p := lotN r y = k ∧ cd2 r nB L Bu Fi nx y = nI 0 ∧ mAh r nB L y x) ⟨c1, c2, c0⟩]
          obtain ⟨u6', h⟩ := ih (y + 1) (c + 1) (.int (nI 1)) (by omega)
          refine ⟨u6', ?_⟩
          rw [← Nat.add_assoc, ← h, b_L_lot_136]
          rw [c1] at a0y dy
          rw [c2] at a2y
          simp (maxSteps := 1000000) (disch := (first | omega | (simp (disch := omega) only [up_eq, up_ne, List.length_set] <;> omega) | fail)) only [↓bif_d, nI_addS, nI_mulS, nI_subS, nI_lt', nI_le', nI_eq', up_eq, up_ne, up_up, up_sw, List.set_set, g_seq, g_sne, Nat.reduceEqDiff, ↓reduceIte, List.length_set, Nat.add_sub_cancel_left, Nat.add_sub_cancel, Nat.reduceLT, Nat.reduceLeDiff, ite_true, ite_false, if_true, if_false, not_true_eq_false, not_false_eq_true, Bool.and_true, Bool.true_and, true_or, or_true, false_or, or_false, and_true, true_and, and_false, false_and, Nat.not_lt_zero, ↓(ob_of a0y), ↓(ob_of a2y), dy]
        · rw [cif_f (p := lotN r y = k ∧ cd2 r nB L Bu Fi nx y = nI 0 ∧ mAh r nB L y x) (fun z => c2 z.2.1), Nat.zero_add]
          obtain ⟨u6', h⟩ := ih (y + 1) c (.int (nI 1)) (by omega)
          refine ⟨u6', ?_⟩
          rw [← h, b_L_lot_136]
          rw [c1] at a0y dy
          simp (maxSteps := 1000000) (disch := (first | omega | (simp (disch := omega) only [up_eq, up_ne, List.length_set] <;> omega) | fail)) only [↓bif_d, nI_addS, nI_mulS, nI_subS, nI_lt', nI_le', nI_eq', up_eq, up_ne, up_up, up_sw, List.set_set, g_seq, g_sne, Nat.reduceEqDiff, ↓reduceIte, List.length_set, Nat.add_sub_cancel_left, Nat.add_sub_cancel, Nat.reduceLT, Nat.reduceLeDiff, ite_true, ite_false, if_true, if_false, not_true_eq_false, not_false_eq_true, Bool.and_true, Bool.true_and, true_or, or_true, false_or, or_false, and_true, true_and, and_false, false_and, Nat.not_lt_zero, ↓(ob_of a0y), ↓(ob_of a2y), dy, c2, Nat.add_zero]
      · rw [cif_f (p := lotN r y = k ∧ cd2 r nB L Bu Fi nx y = nI 0 ∧ mAh r nB L y x) (fun z => c1 z.1), Nat.zero_add]
        obtain ⟨u6', h⟩ := ih (y + 1) c (.int (nI 1)) (by omega)
        refine ⟨u6', ?_⟩
        rw [← h, b_L_lot_136]
        simp (maxSteps := 1000000) (disch := (first | omega | (simp (disch := omega) only [up_eq, up_ne, List.length_set] <;> omega) | fail)) only [↓bif_d, nI_addS, nI_mulS, nI_subS, nI_lt', nI_le', nI_eq', up_eq, up_ne, up_up, up_sw, List.set_set, g_seq, g_sne, Nat.reduceEqDiff, ↓reduceIte, List.length_set, Nat.add_sub_cancel_left, Nat.add_sub_cancel, Nat.reduceLT, Nat.reduceLeDiff, ite_true, ite_false, if_true, if_false, not_true_eq_false, not_false_eq_true, Bool.and_true, Bool.true_and, true_or, or_true, false_or, or_false, and_true, true_and, and_false, false_and, Nat.not_lt_zero, ↓(ob_of a0y), dy, c1, Nat.add_zero]
    · rw [e2 c0, cif_f (p := lotN r y = k ∧ cd2 r nB L Bu Fi nx y = nI 0 ∧ mAh r nB L y x) (fun z => c0 z.2.2), Nat.zero_add]
      obtain ⟨u6', h⟩ := ih (y + 1) c (.int (nI 0)) (by omega)
      refine ⟨u6', ?_⟩
      rw [← h, b_L_lot_140]
      by_cases c1 : lotN r y = k
      · rw [c1] at a0y dy
        by_cases c2 : cd2 r nB L Bu Fi nx y = nI 0
        · rw [c2] at a2y
          simp (maxSteps := 1000000) (disch := (first | omega | (simp (disch := omega) only [up_eq, up_ne, List.length_set] <;> omega) | fail)) only [↓bif_d, nI_addS, nI_mulS, nI_subS, nI_lt', nI_le', nI_eq', up_eq, up_ne, up_up, up_sw, List.set_set, g_seq, g_sne, Nat.reduceEqDiff, ↓reduceIte, List.length_set, Nat.add_sub_cancel_left, Nat.add_sub_cancel, Nat.reduceLT, Nat.reduceLeDiff, ite_true, ite_false, if_true, if_false, not_true_eq_false, not_false_eq_true, Bool.and_true, Bool.true_and, true_or, or_true, false_or, or_false, and_true, true_and, and_false, false_and, Nat.not_lt_zero, ↓(ob_of a0y), ↓(ob_of a2y), dy, Nat.add_zero]
        · simp (maxSteps := 1000000) (disch := (first | omega | (simp (disch := omega) only [up_eq, up_ne, List.length_set] <;> omega) | fail)) only [↓bif_d, nI_addS, nI_mulS, nI_subS, nI_lt', nI_le', nI_eq', up_eq, up_ne, up_up, up_sw, List.set_set, g_seq, g_sne, Nat.reduceEqDiff, ↓reduceIte, List.length_set, Nat.add_sub_cancel_left, Nat.add_sub_cancel, Nat.reduceLT, Nat.reduceLeDiff, ite_true, ite_false, if_true, if_false, not_true_eq_false, not_false_eq_true, Bool.and_true, Bool.true_and, true_or, or_true, false_or, or_false, and_true, true_and, and_false, false_and, Nat.not_lt_zero, ↓(ob_of a0y), ↓(ob_of a2y), dy, c2, Nat.add_zero]
      · simp (maxSteps := 1000000) (disch := (first | omega | (simp (disch := omega) only [up_eq, up_ne, List.length_set] <;> omega) | fail)) only [↓bif_d, nI_addS, nI_mulS, nI_subS, nI_lt', nI_le', nI_eq', up_eq, up_ne, up_up, up_sw, List.set_set, g_seq, g_sne, Nat.reduceEqDiff, ↓reduceIte, List.length_set, Nat.add_sub_cancel_left, Nat.add_sub_cancel, Nat.reduceLT, Nat.reduceLeDiff, ite_true, ite_false, if_true, if_false, not_true_eq_false, not_false_eq_true, Bool.and_true, Bool.true_and, true_or, or_true, false_or, or_false, and_true, true_and, and_false, false_and, Nat.not_lt_zero, ↓(ob_of a0y), dy, c1, Nat.add_zero]
/-- the law's first, second bid among the bids below x -/
def fs (O : List Nat) (p x : Nat) : Int32 := if p < O.length ∧ od O p < x then nI (od O p) else -nI 5
theorem fs_next {O : List Nat} {p x : Nat} (h : ∀ q, q < O.length → od O q = x → ¬ q = p) : fs O p (x + 1) = fs O p x := by
  unfold fs
  by_cases c : p < O.length
  · have : ¬ od O p = x := fun z => h p c z rfl
    by_cases d : od O p < x
    · rw [if_pos ⟨c, by omega⟩, if_pos ⟨c, d⟩]
    · rw [if_neg (fun z => by omega), if_neg (fun z => d z.2)]
  · rw [if_neg (fun z => c z.1), if_neg (fun z => c z.1)]
theorem fs_this {O : List Nat} {p x : Nat} (h1 : p < O.length) (h2 : od O p = x) : fs O p (x + 1) = nI x := by
  unfold fs
  rw [if_pos ⟨h1, by omega⟩, h2]
/-- one bid of the law's outer loop -/
theorem l_lot42s (hH : Hd xl r tx u nB nl nb nx A F P) (hS : Sv r nB nl nb nx L B Fi Se Mn Bu Pr) (hA : AskR r nB L Bu Fi nx D) {k x : Nat} {O : List Nat} (hk : k < nl) (hO : Ord r nB L B Bu Fi nx k O) (hx : x < nx) (v8 : Int32) (u4 u5 u6 : Value) : ∃ u4' u5' u6', am_ev m_L_lot (42, [.ref 1, .ref 192, .ref 193, .ref 194, .ref 195, .int (nI k), .int (nI nx), .int (g r (58 + k)), .int v8, .int (fs O 0 x), .int (fs O 1 x), .int (nI (cN (fun y => lotN r y = k ∧ cd2 r nB L Bu Fi nx y = nI 0) x 0)), .int (nI (cN (fun y => lotN r y = k) x 0)), .int (nI x), u4, u5, u6], [], heap (ad A D) F P) = am_ev m_L_lot (42, [.ref 1, .ref 192, .ref 193, .ref 194, .ref 195, .int (nI k), .int (nI nx), .int (g r (58 + k)), .int v8, .int (fs O 0 (x + 1)), .int (fs O 1 (x + 1)), .int (nI (cN (fun y => lotN r y = k ∧ cd2 r nB L Bu Fi nx y = nI 0) (x + 1) 0)), .int (nI (cN (fun y => lotN r y = k) (x + 1) 0)), .int (nI (x + 1)), u4', u5', u6'], [], heap (ad A D) F P) := by
  classical
  have hQ := hH.Q hS D
  have hC := hQ.2.2.2.1
  have hM := hQ.2.2.2.1.1
  have hnl : nl ≤ 20 := hM.1.2.2.2.2.2.2.2.1
  have hnb : nb ≤ 8 := hM.1.2.2.2.2.2.2.2.2.1
  have hnx : nx ≤ 60 := hM.1.2.2.2.2.2.2.2.2.2
  obtain ⟨⟨h0, h1, h2, h3, h4⟩, hR, hcd⟩ := id hA
  have b183 := fun x1 x2 x3 x4 x5 x6 x7 x8 x9 x10 x11 u h => b_L_lot_183 1 192 193 194 195 x1 x2 x3 x4 x5 x6 x7 x8 x9 x10 x11 u h
  have b227 := fun x1 x2 x3 x4 x5 x6 x7 x8 x9 x10 x11 u h => b_L_lot_227 1 192 193 194 195 x1 x2 x3 x4 x5 x6 x7 x8 x9 x10 x11 u h
  have b242 := fun x1 x2 x3 x4 x5 x6 x7 x8 x9 x10 x11 u h => b_L_lot_242 1 192 193 194 195 x1 x2 x3 x4 x5 x6 x7 x8 x9 x10 x11 u h
  have b262 := fun x1 x2 x3 x4 x5 x6 x7 x8 x9 x10 x11 u h => b_L_lot_262 1 192 193 194 195 x1 x2 x3 x4 x5 x6 x7 x8 x9 x10 x11 u h
  have b305 := fun x1 x2 x3 x4 x5 x6 x7 x8 x9 x10 x11 x12 h => b_L_lot_305 1 192 193 194 195 x1 x2 x3 x4 x5 x6 x7 x8 x9 x10 x11 x12 h
  have b55 := fun x1 x2 x3 x4 x5 x6 x7 x8 x9 x10 x11 u h => b_L_lot_55 1 192 193 194 195 x1 x2 x3 x4 x5 x6 x7 x8 x9 x10 x11 u h
  obtain ⟨⟨x1, x2⟩, x3, x4⟩ := hM.2.2 x hx
  obtain ⟨p1, p2, p3⟩ := hR x hx
  have a2x := al_2 A D F P (k := x) (by omega) h2
  have a0x := al_0 A D F P (k := x) (by omega) h0
  have a1x := al_1 A D F P (k := x) (by omega) h1
  rw [hcd x hx] at a2x
  rw [p1] at a0x
  rw [p2] at a1x
  have dx := (d100 (l := lotN r x) (b := byN r x) (by omega) (by omega)).1
  have hle : ¬ nx ≤ x := by omega
  have hle0 : ¬ nx ≤ 0 := by omega
  have hft := k_fate hQ hx
  have hw6 := k_bidOf6 hQ hx
  rw [cN_last, cN_last, Nat.zero_add]
  by_cases c1 : lotN r x = k
  · have hof := ord_fate hC hS.2 hk hO hx c1
    rw [c1] at a0x dx
    rw [cif_t (p := lotN r x = k) c1]
    by_cases c2 : cd2 r nB L Bu Fi nx x = nI 0
    · rw [cif_t (p := lotN r x = k ∧ cd2 r nB L Bu Fi nx x = nI 0) ⟨c1, c2⟩]
      obtain ⟨p, hp, hpx⟩ := mem_od ((hO.2.2.2 x).mpr ⟨hx, c1, c2⟩)
      have hp8 := hO.2.2.1
      have hfa := hof.2 p hp hpx
      rw [hfa] at hft
      have hrk := k_ranked hQ hk (p := p) (by omega)
      rw [ord_rk hC hS.2 hk hO (by omega), if_pos hp, hpx] at hrk
      obtain ⟨u6', hl⟩ := l_lot55 hH hS hA hk hx c1 c2 (g r (58 + k)) v8 (fs O 0 x) (fs O 1 x) (nI (cN (fun y => lotN r y = k ∧ cd2 r nB L Bu Fi nx y = nI 0) x 0)) (nI (cN (fun y => lotN r y = k) x 0)) nx 0 0 u6 (by omega)
      have hpl := ord_place hO hp
      rw [hpx] at hpl
      rw [hpl, Nat.zero_add] at hl
      rw [c2] at a2x
      have n10 : ¬ nI 1 = nI 0 := by decide
      have n01 : ¬ nI 0 = nI 1 := by decide
      by_cases e0 : p = 0
      · subst e0
        have f0 := fs_this hp hpx
        have f1 : fs O 1 (x + 1) = fs O 1 x := fs_next (fun q hq hqx e => by
          subst e
          have := hO.2.1 0 1 (by omega) hq
          rw [hpx, hqx] at this
          exact mAh_ne this rfl)
        rw [f0, f1]
        rw [if_neg (by omega)] at hft
        by_cases w : mWo r nB L x < g r (58 + k)
        · have w' : ¬ g r (58 + k) ≤ mWo r nB L x := Int32.not_le.mpr w
          rw [if_pos w] at hft
          refine ⟨.int (nI 0), .int (nI 1), .int (nI 8), ?_⟩
          rw [b_L_lot_42]
          simp (maxSteps := 1000000) (disch := (first | omega | (simp (disch := omega) only [up_eq, up_ne, List.length_set] <;> omega) | fail)) only [↓bif_d, nI_addS, nI_mulS, nI_subS, nI_lt', nI_le', nI_eq', up_eq, up_ne, up_up, up_sw, List.set_set, g_seq, g_sne, Nat.reduceEqDiff, ↓reduceIte, List.length_set, Nat.add_sub_cancel_left, Nat.add_sub_cancel, Nat.reduceLT, Nat.reduceLeDiff, ite_true, ite_false, if_true, if_false, not_true_eq_false, not_false_eq_true, Bool.and_true, Bool.true_and, true_or, or_true, false_or, or_false, and_true, true_and, and_false, false_and, Nat.not_lt_zero, hle]
          rw [hl]
          simp (maxSteps := 1000000) (disch := (first | omega | (simp (disch := omega) only [up_eq, up_ne, List.length_set] <;> omega) | fail)) only [↓bif_d, nI_addS, nI_mulS, nI_subS, nI_lt', nI_le', nI_eq', up_eq, up_ne, up_up, up_sw, List.set_set, g_seq, g_sne, Nat.reduceEqDiff, ↓reduceIte, List.length_set, Nat.add_sub_cancel_left, Nat.add_sub_cancel, Nat.reduceLT, Nat.reduceLeDiff, ite_true, ite_false, if_true, if_false, not_true_eq_false, not_false_eq_true, Bool.and_true, Bool.true_and, true_or, or_true, false_or, or_false, and_true, true_and, and_false, false_and, Nat.not_lt_zero, ↓(ob_of a0x), ↓(ob_of a2x), ↓(ob_of a1x), ↓(am_bi_of hft), ↓(am_bi_of hw6), ↓(am_bi_of hrk), ↓b183, dx, ↓b227, n10, n01, ↓b262, w', ↓b305]
        · have w' : g r (58 + k) ≤ mWo r nB L x := Int32.not_lt.mp w
          rw [if_neg w] at hft
          refine ⟨.int (nI 0), .int (nI 1), .int (nI 0), ?_⟩
          rw [b_L_lot_42]
          simp (maxSteps := 1000000) (disch := (first | omega | (simp (disch := omega) only [up_eq, up_ne, List.length_set] <;> omega) | fail)) only [↓bif_d, nI_addS, nI_mulS, nI_subS, nI_lt', nI_le', nI_eq', up_eq, up_ne, up_up, up_sw, List.set_set, g_seq, g_sne, Nat.reduceEqDiff, ↓reduceIte, List.length_set, Nat.add_sub_cancel_left, Nat.add_sub_cancel, Nat.reduceLT, Nat.reduceLeDiff, ite_true, ite_false, if_true, if_false, not_true_eq_false, not_false_eq_true, Bool.and_true, Bool.true_and, true_or, or_true, false_or, or_false, and_true, true_and, and_false, false_and, Nat.not_lt_zero, hle]
          rw [hl]
          simp (maxSteps := 1000000) (disch := (first | omega | (simp (disch := omega) only [up_eq, up_ne, List.length_set] <;> omega) | fail)) only [↓bif_d, nI_addS, nI_mulS, nI_subS, nI_lt', nI_le', nI_eq', up_eq, up_ne, up_up, up_sw, List.set_set, g_seq, g_sne, Nat.reduceEqDiff, ↓reduceIte, List.length_set, Nat.add_sub_cancel_left, Nat.add_sub_cancel, Nat.reduceLT, Nat.reduceLeDiff, ite_true, ite_false, if_true, if_false, not_true_eq_false, not_false_eq_true, Bool.and_true, Bool.true_and, true_or, or_true, false_or, or_false, and_true, true_and, and_false, false_and, Nat.not_lt_zero, ↓(ob_of a0x), ↓(ob_of a2x), ↓(ob_of a1x), ↓(am_bi_of hft), ↓(am_bi_of hw6), ↓(am_bi_of hrk), ↓b183, dx, ↓b227, n10, n01, ↓b262, w', ↓b305]
      · rw [if_pos (by omega)] at hft
        have f0 : fs O 0 (x + 1) = fs O 0 x := fs_next (fun q hq hqx e => by
          subst e
          have := hO.2.1 0 p (by omega) hp
          rw [hpx, hqx] at this
          exact mAh_ne this rfl)
        have e0' : ¬ p ≤ 0 := by omega
        by_cases e1 : p = 1
        · subst e1
          have f1 := fs_this hp hpx
          rw [f0, f1]
          refine ⟨.int (nI 1), .int (nI 1), .int (nI 7), ?_⟩
          rw [b_L_lot_42]
          simp (maxSteps := 1000000) (disch := (first | omega | (simp (disch := omega) only [up_eq, up_ne, List.length_set] <;> omega) | fail)) only [↓bif_d, nI_addS, nI_mulS, nI_subS, nI_lt', nI_le', nI_eq', up_eq, up_ne, up_up, up_sw, List.set_set, g_seq, g_sne, Nat.reduceEqDiff, ↓reduceIte, List.length_set, Nat.add_sub_cancel_left, Nat.add_sub_cancel, Nat.reduceLT, Nat.reduceLeDiff, ite_true, ite_false, if_true, if_false, not_true_eq_false, not_false_eq_true, Bool.and_true, Bool.true_and, true_or, or_true, false_or, or_false, and_true, true_and, and_false, false_and, Nat.not_lt_zero, hle]
          rw [hl]
          simp (maxSteps := 1000000) (disch := (first | omega | (simp (disch := omega) only [up_eq, up_ne, List.length_set] <;> omega) | fail)) only [↓bif_d, nI_addS, nI_mulS, nI_subS, nI_lt', nI_le', nI_eq', up_eq, up_ne, up_up, up_sw, List.set_set, g_seq, g_sne, Nat.reduceEqDiff, ↓reduceIte, List.length_set, Nat.add_sub_cancel_left, Nat.add_sub_cancel, Nat.reduceLT, Nat.reduceLeDiff, ite_true, ite_false, if_true, if_false, not_true_eq_false, not_false_eq_true, Bool.and_true, Bool.true_and, true_or, or_true, false_or, or_false, and_true, true_and, and_false, false_and, Nat.not_lt_zero, ↓(ob_of a0x), ↓(ob_of a2x), ↓(ob_of a1x), ↓(am_bi_of hft), ↓(am_bi_of hw6), ↓(am_bi_of hrk), ↓b183, dx, ↓b227, n10, n01, ↓b242, ↓b262, ↓b305, Nat.reduceLeDiff, Nat.reduceEqDiff]
        · have f1 : fs O 1 (x + 1) = fs O 1 x := fs_next (fun q hq hqx e => by
            subst e
            rcases Nat.lt_trichotomy 1 p with z | z | z
            · have := hO.2.1 1 p z hp
              rw [hpx, hqx] at this
              exact mAh_ne this rfl
            · exact e1 z.symm
            · omega)
          rw [f0, f1]
          refine ⟨.int (nI p), .int (nI 1), .int (nI 7), ?_⟩
          rw [b_L_lot_42]
          simp (maxSteps := 1000000) (disch := (first | omega | (simp (disch := omega) only [up_eq, up_ne, List.length_set] <;> omega) | fail)) only [↓bif_d, nI_addS, nI_mulS, nI_subS, nI_lt', nI_le', nI_eq', up_eq, up_ne, up_up, up_sw, List.set_set, g_seq, g_sne, Nat.reduceEqDiff, ↓reduceIte, List.length_set, Nat.add_sub_cancel_left, Nat.add_sub_cancel, Nat.reduceLT, Nat.reduceLeDiff, ite_true, ite_false, if_true, if_false, not_true_eq_false, not_false_eq_true, Bool.and_true, Bool.true_and, true_or, or_true, false_or, or_false, and_true, true_and, and_false, false_and, Nat.not_lt_zero, hle]
          rw [hl]
          simp (maxSteps := 1000000) (disch := (first | omega | (simp (disch := omega) only [up_eq, up_ne, List.length_set] <;> omega) | fail)) only [↓bif_d, nI_addS, nI_mulS, nI_subS, nI_lt', nI_le', nI_eq', up_eq, up_ne, up_up, up_sw, List.set_set, g_seq, g_sne, Nat.reduceEqDiff, ↓reduceIte, List.length_set, Nat.add_sub_cancel_left, Nat.add_sub_cancel, Nat.reduceLT, Nat.reduceLeDiff, ite_true, ite_false, if_true, if_false, not_true_eq_false, not_false_eq_true, Bool.and_true, Bool.true_and, true_or, or_true, false_or, or_false, and_true, true_and, and_false, false_and, Nat.not_lt_zero, ↓(ob_of a0x), ↓(ob_of a2x), ↓(ob_of a1x), ↓(am_bi_of hft), ↓(am_bi_of hw6), ↓(am_bi_of hrk), ↓b183, dx, ↓b227, n10, n01, ↓b242, ↓b262, ↓b305, e0, e0', e1]
    · rw [cif_f (p := lotN r x = k ∧ cd2 r nB L Bu Fi nx x = nI 0) (fun z => c2 z.2)]
      have fx : ∀ p, fs O p (x + 1) = fs O p x := fun p => fs_next (fun q hq hqx e => c2 (by rw [← hqx]; exact (ord_mem hO hq).2.2))
      rw [fx, fx]
      rw [hof.1 c2] at hft
      refine ⟨.int (nI 0), .int (nI 0), .int (cd2 r nB L Bu Fi nx x), ?_⟩
      rw [b_L_lot_42]
      simp (maxSteps := 1000000) (disch := (first | omega | (simp (disch := omega) only [up_eq, up_ne, List.length_set] <;> omega) | fail)) only [↓bif_d, nI_addS, nI_mulS, nI_subS, nI_lt', nI_le', nI_eq', up_eq, up_ne, up_up, up_sw, List.set_set, g_seq, g_sne, Nat.reduceEqDiff, ↓reduceIte, List.length_set, Nat.add_sub_cancel_left, Nat.add_sub_cancel, Nat.reduceLT, Nat.reduceLeDiff, ite_true, ite_false, if_true, if_false, not_true_eq_false, not_false_eq_true, Bool.and_true, Bool.true_and, true_or, or_true, false_or, or_false, and_true, true_and, and_false, false_and, Nat.not_lt_zero, ↓(ob_of a0x), ↓(ob_of a2x), ↓(am_bi_of hft), ↓(am_bi_of hw6), ↓(ob_of a1x), hle, ↓b55, hle0, dx, c2, ↓b183, ↓b227, ↓b242, ↓b262, ↓b305, Nat.add_zero]
  · rw [cif_f (p := lotN r x = k) c1, cif_f (p := lotN r x = k ∧ cd2 r nB L Bu Fi nx x = nI 0) (fun z => c1 z.1)]
    have fx : ∀ p, fs O p (x + 1) = fs O p x := fun p => fs_next (fun q hq hqx e => c1 (by rw [← hqx]; exact (ord_mem hO hq).2.1))
    rw [fx, fx]
    refine ⟨.int (nI 0), .int (nI 0), u6, ?_⟩
    rw [b_L_lot_42]
    simp (maxSteps := 1000000) (disch := (first | omega | (simp (disch := omega) only [up_eq, up_ne, List.length_set] <;> omega) | fail)) only [↓bif_d, nI_addS, nI_mulS, nI_subS, nI_lt', nI_le', nI_eq', up_eq, up_ne, up_up, up_sw, List.set_set, g_seq, g_sne, Nat.reduceEqDiff, ↓reduceIte, List.length_set, Nat.add_sub_cancel_left, Nat.add_sub_cancel, Nat.reduceLT, Nat.reduceLeDiff, ite_true, ite_false, if_true, if_false, not_true_eq_false, not_false_eq_true, Bool.and_true, Bool.true_and, true_or, or_true, false_or, or_false, and_true, true_and, and_false, false_and, Nat.not_lt_zero, ↓(ob_of a0x), hle, ↓b55, hle0, dx, c1, ↓b183, Nat.add_zero]
theorem l_lot42 (hH : Hd xl r tx u nB nl nb nx A F P) (hS : Sv r nB nl nb nx L B Fi Se Mn Bu Pr) (hA : AskR r nB L Bu Fi nx D) {k : Nat} {O : List Nat} (hk : k < nl) (hO : Ord r nB L B Bu Fi nx k O) (v8 : Int32) : ∀ n x (u4 u5 u6 : Value), x + n = nx → ∃ u4' u5' u6', am_ev m_L_lot (42, [.ref 1, .ref 192, .ref 193, .ref 194, .ref 195, .int (nI k), .int (nI nx), .int (g r (58 + k)), .int v8, .int (fs O 0 x), .int (fs O 1 x), .int (nI (cN (fun y => lotN r y = k ∧ cd2 r nB L Bu Fi nx y = nI 0) x 0)), .int (nI (cN (fun y => lotN r y = k) x 0)), .int (nI x), u4, u5, u6], [], heap (ad A D) F P) = am_ev m_L_lot (42, [.ref 1, .ref 192, .ref 193, .ref 194, .ref 195, .int (nI k), .int (nI nx), .int (g r (58 + k)), .int v8, .int (fs O 0 nx), .int (fs O 1 nx), .int (nI (cN (fun y => lotN r y = k ∧ cd2 r nB L Bu Fi nx y = nI 0) nx 0)), .int (nI (cN (fun y => lotN r y = k) nx 0)), .int (nI nx), u4', u5', u6'], [], heap (ad A D) F P) := by
  intro n
  induction n with
  | zero =>
    intro x u4 u5 u6 hx
    have e : x = nx := by omega
    exact ⟨u4, u5, u6, by rw [e]⟩
  | succ n ih =>
    intro x u4 u5 u6 hx
    obtain ⟨w4, w5, w6, h1⟩ := l_lot42s hH hS hA hk hO (show x < nx by omega) v8 u4 u5 u6
    obtain ⟨z4, z5, z6, h2⟩ := ih (x + 1) w4 w5 w6 (by omega)
    exact ⟨z4, z5, z6, h1.trans h2⟩
end A
