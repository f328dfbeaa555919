/-! ask: each bid by itself -/
/-- the law's arrays of the bids below x -/
def AQ (r : List Int32) (nB : Nat) (L Bu Fi : List Int32) (D : Nat → List Int32) (x : Nat) : Prop := ∀ y, y < x → g (D 0) y = nI (100 * lotN r y + byN r y) ∧ g (D 1) y = mWo r nB L y ∧ g (D 2) y = mRe r nB L Bu Fi y ∧ g (D 3) y = g r (288 + y)
theorem gsr {l : List Int32} {k j : Nat} {v w : Int32} (h : k < l.length) (hj : j ≠ k) (hw : g l j = w) : g (l.set k v) j = w := (g_sne h hj).trans hw
section A
variable {xl r tx L B Fi Se Mn Bu Pr : List Int32} {u : Option (List Int32)} {nB nl nb nx : Nat} {A : Nat → List Int32} {F : Nat → Int32} {P : Nat → Nat}
theorem l_ask271 (hH : Hd xl r tx u nB nl nb nx A F P) (hS : Sv r nB nl nb nx L B Fi Se Mn Bu Pr) {D : Nat → List Int32} (hD : DL D) {x : Nat} (hx : x < nx) (d1 : g (D 1) x = mWo r nB L x) (d3 : g (D 3) x = g r (288 + x)) (x9 x11 : Int32) : am_ev m_L_ask (271, [.ref 1, .ref 192, .ref 193, .ref 194, .ref 195, .ref 196, .int (nI x), .int (nI (lotN r x)), .int (nI (byN r x)), .int x9, .int (b01 (mSv r Bu Fi x)), .int x11], [], heap (ad A D) F P) = am_ev m_L_ask (81, [.ref 1, .ref 192, .ref 193, .ref 194, .ref 195, .ref 196, .int (nI (x + 1)), .int (nI (lotN r x)), .int (nI (byN r x)), .int x9, .int (b01 (mSv r Bu Fi x)), .int x11], [], heap (ad A (up D 2 ((D 2).set x (mRe r nB L Bu Fi x)))) F P) := by
  classical
  have hQ := hH.Q hS D
  have hC := hQ.2.2.2.1
  have hM := hC.1
  have hnl : nl ≤ 20 := hM.1.2.2.2.2.2.2.2.1
  have hnb : nb ≤ 8 := hM.1.2.2.2.2.2.2.2.2.1
  have hnx : nx ≤ 60 := hM.1.2.2.2.2.2.2.2.2.2
  obtain ⟨⟨x1, x2⟩, x3, x4⟩ := hM.2.2 x hx
  obtain ⟨h0, h1, h2, h3, h4⟩ := id hD
  have b5 := k_bidOf5 hQ hx
  have c8 := k_count8 (P := P) hC
  have l3 := k_lot3 (P := P) hC x1
  have l1 := k_lot1 (P := P) hC x1
  have a3 := al_3 A D F P (k := x) (by omega) h3
  have a1 := al_1 A D F P (k := x) (by omega) h1
  rw [d3] at a3
  rw [d1] at a1
  have s2 := fun v => as_2 A D F P (k := x) v (by omega) h2
  obtain ⟨s, -, s1, s2'⟩ := (hC.2.2.2.2.1 _ x1).2.2.2.2.1
  have v1 := (R_valid (hH.R D) (a := s) (by omega)).2.1
  rw [s2'] at l1
  obtain ⟨p, q, a, w1, w2, w3, w4, w5, w6, w7, w8⟩ := mWo_N hC hx (SaI_left hC hS.2 _ (by omega) _ x3)
  have hce := ceN_le hC.2.1 (a := s) (by omega)
  have hwc := worth_ceil hC.2.1 (a := a) (s := s) (by rw [w6]; split <;> omega) (by omega)
  have hale : a ≤ 1000000 := by rw [w6]; split <;> omega
  rw [b_L_ask_271]
  unfold mRe
  by_cases g1 : g r (408 + x) = nI 1
  · rw [cif_t g1]
    rw [g1] at b5
    simp (maxSteps := 1000000) (disch := (first | omega | (simp (disch := omega) only [up_eq, up_ne, List.length_set] <;> omega) | fail)) only [↓bif_d, nI_addS, nI_mulS, nI_subS, nI_lt', nI_le', nI_eq', up_eq, up_ne, up_up, up_sw, List.set_set, g_seq, g_sne, Nat.reduceEqDiff, ↓reduceIte, List.length_set, Nat.add_sub_cancel_left, Nat.add_sub_cancel, Nat.reduceLT, Nat.reduceLeDiff, ite_true, ite_false, if_true, if_false, not_true_eq_false, not_false_eq_true, Bool.and_true, Bool.true_and, true_or, or_true, false_or, or_false, and_true, true_and, and_false, false_and, Nat.not_lt_zero, ↓(am_bi_of b5), ↓asb_0, ↓asc_0, ↓alb_0, ↓alc_0, ↓asb_1, ↓asc_1, ↓alb_1, ↓alc_1, ↓asb_2, ↓asc_2, ↓alb_2, ↓alc_2, ↓asb_3, ↓asc_3, ↓alb_3, ↓alc_3, ↓asb_4, ↓asc_4, ↓alb_4, ↓alc_4]
  · rw [cif_f g1]
    by_cases g2 : mLa r x
    · rw [cif_t g2]
      have g2' : ¬ g r (288 + x) ≤ g r 468 := Int32.not_le.mpr g2
      simp (maxSteps := 1000000) (disch := (first | omega | (simp (disch := omega) only [up_eq, up_ne, List.length_set] <;> omega) | fail)) only [↓bif_d, nI_addS, nI_mulS, nI_subS, nI_lt', nI_le', nI_eq', up_eq, up_ne, up_up, up_sw, List.set_set, g_seq, g_sne, Nat.reduceEqDiff, ↓reduceIte, List.length_set, Nat.add_sub_cancel_left, Nat.add_sub_cancel, Nat.reduceLT, Nat.reduceLeDiff, ite_true, ite_false, if_true, if_false, not_true_eq_false, not_false_eq_true, Bool.and_true, Bool.true_and, true_or, or_true, false_or, or_false, and_true, true_and, and_false, false_and, Nat.not_lt_zero, ↓(am_bi_of b5), ↓(ob_of a3), ↓(am_bi_of c8), g1, g2', ↓asb_0, ↓asc_0, ↓alb_0, ↓alc_0, ↓asb_1, ↓asc_1, ↓alb_1, ↓alc_1, ↓asb_2, ↓asc_2, ↓alb_2, ↓alc_2, ↓asb_3, ↓asc_3, ↓alb_3, ↓alc_3, ↓asb_4, ↓asc_4, ↓alb_4, ↓alc_4]
    · rw [cif_f g2]
      have g2' : g r (288 + x) ≤ g r 468 := Int32.not_lt.mp g2
      by_cases g3 : g r (78 + lotN r x) = nI 1
      · rw [cif_t g3]
        rw [g3] at l3
        simp (maxSteps := 1000000) (disch := (first | omega | (simp (disch := omega) only [up_eq, up_ne, List.length_set] <;> omega) | fail)) only [↓bif_d, nI_addS, nI_mulS, nI_subS, nI_lt', nI_le', nI_eq', up_eq, up_ne, up_up, up_sw, List.set_set, g_seq, g_sne, Nat.reduceEqDiff, ↓reduceIte, List.length_set, Nat.add_sub_cancel_left, Nat.add_sub_cancel, Nat.reduceLT, Nat.reduceLeDiff, ite_true, ite_false, if_true, if_false, not_true_eq_false, not_false_eq_true, Bool.and_true, Bool.true_and, true_or, or_true, false_or, or_false, and_true, true_and, and_false, false_and, Nat.not_lt_zero, ↓(am_bi_of b5), ↓(ob_of a3), ↓(am_bi_of c8), ↓(am_bi_of l3), g1, g2', ↓asb_0, ↓asc_0, ↓alb_0, ↓alc_0, ↓asb_1, ↓asc_1, ↓alb_1, ↓alc_1, ↓asb_2, ↓asc_2, ↓alb_2, ↓alc_2, ↓asb_3, ↓asc_3, ↓alb_3, ↓alc_3, ↓asb_4, ↓asc_4, ↓alb_4, ↓alc_4]
      · rw [cif_f g3]
        by_cases g4 : mSv r Bu Fi x
        · rw [cif_t g4, b01_t g4]
          simp (maxSteps := 1000000) (disch := (first | omega | (simp (disch := omega) only [up_eq, up_ne, List.length_set] <;> omega) | fail)) only [↓bif_d, nI_addS, nI_mulS, nI_subS, nI_lt', nI_le', nI_eq', up_eq, up_ne, up_up, up_sw, List.set_set, g_seq, g_sne, Nat.reduceEqDiff, ↓reduceIte, List.length_set, Nat.add_sub_cancel_left, Nat.add_sub_cancel, Nat.reduceLT, Nat.reduceLeDiff, ite_true, ite_false, if_true, if_false, not_true_eq_false, not_false_eq_true, Bool.and_true, Bool.true_and, true_or, or_true, false_or, or_false, and_true, true_and, and_false, false_and, Nat.not_lt_zero, ↓(am_bi_of b5), ↓(ob_of a3), ↓(am_bi_of c8), ↓(am_bi_of l3), g1, g2', g3, ↓asb_0, ↓asc_0, ↓alb_0, ↓alc_0, ↓asb_1, ↓asc_1, ↓alb_1, ↓alc_1, ↓asb_2, ↓asc_2, ↓alb_2, ↓alc_2, ↓asb_3, ↓asc_3, ↓alb_3, ↓alc_3, ↓asb_4, ↓asc_4, ↓alb_4, ↓alc_4]
        · rw [cif_f g4, b01_f g4]
          rw [w7] at a1 ⊢
          rw [s2', nI_lt' (by omega) (by omega)]
          by_cases g5 : flN r nB a < s
          · rw [cif_t g5]
            have g5' : ¬ ceN r nB s ≤ flN r nB a := fun z => by have := hwc.mp z; omega
            simp (maxSteps := 1000000) (disch := (first | omega | (simp (disch := omega) only [up_eq, up_ne, List.length_set] <;> omega) | fail)) only [↓bif_d, nI_addS, nI_mulS, nI_subS, nI_lt', nI_le', nI_eq', up_eq, up_ne, up_up, up_sw, List.set_set, g_seq, g_sne, Nat.reduceEqDiff, ↓reduceIte, List.length_set, Nat.add_sub_cancel_left, Nat.add_sub_cancel, Nat.reduceLT, Nat.reduceLeDiff, ite_true, ite_false, if_true, if_false, not_true_eq_false, not_false_eq_true, Bool.and_true, Bool.true_and, true_or, or_true, false_or, or_false, and_true, true_and, and_false, false_and, Nat.not_lt_zero, ↓(am_bi_of b5), ↓(ob_of a3), ↓(am_bi_of c8), ↓(am_bi_of l3), ↓(ob_of a1), ↓(am_bi_of l1), ↓(am_bi_of v1), g1, g2', g3, g5', ↓asb_0, ↓asc_0, ↓alb_0, ↓alc_0, ↓asb_1, ↓asc_1, ↓alb_1, ↓alc_1, ↓asb_2, ↓asc_2, ↓alb_2, ↓alc_2, ↓asb_3, ↓asc_3, ↓alb_3, ↓alc_3, ↓asb_4, ↓asc_4, ↓alb_4, ↓alc_4]
          · rw [cif_f g5]
            have g5' : ceN r nB s ≤ flN r nB a := hwc.mpr (by omega)
            simp (maxSteps := 1000000) (disch := (first | omega | (simp (disch := omega) only [up_eq, up_ne, List.length_set] <;> omega) | fail)) only [↓bif_d, nI_addS, nI_mulS, nI_subS, nI_lt', nI_le', nI_eq', up_eq, up_ne, up_up, up_sw, List.set_set, g_seq, g_sne, Nat.reduceEqDiff, ↓reduceIte, List.length_set, Nat.add_sub_cancel_left, Nat.add_sub_cancel, Nat.reduceLT, Nat.reduceLeDiff, ite_true, ite_false, if_true, if_false, not_true_eq_false, not_false_eq_true, Bool.and_true, Bool.true_and, true_or, or_true, false_or, or_false, and_true, true_and, and_false, false_and, Nat.not_lt_zero, ↓(am_bi_of b5), ↓(ob_of a3), ↓(am_bi_of c8), ↓(am_bi_of l3), ↓(ob_of a1), ↓(am_bi_of l1), ↓(am_bi_of v1), g1, g2', g3, g5', ↓asb_0, ↓asc_0, ↓alb_0, ↓alc_0, ↓asb_1, ↓asc_1, ↓alb_1, ↓alc_1, ↓asb_2, ↓asc_2, ↓alb_2, ↓alc_2, ↓asb_3, ↓asc_3, ↓alb_3, ↓alc_3, ↓asb_4, ↓asc_4, ↓alb_4, ↓alc_4]
theorem l_ask81 (hH : Hd xl r tx u nB nl nb nx A F P) (hS : Sv r nB nl nb nx L B Fi Se Mn Bu Pr) : ∀ n x D (u7 u8 u9 u10 u11 : Value), x + n = nx → DL D → Q1 r Bu Pr Fi (D 4) nl → AQ r nB L Bu Fi D x → ∃ D' v7 v8 v9 v10 v11, DL D' ∧ AQ r nB L Bu Fi D' nx ∧ am_ev m_L_ask (81, [.ref 1, .ref 192, .ref 193, .ref 194, .ref 195, .ref 196, .int (nI x), u7, u8, u9, u10, u11], [], heap (ad A D) F P) = am_ev m_L_ask (365, [.ref 1, .ref 192, .ref 193, .ref 194, .ref 195, .ref 196, .int (nI 0), v7, v8, v9, v10, v11], [], heap (ad A D') F P) := by
  classical
  have hQ := fun D => hH.Q hS D
  have hC := (hQ (fun _ => [])).2.2.2.1
  have hM := (hQ (fun _ => [])).2.2.2.1.1
  have hnl : nl ≤ 20 := hM.1.2.2.2.2.2.2.2.1
  have hnb : nb ≤ 8 := hM.1.2.2.2.2.2.2.2.2.1
  have hnx : nx ≤ 60 := hM.1.2.2.2.2.2.2.2.2.2
  have c2 := fun D => k_count2 (P := P) (hQ D).2.2.2.1
  intro n
  induction n with
  | zero =>
    intro x D u7 u8 u9 u10 u11 hx hD hq ha
    have hle : nx ≤ x := by omega
    refine ⟨D, u7, u8, u9, u10, u11, hD, fun y hy => ha y (by omega), ?_⟩
    rw [b_L_ask_81]
    simp (maxSteps := 1000000) (disch := (first | omega | (simp (disch := omega) only [up_eq, up_ne, List.length_set] <;> omega) | fail)) only [↓bif_d, nI_addS, nI_mulS, nI_subS, nI_lt', nI_le', nI_eq', up_eq, up_ne, up_up, up_sw, List.set_set, g_seq, g_sne, Nat.reduceEqDiff, ↓reduceIte, List.length_set, Nat.add_sub_cancel_left, Nat.add_sub_cancel, Nat.reduceLT, Nat.reduceLeDiff, ite_true, ite_false, if_true, if_false, not_true_eq_false, not_false_eq_true, Bool.and_true, Bool.true_and, true_or, or_true, false_or, or_false, and_true, true_and, and_false, false_and, Nat.not_lt_zero, ↓(fun z0 => am_bi_of (c2 z0)), hle, ↓asb_0, ↓asc_0, ↓alb_0, ↓alc_0, ↓asb_1, ↓asc_1, ↓alb_1, ↓alc_1, ↓asb_2, ↓asc_2, ↓alb_2, ↓alc_2, ↓asb_3, ↓asc_3, ↓alb_3, ↓alc_3, ↓asb_4, ↓asc_4, ↓alb_4, ↓alc_4]
  | succ n ih =>
    intro x D u7 u8 u9 u10 u11 hxn hD hq ha
    have hx : x < nx := by omega
    have hle : ¬ nx ≤ x := by omega
    obtain ⟨⟨x1, x2⟩, x3, x4⟩ := hM.2.2 x hx
    obtain ⟨h0, h1, h2, h3, h4⟩ := id hD
    have b0 := fun D => k_bidOf0 (hQ D) hx
    have b1 := fun D => k_bidOf1 (hQ D) hx
    have b2 := fun D => k_bidOf2 (hQ D) hx
    have b3 := fun D => k_bidOf3 (hQ D) hx
    have bd := fun D => k_bidder0 (hQ D) x3
    have hsv : (∃ j, j < lotN r x ∧ SvQ r Bu Fi x j) ↔ mSv r Bu Fi x := (sv_eq x4 (by omega)).symm
    have hl := l_ask124 hH hS hD hq hx (lotN r x) 0 (by omega)
    rw [Nat.mul_zero, Nat.zero_add, hS.2.1 _ x3, b01_f (by rintro ⟨j, j1, _⟩; omega), b01_c hsv] at hl
    obtain ⟨p, q, a, w1, w2, w3, w4, w5, w6, w7, w8⟩ := mWo_N hC hx (SaI_left hC hS.2 _ (by omega) _ x3)
    have v0 := fun D => (R_valid (hH.R D) (a := a) (by rw [w6]; split <;> omega)).1
    have key : ∀ D1 : Nat → List Int32, D1 = up (up (up D 0 ((D 0).set x (nI (100 * lotN r x + byN r x)))) 1 ((D 1).set x (mWo r nB L x))) 3 ((D 3).set x (g r (288 + x))) → ∃ D' v7 v8 v9 v10 v11, DL D' ∧ AQ r nB L Bu Fi D' nx ∧ am_ev m_L_ask (271, [.ref 1, .ref 192, .ref 193, .ref 194, .ref 195, .ref 196, .int (nI x), .int (nI (lotN r x)), .int (nI (byN r x)), .int (nI q), .int (b01 (mSv r Bu Fi x)), .int (nI p)], [], heap (ad A D1) F P) = am_ev m_L_ask (365, [.ref 1, .ref 192, .ref 193, .ref 194, .ref 195, .ref 196, .int (nI 0), v7, v8, v9, v10, v11], [], heap (ad A D') F P) := by
      intro D1 hD1
      have e0 : D1 0 = (D 0).set x (nI (100 * lotN r x + byN r x)) := by rw [hD1]; rfl
      have e1 : D1 1 = (D 1).set x (mWo r nB L x) := by rw [hD1]; rfl
      have e2 : D1 2 = D 2 := by rw [hD1]; rfl
      have e3 : D1 3 = (D 3).set x (g r (288 + x)) := by rw [hD1]; rfl
      have e4 : D1 4 = D 4 := by rw [hD1]; rfl
      have hD1L : DL D1 := ⟨by rw [e0, List.length_set]; exact h0, by rw [e1, List.length_set]; exact h1, by rw [e2]; exact h2, by rw [e3, List.length_set]; exact h3, by rw [e4]; exact h4⟩
      rw [l_ask271 hH hS hD1L hx (by rw [e1, g_seq (by omega)]) (by rw [e3, g_seq (by omega)])]
      refine ih (x + 1) _ _ _ _ _ _ (by omega) (DL_up hD1L (by omega)) (by rw [up_ne _ _ (by omega), e4]; exact hq) (fun y hy => ?_)
      rw [up_ne _ _ (show 0 ≠ 2 by omega), up_ne _ _ (show 1 ≠ 2 by omega), up_ne _ _ (show 3 ≠ 2 by omega), up_eq, e0, e1, e2, e3]
      by_cases z : y = x
      · subst z
        rw [g_seq (by omega), g_seq (by omega), g_seq (by omega), g_seq (by omega)]
        exact ⟨rfl, rfl, rfl, rfl⟩
      · obtain ⟨t1, t2, t3, t4⟩ := ha y (by omega)
        exact ⟨gsr (by omega) z t1, gsr (by omega) z t2, gsr (by omega) z t3, gsr (by omega) z t4⟩
    obtain ⟨D', v7, v8, v9, v10, v11, q1, q2, q3⟩ := key _ rfl
    refine ⟨D', v7, v8, v9, v10, v11, q1, q2, ?_⟩
    rw [← q3, b_L_ask_81]
    have hle2 : lotN r x ≤ lotN r x := Nat.le_refl _
    have b124 := fun x1 x2 x3 x4 x5 x6 h => b_L_ask_124 1 192 193 194 195 196 x1 x2 x3 x4 x5 x6 h
    rw [w4] at b2
    rw [w5] at hl
    by_cases c : q ≤ p
    · have ha : a = q := by rw [w6]; split <;> omega
      rw [ha] at v0 w7
      rw [w7]
      simp (maxSteps := 1000000) (disch := (first | omega | (simp (disch := omega) only [up_eq, up_ne, List.length_set] <;> omega) | fail)) only [↓bif_d, nI_addS, nI_mulS, nI_subS, nI_lt', nI_le', nI_eq', up_eq, up_ne, up_up, up_sw, List.set_set, g_seq, g_sne, Nat.reduceEqDiff, ↓reduceIte, List.length_set, Nat.add_sub_cancel_left, Nat.add_sub_cancel, Nat.reduceLT, Nat.reduceLeDiff, ite_true, ite_false, if_true, if_false, not_true_eq_false, not_false_eq_true, Bool.and_true, Bool.true_and, true_or, or_true, false_or, or_false, and_true, true_and, and_false, false_and, Nat.not_lt_zero, ↓(fun z0 => am_bi_of (c2 z0)), ↓(fun z0 => am_bi_of (b0 z0)), ↓(fun z0 => am_bi_of (b1 z0)), ↓(fun z0 => am_bi_of (bd z0)), hle, ↓asb_0, ↓asc_0, ↓alb_0, ↓alc_0, ↓asb_1, ↓asc_1, ↓alb_1, ↓alc_1, ↓asb_2, ↓asc_2, ↓alb_2, ↓alc_2, ↓asb_3, ↓asc_3, ↓alb_3, ↓alc_3, ↓asb_4, ↓asc_4, ↓alb_4, ↓alc_4]
      rw [hl, b_L_ask_124]
      simp (maxSteps := 1000000) (disch := (first | omega | (simp (disch := omega) only [up_eq, up_ne, List.length_set] <;> omega) | fail)) only [↓bif_d, nI_addS, nI_mulS, nI_subS, nI_lt', nI_le', nI_eq', up_eq, up_ne, up_up, up_sw, List.set_set, g_seq, g_sne, Nat.reduceEqDiff, ↓reduceIte, List.length_set, Nat.add_sub_cancel_left, Nat.add_sub_cancel, Nat.reduceLT, Nat.reduceLeDiff, ite_true, ite_false, if_true, if_false, not_true_eq_false, not_false_eq_true, Bool.and_true, Bool.true_and, true_or, or_true, false_or, or_false, and_true, true_and, and_false, false_and, Nat.not_lt_zero, ↓(fun z0 => am_bi_of (b2 z0)), ↓(fun z0 => am_bi_of (b3 z0)), ↓(fun z0 => am_bi_of (v0 z0)), hle2, c, ↓asb_0, ↓asc_0, ↓alb_0, ↓alc_0, ↓asb_1, ↓asc_1, ↓alb_1, ↓alc_1, ↓asb_2, ↓asc_2, ↓alb_2, ↓alc_2, ↓asb_3, ↓asc_3, ↓alb_3, ↓alc_3, ↓asb_4, ↓asc_4, ↓alb_4, ↓alc_4]
    · have ha : a = p := by rw [w6]; split <;> omega
      rw [ha] at v0 w7
      rw [w7]
      simp (maxSteps := 1000000) (disch := (first | omega | (simp (disch := omega) only [up_eq, up_ne, List.length_set] <;> omega) | fail)) only [↓bif_d, nI_addS, nI_mulS, nI_subS, nI_lt', nI_le', nI_eq', up_eq, up_ne, up_up, up_sw, List.set_set, g_seq, g_sne, Nat.reduceEqDiff, ↓reduceIte, List.length_set, Nat.add_sub_cancel_left, Nat.add_sub_cancel, Nat.reduceLT, Nat.reduceLeDiff, ite_true, ite_false, if_true, if_false, not_true_eq_false, not_false_eq_true, Bool.and_true, Bool.true_and, true_or, or_true, false_or, or_false, and_true, true_and, and_false, false_and, Nat.not_lt_zero, ↓(fun z0 => am_bi_of (c2 z0)), ↓(fun z0 => am_bi_of (b0 z0)), ↓(fun z0 => am_bi_of (b1 z0)), ↓(fun z0 => am_bi_of (bd z0)), hle, ↓asb_0, ↓asc_0, ↓alb_0, ↓alc_0, ↓asb_1, ↓asc_1, ↓alb_1, ↓alc_1, ↓asb_2, ↓asc_2, ↓alb_2, ↓alc_2, ↓asb_3, ↓asc_3, ↓alb_3, ↓alc_3, ↓asb_4, ↓asc_4, ↓alb_4, ↓alc_4]
      rw [hl, b_L_ask_124]
      simp (maxSteps := 1000000) (disch := (first | omega | (simp (disch := omega) only [up_eq, up_ne, List.length_set] <;> omega) | fail)) only [↓bif_d, nI_addS, nI_mulS, nI_subS, nI_lt', nI_le', nI_eq', up_eq, up_ne, up_up, up_sw, List.set_set, g_seq, g_sne, Nat.reduceEqDiff, ↓reduceIte, List.length_set, Nat.add_sub_cancel_left, Nat.add_sub_cancel, Nat.reduceLT, Nat.reduceLeDiff, ite_true, ite_false, if_true, if_false, not_true_eq_false, not_false_eq_true, Bool.and_true, Bool.true_and, true_or, or_true, false_or, or_false, and_true, true_and, and_false, false_and, Nat.not_lt_zero, ↓(fun z0 => am_bi_of (b2 z0)), ↓(fun z0 => am_bi_of (b3 z0)), ↓(fun z0 => am_bi_of (v0 z0)), hle2, c, ↓asb_0, ↓asc_0, ↓alb_0, ↓alc_0, ↓asb_1, ↓asc_1, ↓alb_1, ↓alc_1, ↓asb_2, ↓asc_2, ↓alb_2, ↓alc_2, ↓asb_3, ↓asc_3, ↓alb_3, ↓alc_3, ↓asb_4, ↓asc_4, ↓alb_4, ↓alc_4]
end A
