/-! ask: of several bids of one bidder only the best one counts -/
/-- z is a better bid of the same bidder for the same lot -/
def Btr (r : List Int32) (nB : Nat) (L Bu Fi : List Int32) (z x : Nat) : Prop := ¬ z = x ∧ lotN r z = lotN r x ∧ byN r z = byN r x ∧ mRe r nB L Bu Fi z = nI 0 ∧ (mWo r nB L x < mWo r nB L z ∨ (mWo r nB L z = mWo r nB L x ∧ z < x))
/-- what the law's c holds at last -/
noncomputable def cd2 (r : List Int32) (nB : Nat) (L Bu Fi : List Int32) (nx x : Nat) : Int32 := cif (mRe r nB L Bu Fi x = nI 0 ∧ ∃ z, z < nx ∧ Btr r nB L Bu Fi z x) (nI 6) (mRe r nB L Bu Fi x)
theorem mRe_vals (r : List Int32) (nB : Nat) (L Bu Fi : List Int32) (x : Nat) : ∃ k, k ≤ 5 ∧ mRe r nB L Bu Fi x = nI k := by
  unfold mRe
  by_cases h1 : g r (408 + x) = nI 1
  · rw [cif_t h1]; exact ⟨1, by omega, rfl⟩
  rw [cif_f h1]
  by_cases h2 : mLa r x
  · rw [cif_t h2]; exact ⟨2, by omega, rfl⟩
  rw [cif_f h2]
  by_cases h3 : g r (78 + lotN r x) = nI 1
  · rw [cif_t h3]; exact ⟨3, by omega, rfl⟩
  rw [cif_f h3]
  by_cases h4 : mSv r Bu Fi x
  · rw [cif_t h4]; exact ⟨4, by omega, rfl⟩
  rw [cif_f h4]
  by_cases h5 : mWo r nB L x < g r (38 + lotN r x)
  · rw [cif_t h5]; exact ⟨5, by omega, rfl⟩
  rw [cif_f h5]; exact ⟨0, by omega, rfl⟩
theorem cd2_06 {r : List Int32} {nB : Nat} {L Bu Fi : List Int32} {nx x : Nat} : (cd2 r nB L Bu Fi nx x = nI 0 ∨ cd2 r nB L Bu Fi nx x = nI 6) ↔ mRe r nB L Bu Fi x = nI 0 := by
  unfold cd2
  obtain ⟨k, k1, k2⟩ := mRe_vals r nB L Bu Fi x
  by_cases c : mRe r nB L Bu Fi x = nI 0 ∧ ∃ z, z < nx ∧ Btr r nB L Bu Fi z x
  · rw [cif_t c]
    exact ⟨fun _ => c.1, fun _ => Or.inr rfl⟩
  · rw [cif_f c]
    refine ⟨fun z => z.resolve_right (fun w => ?_), Or.inl⟩
    rw [k2, nI_eq' (by omega) (by omega)] at w
    omega
/-- the law's c while the bids are gone through -/
def CQ (r : List Int32) (nB : Nat) (L Bu Fi : List Int32) (nx : Nat) (C : List Int32) (x : Nat) : Prop := ∀ y, y < nx → (y < x → g C y = cd2 r nB L Bu Fi nx y) ∧ (x ≤ y → g C y = mRe r nB L Bu Fi y)
/-- .. and, for the bid x, the bids below y are looked at -/
def CR (r : List Int32) (nB : Nat) (L Bu Fi : List Int32) (nx : Nat) (C : List Int32) (x y : Nat) : Prop := (∀ z, z < nx → (z < x → g C z = cd2 r nB L Bu Fi nx z) ∧ (x < z → g C z = mRe r nB L Bu Fi z)) ∧ g C x = cif (mRe r nB L Bu Fi x = nI 0 ∧ ∃ z, z < y ∧ Btr r nB L Bu Fi z x) (nI 6) (mRe r nB L Bu Fi x)
section A
variable {xl r tx L B Fi Se Mn Bu Pr : List Int32} {u : Option (List Int32)} {nB nl nb nx : Nat} {A : Nat → List Int32} {F : Nat → Int32} {P : Nat → Nat}
theorem CR_06 {C : List Int32} {x y : Nat} (h : CR r nB L Bu Fi nx C x y) (hy : y < nx) (hyx : ¬ y = x) : (g C y = nI 0 ∨ g C y = nI 6) ↔ mRe r nB L Bu Fi y = nI 0 := by
  obtain ⟨h1, h2⟩ := h.1 y hy
  rcases Nat.lt_or_ge y x with z | z
  · rw [h1 z]; exact cd2_06
  · rw [h2 (by omega)]
    obtain ⟨k, k1, k2⟩ := mRe_vals r nB L Bu Fi y
    refine ⟨fun w => w.resolve_right (fun w => ?_), Or.inl⟩
    rw [k2, nI_eq' (by omega) (by omega)] at w
    omega
/-- one more bid is looked at -/
theorem CR_step {C C' : List Int32} {x y : Nat} (h : CR r nB L Bu Fi nx C x y) (h0 : mRe r nB L Bu Fi x = nI 0) (hx : x < C.length) (hC : C' = C.set x (cif (Btr r nB L Bu Fi y x) (nI 6) (g C x))) : CR r nB L Bu Fi nx C' x (y + 1) := by
  subst hC
  refine ⟨fun z hz => ⟨fun w => gsr hx (by omega) ((h.1 z hz).1 w), fun w => gsr hx (by omega) ((h.1 z hz).2 w)⟩, ?_⟩
  rw [g_seq hx]
  by_cases c : Btr r nB L Bu Fi y x
  · rw [cif_t c, cif_t ⟨h0, y, by omega, c⟩]
  · rw [cif_f c, h.2]
    by_cases d : ∃ z, z < y ∧ Btr r nB L Bu Fi z x
    · rw [cif_t ⟨h0, d⟩, cif_t]
      obtain ⟨z, z1, z2⟩ := d
      exact ⟨h0, z, by omega, z2⟩
    · rw [cif_f (fun w => d w.2), cif_f]
      rintro ⟨-, z, z1, z2⟩
      by_cases e : z = y
      · exact c (e ▸ z2)
      · exact d ⟨z, by omega, z2⟩
def AR (r : List Int32) (nB : Nat) (L : List Int32) (D : Nat → List Int32) (nx : Nat) : Prop := ∀ y, y < nx → g (D 0) y = nI (100 * lotN r y + byN r y) ∧ g (D 1) y = mWo r nB L y ∧ g (D 3) y = g r (288 + y)
theorem l_ask378 (hH : Hd xl r tx u nB nl nb nx A F P) (hS : Sv r nB nl nb nx L B Fi Se Mn Bu Pr) {x : Nat} (hx : x < nx) : ∀ n y D (u8 u9 u10 u11 : Value), y + n = nx → DL D → AR r nB L D nx → CR r nB L Bu Fi nx (D 2) x y → ∃ D' v7 v8 v9 v10 v11, DL D' ∧ AR r nB L D' nx ∧ CR r nB L Bu Fi nx (D' 2) x nx ∧ am_ev m_L_ask (378, [.ref 1, .ref 192, .ref 193, .ref 194, .ref 195, .ref 196, .int (nI x), .int (nI y), u8, u9, u10, u11], [], heap (ad A D) F P) = am_ev m_L_ask (365, [.ref 1, .ref 192, .ref 193, .ref 194, .ref 195, .ref 196, .int (nI (x + 1)), v7, v8, v9, v10, v11], [], heap (ad A D') F P) := by
  classical
  have hQ := fun D => hH.Q hS D
  have hM := (hQ (fun _ => [])).2.2.2.1.1
  have hnl : nl ≤ 20 := hM.1.2.2.2.2.2.2.2.1
  have hnb : nb ≤ 8 := hM.1.2.2.2.2.2.2.2.2.1
  have hnx : nx ≤ 60 := hM.1.2.2.2.2.2.2.2.2.2
  have c2 := fun D => k_count2 (P := P) (hQ D).2.2.2.1
  have b429 := fun x1 x2 u3 u4 u5 u6 h => b_L_ask_429 1 192 193 194 195 196 x1 x2 u3 u4 u5 u6 h
  have b458 := fun x1 x2 u3 u4 u5 u6 h => b_L_ask_458 1 192 193 194 195 196 x1 x2 u3 u4 u5 u6 h
  have b462 := fun x1 x2 u3 u4 u5 u6 h => b_L_ask_462 1 192 193 194 195 196 x1 x2 u3 u4 u5 u6 h
  obtain ⟨⟨x1, x2⟩, x3, x4⟩ := hM.2.2 x hx
  intro n
  induction n with
  | zero =>
    intro y D u8 u9 u10 u11 hy hD hA hR
    have hle : nx ≤ y := by omega
    have e : y = nx := by omega
    refine ⟨D, .int (nI y), u8, u9, u10, u11, hD, hA, e ▸ hR, ?_⟩
    rw [b_L_ask_378]
    simp (maxSteps := 1000000) (disch := (first | omega | (simp (disch := omega) only [up_eq, up_ne, List.length_set] <;> omega) | fail)) only [↓bif_d, nI_addS, nI_mulS, nI_subS, nI_lt', nI_le', nI_eq', up_eq, up_ne, up_up, up_sw, List.set_set, g_seq, g_sne, Nat.reduceEqDiff, ↓reduceIte, List.length_set, Nat.add_sub_cancel_left, Nat.add_sub_cancel, Nat.reduceLT, Nat.reduceLeDiff, ite_true, ite_false, if_true, if_false, not_true_eq_false, not_false_eq_true, Bool.and_true, Bool.true_and, true_or, or_true, false_or, or_false, and_true, true_and, and_false, false_and, Nat.not_lt_zero, ↓(fun z0 => am_bi_of (c2 z0)), hle]
  | succ n ih =>
    intro y D u8 u9 u10 u11 hyn hD hA hR
    have hy : y < nx := by omega
    have hle : ¬ nx ≤ y := by omega
    obtain ⟨h0, h1, h2, h3, h4⟩ := id hD
    obtain ⟨⟨y1, y2⟩, y3, y4⟩ := hM.2.2 y hy
    obtain ⟨p1, p2, p3⟩ := hA x hx
    obtain ⟨q1, q2, q3⟩ := hA y hy
    have a2x := al_2 A D F P (k := x) (by omega) h2
    have a2y := al_2 A D F P (k := y) (by omega) h2
    have a0x := al_0 A D F P (k := x) (by omega) h0
    have a0y := al_0 A D F P (k := y) (by omega) h0
    have a1x := al_1 A D F P (k := x) (by omega) h1
    have a1y := al_1 A D F P (k := y) (by omega) h1
    rw [p1] at a0x
    rw [q1] at a0y
    rw [p2] at a1x
    rw [q2] at a1y
    have s2 := fun v => as_2 A D F P (k := x) v (by omega) h2
    by_cases g0 : g (D 2) x = nI 0
    · have hm0 : mRe r nB L Bu Fi x = nI 0 := by
        have := hR.2
        rw [g0] at this
        by_cases c : mRe r nB L Bu Fi x = nI 0
        · exact c
        · rw [cif_f (fun z => c z.1)] at this
          exact this.symm
      have next : ∀ (b : Prop) (v8 : Value), (b ↔ Btr r nB L Bu Fi y x) → ∃ D' v7 v8' v9 v10 v11, DL D' ∧ AR r nB L D' nx ∧ CR r nB L Bu Fi nx (D' 2) x nx ∧ am_ev m_L_ask (378, [.ref 1, .ref 192, .ref 193, .ref 194, .ref 195, .ref 196, .int (nI x), .int (nI (y + 1)), v8, u9, u10, u11], [], heap (ad A (up D 2 ((D 2).set x (cif b (nI 6) (nI 0))))) F P) = am_ev m_L_ask (365, [.ref 1, .ref 192, .ref 193, .ref 194, .ref 195, .ref 196, .int (nI (x + 1)), v7, v8', v9, v10, v11], [], heap (ad A D') F P) := by
        intro b v8 hb
        rw [propext hb, ← g0]
        refine ih (y + 1) _ v8 u9 u10 u11 (by omega) (DL_up hD (by omega)) (fun z hz => ?_) ?_
        · rw [up_ne _ _ (show 0 ≠ 2 by omega), up_ne _ _ (show 1 ≠ 2 by omega), up_ne _ _ (show 3 ≠ 2 by omega)]
          exact hA z hz
        · rw [up_eq]
          exact CR_step hR hm0 (by omega) rfl
      have tt : True ↔ True := Iff.rfl
      by_cases e : y = x
      · obtain ⟨D', v7, v8, v9, v10, v11, r1, r2, r3, r4⟩ := next False (.int (nI 0)) ⟨fun z => z.elim, fun z => z.1 e⟩
        rw [cif_f id] at r4
        refine ⟨D', v7, v8, v9, v10, v11, r1, r2, r3, ?_⟩
        rw [← r4, b_L_ask_378]
        rw [g0] at a2x
        simp (maxSteps := 1000000) (disch := (first | omega | (simp (disch := omega) only [up_eq, up_ne, List.length_set] <;> omega) | fail)) only [↓bif_d, nI_addS, nI_mulS, nI_subS, nI_lt', nI_le', nI_eq', up_eq, up_ne, up_up, up_sw, List.set_set, g_seq, g_sne, Nat.reduceEqDiff, ↓reduceIte, List.length_set, Nat.add_sub_cancel_left, Nat.add_sub_cancel, Nat.reduceLT, Nat.reduceLeDiff, ite_true, ite_false, if_true, if_false, not_true_eq_false, not_false_eq_true, Bool.and_true, Bool.true_and, true_or, or_true, false_or, or_false, and_true, true_and, and_false, false_and, Nat.not_lt_zero, ↓(fun z0 => am_bi_of (c2 z0)), ↓(ob_of a2x), hle, (eq_true e), ↓b462, ↓asb_0, ↓asc_0, ↓alb_0, ↓alc_0, ↓asb_1, ↓asc_1, ↓alb_1, ↓alc_1, ↓asb_2, ↓asc_2, ↓alb_2, ↓alc_2, ↓asb_3, ↓asc_3, ↓alb_3, ↓alc_3, ↓asb_4, ↓asc_4, ↓alb_4, ↓alc_4]
      · by_cases d : 100 * lotN r y + byN r y = 100 * lotN r x + byN r x
        · have d1 : lotN r y = lotN r x ∧ byN r y = byN r x := by omega
          by_cases c : mRe r nB L Bu Fi y = nI 0
          · have c06 := (CR_06 hR hy e).mpr c
            have to429 : am_ev m_L_ask (378, [.ref 1, .ref 192, .ref 193, .ref 194, .ref 195, .ref 196, .int (nI x), .int (nI y), u8, u9, u10, u11], [], heap (ad A D) F P) = am_ev m_L_ask (429, [.ref 1, .ref 192, .ref 193, .ref 194, .ref 195, .ref 196, .int (nI x), .int (nI y), u8, u9, u10, u11], [], heap (ad A D) F P) := by
              rw [b_L_ask_378]
              rw [g0] at a2x
              have n60 : ¬ nI 6 = nI 0 := by decide
              rw [d] at a0y
              rcases c06 with w | w
              · rw [w] at a2y
                simp (maxSteps := 1000000) (disch := (first | omega | (simp (disch := omega) only [up_eq, up_ne, List.length_set] <;> omega) | fail)) only [↓bif_d, nI_addS, nI_mulS, nI_subS, nI_lt', nI_le', nI_eq', up_eq, up_ne, up_up, up_sw, List.set_set, g_seq, g_sne, Nat.reduceEqDiff, ↓reduceIte, List.length_set, Nat.add_sub_cancel_left, Nat.add_sub_cancel, Nat.reduceLT, Nat.reduceLeDiff, ite_true, ite_false, if_true, if_false, not_true_eq_false, not_false_eq_true, Bool.and_true, Bool.true_and, true_or, or_true, false_or, or_false, and_true, true_and, and_false, false_and, Nat.not_lt_zero, ↓(fun z0 => am_bi_of (c2 z0)), ↓(ob_of a2x), ↓(ob_of a0x), ↓(ob_of a0y), ↓(ob_of a2y), hle, e]
              · rw [w] at a2y
                simp (maxSteps := 1000000) (disch := (first | omega | (simp (disch := omega) only [up_eq, up_ne, List.length_set] <;> omega) | fail)) only [↓bif_d, nI_addS, nI_mulS, nI_subS, nI_lt', nI_le', nI_eq', up_eq, up_ne, up_up, up_sw, List.set_set, g_seq, g_sne, Nat.reduceEqDiff, ↓reduceIte, List.length_set, Nat.add_sub_cancel_left, Nat.add_sub_cancel, Nat.reduceLT, Nat.reduceLeDiff, ite_true, ite_false, if_true, if_false, not_true_eq_false, not_false_eq_true, Bool.and_true, Bool.true_and, true_or, or_true, false_or, or_false, and_true, true_and, and_false, false_and, Nat.not_lt_zero, ↓(fun z0 => am_bi_of (c2 z0)), ↓(ob_of a2x), ↓(ob_of a0x), ↓(ob_of a0y), ↓(ob_of a2y), hle, e, n60]
            by_cases w1 : mWo r nB L x < mWo r nB L y
            · obtain ⟨D', v7, v8, v9, v10, v11, r1, r2, r3, r4⟩ := next True (.int (nI 1)) ⟨fun _ => ⟨e, d1.1, d1.2, c, Or.inl w1⟩, fun _ => trivial⟩
              rw [cif_t trivial] at r4
              refine ⟨D', v7, v8, v9, v10, v11, r1, r2, r3, ?_⟩
              rw [← r4, to429, b_L_ask_429]
              simp (maxSteps := 1000000) (disch := (first | omega | (simp (disch := omega) only [up_eq, up_ne, List.length_set] <;> omega) | fail)) only [↓bif_d, nI_addS, nI_mulS, nI_subS, nI_lt', nI_le', nI_eq', up_eq, up_ne, up_up, up_sw, List.set_set, g_seq, g_sne, Nat.reduceEqDiff, ↓reduceIte, List.length_set, Nat.add_sub_cancel_left, Nat.add_sub_cancel, Nat.reduceLT, Nat.reduceLeDiff, ite_true, ite_false, if_true, if_false, not_true_eq_false, not_false_eq_true, Bool.and_true, Bool.true_and, true_or, or_true, false_or, or_false, and_true, true_and, and_false, false_and, Nat.not_lt_zero, ↓(ob_of a1x), ↓(ob_of a1y), w1, ↓b458, ↓asb_0, ↓asc_0, ↓alb_0, ↓alc_0, ↓asb_1, ↓asc_1, ↓alb_1, ↓alc_1, ↓asb_2, ↓asc_2, ↓alb_2, ↓alc_2, ↓asb_3, ↓asc_3, ↓alb_3, ↓alc_3, ↓asb_4, ↓asc_4, ↓alb_4, ↓alc_4]
            · by_cases w2 : mWo r nB L y = mWo r nB L x
              · by_cases w3 : y < x
                · obtain ⟨D', v7, v8, v9, v10, v11, r1, r2, r3, r4⟩ := next True (.int (nI 1)) ⟨fun _ => ⟨e, d1.1, d1.2, c, Or.inr ⟨w2, w3⟩⟩, fun _ => trivial⟩
                  rw [cif_t trivial] at r4
                  refine ⟨D', v7, v8, v9, v10, v11, r1, r2, r3, ?_⟩
                  have w3' : ¬ x ≤ y := by omega
                  rw [← r4, to429, b_L_ask_429]
                  rw [w2] at a1y w1
                  simp (maxSteps := 1000000) (disch := (first | omega | (simp (disch := omega) only [up_eq, up_ne, List.length_set] <;> omega) | fail)) only [↓bif_d, nI_addS, nI_mulS, nI_subS, nI_lt', nI_le', nI_eq', up_eq, up_ne, up_up, up_sw, List.set_set, g_seq, g_sne, Nat.reduceEqDiff, ↓reduceIte, List.length_set, Nat.add_sub_cancel_left, Nat.add_sub_cancel, Nat.reduceLT, Nat.reduceLeDiff, ite_true, ite_false, if_true, if_false, not_true_eq_false, not_false_eq_true, Bool.and_true, Bool.true_and, true_or, or_true, false_or, or_false, and_true, true_and, and_false, false_and, Nat.not_lt_zero, ↓(ob_of a1x), ↓(ob_of a1y), w1, w3', ↓b458, ↓asb_0, ↓asc_0, ↓alb_0, ↓alc_0, ↓asb_1, ↓asc_1, ↓alb_1, ↓alc_1, ↓asb_2, ↓asc_2, ↓alb_2, ↓alc_2, ↓asb_3, ↓asc_3, ↓alb_3, ↓alc_3, ↓asb_4, ↓asc_4, ↓alb_4, ↓alc_4]
                · obtain ⟨D', v7, v8, v9, v10, v11, r1, r2, r3, r4⟩ := next False (.int (nI 0)) ⟨fun z => z.elim, fun z => z.2.2.2.2.elim w1 (fun z => w3 z.2)⟩
                  rw [cif_f id] at r4
                  refine ⟨D', v7, v8, v9, v10, v11, r1, r2, r3, ?_⟩
                  have w3' : x ≤ y := by omega
                  rw [← r4, to429, b_L_ask_429]
                  rw [w2] at a1y w1
                  rw [g0] at a2x
                  simp (maxSteps := 1000000) (disch := (first | omega | (simp (disch := omega) only [up_eq, up_ne, List.length_set] <;> omega) | fail)) only [↓bif_d, nI_addS, nI_mulS, nI_subS, nI_lt', nI_le', nI_eq', up_eq, up_ne, up_up, up_sw, List.set_set, g_seq, g_sne, Nat.reduceEqDiff, ↓reduceIte, List.length_set, Nat.add_sub_cancel_left, Nat.add_sub_cancel, Nat.reduceLT, Nat.reduceLeDiff, ite_true, ite_false, if_true, if_false, not_true_eq_false, not_false_eq_true, Bool.and_true, Bool.true_and, true_or, or_true, false_or, or_false, and_true, true_and, and_false, false_and, Nat.not_lt_zero, ↓(ob_of a1x), ↓(ob_of a1y), ↓(ob_of a2x), w1, w3', ↓b462, ↓asb_0, ↓asc_0, ↓alb_0, ↓alc_0, ↓asb_1, ↓asc_1, ↓alb_1, ↓alc_1, ↓asb_2, ↓asc_2, ↓alb_2, ↓alc_2, ↓asb_3, ↓asc_3, ↓alb_3, ↓alc_3, ↓asb_4, ↓asc_4, ↓alb_4, ↓alc_4]
              · obtain ⟨D', v7, v8, v9, v10, v11, r1, r2, r3, r4⟩ := next False (.int (nI 0)) ⟨fun z => z.elim, fun z => z.2.2.2.2.elim w1 (fun z => w2 z.1)⟩
                rw [cif_f id] at r4
                refine ⟨D', v7, v8, v9, v10, v11, r1, r2, r3, ?_⟩
                rw [← r4, to429, b_L_ask_429]
                rw [g0] at a2x
                simp (maxSteps := 1000000) (disch := (first | omega | (simp (disch := omega) only [up_eq, up_ne, List.length_set] <;> omega) | fail)) only [↓bif_d, nI_addS, nI_mulS, nI_subS, nI_lt', nI_le', nI_eq', up_eq, up_ne, up_up, up_sw, List.set_set, g_seq, g_sne, Nat.reduceEqDiff, ↓reduceIte, List.length_set, Nat.add_sub_cancel_left, Nat.add_sub_cancel, Nat.reduceLT, Nat.reduceLeDiff, ite_true, ite_false, if_true, if_false, not_true_eq_false, not_false_eq_true, Bool.and_true, Bool.true_and, true_or, or_true, false_or, or_false, and_true, true_and, and_false, false_and, Nat.not_lt_zero, ↓(ob_of a1x), ↓(ob_of a1y), ↓(ob_of a2x), w1, w2, ↓b462, ↓asb_0, ↓asc_0, ↓alb_0, ↓alc_0, ↓asb_1, ↓asc_1, ↓alb_1, ↓alc_1, ↓asb_2, ↓asc_2, ↓alb_2, ↓alc_2, ↓asb_3, ↓asc_3, ↓alb_3, ↓alc_3, ↓asb_4, ↓asc_4, ↓alb_4, ↓alc_4]
          · obtain ⟨D', v7, v8, v9, v10, v11, r1, r2, r3, r4⟩ := next False (.int (nI 0)) ⟨fun z => z.elim, fun z => c z.2.2.2.1⟩
            rw [cif_f id] at r4
            refine ⟨D', v7, v8, v9, v10, v11, r1, r2, r3, ?_⟩
            rw [← r4, b_L_ask_378]
            rw [g0] at a2x
            have n0 : ¬ g (D 2) y = nI 0 := fun z => c ((CR_06 hR hy e).mp (Or.inl z))
            have n6 : ¬ g (D 2) y = nI 6 := fun z => c ((CR_06 hR hy e).mp (Or.inr z))
            rw [d] at a0y
            simp (maxSteps := 1000000) (disch := (first | omega | (simp (disch := omega) only [up_eq, up_ne, List.length_set] <;> omega) | fail)) only [↓bif_d, nI_addS, nI_mulS, nI_subS, nI_lt', nI_le', nI_eq', up_eq, up_ne, up_up, up_sw, List.set_set, g_seq, g_sne, Nat.reduceEqDiff, ↓reduceIte, List.length_set, Nat.add_sub_cancel_left, Nat.add_sub_cancel, Nat.reduceLT, Nat.reduceLeDiff, ite_true, ite_false, if_true, if_false, not_true_eq_false, not_false_eq_true, Bool.and_true, Bool.true_and, true_or, or_true, false_or, or_false, and_true, true_and, and_false, false_and, Nat.not_lt_zero, ↓(fun z0 => am_bi_of (c2 z0)), ↓(ob_of a2x), ↓(ob_of a0x), ↓(ob_of a0y), ↓(ob_of a2y), hle, e, n0, n6, ↓b462, ↓asb_0, ↓asc_0, ↓alb_0, ↓alc_0, ↓asb_1, ↓asc_1, ↓alb_1, ↓alc_1, ↓asb_2, ↓asc_2, ↓alb_2, ↓alc_2, ↓asb_3, ↓asc_3, ↓alb_3, ↓alc_3, ↓asb_4, ↓asc_4, ↓alb_4, ↓alc_4]
        · obtain ⟨D', v7, v8, v9, v10, v11, r1, r2, r3, r4⟩ := next False (.int (nI 0)) ⟨fun z => z.elim, fun z => d (by rw [z.2.1, z.2.2.1])⟩
          rw [cif_f id] at r4
          refine ⟨D', v7, v8, v9, v10, v11, r1, r2, r3, ?_⟩
          rw [← r4, b_L_ask_378]
          rw [g0] at a2x
          simp (maxSteps := 1000000) (disch := (first | omega | (simp (disch := omega) only [up_eq, up_ne, List.length_set] <;> omega) | fail)) only [↓bif_d, nI_addS, nI_mulS, nI_subS, nI_lt', nI_le', nI_eq', up_eq, up_ne, up_up, up_sw, List.set_set, g_seq, g_sne, Nat.reduceEqDiff, ↓reduceIte, List.length_set, Nat.add_sub_cancel_left, Nat.add_sub_cancel, Nat.reduceLT, Nat.reduceLeDiff, ite_true, ite_false, if_true, if_false, not_true_eq_false, not_false_eq_true, Bool.and_true, Bool.true_and, true_or, or_true, false_or, or_false, and_true, true_and, and_false, false_and, Nat.not_lt_zero, ↓(fun z0 => am_bi_of (c2 z0)), ↓(ob_of a2x), ↓(ob_of a0x), ↓(ob_of a0y), hle, e, d, ↓b462, ↓asb_0, ↓asc_0, ↓alb_0, ↓alc_0, ↓asb_1, ↓asc_1, ↓alb_1, ↓alc_1, ↓asb_2, ↓asc_2, ↓alb_2, ↓alc_2, ↓asb_3, ↓asc_3, ↓alb_3, ↓alc_3, ↓asb_4, ↓asc_4, ↓alb_4, ↓alc_4]
    · refine ⟨D, .int (nI y), u8, u9, u10, u11, hD, hA, ⟨hR.1, ?_⟩, ?_⟩
      · rw [hR.2]
        rw [hR.2] at g0
        by_cases c : mRe r nB L Bu Fi x = nI 0
        · by_cases b : ∃ z, z < y ∧ Btr r nB L Bu Fi z x
          · obtain ⟨z, z1, z2⟩ := id b
            rw [cif_t ⟨c, b⟩, cif_t ⟨c, z, by omega, z2⟩]
          · rw [cif_f (fun z => b z.2)] at g0
            exact absurd c g0
        · rw [cif_f (fun z => c z.1), cif_f (fun z => c z.1)]
      · rw [b_L_ask_378]
        simp (maxSteps := 1000000) (disch := (first | omega | (simp (disch := omega) only [up_eq, up_ne, List.length_set] <;> omega) | fail)) only [↓bif_d, nI_addS, nI_mulS, nI_subS, nI_lt', nI_le', nI_eq', up_eq, up_ne, up_up, up_sw, List.set_set, g_seq, g_sne, Nat.reduceEqDiff, ↓reduceIte, List.length_set, Nat.add_sub_cancel_left, Nat.add_sub_cancel, Nat.reduceLT, Nat.reduceLeDiff, ite_true, ite_false, if_true, if_false, not_true_eq_false, not_false_eq_true, Bool.and_true, Bool.true_and, true_or, or_true, false_or, or_false, and_true, true_and, and_false, false_and, Nat.not_lt_zero, ↓(fun z0 => am_bi_of (c2 z0)), ↓(ob_of a2x), hle, g0]
theorem l_ask365 (hH : Hd xl r tx u nB nl nb nx A F P) (hS : Sv r nB nl nb nx L B Fi Se Mn Bu Pr) : ∀ n x D (u7 u8 u9 u10 u11 : Value), x + n = nx → DL D → AR r nB L D nx → CQ r nB L Bu Fi nx (D 2) x → ∃ D', DL D' ∧ AR r nB L D' nx ∧ CQ r nB L Bu Fi nx (D' 2) nx ∧ am_ev m_L_ask (365, [.ref 1, .ref 192, .ref 193, .ref 194, .ref 195, .ref 196, .int (nI x), u7, u8, u9, u10, u11], [], heap (ad A D) F P) = some (none, heap (ad A D') F P) := by
  classical
  have hQ := fun D => hH.Q hS D
  have hM := (hQ (fun _ => [])).2.2.2.1.1
  have hnx : nx ≤ 60 := hM.1.2.2.2.2.2.2.2.2.2
  have c2 := fun D => k_count2 (P := P) (hQ D).2.2.2.1
  intro n
  induction n with
  | zero =>
    intro x D u7 u8 u9 u10 u11 hx hD hA hq
    have hle : nx ≤ x := by omega
    have e : x = nx := by omega
    refine ⟨D, hD, hA, e ▸ hq, ?_⟩
    rw [b_L_ask_365]
    simp (maxSteps := 1000000) (disch := (first | omega | (simp (disch := omega) only [up_eq, up_ne, List.length_set] <;> omega) | fail)) only [↓bif_d, nI_addS, nI_mulS, nI_subS, nI_lt', nI_le', nI_eq', up_eq, up_ne, up_up, up_sw, List.set_set, g_seq, g_sne, Nat.reduceEqDiff, ↓reduceIte, List.length_set, Nat.add_sub_cancel_left, Nat.add_sub_cancel, Nat.reduceLT, Nat.reduceLeDiff, ite_true, ite_false, if_true, if_false, not_true_eq_false, not_false_eq_true, Bool.and_true, Bool.true_and, true_or, or_true, false_or, or_false, and_true, true_and, and_false, false_and, Nat.not_lt_zero, ↓(fun z0 => am_bi_of (c2 z0)), hle]
  | succ n ih =>
    intro x D u7 u8 u9 u10 u11 hxn hD hA hq
    have hx : x < nx := by omega
    have hle : ¬ nx ≤ x := by omega
    obtain ⟨D1, v7, v8, v9, v10, v11, r1, r2, r3, r4⟩ := l_ask378 hH hS hx nx 0 D u8 u9 u10 u11 (by omega) hD hA ⟨fun z hz => ⟨(hq z hz).1, fun w => (hq z hz).2 (by omega)⟩, by
      rw [cif_f (by rintro ⟨-, z, z1, -⟩; omega)]
      exact (hq x hx).2 (Nat.le_refl _)⟩
    obtain ⟨D', q1, q2, q3, q4⟩ := ih (x + 1) D1 v7 v8 v9 v10 v11 (by omega) r1 r2 (fun z hz => ⟨fun w => by
      by_cases e : z = x
      · subst e; exact r3.2
      · exact (r3.1 z hz).1 (by omega), fun w => (r3.1 z hz).2 (by omega)⟩)
    refine ⟨D', q1, q2, q3, ?_⟩
    rw [← q4, ← r4, b_L_ask_365]
    simp (maxSteps := 1000000) (disch := (first | omega | (simp (disch := omega) only [up_eq, up_ne, List.length_set] <;> omega) | fail)) only [↓bif_d, nI_addS, nI_mulS, nI_subS, nI_lt', nI_le', nI_eq', up_eq, up_ne, up_up, up_sw, List.set_set, g_seq, g_sne, Nat.reduceEqDiff, ↓reduceIte, List.length_set, Nat.add_sub_cancel_left, Nat.add_sub_cancel, Nat.reduceLT, Nat.reduceLeDiff, ite_true, ite_false, if_true, if_false, not_true_eq_false, not_false_eq_true, Bool.and_true, Bool.true_and, true_or, or_true, false_or, or_false, and_true, true_and, and_false, false_and, Nat.not_lt_zero, ↓(fun z0 => am_bi_of (c2 z0)), hle]
/-- what ask brings: all the bids' lots and bidders, worths, codes and postmarks -/
def AskR (r : List Int32) (nB : Nat) (L Bu Fi : List Int32) (nx : Nat) (D : Nat → List Int32) : Prop := DL D ∧ AR r nB L D nx ∧ ∀ y, y < nx → g (D 2) y = cd2 r nB L Bu Fi nx y
theorem l_ask (hH : Hd xl r tx u nB nl nb nx A F P) (hS : Sv r nB nl nb nx L B Fi Se Mn Bu Pr) {D : Nat → List Int32} (hD : DL D) : ∃ D', AskR r nB L Bu Fi nx D' ∧ am_cl m_L_ask [.ref 1, .ref 192, .ref 193, .ref 194, .ref 195, .ref 196] (heap (ad A D) F P) = some (none, heap (ad A D') F P) := by
  obtain ⟨D1, a1, a2, a3, a4⟩ := l_ask3 hH hS nl 0 D (by omega) hD (fun k hk => absurd hk (Nat.not_lt_zero _))
  obtain ⟨D2, v7, v8, v9, v10, v11, b1, b2, b3⟩ := l_ask81 hH hS nx 0 D1 (.float 0) (.float 0) (.float 0) (.float 0) (.float 0) (by omega) a1 a2 (fun y hy => absurd hy (Nat.not_lt_zero _))
  obtain ⟨D3, c1, c2, c3, c4⟩ := l_ask365 hH hS nx 0 D2 v7 v8 v9 v10 v11 (by omega) b1 (fun y hy => ⟨(b2 y hy).1, (b2 y hy).2.1, (b2 y hy).2.2.2⟩) (fun y hy => ⟨fun w => absurd w (Nat.not_lt_zero _), fun _ => (b2 y hy).2.2.1⟩)
  refine ⟨D3, ⟨c1, c2, fun y hy => (c3 y hy).1 hy⟩, ?_⟩
  rw [← c4, ← b3, ← a4, e_L_ask]
end A
