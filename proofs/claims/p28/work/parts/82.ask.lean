/-! THE LAW'S ask -/
noncomputable def qG (r Bu Fi : List Int32) (l : Nat) : Int32 := cif (g Bu l < nI 0) (nI 0) (g r (348 + (g Fi l).toNatClampNeg))
def Q1 (r Bu Pr Fi Q : List Int32) (l : Nat) : Prop := ∀ k, k < l → g Q k = g Bu k ∧ g Q (20 + k) = g Pr k ∧ g Q (40 + k) = qG r Bu Fi k
/-- an earlier lot that serves a bid -/
def SvQ (r Bu Fi : List Int32) (x j : Nat) : Prop := g Bu j = nI (byN r x) ∧ nI 0 < qG r Bu Fi j ∧ qG r Bu Fi j = g r (348 + x)
theorem sv_eq {r Bu Fi : List Int32} {x : Nat} (hb : g r (168 + x) = nI (byN r x)) (h8 : byN r x < 8) : mSv r Bu Fi x ↔ ∃ j, j < lotN r x ∧ SvQ r Bu Fi x j := by
  have key : ∀ j, g Bu j = nI (byN r x) → qG r Bu Fi j = g r (348 + (g Fi j).toNatClampNeg) := fun j hj => by
    unfold qG
    rw [cif_f (by rw [hj]; exact nI_pos (by omega))]
  unfold mSv mSv1 SvQ
  constructor
  · rintro ⟨h1, l, h2, h3⟩
    simp only [Bool.and_eq_true, decide_eq_true_eq] at h3
    rw [hb] at h3
    exact ⟨l, h2, h3.1, by rw [key l h3.1, h3.2]; exact h1, by rw [key l h3.1]; exact h3.2⟩
  · rintro ⟨l, h2, h3, h4, h5⟩
    refine ⟨by rw [← h5]; exact h4, l, h2, ?_⟩
    simp only [Bool.and_eq_true, decide_eq_true_eq]
    rw [hb]
    exact ⟨h3, by rw [← key l h3]; exact h5⟩
section A
variable {xl r tx L B Fi Se Mn Bu Pr : List Int32} {u : Option (List Int32)} {nB nl nb nx : Nat} {A : Nat → List Int32} {F : Nat → Int32} {P : Nat → Nat}
theorem l_ask3 (hH : Hd xl r tx u nB nl nb nx A F P) (hS : Sv r nB nl nb nx L B Fi Se Mn Bu Pr) : ∀ n l D, l + n = nl → DL D → Q1 r Bu Pr Fi (D 4) l → ∃ D', DL D' ∧ Q1 r Bu Pr Fi (D' 4) nl ∧ (∀ j, j < 4 → D' j = D j) ∧ am_ev m_L_ask (3, [.ref 1, .ref 192, .ref 193, .ref 194, .ref 195, .ref 196, .int (nI l), .float 0, .float 0, .float 0, .float 0, .float 0], [], heap (ad A D) F P) = am_ev m_L_ask (81, [.ref 1, .ref 192, .ref 193, .ref 194, .ref 195, .ref 196, .int (nI 0), .float 0, .float 0, .float 0, .float 0, .float 0], [], heap (ad A D') F P) := by
  classical
  have hQ := fun D => hH.Q hS D
  have hM := (hQ (fun _ => [])).2.2.2.1.1
  have hnl : nl ≤ 20 := hM.1.2.2.2.2.2.2.2.1
  have hnb : nb ≤ 8 := hM.1.2.2.2.2.2.2.2.2.1
  have hnx : nx ≤ 60 := hM.1.2.2.2.2.2.2.2.2.2
  have c0 := fun D => k_count0 (P := P) (hQ D).2.2.2.1
  intro n
  induction n with
  | zero =>
    intro l D hl hD hq
    have hle : nl ≤ l := by omega
    refine ⟨D, hD, fun k hk => hq k (by omega), fun _ _ => rfl, ?_⟩
    rw [b_L_ask_3]
    simp (maxSteps := 1000000) (disch := (first | omega | (simp (disch := omega) only [up_eq, up_ne, List.length_set] <;> omega) | fail)) only [↓bif_d, nI_addS, nI_mulS, nI_subS, nI_lt', nI_le', nI_eq', up_eq, up_ne, up_up, up_sw, List.set_set, g_seq, g_sne, Nat.reduceEqDiff, ↓reduceIte, List.length_set, Nat.add_sub_cancel_left, Nat.add_sub_cancel, Nat.reduceLT, Nat.reduceLeDiff, ite_true, ite_false, if_true, if_false, not_true_eq_false, not_false_eq_true, Bool.and_true, Bool.true_and, true_or, or_true, false_or, or_false, and_true, true_and, and_false, false_and, Nat.not_lt_zero, ↓(fun z0 => am_bi_of (c0 z0)), hle, ↓asb_0, ↓asc_0, ↓alb_0, ↓alc_0, ↓asb_1, ↓asc_1, ↓alb_1, ↓alc_1, ↓asb_2, ↓asc_2, ↓alb_2, ↓alc_2, ↓asb_3, ↓asc_3, ↓alb_3, ↓alc_3, ↓asb_4, ↓asc_4, ↓alb_4, ↓alc_4]
  | succ n ih =>
    intro l D hl hD hq
    have hlt : l < nl := by omega
    have hle : ¬ nl ≤ l := by omega
    obtain ⟨h0, h1, h2, h3, h4⟩ := id hD
    have s0 := fun D => k_sale0 (hQ D) hlt
    have s1 := fun D => k_sale1 (hQ D) hlt
    have s4 := fun D => k_sale4 (hQ D) hlt
    have key : ∀ v, v = qG r Bu Fi l → ∃ D', DL D' ∧ Q1 r Bu Pr Fi (D' 4) nl ∧ (∀ j, j < 4 → D' j = D j) ∧ am_ev m_L_ask (3, [.ref 1, .ref 192, .ref 193, .ref 194, .ref 195, .ref 196, .int (nI (l + 1)), .float 0, .float 0, .float 0, .float 0, .float 0], [], heap (ad A (up D 4 ((((D 4).set l (g Bu l)).set (20 + l) (g Pr l)).set (40 + l) v))) F P) = am_ev m_L_ask (81, [.ref 1, .ref 192, .ref 193, .ref 194, .ref 195, .ref 196, .int (nI 0), .float 0, .float 0, .float 0, .float 0, .float 0], [], heap (ad A D') F P) := by
      intro v hv
      obtain ⟨D', q1, q2, q3, q4⟩ := ih (l + 1) (up D 4 ((((D 4).set l (g Bu l)).set (20 + l) (g Pr l)).set (40 + l) v)) (by omega) ⟨h0, h1, h2, h3, by rw [up_eq]; simp [h4]⟩ (fun k hk => by
        rw [up_eq]
        by_cases z : k = l
        · subst z
          refine ⟨?_, ?_, ?_⟩
          · simp (disch := (first | omega | (simp only [List.length_set] <;> omega) | fail)) only [g_seq, g_sne, List.length_set]
          · simp (disch := (first | omega | (simp only [List.length_set] <;> omega) | fail)) only [g_seq, g_sne, List.length_set]
          · rw [g_seq (by simp [h4]; omega)]; exact hv
        · obtain ⟨w1, w2, w3⟩ := hq k (by omega)
          refine ⟨?_, ?_, ?_⟩
          · simp (disch := (first | omega | (simp only [List.length_set] <;> omega) | fail)) only [g_seq, g_sne, List.length_set]; exact w1
          · simp (disch := (first | omega | (simp only [List.length_set] <;> omega) | fail)) only [g_seq, g_sne, List.length_set]; exact w2
          · simp (disch := (first | omega | (simp only [List.length_set] <;> omega) | fail)) only [g_seq, g_sne, List.length_set]; exact w3)
      exact ⟨D', q1, q2, fun j hj => (q3 j hj).trans (up_ne _ _ (by omega)), q4⟩
    rcases SaI_bu hM hS.2 hlt with ⟨z1, z2⟩ | ⟨b, hb, z1⟩
    · have hneg : ¬ nI 0 ≤ g Bu l := by rw [z1]; decide
      obtain ⟨D', q1, q2, q3, q4⟩ := key (nI 0) (by unfold qG; rw [cif_t (by rw [z1]; decide)])
      refine ⟨D', q1, q2, q3, ?_⟩
      rw [b_L_ask_3]
      simp (maxSteps := 1000000) (disch := (first | omega | (simp (disch := omega) only [up_eq, up_ne, List.length_set] <;> omega) | fail)) only [↓bif_d, nI_addS, nI_mulS, nI_subS, nI_lt', nI_le', nI_eq', up_eq, up_ne, up_up, up_sw, List.set_set, g_seq, g_sne, Nat.reduceEqDiff, ↓reduceIte, List.length_set, Nat.add_sub_cancel_left, Nat.add_sub_cancel, Nat.reduceLT, Nat.reduceLeDiff, ite_true, ite_false, if_true, if_false, not_true_eq_false, not_false_eq_true, Bool.and_true, Bool.true_and, true_or, or_true, false_or, or_false, and_true, true_and, and_false, false_and, Nat.not_lt_zero, ↓(fun z0 => am_bi_of (c0 z0)), ↓(fun z0 => am_bi_of (s0 z0)), ↓(fun z0 => am_bi_of (s1 z0)), ↓(fun z0 => am_bi_of (s4 z0)), hle, hneg, q4, ↓asb_0, ↓asc_0, ↓alb_0, ↓alc_0, ↓asb_1, ↓asc_1, ↓alb_1, ↓alc_1, ↓asb_2, ↓asc_2, ↓alb_2, ↓alc_2, ↓asb_3, ↓asc_3, ↓alb_3, ↓alc_3, ↓asb_4, ↓asc_4, ↓alb_4, ↓alc_4]
    · have hpos : nI 0 ≤ g Bu l := by rw [z1]; exact nI_le (Nat.zero_le _) (by omega)
      obtain ⟨f, f1, f2, f3, f4, f5, f6⟩ := SaI_fi hM hS.2 hlt (by omega) z1
      have b4 := fun D => k_bidOf4 (hQ D) f1
      obtain ⟨D', q1, q2, q3, q4⟩ := key (g r (348 + f)) (by unfold qG; rw [cif_f (by rw [z1]; exact nI_pos (by omega)), f2, nI_clamp (by omega)])
      refine ⟨D', q1, q2, q3, ?_⟩
      rw [f2] at s4
      rw [b_L_ask_3]
      simp (maxSteps := 1000000) (disch := (first | omega | (simp (disch := omega) only [up_eq, up_ne, List.length_set] <;> omega) | fail)) only [↓bif_d, nI_addS, nI_mulS, nI_subS, nI_lt', nI_le', nI_eq', up_eq, up_ne, up_up, up_sw, List.set_set, g_seq, g_sne, Nat.reduceEqDiff, ↓reduceIte, List.length_set, Nat.add_sub_cancel_left, Nat.add_sub_cancel, Nat.reduceLT, Nat.reduceLeDiff, ite_true, ite_false, if_true, if_false, not_true_eq_false, not_false_eq_true, Bool.and_true, Bool.true_and, true_or, or_true, false_or, or_false, and_true, true_and, and_false, false_and, Nat.not_lt_zero, ↓(fun z0 => am_bi_of (c0 z0)), ↓(fun z0 => am_bi_of (s0 z0)), ↓(fun z0 => am_bi_of (s1 z0)), ↓(fun z0 => am_bi_of (s4 z0)), ↓(fun z0 => am_bi_of (b4 z0)), hle, hpos, q4, ↓asb_0, ↓asc_0, ↓alb_0, ↓alc_0, ↓asb_1, ↓asc_1, ↓alb_1, ↓alc_1, ↓asb_2, ↓asc_2, ↓alb_2, ↓alc_2, ↓asb_3, ↓asc_3, ↓alb_3, ↓alc_3, ↓asb_4, ↓asc_4, ↓alb_4, ↓alc_4]
theorem l_ask124 (hH : Hd xl r tx u nB nl nb nx A F P) (hS : Sv r nB nl nb nx L B Fi Se Mn Bu Pr) {D : Nat → List Int32} (hD : DL D) (hq : Q1 r Bu Pr Fi (D 4) nl) {x : Nat} (hx : x < nx) : ∀ n k, k + n = lotN r x → am_ev m_L_ask (124, [.ref 1, .ref 192, .ref 193, .ref 194, .ref 195, .ref 196, .int (nI x), .int (nI (lotN r x)), .int (nI (byN r x)), .int (g L (8 * k + byN r x)), .int (b01 (∃ j, j < k ∧ SvQ r Bu Fi x j)), .int (nI k)], [], heap (ad A D) F P) = am_ev m_L_ask (124, [.ref 1, .ref 192, .ref 193, .ref 194, .ref 195, .ref 196, .int (nI x), .int (nI (lotN r x)), .int (nI (byN r x)), .int (g L (8 * lotN r x + byN r x)), .int (b01 (∃ j, j < lotN r x ∧ SvQ r Bu Fi x j)), .int (nI (lotN r x))], [], heap (ad A D) F P) := by
  classical
  have hQ := hH.Q hS D
  have hM := hQ.2.2.2.1.1
  have hnl : nl ≤ 20 := hM.1.2.2.2.2.2.2.2.1
  have hnb : nb ≤ 8 := hM.1.2.2.2.2.2.2.2.2.1
  have hnx : nx ≤ 60 := hM.1.2.2.2.2.2.2.2.2.2
  obtain ⟨⟨x1, x2⟩, x3, x4⟩ := hM.2.2 x hx
  obtain ⟨h0, h1, h2, h3, h4⟩ := id hD
  have b4 := k_bidOf4 hQ hx
  have b158 := fun x1 x2 x3 x4 x5 x6 h => b_L_ask_158 1 192 193 194 195 196 x1 x2 x3 x4 x5 x6 h
  intro n
  induction n with
  | zero =>
    intro k hk
    have e : k = lotN r x := by omega
    rw [e]
  | succ n ih =>
    intro k hk
    have hlt : k < lotN r x := by omega
    have hle : ¬ lotN r x ≤ k := by omega
    obtain ⟨q1, q2, q3⟩ := hq k (by omega)
    have a0 := al_4 A D F P (k := k) (by omega) h4
    have a1 := al_4 A D F P (k := 20 + k) (by omega) h4
    have a2 := al_4 A D F P (k := 40 + k) (by omega) h4
    rw [q1] at a0
    rw [q2] at a1
    rw [q3] at a2
    have hL := hS.2.2.1 k (by omega) (byN r x) x3
    have ih := ih (k + 1) (by omega)
    rw [hL] at ih
    have hb : (b01 (∃ j, j < k + 1 ∧ SvQ r Bu Fi x j)) = cif (∃ j, j < k ∧ SvQ r Bu Fi x j) (nI 1) (cif (SvQ r Bu Fi x k) (nI 1) (nI 0)) := by
      by_cases c : ∃ j, j < k ∧ SvQ r Bu Fi x j
      · rw [cif_t c, b01_t]
        obtain ⟨j, j1, j2⟩ := c
        exact ⟨j, by omega, j2⟩
      · rw [cif_f c]
        by_cases d : SvQ r Bu Fi x k
        · rw [cif_t d, b01_t ⟨k, by omega, d⟩]
        · rw [cif_f d, b01_f]
          rintro ⟨j, j1, j2⟩
          by_cases z : j = k
          · exact d (z ▸ j2)
          · exact c ⟨j, by omega, j2⟩
    rw [hb] at ih
    rw [b_L_ask_124, ← ih]
    have n10 : ¬ nI 1 = nI 0 := by decide
    have s0 := sub_nI0
    by_cases c1 : g Bu k = nI (byN r x)
    · rw [cif_t c1]
      by_cases c2 : ∃ j, j < k ∧ SvQ r Bu Fi x j
      · rw [cif_t c2, b01_t c2]
        simp (maxSteps := 1000000) (disch := (first | omega | (simp (disch := omega) only [up_eq, up_ne, List.length_set] <;> omega) | fail)) only [↓bif_d, nI_addS, nI_mulS, nI_subS, nI_lt', nI_le', nI_eq', up_eq, up_ne, up_up, up_sw, List.set_set, g_seq, g_sne, Nat.reduceEqDiff, ↓reduceIte, List.length_set, Nat.add_sub_cancel_left, Nat.add_sub_cancel, Nat.reduceLT, Nat.reduceLeDiff, ite_true, ite_false, if_true, if_false, not_true_eq_false, not_false_eq_true, Bool.and_true, Bool.true_and, true_or, or_true, false_or, or_false, and_true, true_and, and_false, false_and, Nat.not_lt_zero, hle, c1, ↓b158, n10, q1, q2, q3, ↓asb_0, ↓asc_0, ↓alb_0, ↓alc_0, ↓asb_1, ↓asc_1, ↓alb_1, ↓alc_1, ↓asb_2, ↓asc_2, ↓alb_2, ↓alc_2, ↓asb_3, ↓asc_3, ↓alb_3, ↓alc_3, ↓asb_4, ↓asc_4, ↓alb_4, ↓alc_4]
      · rw [cif_f c2, b01_f c2]
        by_cases c3 : nI 0 < qG r Bu Fi k
        · have c3' : ¬ qG r Bu Fi k ≤ nI 0 := Int32.not_le.mpr c3
          by_cases c4 : qG r Bu Fi k = g r (348 + x)
          · rw [cif_t (p := SvQ r Bu Fi x k) ⟨c1, c3, c4⟩]
            rw [c4] at c3'
            simp (maxSteps := 1000000) (disch := (first | omega | (simp (disch := omega) only [up_eq, up_ne, List.length_set] <;> omega) | fail)) only [↓bif_d, nI_addS, nI_mulS, nI_subS, nI_lt', nI_le', nI_eq', up_eq, up_ne, up_up, up_sw, List.set_set, g_seq, g_sne, Nat.reduceEqDiff, ↓reduceIte, List.length_set, Nat.add_sub_cancel_left, Nat.add_sub_cancel, Nat.reduceLT, Nat.reduceLeDiff, ite_true, ite_false, if_true, if_false, not_true_eq_false, not_false_eq_true, Bool.and_true, Bool.true_and, true_or, or_true, false_or, or_false, and_true, true_and, and_false, false_and, Nat.not_lt_zero, ↓(am_bi_of b4), hle, c1, ↓b158, c3', c4, q1, q2, q3, ↓asb_0, ↓asc_0, ↓alb_0, ↓alc_0, ↓asb_1, ↓asc_1, ↓alb_1, ↓alc_1, ↓asb_2, ↓asc_2, ↓alb_2, ↓alc_2, ↓asb_3, ↓asc_3, ↓alb_3, ↓alc_3, ↓asb_4, ↓asc_4, ↓alb_4, ↓alc_4]
          · rw [cif_f (p := SvQ r Bu Fi x k) (fun z => c4 z.2.2)]
            simp (maxSteps := 1000000) (disch := (first | omega | (simp (disch := omega) only [up_eq, up_ne, List.length_set] <;> omega) | fail)) only [↓bif_d, nI_addS, nI_mulS, nI_subS, nI_lt', nI_le', nI_eq', up_eq, up_ne, up_up, up_sw, List.set_set, g_seq, g_sne, Nat.reduceEqDiff, ↓reduceIte, List.length_set, Nat.add_sub_cancel_left, Nat.add_sub_cancel, Nat.reduceLT, Nat.reduceLeDiff, ite_true, ite_false, if_true, if_false, not_true_eq_false, not_false_eq_true, Bool.and_true, Bool.true_and, true_or, or_true, false_or, or_false, and_true, true_and, and_false, false_and, Nat.not_lt_zero, ↓(am_bi_of b4), hle, c1, ↓b158, c3', c4, q1, q2, q3, ↓asb_0, ↓asc_0, ↓alb_0, ↓alc_0, ↓asb_1, ↓asc_1, ↓alb_1, ↓alc_1, ↓asb_2, ↓asc_2, ↓alb_2, ↓alc_2, ↓asb_3, ↓asc_3, ↓alb_3, ↓alc_3, ↓asb_4, ↓asc_4, ↓alb_4, ↓alc_4]
        · have c3' : qG r Bu Fi k ≤ nI 0 := Int32.not_lt.mp c3
          rw [cif_f (p := SvQ r Bu Fi x k) (fun z => c3 z.2.1)]
          simp (maxSteps := 1000000) (disch := (first | omega | (simp (disch := omega) only [up_eq, up_ne, List.length_set] <;> omega) | fail)) only [↓bif_d, nI_addS, nI_mulS, nI_subS, nI_lt', nI_le', nI_eq', up_eq, up_ne, up_up, up_sw, List.set_set, g_seq, g_sne, Nat.reduceEqDiff, ↓reduceIte, List.length_set, Nat.add_sub_cancel_left, Nat.add_sub_cancel, Nat.reduceLT, Nat.reduceLeDiff, ite_true, ite_false, if_true, if_false, not_true_eq_false, not_false_eq_true, Bool.and_true, Bool.true_and, true_or, or_true, false_or, or_false, and_true, true_and, and_false, false_and, Nat.not_lt_zero, hle, c1, ↓b158, c3', q1, q2, q3, ↓asb_0, ↓asc_0, ↓alb_0, ↓alc_0, ↓asb_1, ↓asc_1, ↓alb_1, ↓alc_1, ↓asb_2, ↓asc_2, ↓alb_2, ↓alc_2, ↓asb_3, ↓asc_3, ↓alb_3, ↓alc_3, ↓asb_4, ↓asc_4, ↓alb_4, ↓alc_4]
    · rw [cif_f c1]
      by_cases c2 : ∃ j, j < k ∧ SvQ r Bu Fi x j
      · rw [cif_t c2, b01_t c2]
        simp (maxSteps := 1000000) (disch := (first | omega | (simp (disch := omega) only [up_eq, up_ne, List.length_set] <;> omega) | fail)) only [↓bif_d, nI_addS, nI_mulS, nI_subS, nI_lt', nI_le', nI_eq', up_eq, up_ne, up_up, up_sw, List.set_set, g_seq, g_sne, Nat.reduceEqDiff, ↓reduceIte, List.length_set, Nat.add_sub_cancel_left, Nat.add_sub_cancel, Nat.reduceLT, Nat.reduceLeDiff, ite_true, ite_false, if_true, if_false, not_true_eq_false, not_false_eq_true, Bool.and_true, Bool.true_and, true_or, or_true, false_or, or_false, and_true, true_and, and_false, false_and, Nat.not_lt_zero, hle, c1, ↓b158, n10, s0, q1, q2, q3, ↓asb_0, ↓asc_0, ↓alb_0, ↓alc_0, ↓asb_1, ↓asc_1, ↓alb_1, ↓alc_1, ↓asb_2, ↓asc_2, ↓alb_2, ↓alc_2, ↓asb_3, ↓asc_3, ↓alb_3, ↓alc_3, ↓asb_4, ↓asc_4, ↓alb_4, ↓alc_4]
      · rw [cif_f c2, b01_f c2, cif_f (p := SvQ r Bu Fi x k) (fun z => c1 z.1)]
        simp (maxSteps := 1000000) (disch := (first | omega | (simp (disch := omega) only [up_eq, up_ne, List.length_set] <;> omega) | fail)) only [↓bif_d, nI_addS, nI_mulS, nI_subS, nI_lt', nI_le', nI_eq', up_eq, up_ne, up_up, up_sw, List.set_set, g_seq, g_sne, Nat.reduceEqDiff, ↓reduceIte, List.length_set, Nat.add_sub_cancel_left, Nat.add_sub_cancel, Nat.reduceLT, Nat.reduceLeDiff, ite_true, ite_false, if_true, if_false, not_true_eq_false, not_false_eq_true, Bool.and_true, Bool.true_and, true_or, or_true, false_or, or_false, and_true, true_and, and_false, false_and, Nat.not_lt_zero, hle, c1, ↓b158, s0, q1, q2, q3, ↓asb_0, ↓asc_0, ↓alb_0, ↓alc_0, ↓asb_1, ↓asc_1, ↓alb_1, ↓alc_1, ↓asb_2, ↓asc_2, ↓alb_2, ↓alc_2, ↓asb_3, ↓asc_3, ↓alb_3, ↓alc_3, ↓asb_4, ↓asc_4, ↓alb_4, ↓alc_4]
end A
