/-! THE LAW'S EVENTS -/

def Rk (r : List Int32) (nB nl : Nat) : Prop := (∀ l, l < nl → ∃ i, i < 5 ∧ g r (18 + l) = nI i) ∧ ∀ m, m < nB → ∃ i, i < 3 ∧ g r (1 + m) = nI (50 * i)
def LawI (xl : List Int32) (D : Nat → List Int32) (h : am_H) : Prop := ∃ r tx u nB nl nb nx, Rs xl D r tx u nB nl nb nx h ∧ (2 ≤ nl ∧ nl ≤ 6 ∧ 2 ≤ nb ∧ nb ≤ 5 ∧ nx ≤ 20) ∧ Rk r nB nl
theorem Rk_c {r r' : List Int32} {nB nl : Nat} (hB : nB ≤ 8) (hl : nl ≤ 20) (h : ∀ j, (1 ≤ j ∧ j < 9) ∨ (18 ≤ j ∧ j < 38) → g r' j = g r j) (hk : Rk r nB nl) : Rk r' nB nl := by
  refine ⟨fun l hl' => ?_, fun m hm => ?_⟩
  · rw [h _ (by omega)]; exact hk.1 l hl'
  · rw [h _ (by omega)]; exact hk.2 m hm
theorem rgN {k lo hi : Nat} (h1 : lo ≤ k) (h2 : k ≤ hi) (hh : hi < 2 ^ 31) : ¬ (nI k < nI lo ∨ nI hi < nI k) := by
  rw [nI_lt' (by omega) (by omega), nI_lt' (by omega) (by omega)]
  omega
theorem sF_a {f : Nat → Int32} : ∀ n k (a c : Int32), sF f n k (a + c) = sF f n k a + c := by
  intro n
  induction n with
  | zero => intro k a c; rfl
  | succ n ih =>
    intro k a c
    show sF f n (k + 1) (a + c + f k) = sF f n (k + 1) (a + f k) + c
    rw [← ih, show a + c + f k = a + f k + c by grind]
theorem sF_1 {f f' : Nat → Int32} {l : Nat} {c : Int32} (hl : f' l = f l + c) (hne : ∀ j, ¬ j = l → f' j = f j) : ∀ n k a, k ≤ l → l < k + n → sF f' n k a = sF f n k a + c := by
  intro n
  induction n with
  | zero => intro k a h1 h2; omega
  | succ n ih =>
    intro k a h1 h2
    show sF f' n (k + 1) (a + f' k) = sF f n (k + 1) (a + f k) + c
    by_cases e : k = l
    · subst e
      rw [hl, sF_c n (k + 1) (a + (f k + c)) (fun j z1 z2 => hne j (by omega)), ← sF_a, show a + (f k + c) = a + f k + c by grind]
    · rw [hne k e]
      exact ih (k + 1) _ (by omega) (by omega)
section V
variable {xl : List Int32} {D : Nat → List Int32} {r tx : List Int32} {u : Option (List Int32)} {nB nl nb nx : Nat} {h : am_H} {x7 x8 x9 : Int32} {u14 u15 u16 : Value} {l b s : Nat}
/-- no more than three bands -/
theorem bands3 (hR : Rs xl D r tx u nB nl nb nx h) (hk : Rk r nB nl) : 1 ≤ nB ∧ nB ≤ 3 := by
  obtain ⟨A, F, hC⟩ := Rs_cx hR
  obtain ⟨-, hB, -⟩ := hC
  obtain ⟨-, -, -, -, h4, h5, h6, h7⟩ := hB
  refine ⟨h6, Nat.le_of_not_lt fun z => ?_⟩
  have hv : ∀ m, m < nB → ∃ i, i < 3 ∧ bN r m = 50 * i := fun m hm => by
    obtain ⟨i, i1, i2⟩ := hk.2 m hm
    have := (h4 m hm).2.2.2.1
    rw [i2, nI_eq' (by omega) (by have := (h4 m hm).1; omega)] at this
    exact ⟨i, i1, this.symm⟩
  obtain ⟨i0, a0, b0⟩ := hv 0 (by omega)
  obtain ⟨i1, a1, b1⟩ := hv 1 (by omega)
  obtain ⟨i2, a2, b2⟩ := hv 2 (by omega)
  obtain ⟨i3, a3, b3⟩ := hv 3 (by omega)
  have c0 := h5 0 1 (by omega) (by omega)
  have c1 := h5 1 2 (by omega) (by omega)
  have c2 := h5 2 3 (by omega) (by omega)
  omega
theorem R_01 (hR : Rs xl D r tx u nB nl nb nx h) : (∀ l, l < nl → g r (78 + l) = nI 0 ∨ g r (78 + l) = nI 1) ∧ (∀ x, x < nx → (g r (408 + x) = nI 0 ∨ g r (408 + x) = nI 1)) ∧ ∀ x, x < nx → lotN r x < nl ∧ g r (108 + x) = nI (lotN r x) := by
  obtain ⟨A, F, hC⟩ := Rs_cx hR
  obtain ⟨hM, -, -, -, hL, -, hX, -⟩ := hC
  refine ⟨fun l hl => ?_, fun x hx => ?_, fun x hx => (hM.2.2 x hx).1⟩
  · obtain ⟨n, n1, n2, n3⟩ := (hL l hl).2.2.2.2.2.2
    have : n = 0 ∨ n = 1 := by omega
    rcases this with w | w <;> subst w
    · exact Or.inl n3
    · exact Or.inr n3
  · obtain ⟨n, n1, n2, n3⟩ := (hX x hx).2.2.2.2.2.2.2.2.2
    have : n = 0 ∨ n = 1 := by omega
    rcases this with w | w <;> subst w
    · exact Or.inl n3
    · exact Or.inr n3
theorem R_len (hR : Rs xl D r tx u nB nl nb nx h) : r.length = 472 := (R_ok hR).1

theorem ev_1 (hR : Rs xl D r tx u nB nl nb nx h) (hn : 2 ≤ nl ∧ nl ≤ 6 ∧ 2 ≤ nb ∧ nb ≤ 5 ∧ nx ≤ 20) (hk : Rk r nB nl) : ∃ v14 v15 v16 h', am_ev m_law (238, [.ref 0, .ref 1, .ref 192, .ref 193, .ref 194, .ref 195, .ref 196, .int x7, .int x8, .int x9, .int (nI 1), .int (nI l), .int (nI b), .int (nI nx), u14, u15, u16], [], h) = am_ev m_law (804, [.ref 0, .ref 1, .ref 192, .ref 193, .ref 194, .ref 195, .ref 196, .int x7, .int x8, .int x9, .int (nI 1), .int (nI l), .int (nI b), .int (nI nx), v14, v15, v16], [], h') ∧ LawI xl D h' := by
  have hB := bands3 hR hk
  have hlen := R_len hR
  have c1 := R_cx hR (m := m_Pa_count) (xs := [.int (nI 1)]) (fun A F P hC => k_count1 hC)
  by_cases c : 5 ≤ nb
  · refine ⟨.int (nI nb), u15, u16, h, ?_, r, tx, u, nB, nl, nb, nx, hR, hn, hk⟩
    rw [b_law_238]
    simp (maxSteps := 1000000) (disch := (first | omega | (simp (disch := omega) only [up_eq, up_ne, List.length_set] <;> omega) | fail)) only [↓bif_d, nI_addS, nI_mulS, nI_subS, nI_lt', nI_le', nI_eq', up_eq, up_ne, up_up, up_sw, List.set_set, g_seq, g_sne, Nat.reduceEqDiff, ↓reduceIte, List.length_set, Nat.add_sub_cancel_left, Nat.add_sub_cancel, Nat.reduceLT, Nat.reduceLeDiff, ite_true, ite_false, if_true, if_false, not_true_eq_false, not_false_eq_true, Bool.and_true, Bool.true_and, true_or, or_true, false_or, or_false, and_true, true_and, and_false, false_and, Nat.not_lt_zero, ↓(am_bi_of c1), c, ↓b_law_276]
  · obtain ⟨k, k1, k2⟩ := s_low x9 (n := 400) (by omega) (by omega)
    obtain ⟨h', e, R'⟩ := R_act hR (m := m_Pa_addBidder) (xs := [.int (nI k)]) (fun A F P q t hI hr => by
      have := k_addBidder hI (nI k) (rgN (by omega) (by omega) (by omega)) (by omega)
      rw [hr] at this
      exact this)
    refine ⟨.int (nI nb), u15, u16, h', ?_, _, tx, _, nB, nl, nb + 1, nx, R', by omega, Rk_c (by omega) (by omega) (fun j hj => ?_) hk⟩
    · rw [b_law_238]
      simp (maxSteps := 1000000) (disch := (first | omega | (simp (disch := omega) only [up_eq, up_ne, List.length_set] <;> omega) | fail)) only [↓bif_d, nI_addS, nI_mulS, nI_subS, nI_lt', nI_le', nI_eq', up_eq, up_ne, up_up, up_sw, List.set_set, g_seq, g_sne, Nat.reduceEqDiff, ↓reduceIte, List.length_set, Nat.add_sub_cancel_left, Nat.add_sub_cancel, Nat.reduceLT, Nat.reduceLeDiff, ite_true, ite_false, if_true, if_false, not_true_eq_false, not_false_eq_true, Bool.and_true, Bool.true_and, true_or, or_true, false_or, or_false, and_true, true_and, and_false, false_and, Nat.not_lt_zero, ↓(am_bi_of c1), ↓(fun z0 => am_bi_of (k2 z0)), ↓(am_bi_of e), c, ↓b_law_276]
    · rw [g_sn (by omega), g_sn (by omega)]
theorem ev_2 (hR : Rs xl D r tx u nB nl nb nx h) (hn : 2 ≤ nl ∧ nl ≤ 6 ∧ 2 ≤ nb ∧ nb ≤ 5 ∧ nx ≤ 20) (hk : Rk r nB nl) (hl : l < nl) (hb : b < nb) : ∃ v14 v15 v16 h', am_ev m_law (238, [.ref 0, .ref 1, .ref 192, .ref 193, .ref 194, .ref 195, .ref 196, .int x7, .int x8, .int x9, .int (nI 2), .int (nI l), .int (nI b), .int (nI nx), u14, u15, u16], [], h) = am_ev m_law (804, [.ref 0, .ref 1, .ref 192, .ref 193, .ref 194, .ref 195, .ref 196, .int x7, .int x8, .int x9, .int (nI 2), .int (nI l), .int (nI b), .int (nI nx), v14, v15, v16], [], h') ∧ LawI xl D h' := by
  have hB := bands3 hR hk
  obtain ⟨L, Bs, Fi, Se, Mn, Bu, Pr, hS⟩ := Rs_sv hR
  obtain ⟨h1, e1, R1⟩ := R_qr hR hS (m := m_Pa_bidder) (xs := [.int (nI b), .int (nI 0)]) (fun A F P A' F' hq => k_bidder0 hq hb)
  obtain ⟨k, k1, k2⟩ := s_low x9 (n := 300) (by omega) (by omega)
  obtain ⟨h2, e2, R2⟩ := R_act R1 (m := m_Pa_setLimit) (xs := [.int (nI b), .int (nI k)]) (fun A F P q t hI hr => by
    have := k_setLimit hI hb (nI k) (rgN (by omega) (by omega) (by omega))
    rw [hr] at this
    exact this)
  have e3 := R_cx R2 (m := m_Pa_lot) (xs := [.int (nI l), .int (nI 2)]) (fun A F P hC => k_lot2 hC hl)
  obtain ⟨j, j1, j2⟩ := s_low (x9 >>> ((nI 9) &&& 31)) (n := 100) (by omega) (by omega)
  obtain ⟨h4, e4, R4⟩ := R_act R2 (m := m_Pa_setReserve) (xs := [.int (nI l), .int (nI j)]) (fun A F P q t hI hr => by
    have := k_setReserve hI hl (nI j) (rgN (by omega) (by omega) (by omega))
    rw [hr] at this
    exact this)
  refine ⟨.int (g r (99 + b)), u15, u16, h4, ?_, _, tx, _, nB, nl, nb, nx, R4, hn, Rk_c (by omega) (by omega) (fun j hj => ?_) hk⟩
  · have n21 : ¬ (2 : Nat) = 1 := by omega
    rw [b_law_238]
    simp (maxSteps := 1000000) (disch := (first | omega | (simp (disch := omega) only [up_eq, up_ne, List.length_set] <;> omega) | fail)) only [↓bif_d, nI_addS, nI_mulS, nI_subS, nI_lt', nI_le', nI_eq', up_eq, up_ne, up_up, up_sw, List.set_set, g_seq, g_sne, Nat.reduceEqDiff, ↓reduceIte, List.length_set, Nat.add_sub_cancel_left, Nat.add_sub_cancel, Nat.reduceLT, Nat.reduceLeDiff, ite_true, ite_false, if_true, if_false, not_true_eq_false, not_false_eq_true, Bool.and_true, Bool.true_and, true_or, or_true, false_or, or_false, and_true, true_and, and_false, false_and, Nat.not_lt_zero, ↓(am_bi_of e1), ↓(fun z0 => am_bi_of (k2 z0)), ↓(am_bi_of e2), ↓(am_bi_of e3), ↓(fun z0 => am_bi_of (j2 z0)), ↓(am_bi_of e4), n21]
  · rw [g_sn (by omega), g_sn (by omega)]

theorem ev_383 {a i : Nat} (hR : Rs xl D r tx u nB nl nb nx h) (hn : 2 ≤ nl ∧ nl ≤ 6 ∧ 2 ≤ nb ∧ nb ≤ 5 ∧ nx ≤ 20) (hk : Rk r nB nl) (hl : l < nl) (ha : a = 0 ∨ a = 1) (hi : i = 0 ∨ i = 1) (hv : g r (78 + l) = nI i) : ∃ v14 v15 v16 h', am_ev m_law (383, [.ref 0, .ref 1, .ref 192, .ref 193, .ref 194, .ref 195, .ref 196, .int x7, .int x8, .int x9, .int (nI s), .int (nI l), .int (nI b), .int (nI nx), .int (nI a), .int (nI i), u16], [], h) = am_ev m_law (804, [.ref 0, .ref 1, .ref 192, .ref 193, .ref 194, .ref 195, .ref 196, .int x7, .int x8, .int x9, .int (nI s), .int (nI l), .int (nI b), .int (nI nx), v14, v15, v16], [], h') ∧ LawI xl D h' := by
  have hB := bands3 hR hk
  have hlen := R_len hR
  have c4 := R_cx hR (m := m_Pa_count) (xs := [.int (nI 4)]) (fun A F P hC => k_count4 hC)
  rcases ha with rfl | rfl
  · rcases hi with rfl | rfl
    · have e := R_same hR (m := m_Pa_withdrawLot) (xs := [.int (nI l), .int (nI 0)]) (fun A F P q t hI hr => k_withdrawLot0_e1 hI hl (by rw [hr]; exact hv))
      refine ⟨.int (nI 0), .int (nI 0), .int (-nI 4), h, ?_, r, tx, u, nB, nl, nb, nx, hR, hn, hk⟩
      rw [b_law_383]
      simp (maxSteps := 1000000) (disch := (first | omega | (simp (disch := omega) only [up_eq, up_ne, List.length_set] <;> omega) | fail)) only [↓bif_d, nI_addS, nI_mulS, nI_subS, nI_lt', nI_le', nI_eq', up_eq, up_ne, up_up, up_sw, List.set_set, g_seq, g_sne, Nat.reduceEqDiff, ↓reduceIte, List.length_set, Nat.add_sub_cancel_left, Nat.add_sub_cancel, Nat.reduceLT, Nat.reduceLeDiff, ite_true, ite_false, if_true, if_false, not_true_eq_false, not_false_eq_true, Bool.and_true, Bool.true_and, true_or, or_true, false_or, or_false, and_true, true_and, and_false, false_and, Nat.not_lt_zero, ↓(am_bi_of e)]
    · obtain ⟨h', e, R'⟩ := R_act hR (m := m_Pa_withdrawLot) (xs := [.int (nI l), .int (nI 0)]) (fun A F P q t hI hr => by
        have := k_withdrawLot0 hI hl (by rw [hr, hv]; decide)
        rw [hr] at this
        exact this)
      rw [sF_1 (f := fun j => g r (78 + j)) (l := l) (c := -nI 1) (by rw [g_seq (by omega), hv]; decide) (fun j hj => g_sn (by omega)) nl 0 (nI 0) (Nat.zero_le _) (by omega)] at e
      refine ⟨.int (nI 0), .int (nI 1), .int (sF (fun j => g r (78 + j)) nl 0 (nI 0) + (-nI 1)), h', ?_, _, tx, _, nB, nl, nb, nx, R', hn, Rk_c (by omega) (by omega) (fun j hj => g_sn (by omega)) hk⟩
      have n10 : ¬ (1 : Nat) = 0 := by omega
      rw [b_law_383]
      simp (maxSteps := 1000000) (disch := (first | omega | (simp (disch := omega) only [up_eq, up_ne, List.length_set] <;> omega) | fail)) only [↓bif_d, nI_addS, nI_mulS, nI_subS, nI_lt', nI_le', nI_eq', up_eq, up_ne, up_up, up_sw, List.set_set, g_seq, g_sne, Nat.reduceEqDiff, ↓reduceIte, List.length_set, Nat.add_sub_cancel_left, Nat.add_sub_cancel, Nat.reduceLT, Nat.reduceLeDiff, ite_true, ite_false, if_true, if_false, not_true_eq_false, not_false_eq_true, Bool.and_true, Bool.true_and, true_or, or_true, false_or, or_false, and_true, true_and, and_false, false_and, Nat.not_lt_zero, ↓(am_bi_of c4), ↓(am_bi_of e), n10]
  · rcases hi with rfl | rfl
    · obtain ⟨h', e, R'⟩ := R_act hR (m := m_Pa_withdrawLot) (xs := [.int (nI l), .int (nI 1)]) (fun A F P q t hI hr => by
        have := k_withdrawLot1 hI hl (by rw [hr, hv]; decide)
        rw [hr] at this
        exact this)
      rw [sF_1 (f := fun j => g r (78 + j)) (l := l) (c := nI 1) (by rw [g_seq (by omega), hv]; decide) (fun j hj => g_sn (by omega)) nl 0 (nI 0) (Nat.zero_le _) (by omega)] at e
      refine ⟨.int (nI 1), .int (nI 0), .int (sF (fun j => g r (78 + j)) nl 0 (nI 0) + nI 1), h', ?_, _, tx, _, nB, nl, nb, nx, R', hn, Rk_c (by omega) (by omega) (fun j hj => g_sn (by omega)) hk⟩
      have n01 : ¬ (0 : Nat) = 1 := by omega
      have n10 : ¬ (1 : Nat) = 0 := by omega
      rw [b_law_383]
      simp (maxSteps := 1000000) (disch := (first | omega | (simp (disch := omega) only [up_eq, up_ne, List.length_set] <;> omega) | fail)) only [↓bif_d, nI_addS, nI_mulS, nI_subS, nI_lt', nI_le', nI_eq', up_eq, up_ne, up_up, up_sw, List.set_set, g_seq, g_sne, Nat.reduceEqDiff, ↓reduceIte, List.length_set, Nat.add_sub_cancel_left, Nat.add_sub_cancel, Nat.reduceLT, Nat.reduceLeDiff, ite_true, ite_false, if_true, if_false, not_true_eq_false, not_false_eq_true, Bool.and_true, Bool.true_and, true_or, or_true, false_or, or_false, and_true, true_and, and_false, false_and, Nat.not_lt_zero, ↓(am_bi_of c4), ↓(am_bi_of e), n01, n10]
    · have e := R_same hR (m := m_Pa_withdrawLot) (xs := [.int (nI l), .int (nI 1)]) (fun A F P q t hI hr => k_withdrawLot1_e1 hI hl (by rw [hr]; exact hv))
      refine ⟨.int (nI 1), .int (nI 1), .int (-nI 4), h, ?_, r, tx, u, nB, nl, nb, nx, hR, hn, hk⟩
      rw [b_law_383]
      simp (maxSteps := 1000000) (disch := (first | omega | (simp (disch := omega) only [up_eq, up_ne, List.length_set] <;> omega) | fail)) only [↓bif_d, nI_addS, nI_mulS, nI_subS, nI_lt', nI_le', nI_eq', up_eq, up_ne, up_up, up_sw, List.set_set, g_seq, g_sne, Nat.reduceEqDiff, ↓reduceIte, List.length_set, Nat.add_sub_cancel_left, Nat.add_sub_cancel, Nat.reduceLT, Nat.reduceLeDiff, ite_true, ite_false, if_true, if_false, not_true_eq_false, not_false_eq_true, Bool.and_true, Bool.true_and, true_or, or_true, false_or, or_false, and_true, true_and, and_false, false_and, Nat.not_lt_zero, ↓(am_bi_of e)]
theorem ev_3 (hR : Rs xl D r tx u nB nl nb nx h) (hn : 2 ≤ nl ∧ nl ≤ 6 ∧ 2 ≤ nb ∧ nb ≤ 5 ∧ nx ≤ 20) (hk : Rk r nB nl) (hl : l < nl) : ∃ v14 v15 v16 h', am_ev m_law (344, [.ref 0, .ref 1, .ref 192, .ref 193, .ref 194, .ref 195, .ref 196, .int x7, .int x8, .int x9, .int (nI 3), .int (nI l), .int (nI b), .int (nI nx), u14, u15, u16], [], h) = am_ev m_law (804, [.ref 0, .ref 1, .ref 192, .ref 193, .ref 194, .ref 195, .ref 196, .int x7, .int x8, .int x9, .int (nI 3), .int (nI l), .int (nI b), .int (nI nx), v14, v15, v16], [], h') ∧ LawI xl D h' := by
  have e := R_cx hR (m := m_Pa_lot) (xs := [.int (nI l), .int (nI 3)]) (fun A F P hC => k_lot3 hC hl)
  have n01 : ¬ (0 : Nat) = 1 := by omega
  by_cases c : (x9 &&& (nI 1)) = nI 1
  · rcases (R_01 hR).1 l hl with z | z
    · obtain ⟨v14, v15, v16, h', q1, q2⟩ := ev_383 (x7 := x7) (x8 := x8) (x9 := x9) (u16 := u16) (b := b) (s := 3) hR hn hk hl (Or.inr rfl) (Or.inl rfl) z
      refine ⟨v14, v15, v16, h', ?_, q2⟩
      rw [z] at e
      rw [b_law_344, ← q1]
      simp (maxSteps := 1000000) (disch := (first | omega | (simp (disch := omega) only [up_eq, up_ne, List.length_set] <;> omega) | fail)) only [↓bif_d, nI_addS, nI_mulS, nI_subS, nI_lt', nI_le', nI_eq', up_eq, up_ne, up_up, up_sw, List.set_set, g_seq, g_sne, Nat.reduceEqDiff, ↓reduceIte, List.length_set, Nat.add_sub_cancel_left, Nat.add_sub_cancel, Nat.reduceLT, Nat.reduceLeDiff, ite_true, ite_false, if_true, if_false, not_true_eq_false, not_false_eq_true, Bool.and_true, Bool.true_and, true_or, or_true, false_or, or_false, and_true, true_and, and_false, false_and, Nat.not_lt_zero, ↓(am_bi_of e), c, n01]
    · obtain ⟨v14, v15, v16, h', q1, q2⟩ := ev_383 (x7 := x7) (x8 := x8) (x9 := x9) (u16 := u16) (b := b) (s := 3) hR hn hk hl (Or.inr rfl) (Or.inr rfl) z
      refine ⟨v14, v15, v16, h', ?_, q2⟩
      rw [z] at e
      rw [b_law_344, ← q1]
      simp (maxSteps := 1000000) (disch := (first | omega | (simp (disch := omega) only [up_eq, up_ne, List.length_set] <;> omega) | fail)) only [↓bif_d, nI_addS, nI_mulS, nI_subS, nI_lt', nI_le', nI_eq', up_eq, up_ne, up_up, up_sw, List.set_set, g_seq, g_sne, Nat.reduceEqDiff, ↓reduceIte, List.length_set, Nat.add_sub_cancel_left, Nat.add_sub_cancel, Nat.reduceLT, Nat.reduceLeDiff, ite_true, ite_false, if_true, if_false, not_true_eq_false, not_false_eq_true, Bool.and_true, Bool.true_and, true_or, or_true, false_or, or_false, and_true, true_and, and_false, false_and, Nat.not_lt_zero, ↓(am_bi_of e), c]
  · rcases (R_01 hR).1 l hl with z | z
    · obtain ⟨v14, v15, v16, h', q1, q2⟩ := ev_383 (x7 := x7) (x8 := x8) (x9 := x9) (u16 := u16) (b := b) (s := 3) hR hn hk hl (Or.inl rfl) (Or.inl rfl) z
      refine ⟨v14, v15, v16, h', ?_, q2⟩
      rw [z] at e
      rw [b_law_344, ← q1]
      simp (maxSteps := 1000000) (disch := (first | omega | (simp (disch := omega) only [up_eq, up_ne, List.length_set] <;> omega) | fail)) only [↓bif_d, nI_addS, nI_mulS, nI_subS, nI_lt', nI_le', nI_eq', up_eq, up_ne, up_up, up_sw, List.set_set, g_seq, g_sne, Nat.reduceEqDiff, ↓reduceIte, List.length_set, Nat.add_sub_cancel_left, Nat.add_sub_cancel, Nat.reduceLT, Nat.reduceLeDiff, ite_true, ite_false, if_true, if_false, not_true_eq_false, not_false_eq_true, Bool.and_true, Bool.true_and, true_or, or_true, false_or, or_false, and_true, true_and, and_false, false_and, Nat.not_lt_zero, ↓(am_bi_of e), c, n01]
    · obtain ⟨v14, v15, v16, h', q1, q2⟩ := ev_383 (x7 := x7) (x8 := x8) (x9 := x9) (u16 := u16) (b := b) (s := 3) hR hn hk hl (Or.inl rfl) (Or.inr rfl) z
      refine ⟨v14, v15, v16, h', ?_, q2⟩
      rw [z] at e
      rw [b_law_344, ← q1]
      simp (maxSteps := 1000000) (disch := (first | omega | (simp (disch := omega) only [up_eq, up_ne, List.length_set] <;> omega) | fail)) only [↓bif_d, nI_addS, nI_mulS, nI_subS, nI_lt', nI_le', nI_eq', up_eq, up_ne, up_up, up_sw, List.set_set, g_seq, g_sne, Nat.reduceEqDiff, ↓reduceIte, List.length_set, Nat.add_sub_cancel_left, Nat.add_sub_cancel, Nat.reduceLT, Nat.reduceLeDiff, ite_true, ite_false, if_true, if_false, not_true_eq_false, not_false_eq_true, Bool.and_true, Bool.true_and, true_or, or_true, false_or, or_false, and_true, true_and, and_false, false_and, Nat.not_lt_zero, ↓(am_bi_of e), c]

theorem ev_438 (hR : Rs xl D r tx u nB nl nb nx h) (hn : 2 ≤ nl ∧ nl ≤ 6 ∧ 2 ≤ nb ∧ nb ≤ 5 ∧ nx ≤ 20) (hk : Rk r nB nl) (hl : l < nl) (hb : b < nb) : ∃ v14 v15 v16 h', am_ev m_law (438, [.ref 0, .ref 1, .ref 192, .ref 193, .ref 194, .ref 195, .ref 196, .int x7, .int x8, .int x9, .int (nI s), .int (nI l), .int (nI b), .int (nI nx), u14, u15, u16], [], h) = am_ev m_law (804, [.ref 0, .ref 1, .ref 192, .ref 193, .ref 194, .ref 195, .ref 196, .int x7, .int x8, .int x9, .int (nI s), .int (nI l), .int (nI b), .int (nI nx), v14, v15, v16], [], h') ∧ LawI xl D h' := by
  have hB := bands3 hR hk
  have hlen := R_len hR
  by_cases c : 20 ≤ nx
  · refine ⟨u14, u15, u16, h, ?_, r, tx, u, nB, nl, nb, nx, hR, hn, hk⟩
    rw [b_law_438]
    simp (maxSteps := 1000000) (disch := (first | omega | (simp (disch := omega) only [up_eq, up_ne, List.length_set] <;> omega) | fail)) only [↓bif_d, nI_addS, nI_mulS, nI_subS, nI_lt', nI_le', nI_eq', up_eq, up_ne, up_up, up_sw, List.set_set, g_seq, g_sne, Nat.reduceEqDiff, ↓reduceIte, List.length_set, Nat.add_sub_cancel_left, Nat.add_sub_cancel, Nat.reduceLT, Nat.reduceLeDiff, ite_true, ite_false, if_true, if_false, not_true_eq_false, not_false_eq_true, Bool.and_true, Bool.true_and, true_or, or_true, false_or, or_false, and_true, true_and, and_false, false_and, Nat.not_lt_zero, c]
  obtain ⟨k, k1, k2⟩ := s_low x9 (n := 150) (by omega) (by omega)
  obtain ⟨j, j1, j2⟩ := s_low (x9 >>> ((nI 9) &&& 31)) (n := 5) (by omega) (by omega)
  obtain ⟨m, m1, m2⟩ := s_low (x9 >>> ((nI 9) &&& 31)) (n := 6) (by omega) (by omega)
  obtain ⟨v, v1, v2⟩ := s_low (x8 >>> ((nI 9) &&& 31)) (n := 4) (by omega) (by omega)
  have hk1 : ¬ (nI 1 + nI k < nI 1 ∨ nI 1000000 < nI 1 + nI k) := by rw [nI_addS]; exact rgN (by omega) (by omega) (by omega)
  have fin : ∀ y : Nat, y ≤ 100000 → ∃ h', am_cl m_Pa_bid [.ref 1, .int (nI b), .int (nI l), .int (nI 1 + nI k), .int (nI y), .int (nI v)] h = some (some (.int (nI nx)), h') ∧ ∃ h'', am_cl m_Pa_bidOf [.ref 1, .int (nI nx), .int (nI 0)] h' = some (some (.int (nI l)), h'') ∧ LawI xl D h'' := by
    intro y hy
    obtain ⟨h', e, R'⟩ := R_bid hR hb hl (nI 1 + nI k) (nI y) (nI v) hk1 (rgN (by omega) (by omega) (by omega)) (rgN (by omega) (by omega) (by omega)) (by omega)
    obtain ⟨L, Bs, Fi, Se, Mn, Bu, Pr, hS⟩ := Rs_sv R'
    obtain ⟨h'', e2, R2⟩ := R_qr R' hS (m := m_Pa_bidOf) (xs := [.int (nI nx), .int (nI 0)]) (fun A F P A' F' hq => k_bidOf0 hq (Nat.lt_succ_self _))
    have hlo : lotN (bRow r nx l b (nI 1 + nI k) (nI y) (nI v)) nx = l := by
      unfold lotN
      rw [(bRow_at hlen (by omega)).1, nI_clamp (by omega)]
    rw [hlo] at e2
    exact ⟨h', e, h'', e2, _, tx, _, nB, nl, nb, nx + 1, R2, by omega, Rk_c (by omega) (by omega) (fun j hj => bRow_ne (by omega) (by omega) (by omega) (by omega) (by omega) (by omega) (by omega)) hk⟩
  by_cases d : j = 0
  · obtain ⟨h', e, h'', e2, q⟩ := fin 50001 (by omega)
    subst d
    refine ⟨u14, u15, u16, h'', ?_, q⟩
    rw [b_law_438]
    simp (maxSteps := 1000000) (disch := (first | omega | (simp (disch := omega) only [up_eq, up_ne, List.length_set] <;> omega) | fail)) only [↓bif_d, nI_addS, nI_mulS, nI_subS, nI_lt', nI_le', nI_eq', up_eq, up_ne, up_up, up_sw, List.set_set, g_seq, g_sne, Nat.reduceEqDiff, ↓reduceIte, List.length_set, Nat.add_sub_cancel_left, Nat.add_sub_cancel, Nat.reduceLT, Nat.reduceLeDiff, ite_true, ite_false, if_true, if_false, not_true_eq_false, not_false_eq_true, Bool.and_true, Bool.true_and, true_or, or_true, false_or, or_false, and_true, true_and, and_false, false_and, Nat.not_lt_zero, ↓(fun z0 => am_bi_of (k2 z0)), ↓(fun z0 => am_bi_of (j2 z0)), ↓(fun z0 => am_bi_of (v2 z0)), ↓(am_bi_of e), ↓(am_bi_of e2), c]
  · obtain ⟨h', e, h'', e2, q⟩ := fin m (by omega)
    refine ⟨u14, u15, u16, h'', ?_, q⟩
    rw [b_law_438]
    simp (maxSteps := 1000000) (disch := (first | omega | (simp (disch := omega) only [up_eq, up_ne, List.length_set] <;> omega) | fail)) only [↓bif_d, nI_addS, nI_mulS, nI_subS, nI_lt', nI_le', nI_eq', up_eq, up_ne, up_up, up_sw, List.set_set, g_seq, g_sne, Nat.reduceEqDiff, ↓reduceIte, List.length_set, Nat.add_sub_cancel_left, Nat.add_sub_cancel, Nat.reduceLT, Nat.reduceLeDiff, ite_true, ite_false, if_true, if_false, not_true_eq_false, not_false_eq_true, Bool.and_true, Bool.true_and, true_or, or_true, false_or, or_false, and_true, true_and, and_false, false_and, Nat.not_lt_zero, ↓(fun z0 => am_bi_of (k2 z0)), ↓(fun z0 => am_bi_of (j2 z0)), ↓(fun z0 => am_bi_of (m2 z0)), ↓(fun z0 => am_bi_of (v2 z0)), ↓(am_bi_of e), ↓(am_bi_of e2), c, d]

theorem ev_557 {k i : Nat} (hR : Rs xl D r tx u nB nl nb nx h) (hn : 2 ≤ nl ∧ nl ≤ 6 ∧ 2 ≤ nb ∧ nb ≤ 5 ∧ nx ≤ 20) (hk : Rk r nB nl) (hx : k < nx) (hi : i = 0 ∨ i = 1) (hv : g r (408 + k) = nI i) : ∃ v14 v15 v16 h', am_ev m_law (557, [.ref 0, .ref 1, .ref 192, .ref 193, .ref 194, .ref 195, .ref 196, .int x7, .int x8, .int x9, .int (nI s), .int (nI l), .int (nI b), .int (nI nx), .int (nI k), .int (nI i), u16], [], h) = am_ev m_law (804, [.ref 0, .ref 1, .ref 192, .ref 193, .ref 194, .ref 195, .ref 196, .int x7, .int x8, .int x9, .int (nI s), .int (nI l), .int (nI b), .int (nI nx), v14, v15, v16], [], h') ∧ LawI xl D h' := by
  have hB := bands3 hR hk
  have hlen := R_len hR
  rcases hi with rfl | rfl
  · obtain ⟨h1, e1, R1⟩ := R_act hR (m := m_Pa_withdrawBid) (xs := [.int (nI k)]) (fun A F P q t hI hr => by
      have := k_withdrawBid hI hx (by rw [hr, hv]; decide)
      rw [hr] at this
      exact this)
    obtain ⟨z1, z2⟩ := (R_01 hR).2.2 k hx
    obtain ⟨L, Bs, Fi, Se, Mn, Bu, Pr, hS⟩ := Rs_sv R1
    obtain ⟨h2, e2, R2⟩ := R_qr R1 hS (m := m_Pa_bidOf) (xs := [.int (nI k), .int (nI 0)]) (fun A F P A' F' hq => k_bidOf0 hq hx)
    obtain ⟨h3, e3, R3⟩ := R_qr R2 hS (m := m_Pa_bidOf) (xs := [.int (nI k), .int (nI 5)]) (fun A F P A' F' hq => k_bidOf5 hq hx)
    have hlo : lotN (r.set (408 + k) (nI 1)) k = lotN r k := by
      unfold lotN
      rw [g_sn (by omega)]
    rw [hlo] at e2
    rw [z2] at e1
    rw [g_seq (by omega)] at e3
    refine ⟨.int (nI k), .int (nI 0), u16, h3, ?_, _, tx, _, nB, nl, nb, nx, R3, hn, Rk_c (by omega) (by omega) (fun j hj => g_sn (by omega)) hk⟩
    rw [b_law_557]
    simp (maxSteps := 1000000) (disch := (first | omega | (simp (disch := omega) only [up_eq, up_ne, List.length_set] <;> omega) | fail)) only [↓bif_d, nI_addS, nI_mulS, nI_subS, nI_lt', nI_le', nI_eq', up_eq, up_ne, up_up, up_sw, List.set_set, g_seq, g_sne, Nat.reduceEqDiff, ↓reduceIte, List.length_set, Nat.add_sub_cancel_left, Nat.add_sub_cancel, Nat.reduceLT, Nat.reduceLeDiff, ite_true, ite_false, if_true, if_false, not_true_eq_false, not_false_eq_true, Bool.and_true, Bool.true_and, true_or, or_true, false_or, or_false, and_true, true_and, and_false, false_and, Nat.not_lt_zero, ↓(am_bi_of e1), ↓(am_bi_of e2), ↓(am_bi_of e3)]
  · have e1 := R_same hR (m := m_Pa_withdrawBid) (xs := [.int (nI k)]) (fun A F P q t hI hr => k_withdrawBid_e1 hI hx (by rw [hr]; exact hv))
    obtain ⟨L, Bs, Fi, Se, Mn, Bu, Pr, hS⟩ := Rs_sv hR
    obtain ⟨h3, e3, R3⟩ := R_qr hR hS (m := m_Pa_bidOf) (xs := [.int (nI k), .int (nI 5)]) (fun A F P A' F' hq => k_bidOf5 hq hx)
    rw [hv] at e3
    refine ⟨.int (nI k), .int (nI 1), u16, h3, ?_, _, tx, _, nB, nl, nb, nx, R3, hn, hk⟩
    have n10 : ¬ (1 : Nat) = 0 := by omega
    rw [b_law_557]
    simp (maxSteps := 1000000) (disch := (first | omega | (simp (disch := omega) only [up_eq, up_ne, List.length_set] <;> omega) | fail)) only [↓bif_d, nI_addS, nI_mulS, nI_subS, nI_lt', nI_le', nI_eq', up_eq, up_ne, up_up, up_sw, List.set_set, g_seq, g_sne, Nat.reduceEqDiff, ↓reduceIte, List.length_set, Nat.add_sub_cancel_left, Nat.add_sub_cancel, Nat.reduceLT, Nat.reduceLeDiff, ite_true, ite_false, if_true, if_false, not_true_eq_false, not_false_eq_true, Bool.and_true, Bool.true_and, true_or, or_true, false_or, or_false, and_true, true_and, and_false, false_and, Nat.not_lt_zero, ↓(am_bi_of e1), ↓(am_bi_of e3), n10]
theorem ev_8 (hR : Rs xl D r tx u nB nl nb nx h) (hn : 2 ≤ nl ∧ nl ≤ 6 ∧ 2 ≤ nb ∧ nb ≤ 5 ∧ nx ≤ 20) (hk : Rk r nB nl) (hx : ¬ nx ≤ 0) : ∃ v14 v15 v16 h', am_ev m_law (344, [.ref 0, .ref 1, .ref 192, .ref 193, .ref 194, .ref 195, .ref 196, .int x7, .int x8, .int x9, .int (nI 8), .int (nI l), .int (nI b), .int (nI nx), u14, u15, u16], [], h) = am_ev m_law (804, [.ref 0, .ref 1, .ref 192, .ref 193, .ref 194, .ref 195, .ref 196, .int x7, .int x8, .int x9, .int (nI 8), .int (nI l), .int (nI b), .int (nI nx), v14, v15, v16], [], h') ∧ LawI xl D h' := by
  obtain ⟨k, k1, k2⟩ := s_low x9 (n := nx) (by omega) (by omega)
  obtain ⟨L, Bs, Fi, Se, Mn, Bu, Pr, hS⟩ := Rs_sv hR
  obtain ⟨h1, e1, R1⟩ := R_qr hR hS (m := m_Pa_bidOf) (xs := [.int (nI k), .int (nI 5)]) (fun A F P A' F' hq => k_bidOf5 hq k1)
  have n83 : ¬ (8 : Nat) = 3 := by omega
  have n01 : ¬ (0 : Nat) = 1 := by omega
  rcases (R_01 hR).2.1 k k1 with z | z
  · obtain ⟨v14, v15, v16, h', q1, q2⟩ := ev_557 (x7 := x7) (x8 := x8) (x9 := x9) (u16 := u16) (l := l) (b := b) (s := 8) R1 hn hk k1 (Or.inl rfl) z
    refine ⟨v14, v15, v16, h', ?_, q2⟩
    rw [z] at e1
    rw [b_law_344, ← q1]
    simp (maxSteps := 1000000) (disch := (first | omega | (simp (disch := omega) only [up_eq, up_ne, List.length_set] <;> omega) | fail)) only [↓bif_d, nI_addS, nI_mulS, nI_subS, nI_lt', nI_le', nI_eq', up_eq, up_ne, up_up, up_sw, List.set_set, g_seq, g_sne, Nat.reduceEqDiff, ↓reduceIte, List.length_set, Nat.add_sub_cancel_left, Nat.add_sub_cancel, Nat.reduceLT, Nat.reduceLeDiff, ite_true, ite_false, if_true, if_false, not_true_eq_false, not_false_eq_true, Bool.and_true, Bool.true_and, true_or, or_true, false_or, or_false, and_true, true_and, and_false, false_and, Nat.not_lt_zero, ↓(fun z0 => am_bi_of (k2 z0)), ↓(am_bi_of e1), hx, n83, n01]
  · obtain ⟨v14, v15, v16, h', q1, q2⟩ := ev_557 (x7 := x7) (x8 := x8) (x9 := x9) (u16 := u16) (l := l) (b := b) (s := 8) R1 hn hk k1 (Or.inr rfl) z
    refine ⟨v14, v15, v16, h', ?_, q2⟩
    rw [z] at e1
    rw [b_law_344, ← q1]
    simp (maxSteps := 1000000) (disch := (first | omega | (simp (disch := omega) only [up_eq, up_ne, List.length_set] <;> omega) | fail)) only [↓bif_d, nI_addS, nI_mulS, nI_subS, nI_lt', nI_le', nI_eq', up_eq, up_ne, up_up, up_sw, List.set_set, g_seq, g_sne, Nat.reduceEqDiff, ↓reduceIte, List.length_set, Nat.add_sub_cancel_left, Nat.add_sub_cancel, Nat.reduceLT, Nat.reduceLeDiff, ite_true, ite_false, if_true, if_false, not_true_eq_false, not_false_eq_true, Bool.and_true, Bool.true_and, true_or, or_true, false_or, or_false, and_true, true_and, and_false, false_and, Nat.not_lt_zero, ↓(fun z0 => am_bi_of (k2 z0)), ↓(am_bi_of e1), hx, n83]

end V
