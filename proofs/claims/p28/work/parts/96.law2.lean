/-! THE LAW'S EVENTS: bands, settings, needs, letters -/
section V
variable {xl : List Int32} {D : Nat → List Int32} {r tx : List Int32} {u : Option (List Int32)} {nB nl nb nx : Nat} {h : am_H} {x7 x8 x9 : Int32} {u14 u15 u16 : Value} {l b s : Nat}
theorem Rk_ins {R' : List Int32} {x v : Int32} {p i : Nat} (hB : nB < 8) (hi : InsR r R' nB x v p) (hx : x = nI (50 * i)) (hi3 : i < 3) (hk : Rk r nB nl) : Rk R' (nB + 1) nl := by
  obtain ⟨-, -, p1, p2, lo, at', -, hi', far, -⟩ := hi
  refine ⟨fun l hl => by rw [far _ (by omega)]; exact hk.1 l hl, fun m hm => ?_⟩
  by_cases c : m < p
  · rw [(lo m c).1]; exact hk.2 m (by omega)
  · by_cases d : m = p
    · rw [d, at', hx]; exact ⟨i, hi3, rfl⟩
    · obtain ⟨j, rfl⟩ : ∃ j, m = j + 1 := ⟨m - 1, by omega⟩
      rw [(hi' j (by omega) (by omega)).1]
      exact hk.2 j (by omega)
theorem Rk_del {R' : List Int32} {p : Nat} (hp : p < nB) (hd : DelR r R' nB p) (hk : Rk r nB nl) : Rk R' (nB - 1) nl := by
  obtain ⟨-, -, lo, hi, far⟩ := hd
  refine ⟨fun l hl => by rw [far _ (by omega)]; exact hk.1 l hl, fun m hm => ?_⟩
  by_cases c : m < p
  · rw [(lo m c).1]; exact hk.2 m (by omega)
  · rw [(hi m (by omega) (by omega)).1]
    exact hk.2 (m + 1) (by omega)
theorem R_actO {Q : Value → List Int32 → Nat → Nat → Nat → Nat → Prop} {m : Nat} {xs : List Value} {v0 : Value} (hR : Rs xl D r tx u nB nl nb nx h) (ha : ∀ A F P q t, InvN A F P nB nl nb nx q t → A 193 = r → (∃ v r' nB' nl' nb' nx', Act m xs A F P v r' nB' nl' nb' nx' q t ∧ Q v r' nB' nl' nb' nx') ∨ am_cl m (.ref 1 :: xs) (heap A F P) = some (some v0, heap A F P)) : (∃ v r' nB' nl' nb' nx' h', Q v r' nB' nl' nb' nx' ∧ am_cl m (.ref 1 :: xs) h = some (some v, h') ∧ Rs xl D r' tx (some r) nB' nl' nb' nx' h') ∨ am_cl m (.ref 1 :: xs) h = some (some v0, h) := by
  obtain ⟨A, F, P, q, t, rfl, hI, hr, hx, ht, hT, hu⟩ := hR
  rcases ha (ad A D) F P q t (InvN_ad hI D) ((ad_lo (by omega)).trans hr) with ⟨v, r', nB', nl', nb', nx', hA, hQ⟩ | e
  · obtain ⟨A1, F1, P1, e, I1, r1, s1, x1, z1, o1⟩ := hA
    rw [ad_lo (by omega)] at s1 x1 z1
    have eA := ad_of o1
    refine Or.inl ⟨v, r', nB', nl', nb', nx', _, hQ, e, A1, F1, P1, kp q + 1, t, congrArg (fun a => heap a F1 P1) eA, I1, r1, z1.trans hx, ht, fun j hj => by rw [x1]; exact hT j hj, fun r0 h0 => ⟨kp q, rfl, ?_⟩⟩
    cases h0
    rw [s1, hr]
  · exact Or.inr e
theorem ev_9 (hR : Rs xl D r tx u nB nl nb nx h) (hn : 2 ≤ nl ∧ nl ≤ 6 ∧ 2 ≤ nb ∧ nb ≤ 5 ∧ nx ≤ 20) (hk : Rk r nB nl) : ∃ v14 v15 v16 h', am_ev m_law (606, [.ref 0, .ref 1, .ref 192, .ref 193, .ref 194, .ref 195, .ref 196, .int x7, .int x8, .int x9, .int (nI s), .int (nI l), .int (nI b), .int (nI nx), u14, u15, u16], [], h) = am_ev m_law (804, [.ref 0, .ref 1, .ref 192, .ref 193, .ref 194, .ref 195, .ref 196, .int x7, .int x8, .int x9, .int (nI s), .int (nI l), .int (nI b), .int (nI nx), v14, v15, v16], [], h') ∧ LawI xl D h' := by
  have hB := bands3 hR hk
  have hlen := R_len hR
  have c7 := R_cx hR (m := m_Pa_count) (xs := [.int (nI 7)]) (fun A F P hC => k_count7 hC)
  obtain ⟨i, i1, i2⟩ := s_low x8 (n := 3) (by omega) (by omega)
  have n4 : ∀ n : Nat, n ≤ 5 → ¬ nI n = -nI 4 := by
    intro n hn
    have : n = 0 ∨ n = 1 ∨ n = 2 ∨ n = 3 ∨ n = 4 ∨ n = 5 := by omega
    rcases this with w | w | w | w | w | w <;> subst w <;> decide
  by_cases c : (x9 &&& (nI 3)) ≤ nI 0
  · have hrem := R_actO (m := m_Pa_removeBand) (xs := [.int (nI 50 * nI i)]) (v0 := .int (-nI 4)) (Q := fun v r' nB' nl' nb' nx' => ∃ n, v = .int (nI n) ∧ 1 ≤ n ∧ n ≤ nB + 1 ∧ nl' = nl ∧ nb' = nb ∧ nx' = nx ∧ Rk r' nB' nl) hR (fun A F P q t hI hr => by
      by_cases z : i = 0
      · subst z
        exact Or.inr (k_removeBand0 hI)
      · rcases k_removeBand hI (nI 50 * nI i) (by rw [nI_mulS, nI_eq' (by omega) (by omega)]; omega) with ⟨p, p1, p2, p3, R', hd, hA⟩ | e
        · rw [hr] at hd
          exact Or.inl ⟨_, R', _, _, _, _, hA, nB - 1, rfl, by omega, by omega, rfl, rfl, rfl, Rk_del p2 hd hk⟩
        · exact Or.inr e)
    rcases hrem with ⟨v, r', nB', nl', nb', nx', h', ⟨n, rfl, n1, n2, rfl, rfl, rfl, hk'⟩, e, R'⟩ | e
    · refine ⟨.int (nI nB), .int (nI n), u16, h', ?_, _, tx, _, nB', nl', nb', nx', R', hn, hk'⟩
      have n3 : ¬ n < 1 := by omega
      have n5 := n4 n (by omega)
      rw [b_law_606]
      simp (maxSteps := 1000000) (disch := (first | omega | (simp (disch := omega) only [up_eq, up_ne, List.length_set] <;> omega) | fail)) only [↓bif_d, nI_addS, nI_mulS, nI_subS, nI_lt', nI_le', nI_eq', up_eq, up_ne, up_up, up_sw, List.set_set, g_seq, g_sne, Nat.reduceEqDiff, ↓reduceIte, List.length_set, Nat.add_sub_cancel_left, Nat.add_sub_cancel, Nat.reduceLT, Nat.reduceLeDiff, ite_true, ite_false, if_true, if_false, not_true_eq_false, not_false_eq_true, Bool.and_true, Bool.true_and, true_or, or_true, false_or, or_false, and_true, true_and, and_false, false_and, Nat.not_lt_zero, ↓(am_bi_of c7), ↓(fun z0 => am_bi_of (i2 z0)), ↓(am_bi_of e), c, n5, n3, n2, ↓b_law_687]
    · refine ⟨.int (nI nB), .int (-nI 4), u16, h, ?_, _, tx, _, nB, nl, nb, nx, hR, hn, hk⟩
      rw [b_law_606]
      simp (maxSteps := 1000000) (disch := (first | omega | (simp (disch := omega) only [up_eq, up_ne, List.length_set] <;> omega) | fail)) only [↓bif_d, nI_addS, nI_mulS, nI_subS, nI_lt', nI_le', nI_eq', up_eq, up_ne, up_up, up_sw, List.set_set, g_seq, g_sne, Nat.reduceEqDiff, ↓reduceIte, List.length_set, Nat.add_sub_cancel_left, Nat.add_sub_cancel, Nat.reduceLT, Nat.reduceLeDiff, ite_true, ite_false, if_true, if_false, not_true_eq_false, not_false_eq_true, Bool.and_true, Bool.true_and, true_or, or_true, false_or, or_false, and_true, true_and, and_false, false_and, Nat.not_lt_zero, ↓(am_bi_of c7), ↓(fun z0 => am_bi_of (i2 z0)), ↓(am_bi_of e), c, ↓b_law_687]
  · obtain ⟨k, k1, k2⟩ := s_low (x9 >>> ((nI 2) &&& 31)) (n := 30) (by omega) (by omega)
    have hset := R_actO (m := m_Pa_setBand) (xs := [.int (nI i * nI 50), .int (nI 1 + nI k)]) (v0 := .int (-nI 4)) (Q := fun v r' nB' nl' nb' nx' => ∃ n, v = .int (nI n) ∧ 1 ≤ n ∧ n ≤ nB + 1 ∧ nl' = nl ∧ nb' = nb ∧ nx' = nx ∧ Rk r' nB' nl) hR (fun A F P q t hI hr => by
      rcases k_setBand hI (nI i * nI 50) (nI 1 + nI k) (by omega) (by rw [nI_mulS]; exact rgN (by omega) (by omega) (by omega)) (by rw [nI_addS]; exact rgN (by omega) (by omega) (by omega)) with ⟨j, j1, j2, hA⟩ | ⟨-, R', ⟨p, hp⟩, hA⟩
      · rw [hr] at hA
        exact Or.inl ⟨_, _, _, _, _, _, hA, nB, rfl, by omega, by omega, rfl, rfl, rfl, Rk_c (by omega) (by omega) (fun m hm => g_sn (by omega)) hk⟩
      · rw [hr] at hp
        exact Or.inl ⟨_, R', _, _, _, _, hA, nB + 1, rfl, by omega, by omega, rfl, rfl, rfl, Rk_ins (by omega) hp (by rw [nI_mulS, Nat.mul_comm]) i1 hk⟩)
    rcases hset with ⟨v, r', nB', nl', nb', nx', h', ⟨n, rfl, n1, n2, rfl, rfl, rfl, hk'⟩, e, R'⟩ | e
    · refine ⟨.int (nI nB), .int (nI n), u16, h', ?_, _, tx, _, nB', nl', nb', nx', R', hn, hk'⟩
      have n3 : ¬ n < 1 := by omega
      have n5 := n4 n (by omega)
      rw [b_law_606]
      simp (maxSteps := 1000000) (disch := (first | omega | (simp (disch := omega) only [up_eq, up_ne, List.length_set] <;> omega) | fail)) only [↓bif_d, nI_addS, nI_mulS, nI_subS, nI_lt', nI_le', nI_eq', up_eq, up_ne, up_up, up_sw, List.set_set, g_seq, g_sne, Nat.reduceEqDiff, ↓reduceIte, List.length_set, Nat.add_sub_cancel_left, Nat.add_sub_cancel, Nat.reduceLT, Nat.reduceLeDiff, ite_true, ite_false, if_true, if_false, not_true_eq_false, not_false_eq_true, Bool.and_true, Bool.true_and, true_or, or_true, false_or, or_false, and_true, true_and, and_false, false_and, Nat.not_lt_zero, ↓(am_bi_of c7), ↓(fun z0 => am_bi_of (i2 z0)), ↓(fun z0 => am_bi_of (k2 z0)), ↓(am_bi_of e), c, n5, n3, n2, ↓b_law_687]
    · refine ⟨.int (nI nB), .int (-nI 4), u16, h, ?_, _, tx, _, nB, nl, nb, nx, hR, hn, hk⟩
      rw [b_law_606]
      simp (maxSteps := 1000000) (disch := (first | omega | (simp (disch := omega) only [up_eq, up_ne, List.length_set] <;> omega) | fail)) only [↓bif_d, nI_addS, nI_mulS, nI_subS, nI_lt', nI_le', nI_eq', up_eq, up_ne, up_up, up_sw, List.set_set, g_seq, g_sne, Nat.reduceEqDiff, ↓reduceIte, List.length_set, Nat.add_sub_cancel_left, Nat.add_sub_cancel, Nat.reduceLT, Nat.reduceLeDiff, ite_true, ite_false, if_true, if_false, not_true_eq_false, not_false_eq_true, Bool.and_true, Bool.true_and, true_or, or_true, false_or, or_false, and_true, true_and, and_false, false_and, Nat.not_lt_zero, ↓(am_bi_of c7), ↓(fun z0 => am_bi_of (i2 z0)), ↓(fun z0 => am_bi_of (k2 z0)), ↓(am_bi_of e), c, ↓b_law_687]
theorem ev_10 (hR : Rs xl D r tx u nB nl nb nx h) (hn : 2 ≤ nl ∧ nl ≤ 6 ∧ 2 ≤ nb ∧ nb ≤ 5 ∧ nx ≤ 20) (hk : Rk r nB nl) : ∃ v14 v15 v16 h', am_ev m_law (599, [.ref 0, .ref 1, .ref 192, .ref 193, .ref 194, .ref 195, .ref 196, .int x7, .int x8, .int x9, .int (nI 10), .int (nI l), .int (nI b), .int (nI nx), u14, u15, u16], [], h) = am_ev m_law (804, [.ref 0, .ref 1, .ref 192, .ref 193, .ref 194, .ref 195, .ref 196, .int x7, .int x8, .int x9, .int (nI 10), .int (nI l), .int (nI b), .int (nI nx), v14, v15, v16], [], h') ∧ LawI xl D h' := by
  have hB := bands3 hR hk
  have hlen := R_len hR
  have n9 : ¬ (10 : Nat) = 9 := by omega
  obtain ⟨i, i1, i2⟩ := s_low x8 (n := 4) (by omega) (by omega)
  obtain ⟨k, k1, k2⟩ := s_low x9 (n := 501) (by omega) (by omega)
  obtain ⟨j, j1, j2⟩ := s_low x9 (n := 5) (by omega) (by omega)
  have hi : i = 0 ∨ i = 1 ∨ i = 2 ∨ i = 3 := by omega
  rcases hi with rfl | rfl | rfl | rfl
  · have c := R_cx hR (m := m_Pa_count) (xs := [.int (nI (8 + 0))]) (fun A F P hC => k_count8 hC)
    rw [← nI_addS] at c
    obtain ⟨h', e, R'⟩ := R_act hR (m := m_Pa_set) (xs := [.int (nI 0), .int (nI j)]) (fun A F P q t hI hr => by
      have := k_set0 hI (nI j) (rgN (by omega) (by omega) (by omega))
      rw [hr] at this
      exact this)
    refine ⟨.int (nI 0), .int (g r 468), u16, h', ?_, _, tx, _, nB, nl, nb, nx, R', hn, Rk_c (by omega) (by omega) (fun j hj => g_sn (by omega)) hk⟩
    rw [b_law_599]
    simp (maxSteps := 1000000) (disch := (first | omega | (simp (disch := omega) only [up_eq, up_ne, List.length_set] <;> omega) | fail)) only [↓bif_d, nI_addS, nI_mulS, nI_subS, nI_lt', nI_le', nI_eq', up_eq, up_ne, up_up, up_sw, List.set_set, g_seq, g_sne, Nat.reduceEqDiff, ↓reduceIte, List.length_set, Nat.add_sub_cancel_left, Nat.add_sub_cancel, Nat.reduceLT, Nat.reduceLeDiff, ite_true, ite_false, if_true, if_false, not_true_eq_false, not_false_eq_true, Bool.and_true, Bool.true_and, true_or, or_true, false_or, or_false, and_true, true_and, and_false, false_and, Nat.not_lt_zero, ↓(fun z0 => am_bi_of (i2 z0)), ↓(am_bi_of c), ↓(fun z0 => am_bi_of (j2 z0)), ↓(am_bi_of e), n9]
  · have c := R_cx hR (m := m_Pa_count) (xs := [.int (nI (8 + 1))]) (fun A F P hC => k_count9 hC)
    rw [← nI_addS] at c
    obtain ⟨h', e, R'⟩ := R_act hR (m := m_Pa_set) (xs := [.int (nI 1), .int (nI k)]) (fun A F P q t hI hr => by
      have := k_set1 hI (nI k) (rgN (by omega) (by omega) (by omega))
      rw [hr] at this
      exact this)
    refine ⟨.int (nI 1), .int (g r 469), u16, h', ?_, _, tx, _, nB, nl, nb, nx, R', hn, Rk_c (by omega) (by omega) (fun j hj => g_sn (by omega)) hk⟩
    have n10 : ¬ (1 : Nat) = 0 := by omega
    rw [b_law_599]
    simp (maxSteps := 1000000) (disch := (first | omega | (simp (disch := omega) only [up_eq, up_ne, List.length_set] <;> omega) | fail)) only [↓bif_d, nI_addS, nI_mulS, nI_subS, nI_lt', nI_le', nI_eq', up_eq, up_ne, up_up, up_sw, List.set_set, g_seq, g_sne, Nat.reduceEqDiff, ↓reduceIte, List.length_set, Nat.add_sub_cancel_left, Nat.add_sub_cancel, Nat.reduceLT, Nat.reduceLeDiff, ite_true, ite_false, if_true, if_false, not_true_eq_false, not_false_eq_true, Bool.and_true, Bool.true_and, true_or, or_true, false_or, or_false, and_true, true_and, and_false, false_and, Nat.not_lt_zero, ↓(fun z0 => am_bi_of (i2 z0)), ↓(am_bi_of c), ↓(fun z0 => am_bi_of (k2 z0)), ↓(am_bi_of e), n9, n10]
  · have c := R_cx hR (m := m_Pa_count) (xs := [.int (nI (8 + 2))]) (fun A F P hC => k_count10 hC)
    rw [← nI_addS] at c
    obtain ⟨h', e, R'⟩ := R_act hR (m := m_Pa_set) (xs := [.int (nI 2), .int (nI k)]) (fun A F P q t hI hr => by
      have := k_set2 hI (nI k) (rgN (by omega) (by omega) (by omega))
      rw [hr] at this
      exact this)
    refine ⟨.int (nI 2), .int (g r 470), u16, h', ?_, _, tx, _, nB, nl, nb, nx, R', hn, Rk_c (by omega) (by omega) (fun j hj => g_sn (by omega)) hk⟩
    have n10 : ¬ (2 : Nat) = 0 := by omega
    rw [b_law_599]
    simp (maxSteps := 1000000) (disch := (first | omega | (simp (disch := omega) only [up_eq, up_ne, List.length_set] <;> omega) | fail)) only [↓bif_d, nI_addS, nI_mulS, nI_subS, nI_lt', nI_le', nI_eq', up_eq, up_ne, up_up, up_sw, List.set_set, g_seq, g_sne, Nat.reduceEqDiff, ↓reduceIte, List.length_set, Nat.add_sub_cancel_left, Nat.add_sub_cancel, Nat.reduceLT, Nat.reduceLeDiff, ite_true, ite_false, if_true, if_false, not_true_eq_false, not_false_eq_true, Bool.and_true, Bool.true_and, true_or, or_true, false_or, or_false, and_true, true_and, and_false, false_and, Nat.not_lt_zero, ↓(fun z0 => am_bi_of (i2 z0)), ↓(am_bi_of c), ↓(fun z0 => am_bi_of (k2 z0)), ↓(am_bi_of e), n9, n10]
  · have c := R_cx hR (m := m_Pa_count) (xs := [.int (nI (8 + 3))]) (fun A F P hC => k_count11 hC)
    rw [← nI_addS] at c
    obtain ⟨h', e, R'⟩ := R_act hR (m := m_Pa_set) (xs := [.int (nI 3), .int (nI k)]) (fun A F P q t hI hr => by
      have := k_set3 hI (nI k) (rgN (by omega) (by omega) (by omega))
      rw [hr] at this
      exact this)
    refine ⟨.int (nI 3), .int (g r 471), u16, h', ?_, _, tx, _, nB, nl, nb, nx, R', hn, Rk_c (by omega) (by omega) (fun j hj => g_sn (by omega)) hk⟩
    have n10 : ¬ (3 : Nat) = 0 := by omega
    rw [b_law_599]
    simp (maxSteps := 1000000) (disch := (first | omega | (simp (disch := omega) only [up_eq, up_ne, List.length_set] <;> omega) | fail)) only [↓bif_d, nI_addS, nI_mulS, nI_subS, nI_lt', nI_le', nI_eq', up_eq, up_ne, up_up, up_sw, List.set_set, g_seq, g_sne, Nat.reduceEqDiff, ↓reduceIte, List.length_set, Nat.add_sub_cancel_left, Nat.add_sub_cancel, Nat.reduceLT, Nat.reduceLeDiff, ite_true, ite_false, if_true, if_false, not_true_eq_false, not_false_eq_true, Bool.and_true, Bool.true_and, true_or, or_true, false_or, or_false, and_true, true_and, and_false, false_and, Nat.not_lt_zero, ↓(fun z0 => am_bi_of (i2 z0)), ↓(am_bi_of c), ↓(fun z0 => am_bi_of (k2 z0)), ↓(am_bi_of e), n9, n10]
theorem ev_11 (hR : Rs xl D r tx u nB nl nb nx h) (hn : 2 ≤ nl ∧ nl ≤ 6 ∧ 2 ≤ nb ∧ nb ≤ 5 ∧ nx ≤ 20) (hk : Rk r nB nl) (hl : l < nl) (hb : b < nb) : ∃ v14 v15 v16 h', am_ev m_law (599, [.ref 0, .ref 1, .ref 192, .ref 193, .ref 194, .ref 195, .ref 196, .int x7, .int x8, .int x9, .int (nI 11), .int (nI l), .int (nI b), .int (nI nx), u14, u15, u16], [], h) = am_ev m_law (804, [.ref 0, .ref 1, .ref 192, .ref 193, .ref 194, .ref 195, .ref 196, .int x7, .int x8, .int x9, .int (nI 11), .int (nI l), .int (nI b), .int (nI nx), v14, v15, v16], [], h') ∧ LawI xl D h' := by
  obtain ⟨k, k1, k2⟩ := s_low x9 (n := 7) (by omega) (by omega)
  obtain ⟨h', e, R'⟩ := l_needs hR hb hl (mm := k) (by omega) (by omega)
  refine ⟨u14, u15, u16, h', ?_, _, tx, _, nB, nl, nb, nx, R', hn, hk⟩
  have n9 : ¬ (11 : Nat) = 9 := by omega
  have n10 : ¬ (11 : Nat) = 10 := by omega
  have m10 : ¬ (1 : Nat) = 0 := by omega
  rw [b_law_599]
  simp (maxSteps := 1000000) (disch := (first | omega | (simp (disch := omega) only [up_eq, up_ne, List.length_set] <;> omega) | fail)) only [↓bif_d, nI_addS, nI_mulS, nI_subS, nI_lt', nI_le', nI_eq', up_eq, up_ne, up_up, up_sw, List.set_set, g_seq, g_sne, Nat.reduceEqDiff, ↓reduceIte, List.length_set, Nat.add_sub_cancel_left, Nat.add_sub_cancel, Nat.reduceLT, Nat.reduceLeDiff, ite_true, ite_false, if_true, if_false, not_true_eq_false, not_false_eq_true, Bool.and_true, Bool.true_and, true_or, or_true, false_or, or_false, and_true, true_and, and_false, false_and, Nat.not_lt_zero, ↓(fun z0 => am_bi_of (k2 z0)), ↓(am_bi_of e), n9, n10, m10]
theorem ev_12 (hs : s = 8 ∨ s = 12) (hR : Rs xl D r tx u nB nl nb nx h) (hn : 2 ≤ nl ∧ nl ≤ 6 ∧ 2 ≤ nb ∧ nb ≤ 5 ∧ nx ≤ 20) (hk : Rk r nB nl) (hl : l < nl) (hb : b < nb) : ∃ v14 v15 v16 h', am_ev m_law (599, [.ref 0, .ref 1, .ref 192, .ref 193, .ref 194, .ref 195, .ref 196, .int x7, .int x8, .int x9, .int (nI s), .int (nI l), .int (nI b), .int (nI nx), u14, u15, u16], [], h) = am_ev m_law (804, [.ref 0, .ref 1, .ref 192, .ref 193, .ref 194, .ref 195, .ref 196, .int x7, .int x8, .int x9, .int (nI s), .int (nI l), .int (nI b), .int (nI nx), v14, v15, v16], [], h') ∧ LawI xl D h' := by
  have c0 := R_cx hR (m := m_Pa_count) (xs := [.int (nI 0)]) (fun A F P hC => k_count0 hC)
  obtain ⟨o, o1, o2⟩ := s_low x9 (n := nl) (by omega) (by omega)
  obtain ⟨tx', h', e, R'⟩ := l_letters hR hb hl o1 (by omega) (by omega) (by omega)
  refine ⟨u14, u15, u16, h', ?_, _, tx', _, nB, nl, nb, nx, R', hn, hk⟩
  have n9 : ¬ s = 9 := by omega
  have n10 : ¬ s = 10 := by omega
  have n11 : ¬ s = 11 := by omega
  have m10 : ¬ (1 : Nat) = 0 := by omega
  have s31 : s < 2 ^ 31 := by omega
  rw [b_law_599]
  simp (maxSteps := 1000000) (disch := (first | omega | (simp (disch := omega) only [up_eq, up_ne, List.length_set] <;> omega) | fail)) only [↓bif_d, nI_addS, nI_mulS, nI_subS, nI_lt', nI_le', nI_eq', up_eq, up_ne, up_up, up_sw, List.set_set, g_seq, g_sne, Nat.reduceEqDiff, ↓reduceIte, List.length_set, Nat.add_sub_cancel_left, Nat.add_sub_cancel, Nat.reduceLT, Nat.reduceLeDiff, ite_true, ite_false, if_true, if_false, not_true_eq_false, not_false_eq_true, Bool.and_true, Bool.true_and, true_or, or_true, false_or, or_false, and_true, true_and, and_false, false_and, Nat.not_lt_zero, ↓(am_bi_of c0), ↓(fun z0 => am_bi_of (o2 z0)), ↓(am_bi_of e), n9, n10, n11, m10]
/-- whatever the event -/
theorem ev_238 (hs : s < 13) (h0 : ¬ s = 0) (hR : Rs xl D r tx u nB nl nb nx h) (hn : 2 ≤ nl ∧ nl ≤ 6 ∧ 2 ≤ nb ∧ nb ≤ 5 ∧ nx ≤ 20) (hk : Rk r nB nl) (hl : l < nl) (hb : b < nb) : ∃ v14 v15 v16 h', am_ev m_law (238, [.ref 0, .ref 1, .ref 192, .ref 193, .ref 194, .ref 195, .ref 196, .int x7, .int x8, .int x9, .int (nI s), .int (nI l), .int (nI b), .int (nI nx), u14, u15, u16], [], h) = am_ev m_law (804, [.ref 0, .ref 1, .ref 192, .ref 193, .ref 194, .ref 195, .ref 196, .int x7, .int x8, .int x9, .int (nI s), .int (nI l), .int (nI b), .int (nI nx), v14, v15, v16], [], h') ∧ LawI xl D h' := by
  by_cases c1 : s = 1
  · subst c1; exact ev_1 hR hn hk
  by_cases c2 : s = 2
  · subst c2; exact ev_2 hR hn hk hl hb
  have e3 : am_ev m_law (238, [.ref 0, .ref 1, .ref 192, .ref 193, .ref 194, .ref 195, .ref 196, .int x7, .int x8, .int x9, .int (nI s), .int (nI l), .int (nI b), .int (nI nx), u14, u15, u16], [], h) = am_ev m_law (344, [.ref 0, .ref 1, .ref 192, .ref 193, .ref 194, .ref 195, .ref 196, .int x7, .int x8, .int x9, .int (nI s), .int (nI l), .int (nI b), .int (nI nx), u14, u15, u16], [], h) := by
    rw [b_law_238]
    simp (maxSteps := 1000000) (disch := (first | omega | (simp (disch := omega) only [up_eq, up_ne, List.length_set] <;> omega) | fail)) only [↓bif_d, nI_addS, nI_mulS, nI_subS, nI_lt', nI_le', nI_eq', up_eq, up_ne, up_up, up_sw, List.set_set, g_seq, g_sne, Nat.reduceEqDiff, ↓reduceIte, List.length_set, Nat.add_sub_cancel_left, Nat.add_sub_cancel, Nat.reduceLT, Nat.reduceLeDiff, ite_true, ite_false, if_true, if_false, not_true_eq_false, not_false_eq_true, Bool.and_true, Bool.true_and, true_or, or_true, false_or, or_false, and_true, true_and, and_false, false_and, Nat.not_lt_zero, c1, c2]
  rw [e3]
  by_cases c3 : s = 3
  · subst c3; exact ev_3 hR hn hk hl
  by_cases c8 : 8 ≤ s
  rotate_left
  · have e4 : am_ev m_law (344, [.ref 0, .ref 1, .ref 192, .ref 193, .ref 194, .ref 195, .ref 196, .int x7, .int x8, .int x9, .int (nI s), .int (nI l), .int (nI b), .int (nI nx), u14, u15, u16], [], h) = am_ev m_law (438, [.ref 0, .ref 1, .ref 192, .ref 193, .ref 194, .ref 195, .ref 196, .int x7, .int x8, .int x9, .int (nI s), .int (nI l), .int (nI b), .int (nI nx), u14, u15, u16], [], h) := by
      rw [b_law_344]
      simp (maxSteps := 1000000) (disch := (first | omega | (simp (disch := omega) only [up_eq, up_ne, List.length_set] <;> omega) | fail)) only [↓bif_d, nI_addS, nI_mulS, nI_subS, nI_lt', nI_le', nI_eq', up_eq, up_ne, up_up, up_sw, List.set_set, g_seq, g_sne, Nat.reduceEqDiff, ↓reduceIte, List.length_set, Nat.add_sub_cancel_left, Nat.add_sub_cancel, Nat.reduceLT, Nat.reduceLeDiff, ite_true, ite_false, if_true, if_false, not_true_eq_false, not_false_eq_true, Bool.and_true, Bool.true_and, true_or, or_true, false_or, or_false, and_true, true_and, and_false, false_and, Nat.not_lt_zero, c3, c8]
    rw [e4]
    exact ev_438 hR hn hk hl hb
  by_cases d8 : s = 8
  · subst d8
    by_cases x0 : nx ≤ 0
    · have e5 : am_ev m_law (344, [.ref 0, .ref 1, .ref 192, .ref 193, .ref 194, .ref 195, .ref 196, .int x7, .int x8, .int x9, .int (nI 8), .int (nI l), .int (nI b), .int (nI nx), u14, u15, u16], [], h) = am_ev m_law (599, [.ref 0, .ref 1, .ref 192, .ref 193, .ref 194, .ref 195, .ref 196, .int x7, .int x8, .int x9, .int (nI 8), .int (nI l), .int (nI b), .int (nI nx), u14, u15, u16], [], h) := by
        have n83 : ¬ (8 : Nat) = 3 := by omega
        rw [b_law_344]
        simp (maxSteps := 1000000) (disch := (first | omega | (simp (disch := omega) only [up_eq, up_ne, List.length_set] <;> omega) | fail)) only [↓bif_d, nI_addS, nI_mulS, nI_subS, nI_lt', nI_le', nI_eq', up_eq, up_ne, up_up, up_sw, List.set_set, g_seq, g_sne, Nat.reduceEqDiff, ↓reduceIte, List.length_set, Nat.add_sub_cancel_left, Nat.add_sub_cancel, Nat.reduceLT, Nat.reduceLeDiff, ite_true, ite_false, if_true, if_false, not_true_eq_false, not_false_eq_true, Bool.and_true, Bool.true_and, true_or, or_true, false_or, or_false, and_true, true_and, and_false, false_and, Nat.not_lt_zero, n83, x0]
      rw [e5]
      exact ev_12 (Or.inl rfl) hR hn hk hl hb
    · exact ev_8 hR hn hk x0
  have e6 : am_ev m_law (344, [.ref 0, .ref 1, .ref 192, .ref 193, .ref 194, .ref 195, .ref 196, .int x7, .int x8, .int x9, .int (nI s), .int (nI l), .int (nI b), .int (nI nx), u14, u15, u16], [], h) = am_ev m_law (599, [.ref 0, .ref 1, .ref 192, .ref 193, .ref 194, .ref 195, .ref 196, .int x7, .int x8, .int x9, .int (nI s), .int (nI l), .int (nI b), .int (nI nx), u14, u15, u16], [], h) := by
    rw [b_law_344]
    simp (maxSteps := 1000000) (disch := (first | omega | (simp (disch := omega) only [up_eq, up_ne, List.length_set] <;> omega) | fail)) only [↓bif_d, nI_addS, nI_mulS, nI_subS, nI_lt', nI_le', nI_eq', up_eq, up_ne, up_up, up_sw, List.set_set, g_seq, g_sne, Nat.reduceEqDiff, ↓reduceIte, List.length_set, Nat.add_sub_cancel_left, Nat.add_sub_cancel, Nat.reduceLT, Nat.reduceLeDiff, ite_true, ite_false, if_true, if_false, not_true_eq_false, not_false_eq_true, Bool.and_true, Bool.true_and, true_or, or_true, false_or, or_false, and_true, true_and, and_false, false_and, Nat.not_lt_zero, c3, c8, d8]
  rw [e6]
  by_cases d9 : s = 9
  · subst d9
    have e7 : am_ev m_law (599, [.ref 0, .ref 1, .ref 192, .ref 193, .ref 194, .ref 195, .ref 196, .int x7, .int x8, .int x9, .int (nI 9), .int (nI l), .int (nI b), .int (nI nx), u14, u15, u16], [], h) = am_ev m_law (606, [.ref 0, .ref 1, .ref 192, .ref 193, .ref 194, .ref 195, .ref 196, .int x7, .int x8, .int x9, .int (nI 9), .int (nI l), .int (nI b), .int (nI nx), u14, u15, u16], [], h) := by
      rw [b_law_599]
      simp (maxSteps := 1000000) (disch := (first | omega | (simp (disch := omega) only [up_eq, up_ne, List.length_set] <;> omega) | fail)) only [↓bif_d, nI_addS, nI_mulS, nI_subS, nI_lt', nI_le', nI_eq', up_eq, up_ne, up_up, up_sw, List.set_set, g_seq, g_sne, Nat.reduceEqDiff, ↓reduceIte, List.length_set, Nat.add_sub_cancel_left, Nat.add_sub_cancel, Nat.reduceLT, Nat.reduceLeDiff, ite_true, ite_false, if_true, if_false, not_true_eq_false, not_false_eq_true, Bool.and_true, Bool.true_and, true_or, or_true, false_or, or_false, and_true, true_and, and_false, false_and, Nat.not_lt_zero]
    rw [e7]
    exact ev_9 hR hn hk
  by_cases d10 : s = 10
  · subst d10; exact ev_10 hR hn hk
  by_cases d11 : s = 11
  · subst d11; exact ev_11 hR hn hk hl hb
  have d12 : s = 12 := by omega
  exact ev_12 (Or.inr d12) hR hn hk hl hb
end V

