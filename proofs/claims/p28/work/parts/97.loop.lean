/-! THE LAW'S LOOP -/
section V
variable {xl : List Int32} {D : Nat → List Int32} {r tx : List Int32} {u : Option (List Int32)} {nB nl nb nx : Nat} {h : am_H} {A : Nat → List Int32} {F : Nat → Int32} {P : Nat → Nat} {L Bs Fi Se Mn Bu Pr : List Int32} {x7 x8 x9 x10 x11 x12 x13 : Int32} {u8 u9 u10 u11 u12 u13 u14 u15 u16 : Value}
theorem R_cell (hR : Rs xl D r tx u nB nl nb nx h) (hxl : xl.length ≤ 260) {k : Nat} (hk : k < 100) : ∃ v, am_cl m_L_cell [.ref 0, .int (nI k)] h = some (some (.int v), h) := by
  obtain ⟨A, F, P, q, t, rfl, hI, hr, hx, -⟩ := hR
  have e0 : am_len (heap (ad A D) F P) 0 = some (nI (ad A D 0).length) := rfl
  have e1 : am_al (heap (ad A D) F P) 0 0 (nI k) = bif am_in (nI k) (ad A D 0).length then (ad A D 0)[(nI k).toNatClampNeg]? else none := rfl
  rw [ad_lo (by omega), hx] at e0 e1
  rw [e_L_cell, e0, Option.bind_some]
  by_cases c : xl.length ≤ k
  · have : nI xl.length ≤ nI k := by rw [nI_le' (by omega) (by omega)]; exact c
    rw [decide_eq_true this, cond_true]
    exact ⟨_, rfl⟩
  · have : ¬ nI xl.length ≤ nI k := by rw [nI_le' (by omega) (by omega)]; exact c
    rw [decide_eq_false this, cond_false, e1, rd_nI (by omega) (by omega), Option.bind_some]
    exact ⟨_, rfl⟩
/-- the lots, one after the other -/
theorem lots (hH : Hd xl r tx u nB nl nb nx A F P) (hS : Sv r nB nl nb nx L Bs Fi Se Mn Bu Pr) (hA : AskR r nB L Bu Fi nx D) (hnl : nl ≤ 20) : ∀ n k, k + n = nl → am_ev m_law (843, [.ref 0, .ref 1, .ref 192, .ref 193, .ref 194, .ref 195, .ref 196, .int x7, .int x8, .int x9, .int x10, .int x11, .int x12, .int x13, .int (nI k), u15, u16], [], (heap (ad A D) F P)) = am_ev m_law (95, [.ref 0, .ref 1, .ref 192, .ref 193, .ref 194, .ref 195, .ref 196, .int (x7 + (nI 1)), .int x8, .int x9, .int x10, .int x11, .int x12, .int x13, .int (nI nl), u15, u16], [], (heap (ad A D) F P)) := by
  have c0 := R_cx (hH.R D) (m := m_Pa_count) (xs := [.int (nI 0)]) (fun A F P hC => k_count0 hC)
  intro n
  induction n with
  | zero =>
    intro k hk
    have e : k = nl := by omega
    subst e
    have hle : k ≤ k := Nat.le_refl _
    rw [b_law_843]
    simp (maxSteps := 1000000) (disch := (first | omega | (simp (disch := omega) only [up_eq, up_ne, List.length_set] <;> omega) | fail)) only [↓bif_d, nI_addS, nI_mulS, nI_subS, nI_lt', nI_le', nI_eq', up_eq, up_ne, up_up, up_sw, List.set_set, g_seq, g_sne, Nat.reduceEqDiff, ↓reduceIte, List.length_set, Nat.add_sub_cancel_left, Nat.add_sub_cancel, Nat.reduceLT, Nat.reduceLeDiff, ite_true, ite_false, if_true, if_false, not_true_eq_false, not_false_eq_true, Bool.and_true, Bool.true_and, true_or, or_true, false_or, or_false, and_true, true_and, and_false, false_and, Nat.not_lt_zero, ↓(am_bi_of c0), hle]
  | succ n ih =>
    intro k hk
    have e := l_lot hH hS hA (show k < nl by omega)
    have hle : ¬ nl ≤ k := by omega
    have m10 : ¬ (1 : Nat) = 0 := by omega
    rw [b_law_843, ← ih (k + 1) (by omega)]
    simp (maxSteps := 1000000) (disch := (first | omega | (simp (disch := omega) only [up_eq, up_ne, List.length_set] <;> omega) | fail)) only [↓bif_d, nI_addS, nI_mulS, nI_subS, nI_lt', nI_le', nI_eq', up_eq, up_ne, up_up, up_sw, List.set_set, g_seq, g_sne, Nat.reduceEqDiff, ↓reduceIte, List.length_set, Nat.add_sub_cancel_left, Nat.add_sub_cancel, Nat.reduceLT, Nat.reduceLeDiff, ite_true, ite_false, if_true, if_false, not_true_eq_false, not_false_eq_true, Bool.and_true, Bool.true_and, true_or, or_true, false_or, or_false, and_true, true_and, and_false, false_and, Nat.not_lt_zero, ↓(am_bi_of c0), ↓(am_bi_of e), hle, m10]
theorem ev_804 (hI : LawI xl D h) (hD : DL D) : ∃ D' h' v14, DL D' ∧ LawI xl D' h' ∧ am_ev m_law (804, [.ref 0, .ref 1, .ref 192, .ref 193, .ref 194, .ref 195, .ref 196, .int x7, .int x8, .int x9, .int x10, .int x11, .int x12, .int x13, u14, u15, u16], [], h) = am_ev m_law (95, [.ref 0, .ref 1, .ref 192, .ref 193, .ref 194, .ref 195, .ref 196, .int (x7 + (nI 1)), .int x8, .int x9, .int x10, .int x11, .int x12, .int x13, v14, u15, u16], [], h') := by
  obtain ⟨r, tx, u, nB, nl, nb, nx, hR, hn, hk⟩ := hI
  obtain ⟨k, k1, k2⟩ := s_low x9 (n := 500) (by omega) (by omega)
  have e1 := l_steps hR k1
  obtain ⟨A, F, P, e2, hH⟩ := l_money hR hk.1 (by omega)
  obtain ⟨L, Bs, Fi, Se, Mn, Bu, Pr, hS⟩ := Rs_sv hR
  obtain ⟨D', hA, e3⟩ := l_ask hH hS hD
  have e4 := lots (x7 := x7) (x8 := x8) (x9 := x9) (x10 := x10) (x11 := x11) (x12 := x12) (x13 := x13) (u15 := u15) (u16 := u16) hH hS hA (by omega) nl 0 (Nat.zero_add _)
  refine ⟨D', _, .int (nI nl), hA.1, ⟨r, tx, u, nB, nl, nb, nx, hH.R D', hn, hk⟩, ?_⟩
  have m10 : ¬ (1 : Nat) = 0 := by omega
  rw [b_law_804, ← e4]
  simp (maxSteps := 1000000) (disch := (first | omega | (simp (disch := omega) only [up_eq, up_ne, List.length_set] <;> omega) | fail)) only [↓bif_d, nI_addS, nI_mulS, nI_subS, nI_lt', nI_le', nI_eq', up_eq, up_ne, up_up, up_sw, List.set_set, g_seq, g_sne, Nat.reduceEqDiff, ↓reduceIte, List.length_set, Nat.add_sub_cancel_left, Nat.add_sub_cancel, Nat.reduceLT, Nat.reduceLeDiff, ite_true, ite_false, if_true, if_false, not_true_eq_false, not_false_eq_true, Bool.and_true, Bool.true_and, true_or, or_true, false_or, or_false, and_true, true_and, and_false, false_and, Nat.not_lt_zero, ↓(fun z0 => am_bi_of (k2 z0)), ↓(am_bi_of e1), ↓(am_bi_of e2), ↓(am_bv_of e3), m10]
/-- one event -/
theorem ev_143 (hI : LawI xl D h) {s : Nat} (hs : s < 13) : ∃ y8 y11 y12 y13 v14 v15 v16 h', LawI xl D h' ∧ am_ev m_law (143, [.ref 0, .ref 1, .ref 192, .ref 193, .ref 194, .ref 195, .ref 196, .int x7, .int x8, .int x9, .int (nI s), u11, u12, u13, u14, u15, u16], [], h) = am_ev m_law (804, [.ref 0, .ref 1, .ref 192, .ref 193, .ref 194, .ref 195, .ref 196, .int x7, .int y8, .int x9, .int (nI s), .int y11, .int y12, .int y13, v14, v15, v16], [], h') := by
  obtain ⟨r, tx, u, nB, nl, nb, nx, hR, hn, hk⟩ := hI
  have hB := bands3 hR hk
  have hlen := R_len hR
  have c0 := R_cx hR (m := m_Pa_count) (xs := [.int (nI 0)]) (fun A F P hC => k_count0 hC)
  have c1 := R_cx hR (m := m_Pa_count) (xs := [.int (nI 1)]) (fun A F P hC => k_count1 hC)
  have c2 := R_count2 hR
  obtain ⟨l, l1, l2⟩ := s_low (x8 >>> ((nI 4) &&& 31)) (n := nl) (by omega) (by omega)
  obtain ⟨b, b1, b2⟩ := s_low ((x8 >>> ((nI 4) &&& 31)) >>> ((nI 4) &&& 31)) (n := nb) (by omega) (by omega)
  by_cases c : s = 0
  · subst c
    by_cases d : 6 ≤ nl
    · refine ⟨(x8 >>> ((nI 4) &&& 31)), nI l, nI b, nI nx, .int (nI nl), u15, u16, h, ⟨r, tx, u, nB, nl, nb, nx, hR, hn, hk⟩, ?_⟩
      rw [b_law_143]
      simp (maxSteps := 1000000) (disch := (first | omega | (simp (disch := omega) only [up_eq, up_ne, List.length_set] <;> omega) | fail)) only [↓bif_d, nI_addS, nI_mulS, nI_subS, nI_lt', nI_le', nI_eq', up_eq, up_ne, up_up, up_sw, List.set_set, g_seq, g_sne, Nat.reduceEqDiff, ↓reduceIte, List.length_set, Nat.add_sub_cancel_left, Nat.add_sub_cancel, Nat.reduceLT, Nat.reduceLeDiff, ite_true, ite_false, if_true, if_false, not_true_eq_false, not_false_eq_true, Bool.and_true, Bool.true_and, true_or, or_true, false_or, or_false, and_true, true_and, and_false, false_and, Nat.not_lt_zero, ↓(am_bi_of c0), ↓(fun z0 => am_bi_of (l2 z0)), ↓(am_bi_of c1), ↓(fun z0 => am_bi_of (b2 z0)), ↓(am_bi_of c2), d, ↓b_law_235]
    · obtain ⟨i, i1, i2⟩ := s_low (x8 >>> ((nI 4) &&& 31)) (n := 5) (by omega) (by omega)
      obtain ⟨j, j1, j2⟩ := s_low x9 (n := 60) (by omega) (by omega)
      obtain ⟨k, k1, k2⟩ := s_low (x9 >>> ((nI 8) &&& 31)) (n := 90) (by omega) (by omega)
      obtain ⟨h', e, R'⟩ := R_act hR (m := m_Pa_addLot) (xs := [.int (nI i), .int (nI j), .int (nI k)]) (fun A F P q t hI hr => by
        have := k_addLot hI (nI i) (nI j) (nI k) (rgN (by omega) (by omega) (by omega)) (rgN (by omega) (by omega) (by omega)) (rgN (by omega) (by omega) (by omega)) (by omega)
        rw [hr] at this
        exact this)
      refine ⟨(x8 >>> ((nI 4) &&& 31)), nI l, nI b, nI nx, .int (nI nl), u15, u16, h', ⟨_, tx, _, nB, nl + 1, nb, nx, R', by omega, fun l' hl' => ?_, fun m hm => ?_⟩, ?_⟩
      · rw [g_sn (by omega), g_sn (by omega), g_sn (by omega), g_sn (by omega)]
        by_cases z : l' = nl
        · rw [z, g_seq (by omega)]; exact ⟨i, i1, rfl⟩
        · rw [g_sn (by omega)]; exact hk.1 l' (by omega)
      · rw [g_sn (by omega), g_sn (by omega), g_sn (by omega), g_sn (by omega), g_sn (by omega)]
        exact hk.2 m hm
      · rw [b_law_143]
        simp (maxSteps := 1000000) (disch := (first | omega | (simp (disch := omega) only [up_eq, up_ne, List.length_set] <;> omega) | fail)) only [↓bif_d, nI_addS, nI_mulS, nI_subS, nI_lt', nI_le', nI_eq', up_eq, up_ne, up_up, up_sw, List.set_set, g_seq, g_sne, Nat.reduceEqDiff, ↓reduceIte, List.length_set, Nat.add_sub_cancel_left, Nat.add_sub_cancel, Nat.reduceLT, Nat.reduceLeDiff, ite_true, ite_false, if_true, if_false, not_true_eq_false, not_false_eq_true, Bool.and_true, Bool.true_and, true_or, or_true, false_or, or_false, and_true, true_and, and_false, false_and, Nat.not_lt_zero, ↓(am_bi_of c0), ↓(fun z0 => am_bi_of (l2 z0)), ↓(am_bi_of c1), ↓(fun z0 => am_bi_of (b2 z0)), ↓(am_bi_of c2), ↓(fun z0 => am_bi_of (i2 z0)), ↓(fun z0 => am_bi_of (j2 z0)), ↓(fun z0 => am_bi_of (k2 z0)), ↓(am_bi_of e), d, ↓b_law_235]
  · obtain ⟨v14, v15, v16, h', q1, q2⟩ := ev_238 (x7 := x7) (x8 := (x8 >>> ((nI 4) &&& 31))) (x9 := x9) (u14 := u14) (u15 := u15) (u16 := u16) hs c hR hn hk l1 b1
    refine ⟨(x8 >>> ((nI 4) &&& 31)), nI l, nI b, nI nx, v14, v15, v16, h', q2, ?_⟩
    refine Eq.trans ?_ q1
    rw [b_law_143]
    simp (maxSteps := 1000000) (disch := (first | omega | (simp (disch := omega) only [up_eq, up_ne, List.length_set] <;> omega) | fail)) only [↓bif_d, nI_addS, nI_mulS, nI_subS, nI_lt', nI_le', nI_eq', up_eq, up_ne, up_up, up_sw, List.set_set, g_seq, g_sne, Nat.reduceEqDiff, ↓reduceIte, List.length_set, Nat.add_sub_cancel_left, Nat.add_sub_cancel, Nat.reduceLT, Nat.reduceLeDiff, ite_true, ite_false, if_true, if_false, not_true_eq_false, not_false_eq_true, Bool.and_true, Bool.true_and, true_or, or_true, false_or, or_false, and_true, true_and, and_false, false_and, Nat.not_lt_zero, ↓(am_bi_of c0), ↓(fun z0 => am_bi_of (l2 z0)), ↓(am_bi_of c1), ↓(fun z0 => am_bi_of (b2 z0)), ↓(am_bi_of c2), c]
theorem law_loop (hxl : xl.length ≤ 260) : ∀ n e D h (u8 u9 u10 u11 u12 u13 u14 u15 u16 : Value), e + n = 26 → LawI xl D h → DL D → ∃ D' h', LawI xl D' h' ∧ DL D' ∧ am_ev m_law (95, [.ref 0, .ref 1, .ref 192, .ref 193, .ref 194, .ref 195, .ref 196, .int (nI e), u8, u9, u10, u11, u12, u13, u14, u15, u16], [], h) = some (some (.int (nI 1)), h') := by
  intro n
  induction n with
  | zero =>
    intro e D h u8 u9 u10 u11 u12 u13 u14 u15 u16 he hI hD
    obtain ⟨r, tx, u, nB, nl, nb, nx, hR, hn, hk⟩ := id hI
    have e1 := l_errors hR (by omega) (by omega) hk.2
    have hle : 26 ≤ e := by omega
    have hbz : am_bz (nI 1) = some (nI 1) := rfl
    refine ⟨D, h, hI, hD, ?_⟩
    rw [b_law_95]
    simp (maxSteps := 1000000) (disch := (first | omega | (simp (disch := omega) only [up_eq, up_ne, List.length_set] <;> omega) | fail)) only [↓bif_d, nI_addS, nI_mulS, nI_subS, nI_lt', nI_le', nI_eq', up_eq, up_ne, up_up, up_sw, List.set_set, g_seq, g_sne, Nat.reduceEqDiff, ↓reduceIte, List.length_set, Nat.add_sub_cancel_left, Nat.add_sub_cancel, Nat.reduceLT, Nat.reduceLeDiff, ite_true, ite_false, if_true, if_false, not_true_eq_false, not_false_eq_true, Bool.and_true, Bool.true_and, true_or, or_true, false_or, or_false, and_true, true_and, and_false, false_and, Nat.not_lt_zero, ↓(am_bi_of e1), hle, hbz, ob_s]
  | succ n ih =>
    intro e D h u8 u9 u10 u11 u12 u13 u14 u15 u16 he hI hD
    obtain ⟨r, tx, u, nB, nl, nb, nx, hR, hn, hk⟩ := id hI
    have hle : ¬ 26 ≤ e := by omega
    obtain ⟨v, e1⟩ := R_cell hR hxl (k := 2 * e) (by omega)
    obtain ⟨w, e2⟩ := R_cell hR hxl (k := 2 * e + 1) (by omega)
    rw [← nI_addS, ← nI_mulS] at e2
    rw [← nI_mulS] at e1
    obtain ⟨s, s1, s2⟩ : ∃ s, s < 13 ∧ am_ev m_law (95, [.ref 0, .ref 1, .ref 192, .ref 193, .ref 194, .ref 195, .ref 196, .int (nI e), u8, u9, u10, u11, u12, u13, u14, u15, u16], [], h) = am_ev m_law (143, [.ref 0, .ref 1, .ref 192, .ref 193, .ref 194, .ref 195, .ref 196, .int (nI e), .int v, .int w, .int (nI s), u11, u12, u13, u14, u15, u16], [], h) := by
      by_cases c : 4 ≤ e
      · obtain ⟨k, k1, k2⟩ := s_low v (n := 13) (by omega) (by omega)
        refine ⟨k, k1, ?_⟩
        rw [b_law_95]
        simp (maxSteps := 1000000) (disch := (first | omega | (simp (disch := omega) only [up_eq, up_ne, List.length_set] <;> omega) | fail)) only [↓bif_d, nI_addS, nI_mulS, nI_subS, nI_lt', nI_le', nI_eq', up_eq, up_ne, up_up, up_sw, List.set_set, g_seq, g_sne, Nat.reduceEqDiff, ↓reduceIte, List.length_set, Nat.add_sub_cancel_left, Nat.add_sub_cancel, Nat.reduceLT, Nat.reduceLeDiff, ite_true, ite_false, if_true, if_false, not_true_eq_false, not_false_eq_true, Bool.and_true, Bool.true_and, true_or, or_true, false_or, or_false, and_true, true_and, and_false, false_and, Nat.not_lt_zero, ↓(am_bi_of e1), ↓(am_bi_of e2), ↓(fun z0 => am_bi_of (k2 z0)), hle, c]
      · refine ⟨4, by omega, ?_⟩
        rw [b_law_95]
        simp (maxSteps := 1000000) (disch := (first | omega | (simp (disch := omega) only [up_eq, up_ne, List.length_set] <;> omega) | fail)) only [↓bif_d, nI_addS, nI_mulS, nI_subS, nI_lt', nI_le', nI_eq', up_eq, up_ne, up_up, up_sw, List.set_set, g_seq, g_sne, Nat.reduceEqDiff, ↓reduceIte, List.length_set, Nat.add_sub_cancel_left, Nat.add_sub_cancel, Nat.reduceLT, Nat.reduceLeDiff, ite_true, ite_false, if_true, if_false, not_true_eq_false, not_false_eq_true, Bool.and_true, Bool.true_and, true_or, or_true, false_or, or_false, and_true, true_and, and_false, false_and, Nat.not_lt_zero, ↓(am_bi_of e1), ↓(am_bi_of e2), hle, c]
    obtain ⟨y8, y11, y12, y13, v14, v15, v16, h1, hI1, q1⟩ := ev_143 (x7 := nI e) (x8 := v) (x9 := w) (u11 := u11) (u12 := u12) (u13 := u13) (u14 := u14) (u15 := u15) (u16 := u16) hI s1
    obtain ⟨D', h2, w14, hD', hI2, q2⟩ := ev_804 (x7 := nI e) (x8 := y8) (x9 := w) (x10 := nI s) (x11 := y11) (x12 := y12) (x13 := y13) (u14 := v14) (u15 := v15) (u16 := v16) hI1 hD
    obtain ⟨D'', h3, hI3, hD3, q3⟩ := ih (e + 1) D' h2 _ _ _ _ _ _ _ _ _ (by omega) hI2 hD'
    refine ⟨D'', h3, hI3, hD3, ?_⟩
    rw [s2, q1, q2, nI_addS, q3]
end V
