/-! THE LAW'S LETTERS -/
section R
variable {xl : List Int32} {D : Nat → List Int32} {r tx : List Int32} {u : Option (List Int32)} {nB nl nb nx : Nat} {h : am_H}
theorem R_grp (hR : Rs xl D r tx u nB nl nb nx h) : ∀ y, y < nx → ∃ k, k ≤ 1200000 ∧ g r (348 + y) = nI k := by
  intro y hy
  obtain ⟨A, F, P, q, t, rfl, hI, hr, -⟩ := hR
  have hnx : nx ≤ 60 := hI.1.1.2.2.2.2.2.2.2.2.2
  obtain ⟨k, z1, z2, z3⟩ := (hI.1.2.2.2.2.2.1 y hy).2.2.2.2.2.2.2.2.2.2.1
  rw [hr] at z3
  exact ⟨k, by omega, z3⟩
/-- the greatest group of a bidder -/
theorem l_grp (hR : Rs xl D r tx u nB nl nb nx h) {b : Nat} (hb : b < nb) (x2 x3 : Int32) : ∀ n x m h, Rs xl D r tx u nB nl nb nx h → x + n = nx → MaxOf (fun y => y < x ∧ g r (168 + y) = nI b) (fun y => g r (348 + y)) 0 m → ∃ m' h', Rs xl D r tx u nB nl nb nx h' ∧ MaxOf (fun y => y < nx ∧ g r (168 + y) = nI b) (fun y => g r (348 + y)) 0 m' ∧ am_ev m_L_letters (13, [.ref 1, .int (nI b), .int x2, .int x3, .int (nI nx), .int (nI m), .int (nI x), .float 0, .float 0, .float 0], [], h) = am_ev m_L_letters (63, [.ref 1, .int (nI b), .int x2, .int x3, .int (nI nx), .int (nI m'), .int (nI nx), .float 0, .float 0, .float 0], [], h') := by
  obtain ⟨A0, F0, hC⟩ := Rs_cx hR
  have hM := hC.1
  have hnx : nx ≤ 60 := hM.1.2.2.2.2.2.2.2.2.2
  have hnb : nb ≤ 8 := hM.1.2.2.2.2.2.2.2.2.1
  have hgr := R_grp hR
  obtain ⟨L, B, Fi, Se, Mn, Bu, Pr, hS⟩ := Rs_sv hR
  clear hR
  intro n
  induction n with
  | zero =>
    intro x m h hR hx hm
    have e : x = nx := by omega
    subst e
    refine ⟨m, h, hR, hm, ?_⟩
    have hle : x ≤ x := Nat.le_refl _
    rw [b_L_letters_13]
    simp (maxSteps := 1000000) (disch := (first | omega | (simp (disch := omega) only [up_eq, up_ne, List.length_set] <;> omega) | fail)) only [↓bif_d, nI_addS, nI_mulS, nI_subS, nI_lt', nI_le', nI_eq', up_eq, up_ne, up_up, up_sw, List.set_set, g_seq, g_sne, Nat.reduceEqDiff, ↓reduceIte, List.length_set, Nat.add_sub_cancel_left, Nat.add_sub_cancel, Nat.reduceLT, Nat.reduceLeDiff, ite_true, ite_false, if_true, if_false, not_true_eq_false, not_false_eq_true, Bool.and_true, Bool.true_and, true_or, or_true, false_or, or_false, and_true, true_and, and_false, false_and, Nat.not_lt_zero, hle]
  | succ n ih =>
    intro x m h hR hx hm
    have hxn : x < nx := by omega
    have hle : ¬ nx ≤ x := by omega
    have hm12 := hm.1
    obtain ⟨h1, e1, R1⟩ := R_qr hR hS (m := m_Pa_bidOf) (xs := [.int (nI x), .int (nI 1)]) (fun A F P A' F' hq => k_bidOf1 hq hxn)
    obtain ⟨-, hby, hbg⟩ := hM.2.2 x hxn
    by_cases c : byN r x = b
    · have hc : g r (168 + x) = nI b := by rw [hbg, c]
      obtain ⟨k, k1, k2⟩ := hgr x hxn
      obtain ⟨h2, e2, R2⟩ := R_qr R1 hS (m := m_Pa_bidOf) (xs := [.int (nI x), .int (nI 4)]) (fun A F P A' F' hq => k_bidOf4 hq hxn)
      obtain ⟨h3, e3, R3⟩ := R_qr R2 hS (m := m_Pa_bidOf) (xs := [.int (nI x), .int (nI 4)]) (fun A F P A' F' hq => k_bidOf4 hq hxn)
      rw [k2] at e2 e3
      have hst := MaxOf_step (S' := fun y => y < x + 1 ∧ g r (168 + y) = nI b) hm k1 k2 (fun z => ⟨fun ⟨z1, z2⟩ => by
        by_cases d : z = x
        · exact Or.inr d
        · exact Or.inl ⟨by omega, z2⟩, fun w => w.elim (fun w => ⟨by omega, w.2⟩) (fun w => by rw [w]; exact ⟨by omega, hc⟩)⟩)
      rw [b_L_letters_13]
      by_cases d : k ≤ m
      · rw [if_neg (by omega)] at hst
        obtain ⟨m', h', q1, q2, q3⟩ := ih (x + 1) m h2 R2 (by omega) hst
        refine ⟨m', h', q1, q2, ?_⟩
        rw [← q3]
        simp (maxSteps := 1000000) (disch := (first | omega | (simp (disch := omega) only [up_eq, up_ne, List.length_set] <;> omega) | fail)) only [↓bif_d, nI_addS, nI_mulS, nI_subS, nI_lt', nI_le', nI_eq', up_eq, up_ne, up_up, up_sw, List.set_set, g_seq, g_sne, Nat.reduceEqDiff, ↓reduceIte, List.length_set, Nat.add_sub_cancel_left, Nat.add_sub_cancel, Nat.reduceLT, Nat.reduceLeDiff, ite_true, ite_false, if_true, if_false, not_true_eq_false, not_false_eq_true, Bool.and_true, Bool.true_and, true_or, or_true, false_or, or_false, and_true, true_and, and_false, false_and, Nat.not_lt_zero, ↓(am_bi_of e1), ↓(am_bi_of e2), hle, c, d]
      · rw [if_pos (by omega)] at hst
        obtain ⟨m', h', q1, q2, q3⟩ := ih (x + 1) k h3 R3 (by omega) hst
        refine ⟨m', h', q1, q2, ?_⟩
        rw [← q3]
        simp (maxSteps := 1000000) (disch := (first | omega | (simp (disch := omega) only [up_eq, up_ne, List.length_set] <;> omega) | fail)) only [↓bif_d, nI_addS, nI_mulS, nI_subS, nI_lt', nI_le', nI_eq', up_eq, up_ne, up_up, up_sw, List.set_set, g_seq, g_sne, Nat.reduceEqDiff, ↓reduceIte, List.length_set, Nat.add_sub_cancel_left, Nat.add_sub_cancel, Nat.reduceLT, Nat.reduceLeDiff, ite_true, ite_false, if_true, if_false, not_true_eq_false, not_false_eq_true, Bool.and_true, Bool.true_and, true_or, or_true, false_or, or_false, and_true, true_and, and_false, false_and, Nat.not_lt_zero, ↓(am_bi_of e1), ↓(am_bi_of e2), ↓(am_bi_of e3), hle, c, d]
    · have hc : ¬ g r (168 + x) = nI b := by rw [hbg, nI_eq' (by omega) (by omega)]; exact c
      obtain ⟨m', h', q1, q2, q3⟩ := ih (x + 1) m h1 R1 (by omega) (MaxOf_c hm (fun z => ⟨fun ⟨z1, z2⟩ => ⟨by omega, z2⟩, fun ⟨z1, z2⟩ => by
        by_cases d : z = x
        · rw [d] at z2; exact absurd z2 hc
        · exact ⟨by omega, z2⟩⟩))
      refine ⟨m', h', q1, q2, ?_⟩
      rw [b_L_letters_13, ← q3]
      simp (maxSteps := 1000000) (disch := (first | omega | (simp (disch := omega) only [up_eq, up_ne, List.length_set] <;> omega) | fail)) only [↓bif_d, nI_addS, nI_mulS, nI_subS, nI_lt', nI_le', nI_eq', up_eq, up_ne, up_up, up_sw, List.set_set, g_seq, g_sne, Nat.reduceEqDiff, ↓reduceIte, List.length_set, Nat.add_sub_cancel_left, Nat.add_sub_cancel, Nat.reduceLT, Nat.reduceLeDiff, ite_true, ite_false, if_true, if_false, not_true_eq_false, not_false_eq_true, Bool.and_true, Bool.true_and, true_or, or_true, false_or, or_false, and_true, true_and, and_false, false_and, Nat.not_lt_zero, ↓(am_bi_of e1), hle, c]
/-- a character more -/
theorem R_typ (hR : Rs xl D r tx u nB nl nb nx h) {c n : Nat} {tx' : List Int32} (hc : vp_nar .char (nI c) = nI c) (hn : tx.length = n) (h80 : n < 80) (e : tx ++ [nI c] = tx') : ∃ h', am_cl m_Pa_type [.ref 1, .int (nI c)] h = some (some (.int (nI (n + 1))), h') ∧ Rs xl D r tx' u nB nl nb nx h' := by
  obtain ⟨h', e1, R1⟩ := R_type hR (nI c) (by omega)
  rw [hc, e] at R1
  rw [hn] at e1
  exact ⟨h', e1, R1⟩
theorem put_c {l : Nat} (hl : l ≤ 9) : vp_nar .char (UInt32.toInt32 (Int32.toUInt32 ((nI 48) + (nI l - nI l / (nI 10) * (nI 10))) % 65536)) = nI (48 + l) := by
  have : l = 0 ∨ l = 1 ∨ l = 2 ∨ l = 3 ∨ l = 4 ∨ l = 5 ∨ l = 6 ∨ l = 7 ∨ l = 8 ∨ l = 9 := by omega
  rcases this with w | w | w | w | w | w | w | w | w | w <;> subst w <;> decide
theorem R_put (hR : Rs xl D r tx u nB nl nb nx h) {l n : Nat} {tx' : List Int32} (hl : l ≤ 9) (hn : tx.length = n) (h80 : n < 80) (e : tx ++ [nI (48 + l)] = tx') : ∃ h', am_cl m_L_put [.ref 1, .int (nI l)] h = some (some (.int (nI (n + 1))), h') ∧ Rs xl D r tx' u nB nl nb nx h' := by
  obtain ⟨h', e1, R1⟩ := R_type hR (UInt32.toInt32 (Int32.toUInt32 ((nI 48) + (nI l - nI l / (nI 10) * (nI 10))) % 65536)) (by omega)
  rw [put_c hl, e] at R1
  rw [hn] at e1
  refine ⟨h', ?_, R1⟩
  rw [e_L_put]
  simp (maxSteps := 1000000) (disch := (first | omega | (simp (disch := omega) only [up_eq, up_ne, List.length_set] <;> omega) | fail)) only [↓bif_d, nI_addS, nI_mulS, nI_subS, nI_lt', nI_le', nI_eq', up_eq, up_ne, up_up, up_sw, List.set_set, g_seq, g_sne, Nat.reduceEqDiff, ↓reduceIte, List.length_set, Nat.add_sub_cancel_left, Nat.add_sub_cancel, Nat.reduceLT, Nat.reduceLeDiff, ite_true, ite_false, if_true, if_false, not_true_eq_false, not_false_eq_true, Bool.and_true, Bool.true_and, true_or, or_true, false_or, or_false, and_true, true_and, and_false, false_and, Nat.not_lt_zero, ↓(am_bi_of e1), hl]
/-- a letter with a fault -/
theorem R_letf (hR : Rs xl D r tx u nB nl nb nx h) {b f : Nat} {v : Int32} (hb : b < nb) (g1 : ¬ (v < nI 0 ∨ nI 100000 < v)) (hf : f ≤ 80) (hrd : ∀ (A : Nat → List Int32) (F : Nat → Int32) (P : Nat → Nat) (u3 u4 u5 : Value), CL A F (g tx) tx.length → F 18405 = nI 0 → F 18406 = nI 0 → F 18407 = nI 0 → F 18408 = nI 0 → F 18409 = nI 0 → ∃ A' F', LfA A A' ∧ L3 A' ∧ LfF F F' ∧ am_ev m_Letter_read (21, [.ref 184, .int (nI nl), .int (nI 0), u3, u4, u5], [], heap A F P) = some (some (.int (nI f)), heap A' F' P)) : ∃ h', am_cl m_Pa_letter [.ref 1, .int (nI b), .int v] h = some (some (.int (-nI 100 - nI f)), h') ∧ Rs xl D r tx u nB nl nb nx h' := by
  obtain ⟨A, F, P, q, t, rfl, hI, hr, hx, ht, hT, hu⟩ := hR
  obtain ⟨A1, F1, e, I1, o1⟩ := k_letf (InvN_ad hI D) (T := g tx) (fun j hj => by rw [ad_lo (by omega)]; exact hT j hj) hb g1 hf (fun A F u3 u4 u5 hc => hrd A F P u3 u4 u5 (by rw [← ht]; exact hc))
  have eA := ad_of (fun j hj => o1 j (by omega) (by omega) (by omega))
  refine ⟨_, e, A1, F1, P, q, t, congrArg (fun a => heap a F1 P) eA, I1, ?_, ?_, ht, fun j hj => ?_, fun r0 h0 => ?_⟩
  · rw [o1 193 (by omega) (by omega) (by omega), ad_lo (by omega)]; exact hr
  · rw [o1 0 (by omega) (by omega) (by omega), ad_lo (by omega)]; exact hx
  · rw [o1 195 (by omega) (by omega) (by omega), ad_lo (by omega)]; exact hT j hj
  · rw [o1 194 (by omega) (by omega) (by omega), ad_lo (by omega)]; exact hu r0 h0
theorem R_let3 (hR : Rs xl D r tx u nB nl nb nx h) {b l o G : Nat} {v : Int32} (hb : b < nb) (hl : l < nl) (ho : o < nl) (hl9 : l ≤ 9) (ho9 : o ≤ 9) (g1 : ¬ (v < nI 0 ∨ nI 100000 < v)) (hx : nx + 3 ≤ 60) (ht : tx.length = 12) (h3 : Tx3 (g tx) l o) (hG : MaxOf (fun y => y < nx ∧ g r (168 + y) = nI b) (fun y => g r (348 + y)) 0 G) : ∃ h', am_cl m_Pa_letter [.ref 1, .int (nI b), .int v] h = some (some (.int (nI 3)), h') ∧ Rs xl D (tRow r nx l o b G v) tx (some r) nB nl nb (nx + 3) h' := by
  obtain ⟨A, F, P, q, t, rfl, hI, hr, hx0, ht0, hT, hu⟩ := hR
  have hr' : ad A D 193 = r := (ad_lo (by omega)).trans hr
  obtain ⟨A1, F1, P1, e, I1, r1, s1, x1, z1, o1⟩ := k_let3 (InvN_ad hI D) (T := g tx) (fun j hj => by rw [ad_lo (by omega)]; exact hT j hj) hb hl ho hl9 ho9 g1 hx (ht0.trans ht) h3 (by rw [hr']; exact hG)
  rw [hr'] at r1
  rw [ad_lo (by omega)] at s1 x1 z1
  have eA := ad_of o1
  refine ⟨_, e, A1, F1, P1, kp q + 1, t, congrArg (fun a => heap a F1 P1) eA, I1, r1, z1.trans hx0, ht0, fun j hj => by rw [x1]; exact hT j hj, fun r0 h0 => ⟨kp q, rfl, ?_⟩⟩
  cases h0
  rw [s1, hr]
theorem l_letters (hR : Rs xl D r tx u nB nl nb nx h) {b l o : Nat} (hb : b < nb) (hl : l < nl) (ho : o < nl) (hl9 : l ≤ 9) (ho9 : o ≤ 9) (hx : nx + 3 ≤ 60) : ∃ tx' h', am_cl m_L_letters [.ref 1, .int (nI b), .int (nI l), .int (nI o)] h = some (some (.int (nI 1)), h') ∧ Rs xl D r tx' none nB nl nb nx h' := by
  classical
  have hok := R_ok hR
  have hnl20 : nl ≤ 20 := hok.2.2.2.2.2.2.2.1
  have hnb8 : nb ≤ 8 := hok.2.2.2.2.2.2.2.2.1
  have c2 := R_count2 hR
  obtain ⟨G, h0, R0, hG, e0⟩ := l_grp hR hb (nI l) (nI o) nx 0 0 h hR (Nat.zero_add _) (MaxOf_none (fun y hy => Nat.not_lt_zero _ hy.1))
  -- the empty text, faulty calls
  obtain ⟨h1, e1, R1⟩ := R_clear R0
  obtain ⟨h2, e2, R2⟩ := R_letf R1 hb (v := nI 0) (f := 0) (by decide) (by omega) (fun A F P u3 u4 u5 hc f5 f6 f7 f8 f9 => by
    obtain ⟨x1, -⟩ := c_alt (P := P) hc (Nat.zero_le _) (fun _ => by omega) hnl20 f5 f6 f7 f8 f9 u3 u4 u5
    obtain ⟨A', F', q1, q2, q3, q4⟩ := x1 0 (altR_f0 rfl)
    exact ⟨A', F', q1, q3, q2, q4⟩)
  have e2 : am_cl m_Pa_letter [.ref 1, .int (nI b), .int (nI 0)] h1 = some (some (.int (-nI 100)), h2) := e2
  have e3 := R_cx R2 (m := m_Pa_letter) (xs := [.int (nI b), .int (-nI 1)]) (fun A F P hC => k_let_e1 hC _ _ ⟨b, hb, rfl⟩ (Or.inl (by decide)))
  have e4 := R_cx R2 (m := m_Pa_letter) (xs := [.int (nI 8), .int (nI 0)]) (fun A F P hC => k_let_e0 hC _ _ (by rintro ⟨k, z1, z2⟩; rw [nI_eq' (by omega) (by omega)] at z2; omega))
  -- the lot alone
  obtain ⟨h5, e5, R5⟩ := R_put R2 hl9 (n := 0) rfl (by omega) (tx' := [nI (48 + l)]) rfl
  obtain ⟨h6, e6, R6⟩ := R_letf R5 hb (v := nI 0) (f := 1) (by decide) (by omega) (fun A F P u3 u4 u5 hc f5 f6 f7 f8 f9 => by
    obtain ⟨x1, -⟩ := c_alt (P := P) hc (Nat.zero_le _) (fun _ => by omega) hnl20 f5 f6 f7 f8 f9 u3 u4 u5
    obtain ⟨A', F', q1, q2, q3, q4⟩ := x1 1 (altR_f1 (l := l) rfl rfl hl9 hl)
    exact ⟨A', F', q1, q3, q2, q4⟩)
  -- the whole text
  obtain ⟨h7, e7, R7⟩ := R_typ R6 (c := 61) (n := 1) (by decide) rfl (by omega) (tx' := [nI (48 + l), nI 61]) rfl
  obtain ⟨h8, e8, R8⟩ := R_typ R7 (c := 55) (n := 2) (by decide) rfl (by omega) (tx' := [nI (48 + l), nI 61, nI 55]) rfl
  obtain ⟨h9, e9, R9⟩ := R_typ R8 (c := 47) (n := 3) (by decide) rfl (by omega) (tx' := [nI (48 + l), nI 61, nI 55, nI 47]) rfl
  obtain ⟨h10, e10, R10⟩ := R_put R9 ho9 (n := 4) rfl (by omega) (tx' := [nI (48 + l), nI 61, nI 55, nI 47, nI (48 + o)]) rfl
  obtain ⟨h11, e11, R11⟩ := R_typ R10 (c := 61) (n := 5) (by decide) rfl (by omega) (tx' := [nI (48 + l), nI 61, nI 55, nI 47, nI (48 + o), nI 61]) rfl
  obtain ⟨h12, e12, R12⟩ := R_typ R11 (c := 51) (n := 6) (by decide) rfl (by omega) (tx' := [nI (48 + l), nI 61, nI 55, nI 47, nI (48 + o), nI 61, nI 51]) rfl
  obtain ⟨h13, e13, R13⟩ := R_typ R12 (c := 48) (n := 7) (by decide) rfl (by omega) (tx' := [nI (48 + l), nI 61, nI 55, nI 47, nI (48 + o), nI 61, nI 51, nI 48]) rfl
  obtain ⟨h14, e14, R14⟩ := R_typ R13 (c := 44) (n := 8) (by decide) rfl (by omega) (tx' := [nI (48 + l), nI 61, nI 55, nI 47, nI (48 + o), nI 61, nI 51, nI 48, nI 44]) rfl
  obtain ⟨h15, e15, R15⟩ := R_put R14 hl9 (n := 9) rfl (by omega) (tx' := [nI (48 + l), nI 61, nI 55, nI 47, nI (48 + o), nI 61, nI 51, nI 48, nI 44, nI (48 + l)]) rfl
  obtain ⟨h16, e16, R16⟩ := R_typ R15 (c := 61) (n := 10) (by decide) rfl (by omega) (tx' := [nI (48 + l), nI 61, nI 55, nI 47, nI (48 + o), nI 61, nI 51, nI 48, nI 44, nI (48 + l), nI 61]) rfl
  obtain ⟨h17, e17, R17⟩ := R_typ R16 (c := 57) (n := 11) (by decide) rfl (by omega) (tx' := [nI (48 + l), nI 61, nI 55, nI 47, nI (48 + o), nI 61, nI 51, nI 48, nI 44, nI (48 + l), nI 61, nI 57]) rfl
  obtain ⟨h18, e18, R18⟩ := R_let3 R17 hb hl ho hl9 ho9 (v := nI 40) (by decide) hx rfl ⟨rfl, rfl, rfl, rfl, rfl, rfl, rfl, rfl, rfl, rfl, rfl, rfl⟩ hG
  have c3 := R_count2 R18
  -- the bids
  obtain ⟨w0, w1, w2, -⟩ := tRow_at (l := l) (o := o) (b := b) (G := G) (v := nI 40) hok.1 hx
  obtain ⟨L, B, Fi, Se, Mn, Bu, Pr, hS⟩ := Rs_sv R18
  have n0 : lotN (tRow r nx l o b G (nI 40)) nx = l := by unfold lotN; rw [show 108 + nx = 108 + (nx + 0) from rfl, w0.1, nI_clamp (by omega)]
  have n1 : lotN (tRow r nx l o b G (nI 40)) (nx + 1) = o := by unfold lotN; rw [w1.1, nI_clamp (by omega)]
  generalize tRow r nx l o b G (nI 40) = r' at R18 w0 w1 w2 hS n0 n1
  obtain ⟨i1, j1, S1⟩ := R_qr R18 hS (m := m_Pa_bidOf) (xs := [.int (nI nx), .int (nI 0)]) (fun A F P A' F' hq => k_bidOf0 hq (by omega))
  obtain ⟨i2, j2, S2⟩ := R_qr S1 hS (m := m_Pa_bidOf) (xs := [.int (nI nx), .int (nI 2)]) (fun A F P A' F' hq => k_bidOf2 hq (by omega))
  obtain ⟨i3, j3, S3⟩ := R_qr S2 hS (m := m_Pa_bidOf) (xs := [.int (nI nx), .int (nI 4)]) (fun A F P A' F' hq => k_bidOf4 hq (by omega))
  obtain ⟨i4, j4, S4⟩ := R_qr S3 hS (m := m_Pa_bidOf) (xs := [.int (nI (nx + 1)), .int (nI 0)]) (fun A F P A' F' hq => k_bidOf0 hq (by omega))
  obtain ⟨i5, j5, S5⟩ := R_qr S4 hS (m := m_Pa_bidOf) (xs := [.int (nI (nx + 1)), .int (nI 2)]) (fun A F P A' F' hq => k_bidOf2 hq (by omega))
  obtain ⟨i6, j6, S6⟩ := R_qr S5 hS (m := m_Pa_bidOf) (xs := [.int (nI (nx + 1)), .int (nI 4)]) (fun A F P A' F' hq => k_bidOf4 hq (by omega))
  obtain ⟨i7, j7, S7⟩ := R_qr S6 hS (m := m_Pa_bidOf) (xs := [.int (nI (nx + 2)), .int (nI 4)]) (fun A F P A' F' hq => k_bidOf4 hq (by omega))
  obtain ⟨i8, j8, S8⟩ := R_qr S7 hS (m := m_Pa_bidOf) (xs := [.int (nI (nx + 2)), .int (nI 3)]) (fun A F P A' F' hq => k_bidOf3 hq (by omega))
  rw [n0] at j1
  rw [show 228 + nx = 228 + (nx + 0) from rfl, w0.2.2.1] at j2
  rw [show 348 + nx = 348 + (nx + 0) from rfl, w0.2.2.2.2.1] at j3
  rw [n1, ← nI_addS] at j4
  rw [w1.2.2.1, ← nI_addS] at j5
  rw [w1.2.2.2.2.1, ← nI_addS nx] at j6
  rw [w2.2.2.2.2.1, ← nI_addS] at j7
  rw [w2.2.2.2.1, ← nI_addS] at j8
  -- one character too many
  obtain ⟨h19, e19, R19⟩ := R_typ S8 (c := 120) (n := 12) (by decide) rfl (by omega) (tx' := [nI (48 + l), nI 61, nI 55, nI 47, nI (48 + o), nI 61, nI 51, nI 48, nI 44, nI (48 + l), nI 61, nI 57, nI 120]) rfl
  obtain ⟨h20, e20, R20⟩ := R_letf R19 hb (v := nI 0) (f := 12) (by decide) (by omega) (fun A F P u3 u4 u5 hc f5 f6 f7 f8 f9 => by
    obtain ⟨-, x2⟩ := read3 (P := P) hc hnl20 (l := l) (o := o) ⟨rfl, rfl, rfl, rfl, rfl, rfl, rfl, rfl, rfl, rfl, rfl, rfl⟩ hl9 ho9 hl ho (ndg (c := 120) rfl (by omega)) (show 12 ≤ 13 by omega) f5 f6 f7 f8 f9 u3 u4 u5
    exact x2 (show 12 < 13 by omega) (by show ¬ nI 120 = nI 44; decide) (by show ¬ nI 120 = nI 47; decide))
  obtain ⟨p, h21, hp, e21, R21⟩ := R_undo R20 hok
  have c4 := R_count2 R21
  refine ⟨_, h21, ?_, R21⟩
  have hp0 : ¬ p < 0 := Nat.not_lt_zero _
  have n21 : ¬ nI 3 < nI 0 := by decide
  have n10 : ¬ nI 1 = nI 0 := by decide
  rw [e_L_letters]
  simp (maxSteps := 1000000) (disch := (first | omega | (simp (disch := omega) only [up_eq, up_ne, List.length_set] <;> omega) | fail)) only [↓bif_d, nI_addS, nI_mulS, nI_subS, nI_lt', nI_le', nI_eq', up_eq, up_ne, up_up, up_sw, List.set_set, g_seq, g_sne, Nat.reduceEqDiff, ↓reduceIte, List.length_set, Nat.add_sub_cancel_left, Nat.add_sub_cancel, Nat.reduceLT, Nat.reduceLeDiff, ite_true, ite_false, if_true, if_false, not_true_eq_false, not_false_eq_true, Bool.and_true, Bool.true_and, true_or, or_true, false_or, or_false, and_true, true_and, and_false, false_and, Nat.not_lt_zero, ↓(am_bi_of c2)]
  rw [e0, b_L_letters_63]
  simp (maxSteps := 1000000) (disch := (first | omega | (simp (disch := omega) only [up_eq, up_ne, List.length_set] <;> omega) | fail)) only [↓bif_d, nI_addS, nI_mulS, nI_subS, nI_lt', nI_le', nI_eq', up_eq, up_ne, up_up, up_sw, List.set_set, g_seq, g_sne, Nat.reduceEqDiff, ↓reduceIte, List.length_set, Nat.add_sub_cancel_left, Nat.add_sub_cancel, Nat.reduceLT, Nat.reduceLeDiff, ite_true, ite_false, if_true, if_false, not_true_eq_false, not_false_eq_true, Bool.and_true, Bool.true_and, true_or, or_true, false_or, or_false, and_true, true_and, and_false, false_and, Nat.not_lt_zero, ↓(am_bi_of e1), ↓(am_bi_of e2), ↓(am_bi_of e3), ↓(am_bi_of e4), ↓(am_bi_of e5), ↓(am_bi_of e6)]
  rw [b_L_letters_131]
  simp (maxSteps := 1000000) (disch := (first | omega | (simp (disch := omega) only [up_eq, up_ne, List.length_set] <;> omega) | fail)) only [↓bif_d, nI_addS, nI_mulS, nI_subS, nI_lt', nI_le', nI_eq', up_eq, up_ne, up_up, up_sw, List.set_set, g_seq, g_sne, Nat.reduceEqDiff, ↓reduceIte, List.length_set, Nat.add_sub_cancel_left, Nat.add_sub_cancel, Nat.reduceLT, Nat.reduceLeDiff, ite_true, ite_false, if_true, if_false, not_true_eq_false, not_false_eq_true, Bool.and_true, Bool.true_and, true_or, or_true, false_or, or_false, and_true, true_and, and_false, false_and, Nat.not_lt_zero, ↓(am_bi_of e7), ↓(am_bi_of e8), ↓(am_bi_of e9), ↓(am_bi_of e10), ↓(am_bi_of e11), ↓(am_bi_of e12), ↓(am_bi_of e13), ↓(am_bi_of e14)]
  rw [b_L_letters_187]
  simp (maxSteps := 1000000) (disch := (first | omega | (simp (disch := omega) only [up_eq, up_ne, List.length_set] <;> omega) | fail)) only [↓bif_d, nI_addS, nI_mulS, nI_subS, nI_lt', nI_le', nI_eq', up_eq, up_ne, up_up, up_sw, List.set_set, g_seq, g_sne, Nat.reduceEqDiff, ↓reduceIte, List.length_set, Nat.add_sub_cancel_left, Nat.add_sub_cancel, Nat.reduceLT, Nat.reduceLeDiff, ite_true, ite_false, if_true, if_false, not_true_eq_false, not_false_eq_true, Bool.and_true, Bool.true_and, true_or, or_true, false_or, or_false, and_true, true_and, and_false, false_and, Nat.not_lt_zero, ↓(am_bi_of e15), ↓(am_bi_of e16), ↓(am_bi_of e17), ↓(am_bi_of e18), ↓(am_bi_of c3), hx, n10]
  rw [b_L_letters_261]
  simp (maxSteps := 1000000) (disch := (first | omega | (simp (disch := omega) only [up_eq, up_ne, List.length_set] <;> omega) | fail)) only [↓bif_d, nI_addS, nI_mulS, nI_subS, nI_lt', nI_le', nI_eq', up_eq, up_ne, up_up, up_sw, List.set_set, g_seq, g_sne, Nat.reduceEqDiff, ↓reduceIte, List.length_set, Nat.add_sub_cancel_left, Nat.add_sub_cancel, Nat.reduceLT, Nat.reduceLeDiff, ite_true, ite_false, if_true, if_false, not_true_eq_false, not_false_eq_true, Bool.and_true, Bool.true_and, true_or, or_true, false_or, or_false, and_true, true_and, and_false, false_and, Nat.not_lt_zero, ↓(am_bi_of j1), ↓(am_bi_of j2), ↓(am_bi_of j3), ↓(am_bi_of j4), ↓(am_bi_of j5), ↓(am_bi_of j6), ↓(am_bi_of j7), ↓(am_bi_of j8)]
  rw [b_L_letters_367]
  simp (maxSteps := 1000000) (disch := (first | omega | (simp (disch := omega) only [up_eq, up_ne, List.length_set] <;> omega) | fail)) only [↓bif_d, nI_addS, nI_mulS, nI_subS, nI_lt', nI_le', nI_eq', up_eq, up_ne, up_up, up_sw, List.set_set, g_seq, g_sne, Nat.reduceEqDiff, ↓reduceIte, List.length_set, Nat.add_sub_cancel_left, Nat.add_sub_cancel, Nat.reduceLT, Nat.reduceLeDiff, ite_true, ite_false, if_true, if_false, not_true_eq_false, not_false_eq_true, Bool.and_true, Bool.true_and, true_or, or_true, false_or, or_false, and_true, true_and, and_false, false_and, Nat.not_lt_zero, ↓(am_bi_of e19), ↓(am_bi_of e20), ↓(am_bi_of e21), ↓(am_bi_of c4), hp0, n21]
end R
