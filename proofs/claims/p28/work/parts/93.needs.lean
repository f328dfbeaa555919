/-! THE LAW'S needs -/
theorem bRow_new {r : List Int32} {nx l b : Nat} {v m : Int32} (hr : r.length = 472) (hx : nx < 60) (hl : l < 20) (hb : b < 8) : NewB r (bRow r nx l b v m (nI 0)) nx l b v m := by
  unfold bRow
  refine ⟨⟨fun j hj => ?_, fun y hy => ⟨?_, ?_, ?_, ?_, ?_, ?_⟩, ?_⟩, ?_, ?_, ?_, ?_, ?_, ?_⟩
  · simp (disch := (first | omega | (simp only [List.length_set] <;> omega) | fail)) only [g_seq, g_sne, List.length_set]
  · simp (disch := (first | omega | (simp only [List.length_set] <;> omega) | fail)) only [g_seq, g_sne, List.length_set]
  · simp (disch := (first | omega | (simp only [List.length_set] <;> omega) | fail)) only [g_seq, g_sne, List.length_set]
  · simp (disch := (first | omega | (simp only [List.length_set] <;> omega) | fail)) only [g_seq, g_sne, List.length_set]
  · simp (disch := (first | omega | (simp only [List.length_set] <;> omega) | fail)) only [g_seq, g_sne, List.length_set]
  · simp (disch := (first | omega | (simp only [List.length_set] <;> omega) | fail)) only [g_seq, g_sne, List.length_set]
  · simp (disch := (first | omega | (simp only [List.length_set] <;> omega) | fail)) only [g_seq, g_sne, List.length_set]
  · simp (disch := (first | omega | (simp only [List.length_set] <;> omega) | fail)) only [g_seq, g_sne, List.length_set]
  · have : g (((((((r.set (108 + nx) (nI l)).set (168 + nx) (nI b)).set (228 + nx) v).set (288 + nx) m).set (348 + nx) (nI 0)).set (408 + nx) (nI 0)).set 107 (nI (nx + 1))) (108 + nx) = nI l := by simp (disch := (first | omega | (simp only [List.length_set] <;> omega) | fail)) only [g_seq, g_sne, List.length_set]
    unfold lotN
    rw [this, nI_clamp (by omega)]
  · have : g (((((((r.set (108 + nx) (nI l)).set (168 + nx) (nI b)).set (228 + nx) v).set (288 + nx) m).set (348 + nx) (nI 0)).set (408 + nx) (nI 0)).set 107 (nI (nx + 1))) (168 + nx) = nI b := by simp (disch := (first | omega | (simp only [List.length_set] <;> omega) | fail)) only [g_seq, g_sne, List.length_set]
    unfold byN
    rw [this, nI_clamp (by omega)]
  · simp (disch := (first | omega | (simp only [List.length_set] <;> omega) | fail)) only [g_seq, g_sne, List.length_set]
  · simp (disch := (first | omega | (simp only [List.length_set] <;> omega) | fail)) only [g_seq, g_sne, List.length_set]
  · simp (disch := (first | omega | (simp only [List.length_set] <;> omega) | fail)) only [g_seq, g_sne, List.length_set]
  · simp (disch := (first | omega | (simp only [List.length_set] <;> omega) | fail)) only [g_seq, g_sne, List.length_set]
section R
variable {xl : List Int32} {D : Nat → List Int32} {r tx : List Int32} {u : Option (List Int32)} {nB nl nb nx : Nat} {h : am_H}
theorem R_bid (hR : Rs xl D r tx u nB nl nb nx h) {b l : Nat} (hb : b < nb) (hl : l < nl) (v m w : Int32) (g2 : ¬ (v < nI 1 ∨ nI 1000000 < v)) (g3 : ¬ (m < nI 0 ∨ nI 100000 < m)) (g4 : ¬ (w < nI 0 ∨ nI 1000000 < w)) (hx : nx < 60) : ∃ h', am_cl m_Pa_bid [.ref 1, .int (nI b), .int (nI l), .int v, .int m, .int w] h = some (some (.int (nI nx)), h') ∧ Rs xl D (bRow r nx l b v m w) tx (some r) nB nl nb (nx + 1) h' :=
  R_act hR (fun A F P q t hI hr => by
    have := k_bid (P := P) hI hb hl v m w g2 g3 g4 (show ¬ nx = 60 by omega)
    rw [hr] at this
    exact this)
/-- a bid, the fate of it, and back: where the bid doesn't buy -/
theorem l_try (hR : Rs xl D r tx u nB nl nb nx h) {b l am : Nat} (hb : b < nb) (hl : l < nl) {m : Int32} (h1 : 1 ≤ am) (h6 : am ≤ 1000000) (g3 : ¬ (m < nI 0 ∨ nI 100000 < m)) (hx : nx < 60) (hno : ∀ (A' : Nat → List Int32) (F' : Nat → Int32) (r' L' B' Fi' Se' Mn' Bu' Pr' : List Int32), Cx A' F' r' nB nl nb (nx + 1) → SaI r' nB nl nb (nx + 1) L' B' Fi' Se' Mn' Bu' Pr' nl → NewB r r' nx l b (nI am) m → ¬ mFa r' nB L' B' Fi' Bu' nx = nI 0) : ∃ h1 h2 h3 f p, am_cl m_Pa_bid [.ref 1, .int (nI b), .int (nI l), .int (nI am), .int m, .int (nI 0)] h = some (some (.int (nI nx)), h1) ∧ am_cl m_Pa_fate [.ref 1, .int (nI nx)] h1 = some (some (.int f), h2) ∧ ¬ f = nI 0 ∧ p ≤ 4 ∧ am_cl m_Pa_undo [.ref 1] h2 = some (some (.int (nI p)), h3) ∧ Rs xl D r tx none nB nl nb nx h3 := by
  have hok := R_ok hR
  obtain ⟨k1, e1, R1⟩ := R_bid hR hb hl (nI am) m (nI 0) (by rw [nI_lt' (by omega) (by omega), nI_lt' (by omega) (by omega)]; omega) g3 (by decide) hx
  have hN := bRow_new (v := nI am) (m := m) hok.1 hx (show l < 20 by have := hok.2.2.2.2.2.2.2.1; omega) (show b < 8 by have := hok.2.2.2.2.2.2.2.2.1; omega)
  generalize bRow r nx l b (nI am) m (nI 0) = r' at R1 hN
  obtain ⟨A1, F1, hC1⟩ := Rs_cx R1
  obtain ⟨L', B', Fi', Se', Mn', Bu', Pr', hS1⟩ := Rs_sv R1
  have hf := hno A1 F1 r' L' B' Fi' Se' Mn' Bu' Pr' hC1 hS1.2 hN
  obtain ⟨k2, e2, R2⟩ := R_qr R1 hS1 (m := m_Pa_fate) (xs := [.int (nI nx)]) (v := .int (mFa r' nB L' B' Fi' Bu' nx)) (fun A F P A' F' hq => k_fate hq (Nat.lt_succ_self nx))
  obtain ⟨p, k3, hp, e3, R3⟩ := R_undo R2 hok
  exact ⟨k1, k2, k3, _, p, e1, e2, hf, hp, e3, R3⟩
theorem l_needs (hR : Rs xl D r tx u nB nl nb nx h) {b l mm : Nat} (hb : b < nb) (hl : l < nl) (hm : mm ≤ 100000) (hx : nx < 60) : ∃ h', am_cl m_L_needs [.ref 1, .int (nI b), .int (nI l), .int (nI mm)] h = some (some (.int (nI 1)), h') ∧ Rs xl D r tx none nB nl nb nx h' := by
  classical
  have hok := R_ok hR
  have hl20 : l < 20 := by have := hok.2.2.2.2.2.2.2.1; omega
  have hb8 : b < 8 := by have := hok.2.2.2.2.2.2.2.2.1; omega
  obtain ⟨A0, F0, hC⟩ := Rs_cx hR
  obtain ⟨L, B, Fi, Se, Mn, Bu, Pr, hS⟩ := Rs_sv hR
  have hB := hC.2.1
  have hmr : ¬ (nI mm < nI 0 ∨ nI 100000 < nI mm) := by rw [nI_lt' (by omega) (by omega), nI_lt' (by omega) (by omega)]; omega
  have n60 : ¬ 60 ≤ nx := by omega
  have n60' : ¬ nx = 60 := by omega
  -- the greatest amount
  have hfl := flN_le hB (a := 1000000) (by omega)
  have hfg : 900000 ≤ flN r nB 1000000 := by
    have h2 := nxN_le hB (a := flN r nB 1000000) (by omega)
    have h3 := vld_nx hB (a := flN r nB 1000000) (by omega)
    have h4 := nx_gt hB (a := flN r nB 1000000) (by omega)
    apply Classical.byContradiction
    intro z
    have := vld_le hB h3 (q := 1000000) (by omega) (by omega)
    omega
  -- where it is none, the greatest amount doesn't buy
  have none : ∀ h1, am_cl m_Pa_needed [.ref 1, .int (nI b), .int (nI l), .int (nI mm)] h = some (some (.int (-nI 5)), h1) → Rs xl D r tx u nB nl nb nx h1 → (∀ (A' : Nat → List Int32) (F' : Nat → Int32) (r' L' B' Fi' Se' Mn' Bu' Pr' : List Int32), Cx A' F' r' nB nl nb (nx + 1) → SaI r' nB nl nb (nx + 1) L' B' Fi' Se' Mn' Bu' Pr' nl → NewB r r' nx l b (nI (flN r nB 1000000)) (nI mm) → ¬ mFa r' nB L' B' Fi' Bu' nx = nI 0) → ∃ h', am_cl m_L_needs [.ref 1, .int (nI b), .int (nI l), .int (nI mm)] h = some (some (.int (nI 1)), h') ∧ Rs xl D r tx none nB nl nb nx h' := by
    intro h1 e1 R1 hno
    have c2 := R_count2 R1
    have v0 := (R_valid R1 (a := 1000000) (by omega)).1
    obtain ⟨k1, k2, k3, f, p, t1, t2, t3, t4, t5, R3⟩ := l_try R1 hb hl (am := flN r nB 1000000) (by omega) (by omega) hmr hx hno
    have c3 := R_count2 R3
    refine ⟨k3, ?_, R3⟩
    have hp : ¬ p < 0 := Nat.not_lt_zero _
    rw [e_L_needs]
    simp (maxSteps := 1000000) (disch := (first | omega | (simp (disch := omega) only [up_eq, up_ne, List.length_set] <;> omega) | fail)) only [↓bif_d, nI_addS, nI_mulS, nI_subS, nI_lt', nI_le', nI_eq', up_eq, up_ne, up_up, up_sw, List.set_set, g_seq, g_sne, Nat.reduceEqDiff, ↓reduceIte, List.length_set, Nat.add_sub_cancel_left, Nat.add_sub_cancel, Nat.reduceLT, Nat.reduceLeDiff, ite_true, ite_false, if_true, if_false, not_true_eq_false, not_false_eq_true, Bool.and_true, Bool.true_and, true_or, or_true, false_or, or_false, and_true, true_and, and_false, false_and, Nat.not_lt_zero, ↓(am_bi_of e1), ↓(am_bi_of c2), ↓(am_bi_of v0), ↓(am_bi_of t1), ↓(am_bi_of t2), ↓(am_bi_of t5), ↓(am_bi_of c3), n60, n60', t3, hp, ↓b_L_needs_23]
  by_cases g4 : g r (78 + l) = nI 1
  · exact none h (R_cx hR (fun A F P hC => k_needed0 hC hb hl hmr hx (Or.inr g4))) hR (fun A' F' r' L' B' Fi' Se' Mn' Bu' Pr' _ _ hN => key_bad hN hl20 (Or.inr g4))
  by_cases g5 : g r 468 < nI mm
  · exact none h (R_cx hR (fun A F P hC => k_needed0 hC hb hl hmr hx (Or.inl g5))) hR (fun A' F' r' L' B' Fi' Se' Mn' Bu' Pr' _ _ hN => key_bad hN hl20 (Or.inl g5))
  -- what the others ask
  obtain ⟨A, F, P, q0, t0, rfl, hI, hr, hrest⟩ := id hR
  obtain ⟨A1, h1a, hI1, hHQ⟩ := HQ_of (L := L) (B := B) (Fi := Fi) (Se := Se) (Mn := Mn) (Bu := Bu) (Pr := Pr) (InvN_ad hI D) (by rw [(ad_lo (by omega)).trans hr]; exact hS.2)
  rw [(ad_lo (by omega)).trans hr] at hHQ
  obtain ⟨O, q, s, e, m1, ⟨a1, a2, a3, a4, a5, a6, a7, a8, a9⟩, hnd⟩ := k_needed hHQ hb hl hmr hx g4 g5
  have hR1 : Rs xl D r tx u nB nl nb nx (heap A1 (up F 16410 (nI 1)) P) := by
    have eA : A1 = ad A1 D := ad_of (fun j hj => h1a j (by omega))
    obtain ⟨hx0, ht, hT, hu⟩ := hrest
    refine ⟨A1, up F 16410 (nI 1), P, q0, t0, congrArg (fun a => heap a _ P) eA, hI1, ?_, ?_, ht, fun j hj => ?_, fun r0 h0 => ?_⟩
    · rw [h1a 193 (by omega), ad_lo (by omega)]; exact hr
    · rw [h1a 0 (by omega), ad_lo (by omega)]; exact hx0
    · rw [h1a 195 (by omega), ad_lo (by omega)]; exact hT j hj
    · rw [h1a 194 (by omega), ad_lo (by omega)]; exact hu r0 h0
  have hkey : ∀ am, am ≤ 1000000 → ∀ (A' : Nat → List Int32) (F' : Nat → Int32) (r' L' B' Fi' Se' Mn' Bu' Pr' : List Int32), Cx A' F' r' nB nl nb (nx + 1) → SaI r' nB nl nb (nx + 1) L' B' Fi' Se' Mn' Bu' Pr' nl → NewB r r' nx l b (nI am) (nI mm) → (mFa r' nB L' B' Fi' Bu' nx = nI 0 ↔ m1 ≤ flN r nB (if q < am then q else am)) := fun am ham A' F' r' L' B' Fi' Se' Mn' Bu' Pr' hC' hS' hN => key hC hS.2 hC' hS' hN hl hb rfl ham a6 a7 g5 g4 a1 a2 a3 a4 a5 a8
  have hwle : ∀ am, am ≤ 1000000 → flN r nB (if q < am then q else am) ≤ q ∧ flN r nB (if q < am then q else am) ≤ am := fun am ham => by
    have := flN_le hB (a := if q < am then q else am) (by split <;> omega)
    constructor
    · refine Nat.le_trans this ?_
      split <;> omega
    · refine Nat.le_trans this ?_
      split <;> omega
  by_cases c : m1 ≤ q ∧ m1 ≤ 1000000
  · rw [if_pos c] at hnd
    have hn1 := nxN_le hB (a := 0) (by omega)
    have hn2 := nx_gt hB (a := 0) (by omega)
    have hn3 := vld_nx hB (a := 0) (by omega)
    -- the amount
    obtain ⟨am, ham⟩ : ∃ am, am = if m1 = 0 then nxN r nB 0 else m1 := ⟨_, rfl⟩
    rw [← ham] at hnd
    have am1 : 1 ≤ am := by rw [ham]; split <;> omega
    have am6 : am ≤ 1000000 := by rw [ham]; split <;> omega
    have amv : vld r nB am := by rw [ham]; split <;> assumption
    have hbuy : m1 ≤ flN r nB (if q < am then q else am) := by
      by_cases z : m1 = 0
      · omega
      · rw [if_neg z] at ham
        rw [ham, if_neg (by omega), fl_self hB a9 (by omega)]
        exact Nat.le_refl _
    have fle := flN_le hB (a := am - 1) (by omega)
    have hless : flN r nB (am - 1) < 1 ∨ flN r nB (am - 1) < m1 := by
      by_cases z : m1 = 0
      · rw [if_pos z] at ham
        refine Or.inl (Nat.lt_of_not_le fun w => ?_)
        have := nx_least hB (vld_fl hB (a := am - 1) (by omega)) (a := 0) (by omega) (by omega)
        omega
      · rw [if_neg z] at ham
        exact Or.inr (by omega)
    have c2 := R_count2 hR1
    have v0 := (R_valid hR1 (a := am) (by omega)).1
    rw [fl_self hB amv (by omega)] at v0
    obtain ⟨k2, e2, R2⟩ := R_bid hR1 hb hl (nI am) (nI mm) (nI 0) (by rw [nI_lt' (by omega) (by omega), nI_lt' (by omega) (by omega)]; omega) hmr (by decide) hx
    have hN := bRow_new (v := nI am) (m := nI mm) hok.1 hx hl20 hb8
    generalize bRow r nx l b (nI am) (nI mm) (nI 0) = r' at R2 hN
    obtain ⟨A2, F2, hC2⟩ := Rs_cx R2
    obtain ⟨L', B', Fi', Se', Mn', Bu', Pr', hS2⟩ := Rs_sv R2
    have hf := (hkey am am6 A2 F2 r' L' B' Fi' Se' Mn' Bu' Pr' hC2 hS2.2 hN).mpr hbuy
    -- the new bid is the first one, and its lot is its bidder's
    obtain ⟨O', hO'⟩ := ord_ex hC2 hS2.2 hl
    have n1 := hN.2.1
    have n2 := hN.2.2.1
    have hof := ord_fate hC2 hS2.2 hl hO' (Nat.lt_succ_self nx) n1
    have hc0 : cd2 r' nB L' Bu' Fi' (nx + 1) nx = nI 0 := Classical.byContradiction fun z => z (by rw [← hof.1 z]; exact hf)
    obtain ⟨p, hp, hpx⟩ := mem_od ((hO'.2.2.2 nx).mpr ⟨Nat.lt_succ_self _, n1, hc0⟩)
    have hfa := hof.2 p hp hpx
    rw [hf] at hfa
    have hp0 : p = 0 := Classical.byContradiction fun z => by
      rw [if_pos (by omega)] at hfa
      exact absurd hfa (by decide)
    subst hp0
    have hfi := (ord_fi hC2 hS2.2 hl hO').1
    rw [if_pos hp, hpx] at hfi
    have hbu : g Bu' l = nI b := by
      have hso := ord_sold hC2 hS2.2 hl hO'
      rw [if_neg (by omega)] at hfa
      have hns : ¬ g Bu' l < nI 0 := fun z => (hso.mp z).elim (fun z => by omega) (fun z => by
        rw [hpx] at z
        rw [if_pos z] at hfa
        exact absurd hfa (by decide))
      have hms : mSold r' nB L' l (g Fi' l) := Classical.byContradiction fun z => hns (by rw [hS2.2.2.2.2.2.2.2.1 l hl, cif_f z]; decide)
      rw [hS2.2.2.2.2.2.2.2.1 l hl, cif_t hms, hfi, nI_clamp (by omega), (hC2.1.2.2 nx (Nat.lt_succ_self _)).2.2, n2]
    obtain ⟨k3, e3, R3⟩ := R_qr R2 hS2 (m := m_Pa_fate) (xs := [.int (nI nx)]) (v := .int (mFa r' nB L' B' Fi' Bu' nx)) (fun A F P A' F' hq => k_fate hq (Nat.lt_succ_self nx))
    rw [hf] at e3
    obtain ⟨k4, e4, R4⟩ := R_qr R3 hS2 (m := m_Pa_sale) (xs := [.int (nI l), .int (nI 0)]) (v := .int (g Bu' l)) (fun A F P A' F' hq => k_sale0 hq hl)
    rw [hbu] at e4
    obtain ⟨k5, e5, R5⟩ := R_qr R4 hS2 (m := m_Pa_sale) (xs := [.int (nI l), .int (nI 4)]) (v := .int (g Fi' l)) (fun A F P A' F' hq => k_sale4 hq hl)
    rw [hfi] at e5
    obtain ⟨p6, k6, hp6, e6, R6⟩ := R_undo R5 hok
    have v7 := (R_valid R6 (a := am - 1) (by omega)).1
    rw [← nI_subS am1] at v7
    have na1 : ¬ nI am = -nI 5 := nI_nm5 (by omega)
    have na2 : ¬ am < 1 := by omega
    have na3 : ¬ 1000000 < am := by omega
    have to147 : am_cl m_L_needs [.ref 1, .int (nI b), .int (nI l), .int (nI mm)] (heap (ad A D) F P) = am_ev m_L_needs (147, [.ref 1, .int (nI b), .int (nI l), .int (nI mm), .int (nI am), .int (nI nx), .float 0], [], k3) := by
      rw [e_L_needs]
      simp (maxSteps := 1000000) (disch := (first | omega | (simp (disch := omega) only [up_eq, up_ne, List.length_set] <;> omega) | fail)) only [↓bif_d, nI_addS, nI_mulS, nI_subS, nI_lt', nI_le', nI_eq', up_eq, up_ne, up_up, up_sw, List.set_set, g_seq, g_sne, Nat.reduceEqDiff, ↓reduceIte, List.length_set, Nat.add_sub_cancel_left, Nat.add_sub_cancel, Nat.reduceLT, Nat.reduceLeDiff, ite_true, ite_false, if_true, if_false, not_true_eq_false, not_false_eq_true, Bool.and_true, Bool.true_and, true_or, or_true, false_or, or_false, and_true, true_and, and_false, false_and, Nat.not_lt_zero, ↓(am_bi_of hnd), ↓(am_bi_of c2), ↓(am_bi_of v0), ↓(am_bi_of e2), ↓(am_bi_of e3), na1, na2, na3]
    have hp0 : 0 ≤ p6 := Nat.zero_le _
    by_cases d : flN r nB (am - 1) < 1
    · have d' : ¬ 1 ≤ flN r nB (am - 1) := by omega
      refine ⟨k6, ?_, R6⟩
      rw [to147, b_L_needs_147]
      simp (maxSteps := 1000000) (disch := (first | omega | (simp (disch := omega) only [up_eq, up_ne, List.length_set] <;> omega) | fail)) only [↓bif_d, nI_addS, nI_mulS, nI_subS, nI_lt', nI_le', nI_eq', up_eq, up_ne, up_up, up_sw, List.set_set, g_seq, g_sne, Nat.reduceEqDiff, ↓reduceIte, List.length_set, Nat.add_sub_cancel_left, Nat.add_sub_cancel, Nat.reduceLT, Nat.reduceLeDiff, ite_true, ite_false, if_true, if_false, not_true_eq_false, not_false_eq_true, Bool.and_true, Bool.true_and, true_or, or_true, false_or, or_false, and_true, true_and, and_false, false_and, Nat.not_lt_zero, ↓(am_bi_of e4), ↓(am_bi_of e5), ↓(am_bi_of e6), ↓(am_bi_of v7), hp0, d']
    · have d' : 1 ≤ flN r nB (am - 1) := by omega
      have hlt := hless.resolve_left d
      obtain ⟨k7, k8, k9, f, p9, t1, t2, t3, t4, t5, R9⟩ := l_try R6 hb hl (am := flN r nB (am - 1)) d' (by omega) hmr hx (fun A' F' r' L' B' Fi' Se' Mn' Bu' Pr' hC' hS' hN => by
        rw [hkey _ (by omega) A' F' r' L' B' Fi' Se' Mn' Bu' Pr' hC' hS' hN]
        have := (hwle (flN r nB (am - 1)) (by omega)).2
        omega)
      have c9 := R_count2 R9
      have hp9 : ¬ p9 < 0 := Nat.not_lt_zero _
      refine ⟨k9, ?_, R9⟩
      rw [to147, b_L_needs_147]
      simp (maxSteps := 1000000) (disch := (first | omega | (simp (disch := omega) only [up_eq, up_ne, List.length_set] <;> omega) | fail)) only [↓bif_d, nI_addS, nI_mulS, nI_subS, nI_lt', nI_le', nI_eq', up_eq, up_ne, up_up, up_sw, List.set_set, g_seq, g_sne, Nat.reduceEqDiff, ↓reduceIte, List.length_set, Nat.add_sub_cancel_left, Nat.add_sub_cancel, Nat.reduceLT, Nat.reduceLeDiff, ite_true, ite_false, if_true, if_false, not_true_eq_false, not_false_eq_true, Bool.and_true, Bool.true_and, true_or, or_true, false_or, or_false, and_true, true_and, and_false, false_and, Nat.not_lt_zero, ↓(am_bi_of e4), ↓(am_bi_of e5), ↓(am_bi_of e6), ↓(am_bi_of v7), ↓(am_bi_of t1), ↓(am_bi_of t2), ↓(am_bi_of t5), ↓(am_bi_of c9), hp0, d', t3, hp9]
  · rw [if_neg c] at hnd
    refine none _ hnd hR1 (fun A' F' r' L' B' Fi' Se' Mn' Bu' Pr' hC' hS' hN => ?_)
    rw [hkey _ hfl A' F' r' L' B' Fi' Se' Mn' Bu' Pr' hC' hS' hN]
    have := hwle (flN r nB 1000000) hfl
    omega
end R
