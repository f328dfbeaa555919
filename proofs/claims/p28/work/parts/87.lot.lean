/-! lot: its end -/
section A
variable {xl r tx L B Fi Se Mn Bu Pr : List Int32} {u : Option (List Int32)} {nB nl nb nx : Nat} {A D : Nat → List Int32} {F : Nat → Int32} {P : Nat → Nat}
theorem l_lot600 (hH : Hd xl r tx u nB nl nb nx A F P) (hS : Sv r nB nl nb nx L B Fi Se Mn Bu Pr) {k : Nat} (hk : k < nl) (v9 v10 v11 v13 v14 v16 : Int32) : am_ev m_L_lot (600, [.ref 1, .ref 192, .ref 193, .ref 194, .ref 195, .int (nI k), .int (nI nx), .int (g r (58 + k)), .int (mAs r nB k), .int v9, .int v10, .int v11, .int (nI (cN (fun y => lotN r y = k) nx 0)), .int v13, .int v14, .int (g r (38 + k)), .int v16], [], heap (ad A D) F P) = some (some (.int (nI 1)), heap (ad A D) F P) := by
  classical
  have hQ := hH.Q hS D
  have hC := hQ.2.2.2.1
  have hM := hC.1
  have hnl : nl ≤ 20 := hM.1.2.2.2.2.2.2.2.1
  have hnb : nb ≤ 8 := hM.1.2.2.2.2.2.2.2.2.1
  have hnx : nx ≤ 60 := hM.1.2.2.2.2.2.2.2.2.2
  have s6 := k_sale6 hQ hk
  have l6 := k_lot6 (P := P) hC hk
  have l5 := k_lot5 (P := P) hC hk
  have ec : cN (fun j => g r (108 + j) = nI k) nx 0 = cN (fun y => lotN r y = k) nx 0 := cN_c nx 0 (fun j _ hj => by
    obtain ⟨⟨y1, y2⟩, -⟩ := hM.2.2 j (by omega)
    rw [y2, nI_eq' (by omega) (by omega)])
  rw [ec] at l5
  obtain ⟨s, e, s1, e1, s2, e2, ha, ha2⟩ := mAs_N hC hk
  have v1 := (R_valid (hH.R D) (a := s) (by omega)).2.1
  have v2 := (R_valid (hH.R D) (a := e) (by omega)).2.1
  rw [b_L_lot_600, ha, s2, e2]
  by_cases c : s ≤ e
  · have e3 : (if s < e then e else s) = e := by split <;> omega
    rw [e3]
    simp (maxSteps := 1000000) (disch := (first | omega | (simp (disch := omega) only [up_eq, up_ne, List.length_set] <;> omega) | fail)) only [↓bif_d, nI_addS, nI_mulS, nI_subS, nI_lt', nI_le', nI_eq', up_eq, up_ne, up_up, up_sw, List.set_set, g_seq, g_sne, Nat.reduceEqDiff, ↓reduceIte, List.length_set, Nat.add_sub_cancel_left, Nat.add_sub_cancel, Nat.reduceLT, Nat.reduceLeDiff, ite_true, ite_false, if_true, if_false, not_true_eq_false, not_false_eq_true, Bool.and_true, Bool.true_and, true_or, or_true, false_or, or_false, and_true, true_and, and_false, false_and, Nat.not_lt_zero, ↓(am_bi_of l5), ↓(am_bi_of v2), ↓(am_bi_of s6), ↓(am_bi_of l6), c]
  · have e3 : (if s < e then e else s) = s := by split <;> omega
    rw [e3]
    simp (maxSteps := 1000000) (disch := (first | omega | (simp (disch := omega) only [up_eq, up_ne, List.length_set] <;> omega) | fail)) only [↓bif_d, nI_addS, nI_mulS, nI_subS, nI_lt', nI_le', nI_eq', up_eq, up_ne, up_up, up_sw, List.set_set, g_seq, g_sne, Nat.reduceEqDiff, ↓reduceIte, List.length_set, Nat.add_sub_cancel_left, Nat.add_sub_cancel, Nat.reduceLT, Nat.reduceLeDiff, ite_true, ite_false, if_true, if_false, not_true_eq_false, not_false_eq_true, Bool.and_true, Bool.true_and, true_or, or_true, false_or, or_false, and_true, true_and, and_false, false_and, Nat.not_lt_zero, ↓(am_bi_of l5), ↓(am_bi_of v1), ↓(am_bi_of s6), ↓(am_bi_of l6), c]
theorem l_lot467 (hH : Hd xl r tx u nB nl nb nx A F P) (hS : Sv r nB nl nb nx L B Fi Se Mn Bu Pr) (hA : AskR r nB L Bu Fi nx D) {k : Nat} {O : List Nat} (hk : k < nl) (hO : Ord r nB L B Bu Fi nx k O) {st : Int32} (hst : mSt r Mn Bu k = st) (hbu : (st = nI 0 ∧ 0 < O.length ∧ g Bu k = nI (byN r (od O 0))) ∨ (¬ st = nI 0 ∧ g Bu k = -nI 5)) (u15 u16 : Value) : am_ev m_L_lot (467, [.ref 1, .ref 192, .ref 193, .ref 194, .ref 195, .int (nI k), .int (nI nx), .int (g r (58 + k)), .int (mAs r nB k), .int (g Fi k), .int (g Se k), .int (nI O.length), .int (nI (cN (fun y => lotN r y = k) nx 0)), .int st, .int (g Pr k), u15, u16], [], heap (ad A D) F P) = some (some (.int (nI 1)), heap (ad A D) F P) := by
  classical
  have hQ := hH.Q hS D
  have hC := hQ.2.2.2.1
  have hM := hC.1
  have hnl : nl ≤ 20 := hM.1.2.2.2.2.2.2.2.1
  have hnb : nb ≤ 8 := hM.1.2.2.2.2.2.2.2.2.1
  have hnx : nx ≤ 60 := hM.1.2.2.2.2.2.2.2.2.2
  obtain ⟨⟨h0, h1, h2, h3, h4⟩, hR, hcd⟩ := id hA
  have hO8 := hO.2.2.1
  have l1 := k_lot1 (P := P) hC hk
  have s0 := k_sale0 hQ hk
  have s1 := k_sale1 hQ hk
  have s2 := k_sale2 hQ hk
  have s3 := k_sale3 hQ hk
  have s4 := k_sale4 hQ hk
  have s5 := k_sale5 hQ hk
  rw [hst] at s2
  rw [(ord_mn hC hS.2 hk hO).1] at s3
  have rk := k_ranked hQ hk (p := O.length) (by omega)
  rw [ord_rk hC hS.2 hk hO (by omega), if_neg (Nat.lt_irrefl _)] at rk
  have rm := k_ranked_e1 (P := P) hC (nI k) (-nI 1) ⟨k, hk, rfl⟩ (by decide)
  have b525 := fun x1 x2 x3 x4 x5 x6 x7 x8 x9 x10 x11 u h => b_L_lot_525 1 192 193 194 195 x1 x2 x3 x4 x5 x6 x7 x8 x9 x10 x11 u h
  have b600 := fun v9 v10 v11 v13 v14 v16 => l_lot600 (D := D) hH hS hk v9 v10 v11 v13 v14 v16
  rw [b_L_lot_467]
  rcases hbu with ⟨c1, c2, c3⟩ | ⟨c1, c3⟩
  · obtain ⟨o1, o2, o3⟩ := ord_mem hO c2
    have hf := (ord_fi hC hS.2 hk hO).1
    rw [if_pos c2] at hf
    obtain ⟨⟨x1, x2⟩, x3, x4⟩ := hM.2.2 _ o1
    have a0 := al_0 A D F P (k := od O 0) (by omega) h0
    rw [(hR _ o1).1] at a0
    have dx := (d100 (l := lotN r (od O 0)) (b := byN r (od O 0)) (by omega) (by omega)).2
    rw [c3] at s0
    rw [c1] at s2 ⊢
    rw [hf] at s4 ⊢
    simp (maxSteps := 1000000) (disch := (first | omega | (simp (disch := omega) only [up_eq, up_ne, List.length_set] <;> omega) | fail)) only [↓bif_d, nI_addS, nI_mulS, nI_subS, nI_lt', nI_le', nI_eq', up_eq, up_ne, up_up, up_sw, List.set_set, g_seq, g_sne, Nat.reduceEqDiff, ↓reduceIte, List.length_set, Nat.add_sub_cancel_left, Nat.add_sub_cancel, Nat.reduceLT, Nat.reduceLeDiff, ite_true, ite_false, if_true, if_false, not_true_eq_false, not_false_eq_true, Bool.and_true, Bool.true_and, true_or, or_true, false_or, or_false, and_true, true_and, and_false, false_and, Nat.not_lt_zero, ↓(am_bi_of l1), ↓(am_bi_of s4), ↓(am_bi_of s5), ↓(am_bi_of rk), ↓(am_bi_of rm), ↓(am_bi_of s2), ↓(am_bi_of s0), ↓(ob_of a0), ↓(am_bi_of s1), ↓(am_bi_of s3), ↓b525, dx, (b600)]
  · rw [c3] at s0
    simp (maxSteps := 1000000) (disch := (first | omega | (simp (disch := omega) only [up_eq, up_ne, List.length_set] <;> omega) | fail)) only [↓bif_d, nI_addS, nI_mulS, nI_subS, nI_lt', nI_le', nI_eq', up_eq, up_ne, up_up, up_sw, List.set_set, g_seq, g_sne, Nat.reduceEqDiff, ↓reduceIte, List.length_set, Nat.add_sub_cancel_left, Nat.add_sub_cancel, Nat.reduceLT, Nat.reduceLeDiff, ite_true, ite_false, if_true, if_false, not_true_eq_false, not_false_eq_true, Bool.and_true, Bool.true_and, true_or, or_true, false_or, or_false, and_true, true_and, and_false, false_and, Nat.not_lt_zero, ↓(am_bi_of l1), ↓(am_bi_of s4), ↓(am_bi_of s5), ↓(am_bi_of rk), ↓(am_bi_of rm), ↓(am_bi_of s2), ↓(am_bi_of s0), ↓(am_bi_of s1), ↓(am_bi_of s3), ↓b525, c1, (b600)]
theorem l_lot (hH : Hd xl r tx u nB nl nb nx A F P) (hS : Sv r nB nl nb nx L B Fi Se Mn Bu Pr) (hA : AskR r nB L Bu Fi nx D) {k : Nat} (hk : k < nl) : am_cl m_L_lot [.ref 1, .ref 192, .ref 193, .ref 194, .ref 195, .int (nI k)] (heap (ad A D) F P) = some (some (.int (nI 1)), heap (ad A D) F P) := by
  classical
  have hQ := hH.Q hS D
  have hC := hQ.2.2.2.1
  have hM := hC.1
  have hnl : nl ≤ 20 := hM.1.2.2.2.2.2.2.2.1
  have hnb : nb ≤ 8 := hM.1.2.2.2.2.2.2.2.2.1
  have hnx : nx ≤ 60 := hM.1.2.2.2.2.2.2.2.2.2
  obtain ⟨⟨h0, h1, h2, h3, h4⟩, hR, hcd⟩ := id hA
  obtain ⟨O, hO⟩ := ord_ex hC hS.2 hk
  have hO8 := hO.2.2.1
  obtain ⟨u4, u5, u6, hl⟩ := l_lot42 hH hS hA hk hO (mAs r nB k) nx 0 (.float 0) (.float 0) (.float 0) (by omega)
  have f00 : ∀ p, fs O p 0 = -nI 5 := fun p => by unfold fs; rw [if_neg (fun z => Nat.not_lt_zero _ z.2)]
  have hfi := ord_fi hC hS.2 hk hO
  have fe0 : fs O 0 nx = g Fi k := by
    unfold fs
    rw [hfi.1]
    by_cases c : 0 < O.length
    · rw [if_pos ⟨c, (ord_mem hO c).1⟩, if_pos c]
    · rw [if_neg (fun z => c z.1), if_neg c]
  have fe1 : fs O 1 nx = g Se k := by
    unfold fs
    rw [hfi.2]
    by_cases c : 1 < O.length
    · rw [if_pos ⟨c, (ord_mem hO c).1⟩, if_pos c]
    · rw [if_neg (fun z => c z.1), if_neg c]
  rw [f00, f00, fe0, fe1, ord_many hO] at hl
  have hz : ∀ p : Nat → Prop, cN p 0 0 = 0 := fun _ => rfl
  rw [hz, hz] at hl
  have c2 := k_count2 (P := P) hC
  have l2 := k_lot2 (P := P) hC hk
  have l3 := k_lot3 (P := P) hC hk
  have l4 := k_lot4 (P := P) hC hk
  have hle : nx ≤ nx := Nat.le_refl _
  have hso := ord_sold hC hS.2 hk hO
  have hbp := SaI_bu hM hS.2 hk
  have b397 := fun x1 x2 x3 x4 x5 x6 x7 x8 x9 u1 u2 u3 h => b_L_lot_397 1 192 193 194 195 x1 x2 x3 x4 x5 x6 x7 x8 x9 u1 u2 u3 h
  have b447 := fun x1 x2 x3 x4 x5 x6 x7 x8 x9 x10 u1 u2 h => b_L_lot_447 1 192 193 194 195 x1 x2 x3 x4 x5 x6 x7 x8 x9 x10 u1 u2 h
  have hm5 : (-nI 5 : Int32) < nI 0 := by decide
  have notsold : ∀ st : Int32, mSt r Mn Bu k = st → ¬ st = nI 0 → g Bu k < nI 0 → ∀ v15 v16, am_ev m_L_lot (467, [.ref 1, .ref 192, .ref 193, .ref 194, .ref 195, .int (nI k), .int (nI nx), .int (g r (58 + k)), .int (mAs r nB k), .int (g Fi k), .int (g Se k), .int (nI O.length), .int (nI (cN (fun y => lotN r y = k) nx 0)), .int st, .int (nI 0), v15, v16], [], heap (ad A D) F P) = some (some (.int (nI 1)), heap (ad A D) F P) := by
    intro st e1 e2 e3 v15 v16
    rcases hbp with ⟨z1, z2⟩ | ⟨b, hb, z1⟩
    · have := l_lot467 hH hS hA hk hO e1 (Or.inr ⟨e2, z1⟩) v15 v16
      rw [z2] at this
      exact this
    · rw [z1] at e3
      exact absurd e3 (nI_pos (by omega))
  have e : am_cl m_L_lot [.ref 1, .ref 192, .ref 193, .ref 194, .ref 195, .int (nI k)] (heap (ad A D) F P) = am_ev m_L_lot (42, [.ref 1, .ref 192, .ref 193, .ref 194, .ref 195, .int (nI k), .int (nI nx), .int (g r (58 + k)), .int (mAs r nB k), .int (g Fi k), .int (g Se k), .int (nI O.length), .int (nI (cN (fun y => lotN r y = k) nx 0)), .int (nI nx), u4, u5, u6], [], heap (ad A D) F P) := by
    rw [← hl, e_L_lot]
    simp (maxSteps := 1000000) (disch := (first | omega | (simp (disch := omega) only [up_eq, up_ne, List.length_set] <;> omega) | fail)) only [↓bif_d, nI_addS, nI_mulS, nI_subS, nI_lt', nI_le', nI_eq', up_eq, up_ne, up_up, up_sw, List.set_set, g_seq, g_sne, Nat.reduceEqDiff, ↓reduceIte, List.length_set, Nat.add_sub_cancel_left, Nat.add_sub_cancel, Nat.reduceLT, Nat.reduceLeDiff, ite_true, ite_false, if_true, if_false, not_true_eq_false, not_false_eq_true, Bool.and_true, Bool.true_and, true_or, or_true, false_or, or_false, and_true, true_and, and_false, false_and, Nat.not_lt_zero, ↓(am_bi_of c2), ↓(am_bi_of l2), ↓(am_bi_of l4)]
  rw [e, b_L_lot_42]
  have n3 : ¬ nI 3 = nI 0 := by decide
  have n1 : ¬ nI 1 = nI 0 := by decide
  have n2 : ¬ nI 2 = nI 0 := by decide
  by_cases g1 : g r (78 + k) = nI 1
  · have hb := SaI_aw hM hS.2 hk g1
    have hst : mSt r Mn Bu k = nI 3 := by unfold mSt; rw [cif_t g1]
    have hns := notsold _ hst n3 (by rw [hb]; exact hm5)
    rw [g1] at l3
    by_cases g2 : g Se k < nI 0
    · simp (maxSteps := 1000000) (disch := (first | omega | (simp (disch := omega) only [up_eq, up_ne, List.length_set] <;> omega) | fail)) only [↓bif_d, nI_addS, nI_mulS, nI_subS, nI_lt', nI_le', nI_eq', up_eq, up_ne, up_up, up_sw, List.set_set, g_seq, g_sne, Nat.reduceEqDiff, ↓reduceIte, List.length_set, Nat.add_sub_cancel_left, Nat.add_sub_cancel, Nat.reduceLT, Nat.reduceLeDiff, ite_true, ite_false, if_true, if_false, not_true_eq_false, not_false_eq_true, Bool.and_true, Bool.true_and, true_or, or_true, false_or, or_false, and_true, true_and, and_false, false_and, Nat.not_lt_zero, ↓(am_bi_of l3), hle, ↓b397, n3, ↓b447, hns]
    · simp (maxSteps := 1000000) (disch := (first | omega | (simp (disch := omega) only [up_eq, up_ne, List.length_set] <;> omega) | fail)) only [↓bif_d, nI_addS, nI_mulS, nI_subS, nI_lt', nI_le', nI_eq', up_eq, up_ne, up_up, up_sw, List.set_set, g_seq, g_sne, Nat.reduceEqDiff, ↓reduceIte, List.length_set, Nat.add_sub_cancel_left, Nat.add_sub_cancel, Nat.reduceLT, Nat.reduceLeDiff, ite_true, ite_false, if_true, if_false, not_true_eq_false, not_false_eq_true, Bool.and_true, Bool.true_and, true_or, or_true, false_or, or_false, and_true, true_and, and_false, false_and, Nat.not_lt_zero, ↓(am_bi_of l3), hle, ↓b397, n3, ↓b447, hns]
  · by_cases g2 : O.length = 0
    · have hb := hso.mpr (Or.inl g2)
      have hst : mSt r Mn Bu k = nI 1 := by unfold mSt; rw [cif_f g1, cif_f (fun z => z hb), cif_t (by rw [(ord_mn hC hS.2 hk hO).1, g2])]
      have hns := notsold _ hst n1 hb
      rw [g2] at hns ⊢
      simp (maxSteps := 1000000) (disch := (first | omega | (simp (disch := omega) only [up_eq, up_ne, List.length_set] <;> omega) | fail)) only [↓bif_d, nI_addS, nI_mulS, nI_subS, nI_lt', nI_le', nI_eq', up_eq, up_ne, up_up, up_sw, List.set_set, g_seq, g_sne, Nat.reduceEqDiff, ↓reduceIte, List.length_set, Nat.add_sub_cancel_left, Nat.add_sub_cancel, Nat.reduceLT, Nat.reduceLeDiff, ite_true, ite_false, if_true, if_false, not_true_eq_false, not_false_eq_true, Bool.and_true, Bool.true_and, true_or, or_true, false_or, or_false, and_true, true_and, and_false, false_and, Nat.not_lt_zero, ↓(am_bi_of l3), hle, g1, ↓b397, n1, ↓b447, hns]
    · have hpos : 0 < O.length := by omega
      obtain ⟨o1, o2, o3⟩ := ord_mem hO hpos
      have hf := hfi.1
      rw [if_pos hpos] at hf
      have a1 := al_1 A D F P (k := od O 0) (by omega) h1
      rw [(hR _ o1).2.1] at a1
      obtain ⟨⟨x1, x2⟩, x3, x4⟩ := hM.2.2 _ o1
      by_cases g3 : mWo r nB L (od O 0) < g r (58 + k)
      · have g3' : ¬ g r (58 + k) ≤ mWo r nB L (od O 0) := Int32.not_le.mpr g3
        have hb := hso.mpr (Or.inr g3)
        have hst : mSt r Mn Bu k = nI 2 := by unfold mSt; rw [cif_f g1, cif_f (fun z => z hb), cif_f (by rw [(ord_mn hC hS.2 hk hO).1, nI_eq' (by omega) (by omega)]; exact g2)]
        have hns := notsold _ hst n2 hb
        rw [hf] at hns ⊢
        simp (maxSteps := 1000000) (disch := (first | omega | (simp (disch := omega) only [up_eq, up_ne, List.length_set] <;> omega) | fail)) only [↓bif_d, nI_addS, nI_mulS, nI_subS, nI_lt', nI_le', nI_eq', up_eq, up_ne, up_up, up_sw, List.set_set, g_seq, g_sne, Nat.reduceEqDiff, ↓reduceIte, List.length_set, Nat.add_sub_cancel_left, Nat.add_sub_cancel, Nat.reduceLT, Nat.reduceLeDiff, ite_true, ite_false, if_true, if_false, not_true_eq_false, not_false_eq_true, Bool.and_true, Bool.true_and, true_or, or_true, false_or, or_false, and_true, true_and, and_false, false_and, Nat.not_lt_zero, ↓(am_bi_of l3), ↓(ob_of a1), hle, g1, g2, g3', ↓b397, n2, ↓b447, hns]
      · have g3' : g r (58 + k) ≤ mWo r nB L (od O 0) := Int32.not_lt.mp g3
        have hb : ¬ g Bu k < nI 0 := fun z => (hso.mp z).elim g2 g3
        have hst : mSt r Mn Bu k = nI 0 := by unfold mSt; rw [cif_f g1, cif_t hb]
        have hsold : mSold r nB L k (g Fi k) := by
          unfold mSold
          rw [hf, nI_clamp (by omega)]
          exact ⟨nI_pos (by omega), g3⟩
        have hbu : g Bu k = nI (byN r (od O 0)) := by
          rw [hS.2.2.2.2.2.2.2.1 k hk, cif_t hsold, hf, nI_clamp (by omega), x4]
        have hpr : g Pr k = mPr r nB L k (nI (od O 0)) (g Se k) := by rw [hS.2.2.2.2.2.2.2.2 k hk, cif_t hsold, hf]
        have hend := fun v15 v16 => l_lot467 (st := nI 0) hH hS hA hk hO hst (Or.inl ⟨rfl, hpos, hbu⟩) v15 v16
        rw [hpr, hf] at hend
        rw [hf]
        have n00 : nI 0 = nI 0 := rfl
        by_cases g4 : 1 < O.length
        · have hse := hfi.2
          rw [if_pos g4] at hse
          obtain ⟨t1, t2, t3⟩ := ord_mem hO g4
          have a1' := al_1 A D F P (k := od O 1) (by omega) h1
          rw [(hR _ t1).2.1] at a1'
          obtain ⟨⟨y1, y2⟩, y3, y4⟩ := hM.2.2 _ t1
          obtain ⟨p, q, a, w1, w2, w3, w4, w5, w6, w7, w8⟩ := mWo_N hC t1 (SaI_left hC hS.2 _ (by omega) _ y3)
          have ha6 : a ≤ 1000000 := by rw [w6]; split <;> omega
          have v2 := (R_valid (hH.R D) (a := flN r nB a) (by omega)).2.2.1
          have hnn := mNx_N hC.2.1 (a := flN r nB a) (by omega)
          rw [hse] at hend ⊢
          rw [mPr_y (by omega) (by omega), w7, hnn] at hend
          rw [w7] at a1'
          have hnp : ¬ nI (od O 1) < nI 0 := nI_pos (by omega)
          by_cases g5 : nI (nxN r nB (flN r nB a)) ≤ mAs r nB k
          · have g5e : am_max (mAs r nB k) (nI (nxN r nB (flN r nB a))) = mAs r nB k := if_neg (Int32.not_lt.mpr g5)
            rw [g5e] at hend
            by_cases g6 : mAs r nB k ≤ mWo r nB L (od O 0)
            · have g6e : am_min (mAs r nB k) (mWo r nB L (od O 0)) = mAs r nB k := if_neg (Int32.not_lt.mpr g6)
              rw [g6e] at hend
              simp (maxSteps := 1000000) (disch := (first | omega | (simp (disch := omega) only [up_eq, up_ne, List.length_set] <;> omega) | fail)) only [↓bif_d, nI_addS, nI_mulS, nI_subS, nI_lt', nI_le', nI_eq', up_eq, up_ne, up_up, up_sw, List.set_set, g_seq, g_sne, Nat.reduceEqDiff, ↓reduceIte, List.length_set, Nat.add_sub_cancel_left, Nat.add_sub_cancel, Nat.reduceLT, Nat.reduceLeDiff, ite_true, ite_false, if_true, if_false, not_true_eq_false, not_false_eq_true, Bool.and_true, Bool.true_and, true_or, or_true, false_or, or_false, and_true, true_and, and_false, false_and, Nat.not_lt_zero, ↓(am_bi_of l3), ↓(ob_of a1), ↓(ob_of a1'), ↓(am_bi_of v2), hle, g1, g2, g3', ↓b397, hnp, g5, ↓b447, g6, hend]
            · have g6e : am_min (mAs r nB k) (mWo r nB L (od O 0)) = mWo r nB L (od O 0) := if_pos (Int32.not_le.mp g6)
              rw [g6e] at hend
              simp (maxSteps := 1000000) (disch := (first | omega | (simp (disch := omega) only [up_eq, up_ne, List.length_set] <;> omega) | fail)) only [↓bif_d, nI_addS, nI_mulS, nI_subS, nI_lt', nI_le', nI_eq', up_eq, up_ne, up_up, up_sw, List.set_set, g_seq, g_sne, Nat.reduceEqDiff, ↓reduceIte, List.length_set, Nat.add_sub_cancel_left, Nat.add_sub_cancel, Nat.reduceLT, Nat.reduceLeDiff, ite_true, ite_false, if_true, if_false, not_true_eq_false, not_false_eq_true, Bool.and_true, Bool.true_and, true_or, or_true, false_or, or_false, and_true, true_and, and_false, false_and, Nat.not_lt_zero, ↓(am_bi_of l3), ↓(ob_of a1), ↓(ob_of a1'), ↓(am_bi_of v2), hle, g1, g2, g3', ↓b397, hnp, g5, ↓b447, g6, hend]
          · have g5e : am_max (mAs r nB k) (nI (nxN r nB (flN r nB a))) = nI (nxN r nB (flN r nB a)) := if_pos (Int32.not_le.mp g5)
            rw [g5e] at hend
            by_cases g6 : nI (nxN r nB (flN r nB a)) ≤ mWo r nB L (od O 0)
            · have g6e : am_min (nI (nxN r nB (flN r nB a))) (mWo r nB L (od O 0)) = nI (nxN r nB (flN r nB a)) := if_neg (Int32.not_lt.mpr g6)
              rw [g6e] at hend
              simp (maxSteps := 1000000) (disch := (first | omega | (simp (disch := omega) only [up_eq, up_ne, List.length_set] <;> omega) | fail)) only [↓bif_d, nI_addS, nI_mulS, nI_subS, nI_lt', nI_le', nI_eq', up_eq, up_ne, up_up, up_sw, List.set_set, g_seq, g_sne, Nat.reduceEqDiff, ↓reduceIte, List.length_set, Nat.add_sub_cancel_left, Nat.add_sub_cancel, Nat.reduceLT, Nat.reduceLeDiff, ite_true, ite_false, if_true, if_false, not_true_eq_false, not_false_eq_true, Bool.and_true, Bool.true_and, true_or, or_true, false_or, or_false, and_true, true_and, and_false, false_and, Nat.not_lt_zero, ↓(am_bi_of l3), ↓(ob_of a1), ↓(ob_of a1'), ↓(am_bi_of v2), hle, g1, g2, g3', ↓b397, hnp, g5, ↓b447, g6, hend]
            · have g6e : am_min (nI (nxN r nB (flN r nB a))) (mWo r nB L (od O 0)) = mWo r nB L (od O 0) := if_pos (Int32.not_le.mp g6)
              rw [g6e] at hend
              simp (maxSteps := 1000000) (disch := (first | omega | (simp (disch := omega) only [up_eq, up_ne, List.length_set] <;> omega) | fail)) only [↓bif_d, nI_addS, nI_mulS, nI_subS, nI_lt', nI_le', nI_eq', up_eq, up_ne, up_up, up_sw, List.set_set, g_seq, g_sne, Nat.reduceEqDiff, ↓reduceIte, List.length_set, Nat.add_sub_cancel_left, Nat.add_sub_cancel, Nat.reduceLT, Nat.reduceLeDiff, ite_true, ite_false, if_true, if_false, not_true_eq_false, not_false_eq_true, Bool.and_true, Bool.true_and, true_or, or_true, false_or, or_false, and_true, true_and, and_false, false_and, Nat.not_lt_zero, ↓(am_bi_of l3), ↓(ob_of a1), ↓(ob_of a1'), ↓(am_bi_of v2), hle, g1, g2, g3', ↓b397, hnp, g5, ↓b447, g6, hend]
        · have hse := hfi.2
          rw [if_neg g4] at hse
          rw [hse] at hend ⊢
          rw [mPr_5 (by omega)] at hend
          by_cases g6 : mAs r nB k ≤ mWo r nB L (od O 0)
          · have g6e : am_min (mAs r nB k) (mWo r nB L (od O 0)) = mAs r nB k := if_neg (Int32.not_lt.mpr g6)
            rw [g6e] at hend
            simp (maxSteps := 1000000) (disch := (first | omega | (simp (disch := omega) only [up_eq, up_ne, List.length_set] <;> omega) | fail)) only [↓bif_d, nI_addS, nI_mulS, nI_subS, nI_lt', nI_le', nI_eq', up_eq, up_ne, up_up, up_sw, List.set_set, g_seq, g_sne, Nat.reduceEqDiff, ↓reduceIte, List.length_set, Nat.add_sub_cancel_left, Nat.add_sub_cancel, Nat.reduceLT, Nat.reduceLeDiff, ite_true, ite_false, if_true, if_false, not_true_eq_false, not_false_eq_true, Bool.and_true, Bool.true_and, true_or, or_true, false_or, or_false, and_true, true_and, and_false, false_and, Nat.not_lt_zero, ↓(am_bi_of l3), ↓(ob_of a1), hle, g1, g2, g3', ↓b397, hm5, ↓b447, g6, hend]
          · have g6e : am_min (mAs r nB k) (mWo r nB L (od O 0)) = mWo r nB L (od O 0) := if_pos (Int32.not_le.mp g6)
            rw [g6e] at hend
            simp (maxSteps := 1000000) (disch := (first | omega | (simp (disch := omega) only [up_eq, up_ne, List.length_set] <;> omega) | fail)) only [↓bif_d, nI_addS, nI_mulS, nI_subS, nI_lt', nI_le', nI_eq', up_eq, up_ne, up_up, up_sw, List.set_set, g_seq, g_sne, Nat.reduceEqDiff, ↓reduceIte, List.length_set, Nat.add_sub_cancel_left, Nat.add_sub_cancel, Nat.reduceLT, Nat.reduceLeDiff, ite_true, ite_false, if_true, if_false, not_true_eq_false, not_false_eq_true, Bool.and_true, Bool.true_and, true_or, or_true, false_or, or_false, and_true, true_and, and_false, false_and, Nat.not_lt_zero, ↓(am_bi_of l3), ↓(ob_of a1), hle, g1, g2, g3', ↓b397, hm5, ↓b447, g6, hend]
end A
